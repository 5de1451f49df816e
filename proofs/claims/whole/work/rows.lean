section
-- ===== PART A: goes FIRST, ahead of the names: the tables' words, and 'selects' of the private methods out of them =====
/-- a private method of a class that the tables say can be made, by its rows of tables_1 -/
def lw_okq (q : MethodName × Nat) : Prop := (q.1.cls ≠ "java/lang/invoke/MethodHandle" ∧ q.1.cls ≠ "java/lang/invoke/VarHandle") ∧ Cond.instantiable q.1.cls q.2 ∈ tables_1 ∧ Cond.privateMethod q.1 ∈ tables_1 ∧ Cond.instanceMethod q.1 ∈ tables_1
theorem lw_p0 : lw_okq (⟨"BankTimes", "dueRefreshes", "()I"⟩, 14) := ⟨⟨by decide +kernel, by decide +kernel⟩, List.mem_of_getElem? (i := 17) (by decide +kernel), List.mem_of_getElem? (i := 231) (by decide +kernel), List.mem_of_getElem? (i := 232) (by decide +kernel)⟩
theorem lw_p1 : lw_okq (⟨"java/lang/Throwable", "fillInStackTrace", "(I)Ljava/lang/Throwable;"⟩, 6) := ⟨⟨by decide +kernel, by decide +kernel⟩, List.mem_of_getElem? (i := 287) (by decide +kernel), List.mem_of_getElem? (i := 285) (by decide +kernel), List.mem_of_getElem? (i := 286) (by decide +kernel)⟩
theorem lw_p2 : lw_okq (⟨"BankTimes", "anyRowOpen", "()Z"⟩, 14) := ⟨⟨by decide +kernel, by decide +kernel⟩, List.mem_of_getElem? (i := 17) (by decide +kernel), List.mem_of_getElem? (i := 333) (by decide +kernel), List.mem_of_getElem? (i := 334) (by decide +kernel)⟩
theorem lw_p3 : lw_okq (⟨"BankTimes", "channelOf", "(I)I"⟩, 14) := ⟨⟨by decide +kernel, by decide +kernel⟩, List.mem_of_getElem? (i := 17) (by decide +kernel), List.mem_of_getElem? (i := 378) (by decide +kernel), List.mem_of_getElem? (i := 379) (by decide +kernel)⟩
theorem lw_p4 : lw_okq (⟨"BankTimes", "bankOf", "(I)I"⟩, 14) := ⟨⟨by decide +kernel, by decide +kernel⟩, List.mem_of_getElem? (i := 17) (by decide +kernel), List.mem_of_getElem? (i := 402) (by decide +kernel), List.mem_of_getElem? (i := 403) (by decide +kernel)⟩
theorem lw_p5 : lw_okq (⟨"BankTimes", "rowOf", "(I)I"⟩, 14) := ⟨⟨by decide +kernel, by decide +kernel⟩, List.mem_of_getElem? (i := 17) (by decide +kernel), List.mem_of_getElem? (i := 406) (by decide +kernel), List.mem_of_getElem? (i := 407) (by decide +kernel)⟩
theorem lw_p6 : lw_okq (⟨"BankTimes", "step", "()V"⟩, 14) := ⟨⟨by decide +kernel, by decide +kernel⟩, List.mem_of_getElem? (i := 17) (by decide +kernel), List.mem_of_getElem? (i := 422) (by decide +kernel), List.mem_of_getElem? (i := 423) (by decide +kernel)⟩
theorem lw_p7 : lw_okq (⟨"BankTimes", "refresh", "(I)V"⟩, 14) := ⟨⟨by decide +kernel, by decide +kernel⟩, List.mem_of_getElem? (i := 17) (by decide +kernel), List.mem_of_getElem? (i := 426) (by decide +kernel), List.mem_of_getElem? (i := 427) (by decide +kernel)⟩
theorem lw_p8 : lw_okq (⟨"BankTimes$Rules", "startOf", "(III)I"⟩, 11) := ⟨⟨by decide +kernel, by decide +kernel⟩, List.mem_of_getElem? (i := 46) (by decide +kernel), List.mem_of_getElem? (i := 438) (by decide +kernel), List.mem_of_getElem? (i := 439) (by decide +kernel)⟩
theorem lw_p9 : lw_okq (⟨"BankTimes", "give", "(IIII)V"⟩, 14) := ⟨⟨by decide +kernel, by decide +kernel⟩, List.mem_of_getElem? (i := 17) (by decide +kernel), List.mem_of_getElem? (i := 442) (by decide +kernel), List.mem_of_getElem? (i := 443) (by decide +kernel)⟩
theorem lw_p10 : lw_okq (⟨"BankTimes$Log", "placeOf", "(I)I"⟩, 5) := ⟨⟨by decide +kernel, by decide +kernel⟩, List.mem_of_getElem? (i := 154) (by decide +kernel), List.mem_of_getElem? (i := 454) (by decide +kernel), List.mem_of_getElem? (i := 455) (by decide +kernel)⟩
theorem lw_p11 : lw_okq (⟨"BankTimes$Channel", "isReady", "(II)Z"⟩, 5) := ⟨⟨by decide +kernel, by decide +kernel⟩, List.mem_of_getElem? (i := 40) (by decide +kernel), List.mem_of_getElem? (i := 463) (by decide +kernel), List.mem_of_getElem? (i := 464) (by decide +kernel)⟩
theorem lw_p12 : lw_okq (⟨"BankTimes$Channel", "chosenByRows", "(II)I"⟩, 5) := ⟨⟨by decide +kernel, by decide +kernel⟩, List.mem_of_getElem? (i := 40) (by decide +kernel), List.mem_of_getElem? (i := 472) (by decide +kernel), List.mem_of_getElem? (i := 473) (by decide +kernel)⟩
theorem lw_p13 : lw_okq (⟨"BankTimes$Channel", "isAmong", "(II)Z"⟩, 5) := ⟨⟨by decide +kernel, by decide +kernel⟩, List.mem_of_getElem? (i := 40) (by decide +kernel), List.mem_of_getElem? (i := 476) (by decide +kernel), List.mem_of_getElem? (i := 477) (by decide +kernel)⟩
theorem lw_p14 : lw_okq (⟨"BankTimes$Channel", "openRowIsWanted", "(II)Z"⟩, 5) := ⟨⟨by decide +kernel, by decide +kernel⟩, List.mem_of_getElem? (i := 40) (by decide +kernel), List.mem_of_getElem? (i := 480) (by decide +kernel), List.mem_of_getElem? (i := 481) (by decide +kernel)⟩
theorem lw_p15 : lw_okq (⟨"BankTimes$Channel", "chosenByTurns", "(I)I"⟩, 5) := ⟨⟨by decide +kernel, by decide +kernel⟩, List.mem_of_getElem? (i := 40) (by decide +kernel), List.mem_of_getElem? (i := 484) (by decide +kernel), List.mem_of_getElem? (i := 485) (by decide +kernel)⟩
def lw_privs_1 : List (MethodName × Nat) := [(⟨"BankTimes", "dueRefreshes", "()I"⟩, 14), (⟨"java/lang/Throwable", "fillInStackTrace", "(I)Ljava/lang/Throwable;"⟩, 6), (⟨"BankTimes", "anyRowOpen", "()Z"⟩, 14), (⟨"BankTimes", "channelOf", "(I)I"⟩, 14), (⟨"BankTimes", "bankOf", "(I)I"⟩, 14), (⟨"BankTimes", "rowOf", "(I)I"⟩, 14), (⟨"BankTimes", "step", "()V"⟩, 14), (⟨"BankTimes", "refresh", "(I)V"⟩, 14), (⟨"BankTimes$Rules", "startOf", "(III)I"⟩, 11), (⟨"BankTimes", "give", "(IIII)V"⟩, 14), (⟨"BankTimes$Log", "placeOf", "(I)I"⟩, 5), (⟨"BankTimes$Channel", "isReady", "(II)Z"⟩, 5), (⟨"BankTimes$Channel", "chosenByRows", "(II)I"⟩, 5), (⟨"BankTimes$Channel", "isAmong", "(II)Z"⟩, 5), (⟨"BankTimes$Channel", "openRowIsWanted", "(II)Z"⟩, 5), (⟨"BankTimes$Channel", "chosenByTurns", "(I)I"⟩, 5)]
theorem lw_r1 : ∀ q ∈ lw_privs_1, lw_okq q := List.forall_mem_cons.mpr ⟨lw_p0, List.forall_mem_cons.mpr ⟨lw_p1, List.forall_mem_cons.mpr ⟨lw_p2, List.forall_mem_cons.mpr ⟨lw_p3, List.forall_mem_cons.mpr ⟨lw_p4, List.forall_mem_cons.mpr ⟨lw_p5, List.forall_mem_cons.mpr ⟨lw_p6, List.forall_mem_cons.mpr ⟨lw_p7, List.forall_mem_cons.mpr ⟨lw_p8, List.forall_mem_cons.mpr ⟨lw_p9, List.forall_mem_cons.mpr ⟨lw_p10, List.forall_mem_cons.mpr ⟨lw_p11, List.forall_mem_cons.mpr ⟨lw_p12, List.forall_mem_cons.mpr ⟨lw_p13, List.forall_mem_cons.mpr ⟨lw_p14, List.forall_mem_cons.mpr ⟨lw_p15, fun _ h => absurd h List.not_mem_nil⟩⟩⟩⟩⟩⟩⟩⟩⟩⟩⟩⟩⟩⟩⟩⟩
theorem lw_p16 : lw_okq (⟨"BankTimes", "serve", "(II)V"⟩, 14) := ⟨⟨by decide +kernel, by decide +kernel⟩, List.mem_of_getElem? (i := 17) (by decide +kernel), List.mem_of_getElem? (i := 492) (by decide +kernel), List.mem_of_getElem? (i := 493) (by decide +kernel)⟩
theorem lw_p17 : lw_okq (⟨"BankTimes$Rules", "fitsBank", "(III)Z"⟩, 11) := ⟨⟨by decide +kernel, by decide +kernel⟩, List.mem_of_getElem? (i := 46) (by decide +kernel), List.mem_of_getElem? (i := 552) (by decide +kernel), List.mem_of_getElem? (i := 553) (by decide +kernel)⟩
theorem lw_p18 : lw_okq (⟨"BankTimesModel", "clear", "(I)V"⟩, 34) := ⟨⟨by decide +kernel, by decide +kernel⟩, List.mem_of_getElem? (i := 557) (by decide +kernel), List.mem_of_getElem? (i := 563) (by decide +kernel), List.mem_of_getElem? (i := 564) (by decide +kernel)⟩
theorem lw_p19 : lw_okq (⟨"BankTimesModel", "isAddress", "(I)Z"⟩, 34) := ⟨⟨by decide +kernel, by decide +kernel⟩, List.mem_of_getElem? (i := 557) (by decide +kernel), List.mem_of_getElem? (i := 679) (by decide +kernel), List.mem_of_getElem? (i := 680) (by decide +kernel)⟩
theorem lw_p20 : lw_okq (⟨"BankTimesModel", "fail", "(I)I"⟩, 34) := ⟨⟨by decide +kernel, by decide +kernel⟩, List.mem_of_getElem? (i := 557) (by decide +kernel), List.mem_of_getElem? (i := 687) (by decide +kernel), List.mem_of_getElem? (i := 688) (by decide +kernel)⟩
theorem lw_p21 : lw_okq (⟨"BankTimesModel", "channelOf", "(I)I"⟩, 34) := ⟨⟨by decide +kernel, by decide +kernel⟩, List.mem_of_getElem? (i := 557) (by decide +kernel), List.mem_of_getElem? (i := 691) (by decide +kernel), List.mem_of_getElem? (i := 692) (by decide +kernel)⟩
theorem lw_p22 : lw_okq (⟨"BankTimesModel", "bankOf", "(I)I"⟩, 34) := ⟨⟨by decide +kernel, by decide +kernel⟩, List.mem_of_getElem? (i := 557) (by decide +kernel), List.mem_of_getElem? (i := 695) (by decide +kernel), List.mem_of_getElem? (i := 696) (by decide +kernel)⟩
theorem lw_p23 : lw_okq (⟨"BankTimesModel", "rowOf", "(I)I"⟩, 34) := ⟨⟨by decide +kernel, by decide +kernel⟩, List.mem_of_getElem? (i := 557) (by decide +kernel), List.mem_of_getElem? (i := 699) (by decide +kernel), List.mem_of_getElem? (i := 700) (by decide +kernel)⟩
theorem lw_p24 : lw_okq (⟨"BankTimesModel", "waiting", "(I)I"⟩, 34) := ⟨⟨by decide +kernel, by decide +kernel⟩, List.mem_of_getElem? (i := 557) (by decide +kernel), List.mem_of_getElem? (i := 707) (by decide +kernel), List.mem_of_getElem? (i := 708) (by decide +kernel)⟩
theorem lw_p25 : lw_okq (⟨"BankTimesModel", "anyOpen", "(I)Z"⟩, 34) := ⟨⟨by decide +kernel, by decide +kernel⟩, List.mem_of_getElem? (i := 557) (by decide +kernel), List.mem_of_getElem? (i := 711) (by decide +kernel), List.mem_of_getElem? (i := 712) (by decide +kernel)⟩
theorem lw_p26 : lw_okq (⟨"BankTimesModel", "refresh", "(I)V"⟩, 34) := ⟨⟨by decide +kernel, by decide +kernel⟩, List.mem_of_getElem? (i := 557) (by decide +kernel), List.mem_of_getElem? (i := 727) (by decide +kernel), List.mem_of_getElem? (i := 728) (by decide +kernel)⟩
theorem lw_p27 : lw_okq (⟨"BankTimesModel", "broken", "(IIII)I"⟩, 34) := ⟨⟨by decide +kernel, by decide +kernel⟩, List.mem_of_getElem? (i := 557) (by decide +kernel), List.mem_of_getElem? (i := 731) (by decide +kernel), List.mem_of_getElem? (i := 732) (by decide +kernel)⟩
theorem lw_p28 : lw_okq (⟨"BankTimesModel", "since", "(IIII)I"⟩, 34) := ⟨⟨by decide +kernel, by decide +kernel⟩, List.mem_of_getElem? (i := 557) (by decide +kernel), List.mem_of_getElem? (i := 735) (by decide +kernel), List.mem_of_getElem? (i := 736) (by decide +kernel)⟩
theorem lw_p29 : lw_okq (⟨"BankTimesModel", "give", "(IIII)V"⟩, 34) := ⟨⟨by decide +kernel, by decide +kernel⟩, List.mem_of_getElem? (i := 557) (by decide +kernel), List.mem_of_getElem? (i := 739) (by decide +kernel), List.mem_of_getElem? (i := 740) (by decide +kernel)⟩
theorem lw_p30 : lw_okq (⟨"BankTimesModel", "note", "(IIIII)V"⟩, 34) := ⟨⟨by decide +kernel, by decide +kernel⟩, List.mem_of_getElem? (i := 557) (by decide +kernel), List.mem_of_getElem? (i := 743) (by decide +kernel), List.mem_of_getElem? (i := 744) (by decide +kernel)⟩
theorem lw_p31 : lw_okq (⟨"BankTimesModel", "serve", "(I)V"⟩, 34) := ⟨⟨by decide +kernel, by decide +kernel⟩, List.mem_of_getElem? (i := 557) (by decide +kernel), List.mem_of_getElem? (i := 747) (by decide +kernel), List.mem_of_getElem? (i := 748) (by decide +kernel)⟩
def lw_privs_2 : List (MethodName × Nat) := [(⟨"BankTimes", "serve", "(II)V"⟩, 14), (⟨"BankTimes$Rules", "fitsBank", "(III)Z"⟩, 11), (⟨"BankTimesModel", "clear", "(I)V"⟩, 34), (⟨"BankTimesModel", "isAddress", "(I)Z"⟩, 34), (⟨"BankTimesModel", "fail", "(I)I"⟩, 34), (⟨"BankTimesModel", "channelOf", "(I)I"⟩, 34), (⟨"BankTimesModel", "bankOf", "(I)I"⟩, 34), (⟨"BankTimesModel", "rowOf", "(I)I"⟩, 34), (⟨"BankTimesModel", "waiting", "(I)I"⟩, 34), (⟨"BankTimesModel", "anyOpen", "(I)Z"⟩, 34), (⟨"BankTimesModel", "refresh", "(I)V"⟩, 34), (⟨"BankTimesModel", "broken", "(IIII)I"⟩, 34), (⟨"BankTimesModel", "since", "(IIII)I"⟩, 34), (⟨"BankTimesModel", "give", "(IIII)V"⟩, 34), (⟨"BankTimesModel", "note", "(IIIII)V"⟩, 34), (⟨"BankTimesModel", "serve", "(I)V"⟩, 34)]
theorem lw_r2 : ∀ q ∈ lw_privs_2, lw_okq q := List.forall_mem_cons.mpr ⟨lw_p16, List.forall_mem_cons.mpr ⟨lw_p17, List.forall_mem_cons.mpr ⟨lw_p18, List.forall_mem_cons.mpr ⟨lw_p19, List.forall_mem_cons.mpr ⟨lw_p20, List.forall_mem_cons.mpr ⟨lw_p21, List.forall_mem_cons.mpr ⟨lw_p22, List.forall_mem_cons.mpr ⟨lw_p23, List.forall_mem_cons.mpr ⟨lw_p24, List.forall_mem_cons.mpr ⟨lw_p25, List.forall_mem_cons.mpr ⟨lw_p26, List.forall_mem_cons.mpr ⟨lw_p27, List.forall_mem_cons.mpr ⟨lw_p28, List.forall_mem_cons.mpr ⟨lw_p29, List.forall_mem_cons.mpr ⟨lw_p30, List.forall_mem_cons.mpr ⟨lw_p31, fun _ h => absurd h List.not_mem_nil⟩⟩⟩⟩⟩⟩⟩⟩⟩⟩⟩⟩⟩⟩⟩⟩
theorem lw_p32 : lw_okq (⟨"BankTimesModel", "named", "(I)I"⟩, 34) := ⟨⟨by decide +kernel, by decide +kernel⟩, List.mem_of_getElem? (i := 557) (by decide +kernel), List.mem_of_getElem? (i := 751) (by decide +kernel), List.mem_of_getElem? (i := 752) (by decide +kernel)⟩
theorem lw_p33 : lw_okq (⟨"BankTimesModel", "byRows", "(II)I"⟩, 34) := ⟨⟨by decide +kernel, by decide +kernel⟩, List.mem_of_getElem? (i := 557) (by decide +kernel), List.mem_of_getElem? (i := 755) (by decide +kernel), List.mem_of_getElem? (i := 756) (by decide +kernel)⟩
theorem lw_p34 : lw_okq (⟨"BankTimesModel", "isAmong", "(III)Z"⟩, 34) := ⟨⟨by decide +kernel, by decide +kernel⟩, List.mem_of_getElem? (i := 557) (by decide +kernel), List.mem_of_getElem? (i := 759) (by decide +kernel), List.mem_of_getElem? (i := 760) (by decide +kernel)⟩
theorem lw_p35 : lw_okq (⟨"BankTimesModel", "isOf", "(II)Z"⟩, 34) := ⟨⟨by decide +kernel, by decide +kernel⟩, List.mem_of_getElem? (i := 557) (by decide +kernel), List.mem_of_getElem? (i := 763) (by decide +kernel), List.mem_of_getElem? (i := 764) (by decide +kernel)⟩
theorem lw_p36 : lw_okq (⟨"BankTimesModel", "nextOf", "(I)I"⟩, 34) := ⟨⟨by decide +kernel, by decide +kernel⟩, List.mem_of_getElem? (i := 557) (by decide +kernel), List.mem_of_getElem? (i := 767) (by decide +kernel), List.mem_of_getElem? (i := 768) (by decide +kernel)⟩
theorem lw_p37 : lw_okq (⟨"BankTimesModel", "isReady", "(I)Z"⟩, 34) := ⟨⟨by decide +kernel, by decide +kernel⟩, List.mem_of_getElem? (i := 557) (by decide +kernel), List.mem_of_getElem? (i := 771) (by decide +kernel), List.mem_of_getElem? (i := 772) (by decide +kernel)⟩
theorem lw_p38 : lw_okq (⟨"BankTimesModel", "isWanted", "(III)Z"⟩, 34) := ⟨⟨by decide +kernel, by decide +kernel⟩, List.mem_of_getElem? (i := 557) (by decide +kernel), List.mem_of_getElem? (i := 775) (by decide +kernel), List.mem_of_getElem? (i := 776) (by decide +kernel)⟩
theorem lw_p39 : lw_okq (⟨"BankTimesModel", "byReads", "(I)I"⟩, 34) := ⟨⟨by decide +kernel, by decide +kernel⟩, List.mem_of_getElem? (i := 557) (by decide +kernel), List.mem_of_getElem? (i := 779) (by decide +kernel), List.mem_of_getElem? (i := 780) (by decide +kernel)⟩
theorem lw_p40 : lw_okq (⟨"BankTimesModel", "byTurns", "(I)I"⟩, 34) := ⟨⟨by decide +kernel, by decide +kernel⟩, List.mem_of_getElem? (i := 557) (by decide +kernel), List.mem_of_getElem? (i := 783) (by decide +kernel), List.mem_of_getElem? (i := 784) (by decide +kernel)⟩
theorem lw_p41 : lw_okq (⟨"BankTimesModel", "fits", "(IIII)Z"⟩, 34) := ⟨⟨by decide +kernel, by decide +kernel⟩, List.mem_of_getElem? (i := 557) (by decide +kernel), List.mem_of_getElem? (i := 808) (by decide +kernel), List.mem_of_getElem? (i := 809) (by decide +kernel)⟩
def lw_privs_3 : List (MethodName × Nat) := [(⟨"BankTimesModel", "named", "(I)I"⟩, 34), (⟨"BankTimesModel", "byRows", "(II)I"⟩, 34), (⟨"BankTimesModel", "isAmong", "(III)Z"⟩, 34), (⟨"BankTimesModel", "isOf", "(II)Z"⟩, 34), (⟨"BankTimesModel", "nextOf", "(I)I"⟩, 34), (⟨"BankTimesModel", "isReady", "(I)Z"⟩, 34), (⟨"BankTimesModel", "isWanted", "(III)Z"⟩, 34), (⟨"BankTimesModel", "byReads", "(I)I"⟩, 34), (⟨"BankTimesModel", "byTurns", "(I)I"⟩, 34), (⟨"BankTimesModel", "fits", "(IIII)Z"⟩, 34)]
theorem lw_r3 : ∀ q ∈ lw_privs_3, lw_okq q := List.forall_mem_cons.mpr ⟨lw_p32, List.forall_mem_cons.mpr ⟨lw_p33, List.forall_mem_cons.mpr ⟨lw_p34, List.forall_mem_cons.mpr ⟨lw_p35, List.forall_mem_cons.mpr ⟨lw_p36, List.forall_mem_cons.mpr ⟨lw_p37, List.forall_mem_cons.mpr ⟨lw_p38, List.forall_mem_cons.mpr ⟨lw_p39, List.forall_mem_cons.mpr ⟨lw_p40, List.forall_mem_cons.mpr ⟨lw_p41, fun _ h => absurd h List.not_mem_nil⟩⟩⟩⟩⟩⟩⟩⟩⟩⟩
def lw_privs : List (MethodName × Nat) := lw_privs_1 ++ (lw_privs_2 ++ (lw_privs_3))
def lw_tbl : List Cond := k2_sels lw_privs ++ tables_1
theorem lw_privs_ok : ∀ q ∈ lw_privs, lw_okq q := by
  show ∀ q ∈ lw_privs_1 ++ (lw_privs_2 ++ (lw_privs_3)), lw_okq q
  exact List.forall_mem_append.mpr ⟨lw_r1, List.forall_mem_append.mpr ⟨lw_r2, lw_r3⟩⟩
end
section
def F_C : u_T := fun k => match k with
  | 0 => ("BankTimes$Channel", "rules", "LBankTimes$Rules;", true)
  | 1 => ("BankTimes$Channel", "queue", "LBankTimes$Queue;", true)
  | 2 => ("BankTimes$Channel", "bankCount", "I", true)
  | 3 => ("BankTimes$Channel", "refreshDue", "Z", false)
  | _ => ("BankTimes$Channel", "lastBank", "I", false)
def ty_C : Nat → FieldType := fun k => match k with
  | 0 => .object "BankTimes$Rules"
  | 1 => .object "BankTimes$Queue"
  | 2 => .int
  | 3 => .boolean
  | _ => .int
theorem nm_C : ∀ a, a < 5 → ∀ b, b < 5 → a ≠ b → (F_C a).2.1 ≠ (F_C b).2.1 := by decide +kernel
theorem tyok_C : ∀ k, k < 5 → parseFieldDescriptor (F_C k).2.2.1 = some (ty_C k) := by decide +kernel
def F_G : u_T := fun k => match k with
  | 0 => ("BankTimes$Log", "parts", "[I", true)
  | 1 => ("BankTimes$Log", "ofKind", "[I", true)
  | 2 => ("BankTimes$Log", "oldest", "I", false)
  | 3 => ("BankTimes$Log", "kept", "I", false)
  | _ => ("BankTimes$Log", "total", "I", false)
def ty_G : Nat → FieldType := fun k => match k with
  | 0 => .array .int
  | 1 => .array .int
  | 2 => .int
  | 3 => .int
  | _ => .int
theorem nm_G : ∀ a, a < 5 → ∀ b, b < 5 → a ≠ b → (F_G a).2.1 ≠ (F_G b).2.1 := by decide +kernel
theorem tyok_G : ∀ k, k < 5 → parseFieldDescriptor (F_G k).2.2.1 = some (ty_G k) := by decide +kernel
def F_Q : u_T := fun k => match k with
  | 0 => ("BankTimes$Queue", "numbers", "[I", true)
  | 1 => ("BankTimes$Queue", "came", "[I", true)
  | 2 => ("BankTimes$Queue", "banks", "[I", true)
  | 3 => ("BankTimes$Queue", "rows", "[I", true)
  | 4 => ("BankTimes$Queue", "writes", "[Z", true)
  | 5 => ("BankTimes$Queue", "size", "I", false)
  | _ => ("BankTimes$Queue", "writeCount", "I", false)
def ty_Q : Nat → FieldType := fun k => match k with
  | 0 => .array .int
  | 1 => .array .int
  | 2 => .array .int
  | 3 => .array .int
  | 4 => .array .boolean
  | 5 => .int
  | _ => .int
theorem nm_Q : ∀ a, a < 7 → ∀ b, b < 7 → a ≠ b → (F_Q a).2.1 ≠ (F_Q b).2.1 := by decide +kernel
theorem tyok_Q : ∀ k, k < 7 → parseFieldDescriptor (F_Q k).2.2.1 = some (ty_Q k) := by decide +kernel
def F_R : u_T := fun k => match k with
  | 0 => ("BankTimes$Rules", "times", "[I", true)
  | 1 => ("BankTimes$Rules", "openRows", "[I", true)
  | 2 => ("BankTimes$Rules", "activated", "[I", true)
  | 3 => ("BankTimes$Rules", "read", "[I", true)
  | 4 => ("BankTimes$Rules", "written", "[I", true)
  | 5 => ("BankTimes$Rules", "closed", "[I", true)
  | 6 => ("BankTimes$Rules", "activates", "[I", true)
  | 7 => ("BankTimes$Rules", "lastColumn", "I", false)
  | 8 => ("BankTimes$Rules", "lastWrite", "I", false)
  | 9 => ("BankTimes$Rules", "lastRefresh", "I", false)
  | _ => ("BankTimes$Rules", "lastCycle", "I", false)
def ty_R : Nat → FieldType := fun k => match k with
  | 0 => .array .int
  | 1 => .array .int
  | 2 => .array .int
  | 3 => .array .int
  | 4 => .array .int
  | 5 => .array .int
  | 6 => .array .int
  | 7 => .int
  | 8 => .int
  | 9 => .int
  | _ => .int
theorem nm_R : ∀ a, a < 11 → ∀ b, b < 11 → a ≠ b → (F_R a).2.1 ≠ (F_R b).2.1 := by decide +kernel
theorem tyok_R : ∀ k, k < 11 → parseFieldDescriptor (F_R k).2.2.1 = some (ty_R k) := by decide +kernel
def F_B : u_T := fun k => match k with
  | 0 => ("BankTimes", "channelBits", "I", true)
  | 1 => ("BankTimes", "bankBits", "I", true)
  | 2 => ("BankTimes", "bankCount", "I", true)
  | 3 => ("BankTimes", "scheduler", "I", true)
  | 4 => ("BankTimes", "times", "[I", true)
  | 5 => ("BankTimes", "channels", "[LBankTimes$Channel;", true)
  | 6 => ("BankTimes", "checkers", "[LBankTimes$Rules;", true)
  | 7 => ("BankTimes", "log", "LBankTimes$Log;", true)
  | 8 => ("BankTimes", "doneCycles", "[I", true)
  | 9 => ("BankTimes", "spanCycles", "I", false)
  | 10 => ("BankTimes", "cycle", "I", false)
  | 11 => ("BankTimes", "askCount", "I", false)
  | 12 => ("BankTimes", "doneCount", "I", false)
  | _ => ("BankTimes", "waitedCycles", "I", false)
def ty_B : Nat → FieldType := fun k => match k with
  | 0 => .int
  | 1 => .int
  | 2 => .int
  | 3 => .int
  | 4 => .array .int
  | 5 => .array (.object "BankTimes$Channel")
  | 6 => .array (.object "BankTimes$Rules")
  | 7 => .object "BankTimes$Log"
  | 8 => .array .int
  | 9 => .int
  | 10 => .int
  | 11 => .int
  | 12 => .int
  | _ => .int
theorem nm_B : ∀ a, a < 14 → ∀ b, b < 14 → a ≠ b → (F_B a).2.1 ≠ (F_B b).2.1 := by decide +kernel
theorem tyok_B : ∀ k, k < 14 → parseFieldDescriptor (F_B k).2.2.1 = some (ty_B k) := by decide +kernel
def F_D : u_T := fun k => match k with
  | 0 => ("BankTimesModel", "thrown", "I", false)
  | 1 => ("BankTimesModel", "channels", "I", true)
  | 2 => ("BankTimesModel", "banks", "I", true)
  | 3 => ("BankTimesModel", "bankBits", "I", true)
  | 4 => ("BankTimesModel", "scheduler", "I", true)
  | 5 => ("BankTimesModel", "cycle", "I", false)
  | 6 => ("BankTimesModel", "span", "I", false)
  | 7 => ("BankTimesModel", "times", "[I", true)
  | 8 => ("BankTimesModel", "open", "[I", true)
  | 9 => ("BankTimesModel", "opened", "[I", true)
  | 10 => ("BankTimesModel", "closed", "[I", true)
  | 11 => ("BankTimesModel", "read", "[I", true)
  | 12 => ("BankTimesModel", "written", "[I", true)
  | 13 => ("BankTimesModel", "anyWrite", "[I", true)
  | 14 => ("BankTimesModel", "anyUse", "[I", true)
  | 15 => ("BankTimesModel", "refreshed", "[I", true)
  | 16 => ("BankTimesModel", "activates", "[I", true)
  | 17 => ("BankTimesModel", "lastCheck", "[I", true)
  | 18 => ("BankTimesModel", "due", "[Z", true)
  | 19 => ("BankTimesModel", "lastBank", "[I", true)
  | 20 => ("BankTimesModel", "asks", "I", false)
  | 21 => ("BankTimesModel", "doneAsks", "I", false)
  | 22 => ("BankTimesModel", "waited", "I", false)
  | 23 => ("BankTimesModel", "address", "[I", true)
  | 24 => ("BankTimesModel", "isWrite", "[Z", true)
  | 25 => ("BankTimesModel", "came", "[I", true)
  | 26 => ("BankTimesModel", "done", "[I", true)
  | 27 => ("BankTimesModel", "commands", "I", false)
  | 28 => ("BankTimesModel", "kinds", "[I", true)
  | 29 => ("BankTimesModel", "logChannel", "[I", true)
  | 30 => ("BankTimesModel", "logCycle", "[I", true)
  | 31 => ("BankTimesModel", "logKind", "[I", true)
  | 32 => ("BankTimesModel", "logBank", "[I", true)
  | _ => ("BankTimesModel", "logRow", "[I", true)
def ty_D : Nat → FieldType := fun k => match k with
  | 0 => .int
  | 1 => .int
  | 2 => .int
  | 3 => .int
  | 4 => .int
  | 5 => .int
  | 6 => .int
  | 7 => .array .int
  | 8 => .array .int
  | 9 => .array .int
  | 10 => .array .int
  | 11 => .array .int
  | 12 => .array .int
  | 13 => .array .int
  | 14 => .array .int
  | 15 => .array .int
  | 16 => .array .int
  | 17 => .array .int
  | 18 => .array .boolean
  | 19 => .array .int
  | 20 => .int
  | 21 => .int
  | 22 => .int
  | 23 => .array .int
  | 24 => .array .boolean
  | 25 => .array .int
  | 26 => .array .int
  | 27 => .int
  | 28 => .array .int
  | 29 => .array .int
  | 30 => .array .int
  | 31 => .array .int
  | 32 => .array .int
  | _ => .array .int
theorem nm_D : ∀ a, a < 34 → ∀ b, b < 34 → a ≠ b → (F_D a).2.1 ≠ (F_D b).2.1 := by decide +kernel
theorem tyok_D : ∀ k, k < 34 → parseFieldDescriptor (F_D k).2.2.1 = some (ty_D k) := by decide +kernel
abbrev cls6 : List vw_C := [("BankTimes$Channel", F_C, 5), ("BankTimes$Log", F_G, 5), ("BankTimes$Queue", F_Q, 7), ("BankTimes$Rules", F_R, 11), ("BankTimes", F_B, 14), ("BankTimesModel", F_D, 34)]
abbrev k_B_init : ByteArray := prog_1_method_1_code
def y_B_init : MethodName := ⟨"BankTimes", "<init>", "(III)V"⟩
abbrev k_B_time : ByteArray := prog_1_method_2_code
def y_B_time : MethodName := ⟨"BankTimes", "time", "(II)I"⟩
abbrev k_B_span : ByteArray := prog_1_method_3_code
def y_B_span : MethodName := ⟨"BankTimes", "span", "(I)I"⟩
abbrev k_B_ask : ByteArray := prog_1_method_4_code
def y_B_ask : MethodName := ⟨"BankTimes", "ask", "(IZ)I"⟩
abbrev k_B_run : ByteArray := prog_1_method_5_code
def y_B_run : MethodName := ⟨"BankTimes", "run", "(I)I"⟩
abbrev k_B_done : ByteArray := prog_1_method_6_code
def y_B_done : MethodName := ⟨"BankTimes", "done", "(I)I"⟩
abbrev k_B_command : ByteArray := prog_1_method_7_code
def y_B_command : MethodName := ⟨"BankTimes", "command", "(II)I"⟩
abbrev k_B_open : ByteArray := prog_1_method_8_code
def y_B_open : MethodName := ⟨"BankTimes", "open", "(II)I"⟩
abbrev k_B_part : ByteArray := prog_1_method_9_code
def y_B_part : MethodName := ⟨"BankTimes", "part", "(II)I"⟩
abbrev k_B_begin : ByteArray := prog_1_method_10_code
def y_B_begin : MethodName := ⟨"BankTimes", "begin", "()V"⟩
abbrev k_B_check : ByteArray := prog_1_method_11_code
def y_B_check : MethodName := ⟨"BankTimes", "check", "(IIIII)I"⟩
abbrev k_B_count : ByteArray := prog_1_method_12_code
def y_B_count : MethodName := ⟨"BankTimes", "count", "(I)I"⟩
abbrev k_B_isAddress : ByteArray := prog_1_method_13_code
def y_B_isAddress : MethodName := ⟨"BankTimes", "isAddress", "(I)Z"⟩
abbrev k_B_channelOf : ByteArray := prog_1_method_14_code
def y_B_channelOf : MethodName := ⟨"BankTimes", "channelOf", "(I)I"⟩
abbrev k_B_bankOf : ByteArray := prog_1_method_15_code
def y_B_bankOf : MethodName := ⟨"BankTimes", "bankOf", "(I)I"⟩
abbrev k_B_rowOf : ByteArray := prog_1_method_16_code
def y_B_rowOf : MethodName := ⟨"BankTimes", "rowOf", "(I)I"⟩
abbrev k_B_anyRowOpen : ByteArray := prog_1_method_17_code
def y_B_anyRowOpen : MethodName := ⟨"BankTimes", "anyRowOpen", "()Z"⟩
abbrev k_B_dueRefreshes : ByteArray := prog_1_method_18_code
def y_B_dueRefreshes : MethodName := ⟨"BankTimes", "dueRefreshes", "()I"⟩
abbrev k_B_step : ByteArray := prog_1_method_19_code
def y_B_step : MethodName := ⟨"BankTimes", "step", "()V"⟩
abbrev k_B_refresh : ByteArray := prog_1_method_20_code
def y_B_refresh : MethodName := ⟨"BankTimes", "refresh", "(I)V"⟩
abbrev k_B_serve : ByteArray := prog_1_method_21_code
def y_B_serve : MethodName := ⟨"BankTimes", "serve", "(II)V"⟩
abbrev k_B_give : ByteArray := prog_1_method_22_code
def y_B_give : MethodName := ⟨"BankTimes", "give", "(IIII)V"⟩
abbrev k_D_init : ByteArray := prog_7_method_1_code
def y_D_init : MethodName := ⟨"BankTimesModel", "<init>", "(III)V"⟩
abbrev k_D_thrown : ByteArray := prog_7_method_2_code
def y_D_thrown : MethodName := ⟨"BankTimesModel", "thrown", "()I"⟩
abbrev k_D_fail : ByteArray := prog_7_method_3_code
def y_D_fail : MethodName := ⟨"BankTimesModel", "fail", "(I)I"⟩
abbrev k_D_within : ByteArray := prog_7_method_4_code
def y_D_within : MethodName := ⟨"BankTimesModel", "within", "(III)Z"⟩
abbrev k_D_clear : ByteArray := prog_7_method_5_code
def y_D_clear : MethodName := ⟨"BankTimesModel", "clear", "(I)V"⟩
abbrev k_D_isAddress : ByteArray := prog_7_method_6_code
def y_D_isAddress : MethodName := ⟨"BankTimesModel", "isAddress", "(I)Z"⟩
abbrev k_D_channelOf : ByteArray := prog_7_method_7_code
def y_D_channelOf : MethodName := ⟨"BankTimesModel", "channelOf", "(I)I"⟩
abbrev k_D_bankOf : ByteArray := prog_7_method_8_code
def y_D_bankOf : MethodName := ⟨"BankTimesModel", "bankOf", "(I)I"⟩
abbrev k_D_rowOf : ByteArray := prog_7_method_9_code
def y_D_rowOf : MethodName := ⟨"BankTimesModel", "rowOf", "(I)I"⟩
abbrev k_D_part : ByteArray := prog_7_method_10_code
def y_D_part : MethodName := ⟨"BankTimesModel", "part", "(II)I"⟩
abbrev k_D_anyOpen : ByteArray := prog_7_method_11_code
def y_D_anyOpen : MethodName := ⟨"BankTimesModel", "anyOpen", "(I)Z"⟩
abbrev k_D_fits : ByteArray := prog_7_method_12_code
def y_D_fits : MethodName := ⟨"BankTimesModel", "fits", "(IIII)Z"⟩
abbrev k_D_since : ByteArray := prog_7_method_13_code
def y_D_since : MethodName := ⟨"BankTimesModel", "since", "(IIII)I"⟩
abbrev k_D_broken : ByteArray := prog_7_method_14_code
def y_D_broken : MethodName := ⟨"BankTimesModel", "broken", "(IIII)I"⟩
abbrev k_D_note : ByteArray := prog_7_method_15_code
def y_D_note : MethodName := ⟨"BankTimesModel", "note", "(IIIII)V"⟩
abbrev k_D_waiting : ByteArray := prog_7_method_16_code
def y_D_waiting : MethodName := ⟨"BankTimesModel", "waiting", "(I)I"⟩
abbrev k_D_time : ByteArray := prog_7_method_17_code
def y_D_time : MethodName := ⟨"BankTimesModel", "time", "(II)I"⟩
abbrev k_D_span : ByteArray := prog_7_method_18_code
def y_D_span : MethodName := ⟨"BankTimesModel", "span", "(I)I"⟩
abbrev k_D_ask : ByteArray := prog_7_method_19_code
def y_D_ask : MethodName := ⟨"BankTimesModel", "ask", "(IZ)I"⟩
abbrev k_D_give : ByteArray := prog_7_method_20_code
def y_D_give : MethodName := ⟨"BankTimesModel", "give", "(IIII)V"⟩
abbrev k_D_nextOf : ByteArray := prog_7_method_21_code
def y_D_nextOf : MethodName := ⟨"BankTimesModel", "nextOf", "(I)I"⟩
abbrev k_D_isReady : ByteArray := prog_7_method_22_code
def y_D_isReady : MethodName := ⟨"BankTimesModel", "isReady", "(I)Z"⟩
abbrev k_D_isOf : ByteArray := prog_7_method_23_code
def y_D_isOf : MethodName := ⟨"BankTimesModel", "isOf", "(II)Z"⟩
abbrev k_D_isAmong : ByteArray := prog_7_method_24_code
def y_D_isAmong : MethodName := ⟨"BankTimesModel", "isAmong", "(III)Z"⟩
abbrev k_D_isWanted : ByteArray := prog_7_method_25_code
def y_D_isWanted : MethodName := ⟨"BankTimesModel", "isWanted", "(III)Z"⟩
abbrev k_D_byRows : ByteArray := prog_7_method_26_code
def y_D_byRows : MethodName := ⟨"BankTimesModel", "byRows", "(II)I"⟩
abbrev k_D_byReads : ByteArray := prog_7_method_27_code
def y_D_byReads : MethodName := ⟨"BankTimesModel", "byReads", "(I)I"⟩
abbrev k_D_byTurns : ByteArray := prog_7_method_28_code
def y_D_byTurns : MethodName := ⟨"BankTimesModel", "byTurns", "(I)I"⟩
abbrev k_D_named : ByteArray := prog_7_method_29_code
def y_D_named : MethodName := ⟨"BankTimesModel", "named", "(I)I"⟩
abbrev k_D_refresh : ByteArray := prog_7_method_30_code
def y_D_refresh : MethodName := ⟨"BankTimesModel", "refresh", "(I)V"⟩
abbrev k_D_serve : ByteArray := prog_7_method_31_code
def y_D_serve : MethodName := ⟨"BankTimesModel", "serve", "(I)V"⟩
abbrev k_D_run : ByteArray := prog_7_method_32_code
def y_D_run : MethodName := ⟨"BankTimesModel", "run", "(I)I"⟩
abbrev k_D_done : ByteArray := prog_7_method_33_code
def y_D_done : MethodName := ⟨"BankTimesModel", "done", "(I)I"⟩
abbrev k_D_command : ByteArray := prog_7_method_34_code
def y_D_command : MethodName := ⟨"BankTimesModel", "command", "(II)I"⟩
abbrev k_D_open : ByteArray := prog_7_method_35_code
def y_D_open : MethodName := ⟨"BankTimesModel", "open", "(II)I"⟩
abbrev k_D_begin : ByteArray := prog_7_method_36_code
def y_D_begin : MethodName := ⟨"BankTimesModel", "begin", "()V"⟩
abbrev k_D_check : ByteArray := prog_7_method_37_code
def y_D_check : MethodName := ⟨"BankTimesModel", "check", "(IIIII)I"⟩
abbrev k_D_count : ByteArray := prog_7_method_38_code
def y_D_count : MethodName := ⟨"BankTimesModel", "count", "(I)I"⟩
abbrev k_C_init : ByteArray := prog_2_method_1_code
def y_C_init : MethodName := ⟨"BankTimes$Channel", "<init>", "(I[I)V"⟩
abbrev k_C_chosen : ByteArray := prog_2_method_2_code
def y_C_chosen : MethodName := ⟨"BankTimes$Channel", "chosen", "(II)I"⟩
abbrev k_C_nextKind : ByteArray := prog_2_method_3_code
def y_C_nextKind : MethodName := ⟨"BankTimes$Channel", "nextKind", "(I)I"⟩
abbrev k_C_isReady : ByteArray := prog_2_method_4_code
def y_C_isReady : MethodName := ⟨"BankTimes$Channel", "isReady", "(II)Z"⟩
abbrev k_C_chosenByRows : ByteArray := prog_2_method_5_code
def y_C_chosenByRows : MethodName := ⟨"BankTimes$Channel", "chosenByRows", "(II)I"⟩
abbrev k_C_isAmong : ByteArray := prog_2_method_6_code
def y_C_isAmong : MethodName := ⟨"BankTimes$Channel", "isAmong", "(II)Z"⟩
abbrev k_C_openRowIsWanted : ByteArray := prog_2_method_7_code
def y_C_openRowIsWanted : MethodName := ⟨"BankTimes$Channel", "openRowIsWanted", "(II)Z"⟩
abbrev k_C_chosenByTurns : ByteArray := prog_2_method_8_code
def y_C_chosenByTurns : MethodName := ⟨"BankTimes$Channel", "chosenByTurns", "(I)I"⟩
abbrev k_G_init : ByteArray := prog_3_method_1_code
def y_G_init : MethodName := ⟨"BankTimes$Log", "<init>", "()V"⟩
abbrev k_G_add : ByteArray := prog_3_method_2_code
def y_G_add : MethodName := ⟨"BankTimes$Log", "add", "(IIIII)V"⟩
abbrev k_G_partOf : ByteArray := prog_3_method_3_code
def y_G_partOf : MethodName := ⟨"BankTimes$Log", "partOf", "(II)I"⟩
abbrev k_G_placeOf : ByteArray := prog_3_method_4_code
def y_G_placeOf : MethodName := ⟨"BankTimes$Log", "placeOf", "(I)I"⟩
abbrev k_Q_init : ByteArray := prog_4_method_1_code
def y_Q_init : MethodName := ⟨"BankTimes$Queue", "<init>", "()V"⟩
abbrev k_Q_isFull : ByteArray := prog_4_method_2_code
def y_Q_isFull : MethodName := ⟨"BankTimes$Queue", "isFull", "()Z"⟩
abbrev k_Q_add : ByteArray := prog_4_method_3_code
def y_Q_add : MethodName := ⟨"BankTimes$Queue", "add", "(IIIIZ)V"⟩
abbrev k_Q_removeAt : ByteArray := prog_4_method_4_code
def y_Q_removeAt : MethodName := ⟨"BankTimes$Queue", "removeAt", "(I)V"⟩
abbrev k_Q_oldestOf : ByteArray := prog_4_method_5_code
def y_Q_oldestOf : MethodName := ⟨"BankTimes$Queue", "oldestOf", "(I)I"⟩
abbrev k_R_init : ByteArray := prog_5_method_1_code
def y_R_init : MethodName := ⟨"BankTimes$Rules", "<init>", "(I[I)V"⟩
abbrev k_R_forget : ByteArray := prog_5_method_2_code
def y_R_forget : MethodName := ⟨"BankTimes$Rules", "forget", "()V"⟩
abbrev k_R_anyOpen : ByteArray := prog_5_method_3_code
def y_R_anyOpen : MethodName := ⟨"BankTimes$Rules", "anyOpen", "()Z"⟩
abbrev k_R_lowestToClose : ByteArray := prog_5_method_4_code
def y_R_lowestToClose : MethodName := ⟨"BankTimes$Rules", "lowestToClose", "(I)I"⟩
abbrev k_R_brokenRule : ByteArray := prog_5_method_5_code
def y_R_brokenRule : MethodName := ⟨"BankTimes$Rules", "brokenRule", "(IIII)I"⟩
abbrev k_R_fitsBank : ByteArray := prog_5_method_6_code
def y_R_fitsBank : MethodName := ⟨"BankTimes$Rules", "fitsBank", "(III)Z"⟩
abbrev k_R_brokenTime : ByteArray := prog_5_method_7_code
def y_R_brokenTime : MethodName := ⟨"BankTimes$Rules", "brokenTime", "(III)I"⟩
abbrev k_R_startOf : ByteArray := prog_5_method_8_code
def y_R_startOf : MethodName := ⟨"BankTimes$Rules", "startOf", "(III)I"⟩
abbrev k_R_take : ByteArray := prog_5_method_9_code
def y_R_take : MethodName := ⟨"BankTimes$Rules", "take", "(IIII)V"⟩
abbrev k_L_cell : ByteArray := method_2_code
def y_L_cell : MethodName := ⟨"BankTimesLaw", "cell", "([II)I"⟩
abbrev k_L_time : ByteArray := method_3_code
def y_L_time : MethodName := ⟨"BankTimesLaw", "time", "(LBankTimes;II[J)I"⟩
abbrev k_L_span : ByteArray := method_4_code
def y_L_span : MethodName := ⟨"BankTimesLaw", "span", "(LBankTimes;I[J)I"⟩
abbrev k_L_ask : ByteArray := method_5_code
def y_L_ask : MethodName := ⟨"BankTimesLaw", "ask", "(LBankTimes;IZ[J)I"⟩
abbrev k_L_run : ByteArray := method_6_code
def y_L_run : MethodName := ⟨"BankTimesLaw", "run", "(LBankTimes;I[J)I"⟩
abbrev k_L_done : ByteArray := method_7_code
def y_L_done : MethodName := ⟨"BankTimesLaw", "done", "(LBankTimes;I[J)I"⟩
abbrev k_L_command : ByteArray := method_8_code
def y_L_command : MethodName := ⟨"BankTimesLaw", "command", "(LBankTimes;II[J)I"⟩
abbrev k_L_open : ByteArray := method_9_code
def y_L_open : MethodName := ⟨"BankTimesLaw", "open", "(LBankTimes;II[J)I"⟩
abbrev k_L_part : ByteArray := method_10_code
def y_L_part : MethodName := ⟨"BankTimesLaw", "part", "(LBankTimes;II[J)I"⟩
abbrev k_L_check : ByteArray := method_11_code
def y_L_check : MethodName := ⟨"BankTimesLaw", "check", "(LBankTimes;IIIII[J)I"⟩
abbrev k_J_floorMod : ByteArray := prog_13_method_50_code
def y_J_floorMod : MethodName := ⟨"java/lang/Math", "floorMod", "(II)I"⟩
abbrev k_A_fill : ByteArray := prog_18_method_103_code
def y_A_fill : MethodName := ⟨"java/util/Arrays", "fill", "([II)V"⟩
end
section
/-! OWN KIT: the cells of a system lie side by side from an address b on; their numbers are one memory M : role → place → Int32; what never changes (classes, references, lengths) is the shape sh -/
abbrev Mm : Type := Nat → Nat → Int32
abbrev Shp : Type := Nat → (Nat → Int32) → va_E
def up2 (M : Mm) (r k : Nat) (v : Int32) : Mm := fun q => if q = r then upd (M r) k v else M q
theorem up2_at (M : Mm) (r k : Nat) (v : Int32) : up2 M r k v r = upd (M r) k v := if_pos rfl
theorem up2_ne {M : Mm} {r k q : Nat} {v : Int32} (h : q ≠ r) : up2 M r k v q = M q := if_neg h
def wd (b N : Nat) (sh : Shp) (M : Mm) : va_W := (List.range N).map (fun r => (b + r, sh r (M r)))
theorem wd_len (b N : Nat) (sh : Shp) (M : Mm) : (wd b N sh M).length = N := by simp [wd]
theorem wd_at {b N r : Nat} {sh : Shp} {M : Mm} (h : r < N) : (wd b N sh M)[r]? = some (b + r, sh r (M r)) := by simp [wd, h]
theorem wd_in {b N k : Nat} {sh : Shp} {M : Mm} {q : Nat × va_E} (h : (wd b N sh M)[k]? = some q) : k < N ∧ q = (b + k, sh k (M k)) := by
  have hk : k < N := by
    have h1 := (List.getElem?_eq_some_iff.mp h).1
    rw [wd_len] at h1
    exact h1
  rw [wd_at hk] at h
  exact ⟨hk, (Option.some.inj h).symm⟩
theorem wd_set {b N r : Nat} {sh : Shp} {M M' : Mm} {x : va_E} (hr : r < N) (hx : sh r (M' r) = x) (ho : ∀ q, q ≠ r → M' q = M q) : (wd b N sh M).set r (b + r, x) = wd b N sh M' := by
  apply List.ext_getElem?
  intro i
  rw [List.getElem?_set]
  by_cases h : r = i
  · subst h
    rw [if_pos rfl, if_pos (by rw [wd_len]; exact hr), wd_at hr, hx]
  · rw [if_neg h]
    by_cases hi : i < N
    · rw [wd_at hi, wd_at hi, ho i (Ne.symm h)]
    · rw [List.getElem?_eq_none (by rw [wd_len]; omega), List.getElem?_eq_none (by rw [wd_len]; omega)]
theorem wd_D {b N : Nat} {sh : Shp} {M : Mm} {A : Nat → Prop} (hA : ∀ r, r < N → A (b + r)) : va_D A (wd b N sh M) := by
  refine ⟨fun i j x y hi hj hxy => ?_, fun k q hk => ?_⟩
  · obtain ⟨h1, rfl⟩ := wd_in hi
    obtain ⟨h2, rfl⟩ := wd_in hj
    dsimp only at hxy
    omega
  · obtain ⟨h1, rfl⟩ := wd_in hk
    exact hA k h1
/-- the places that a method of a system may write: its cells, and what is new -/
def reg (b N sz : Nat) : Nat → Prop := fun q => (b ≤ q ∧ q < b + N) ∨ sz ≤ q
theorem reg_in {b N sz r : Nat} (h : r < N) : reg b N sz (b + r) := Or.inl ⟨Nat.le_add_right _ _, Nat.add_lt_add_left h _⟩
theorem reg_D {b N sz : Nat} {sh : Shp} {M : Mm} : va_D (reg b N sz) (wd b N sh M) := wd_D fun _ h => reg_in h
theorem reg_mono {b N sz sz' : Nat} (h : sz ≤ sz') : ∀ q, reg b N sz' q → reg b N sz q := fun q hq => hq.elim Or.inl (fun h' => Or.inr (Nat.le_trans h h'))
/-- a system's cells stay where nothing of them was written -/
theorem wd_kept {D : va_G} {cl : List vw_C} {b N b' N' : Nat} {sh : Shp} {M : Mm} {H H1 : Heap} {sz : Nat} (hP : va_P D cl (wd b N sh M) H) (hsz : sz = H.size) (hap : b + N ≤ b' ∨ b' + N' ≤ b) (hk : ∀ q : Nat, q < H.size → ¬ reg b' N' sz q → H1[q]? = H[q]?) : va_P D cl (wd b N sh M) H1 := by
  refine hP.kept fun k q hq => ?_
  have hl := (hP k q hq).lt
  obtain ⟨h1, rfl⟩ := wd_in hq
  dsimp only at hl ⊢
  refine hk _ hl ?_
  rintro (⟨a, c⟩ | a) <;> omega
/-- an object: fields that are references stay (some), the others are numbers of the memory (none) -/
def fl (L : List (Option Nat)) (m : Nat → Int32) : List Value := L.mapIdx (fun k o => match o with | some q => Value.ref q | none => Value.int (m k))
theorem fl_i {L : List (Option Nat)} {m : Nat → Int32} {k : Nat} (h : L[k]? = some none) : (fl L m)[k]? = some (.int (m k)) := by simp [fl, List.getElem?_mapIdx, h]
theorem fl_r {L : List (Option Nat)} {m : Nat → Int32} {k q : Nat} (h : L[k]? = some (some q)) : (fl L m)[k]? = some (.ref q) := by simp [fl, List.getElem?_mapIdx, h]
theorem fl_len (L : List (Option Nat)) (m : Nat → Int32) : (fl L m).length = L.length := by simp [fl]
theorem fl_set {L : List (Option Nat)} {m : Nat → Int32} {k : Nat} {v : Int32} (h : L[k]? = some none) : (fl L m).set k (.int v) = fl L (upd m k v) := by
  have hk : k < L.length := (List.getElem?_eq_some_iff.mp h).1
  apply List.ext_getElem?
  intro i
  rw [List.getElem?_set]
  by_cases hi : k = i
  · subst hi
    rw [if_pos rfl, if_pos (by rw [fl_len]; exact hk), fl_i h, pk_us]
  · rw [if_neg hi]
    simp only [fl, List.getElem?_mapIdx]
    cases hL : L[i]? with
    | none => rfl
    | some o =>
      cases o with
      | none => simp [pk_un (Ne.symm hi)]
      | some q => rfl
def ob (ci : Nat) (L : List (Option Nat)) : (Nat → Int32) → va_E := fun m => .inr (ci, fl L m)
def ia (cA : ClassId) (n : Nat) : (Nat → Int32) → va_E := fun m => .inl (cA, n, .inl m)
def ra (cA : ClassId) (n : Nat) (g : Nat → Option Nat) : (Nat → Int32) → va_E := fun _ => .inl (cA, n, .inr (.inr (.inr (.inr g))))
/-- an index in an array of n places -/
def ixb (i : Int32) (n : Nat) : Bool := decide (¬ (i < 0 ∨ n ≤ i.toNatClampNeg))
theorem ixb_in {i : Int32} {n : Nat} (h : ixb i n = true) : vp_in i n := of_decide_eq_true (p := ¬ (i < 0 ∨ n ≤ i.toNatClampNeg)) h
theorem ixb_of {i : Int32} {n : Nat} (h : vp_in i n) : ixb i n = true := decide_eq_true (p := ¬ (i < 0 ∨ n ≤ i.toNatClampNeg)) h
theorem ixb_lt {i : Int32} {n : Nat} (h : ixb i n = true) : i.toNatClampNeg < n := Nat.not_le.mp fun q => ixb_in h (Or.inr q)
/-- a name for a value, in a program -/
def bnd {α β : Type} (a : α) (f : α → β) : β := f a
theorem ln {α β : Type} {a : α} {f : α → Option β} {y : β} (h : bnd a f = some y) : ∃ x, x = a ∧ f x = some y := ⟨a, rfl, h⟩
theorem og {c : Prop} [Decidable c] {α : Type} {x : Option α} {y : α} (h : (if c then x else none) = some y) : c ∧ x = some y := by
  by_cases hc : c
  · rw [if_pos hc] at h
    exact ⟨hc, h⟩
  · rw [if_neg hc] at h
    cases h
theorem ogt {c : Prop} [Decidable c] {α : Type} {x z : Option α} {y : α} (hc : c) (h : (if c then x else z) = some y) : x = some y := by rw [if_pos hc] at h; exact h
theorem ogf {c : Prop} [Decidable c] {α : Type} {x z : Option α} {y : α} (hc : ¬ c) (h : (if c then x else z) = some y) : z = some y := by rw [if_neg hc] at h; exact h
theorem obd {α β : Type} {x : Option α} {f : α → Option β} {y : β} (h : x.bind f = some y) : ∃ a, x = some a ∧ f a = some y := Option.bind_eq_some_iff.mp h
theorem oe {α : Type} {a c : α} (h : some a = some c) : a = c := Option.some.inj h
theorem oe2 {α β : Type} {a c : α} {b d : β} (h : some (a, b) = some (c, d)) : a = c ∧ b = d := by
  have h1 := Option.some.inj h
  exact ⟨congrArg Prod.fst h1, congrArg Prod.snd h1⟩
/-- a method's start and its ends, by the memory -/
def Pw (D : va_G) (cl : List vw_C) (tys : List (ClassId × FieldType)) (b N : Nat) (sh : Shp) (av : List Value) (M : Mm) (sz : Nat) : Array Value → State → Prop := va_Pc av (fun U => U.heap.size = sz ∧ va_P D cl (wd b N sh M) U.heap ∧ va_K D cl tys U)
def Qwi (D : va_G) (cl : List vw_C) (b N : Nat) (sh : Shp) (rv : Int32) (M' : Mm) (sz : Nat) : Array Value → State → Outcome → State → Prop := va_Qi (fun r' (_ : Unit) => r' = rv) (fun _ t => va_P D cl (wd b N sh M') t.heap) (reg b N sz)
def Qwv (D : va_G) (cl : List vw_C) (b N : Nat) (sh : Shp) (M' : Mm) (sz : Nat) : Array Value → State → Outcome → State → Prop := va_Qv (fun (_ : Unit) => True) (fun _ t => va_P D cl (wd b N sh M') t.heap) (reg b N sz)
theorem Pw_blind {D : va_G} {cl : List vw_C} {tys : List (ClassId × FieldType)} {b N : Nat} {sh : Shp} {av : List Value} {M : Mm} {sz : Nat} : FrameBlind (Pw D cl tys b N sh av M sz) := by
  intro a U g mk q
  obtain ⟨q0, q1, qP, qK⟩ := q
  exact ⟨q0, q1, qP, va_K.moved (u := U) (U := U.calling g mk a) (Vm.Alike.refl U.vm) qK⟩
section KW
variable {p : Program} {l : Launch} {e : Env} {R : Room} {s : State} {m : MethodId} {args : Array Value} {below : List Frame} {meth : Method} {c : Code} {H : Heap} {locs : List Loc} {cells slots : Nat} {Q : State → Prop}
variable {cc : ByteArray} {pc : Nat} {ls : Array Slot} {rest st0 : List Value} {D : va_G} {cl : List vw_C} {tys : List (ClassId × FieldType)} {b N : Nat} {sh : Shp} {M M' : Mm}
/-- another name for the number on top -/
theorem lv_nm {x y : Int32} (h : y = x) (k : W p l e R s m args below meth c H locs cells slots Q (F0 m pc ls (.int y :: rest))) : W p l e R s m args below meth c H locs cells slots Q (F0 m pc ls (.int x :: rest)) := h ▸ k
theorem wd_geti (hx : p.tables.exec = Jvm.exec) (hb : c.code = cc) {own C : String} {T : u_T} {Nf ci index : Nat} {Ts : List Cond} (hts : ∀ w ∈ Ts, w.before args s = true) (hin : ∀ w ∈ u_ws C T Nf, w ∈ Ts) (hown : s.vm.findClass own = some m.cls) (hK : va_K D cl tys s) (hP : va_P D cl (wd b N sh M) H) {L : List (Option Nat)} (r : Nat) (hr : r < N) (hs : sh r = ob ci L) (hc : cl[ci]? = some (C, T, Nf)) (k : Nat) (hk : k < Nf) (hlink : Cond.fieldLink own index (T k).1 (T k).2.1 (T k).2.2.1 ∈ Ts) (hl : L[k]? = some none) (hdg : decode cc pc = .ok (.getfield index, 3))
    (kk : W p l e R s m args below meth c H locs cells slots Q (F0 m (pc + 3) ls (.int (M r k) :: rest))) : W p l e R s m args below meth c H locs cells slots Q (F0 m pc ls (.ref (b + r) :: rest)) :=
  va_get (ci := ci) (fs := fl L (M r)) hx hb hts hin hown hK hP r (by rw [wd_at hr, hs]; rfl) hc k hk (hts _ hlink) (fun _ h => h) (fl_i hl) hdg kk
theorem wd_getr (hx : p.tables.exec = Jvm.exec) (hb : c.code = cc) {own C : String} {T : u_T} {Nf ci index : Nat} {Ts : List Cond} (hts : ∀ w ∈ Ts, w.before args s = true) (hin : ∀ w ∈ u_ws C T Nf, w ∈ Ts) (hown : s.vm.findClass own = some m.cls) (hK : va_K D cl tys s) (hP : va_P D cl (wd b N sh M) H) {L : List (Option Nat)} {q : Nat} (r : Nat) (hr : r < N) (hs : sh r = ob ci L) (hc : cl[ci]? = some (C, T, Nf)) (k : Nat) (hk : k < Nf) (hlink : Cond.fieldLink own index (T k).1 (T k).2.1 (T k).2.2.1 ∈ Ts) (hl : L[k]? = some (some q)) (hdg : decode cc pc = .ok (.getfield index, 3))
    (kk : W p l e R s m args below meth c H locs cells slots Q (F0 m (pc + 3) ls (.ref q :: rest))) : W p l e R s m args below meth c H locs cells slots Q (F0 m pc ls (.ref (b + r) :: rest)) :=
  va_get (ci := ci) (fs := fl L (M r)) hx hb hts hin hown hK hP r (by rw [wd_at hr, hs]; rfl) hc k hk (hts _ hlink) (fun _ h => h) (fl_r hl) hdg kk
theorem wd_puti (hx : p.tables.exec = Jvm.exec) (hb : c.code = cc) {own C : String} {T : u_T} {Nf ci index : Nat} {Ts : List Cond} (hts : ∀ w ∈ Ts, w.before args s = true) (hin : ∀ w ∈ u_ws C T Nf, w ∈ Ts) (ty0 : Nat → FieldType) (hty : ∀ k, k < Nf → parseFieldDescriptor (T k).2.2.1 = some (ty0 k)) (hnm : ∀ a, a < Nf → ∀ b, b < Nf → a ≠ b → (T a).2.1 ≠ (T b).2.1) (hown : s.vm.findClass own = some m.cls) (hK : va_K D cl tys s) (hP : va_P D cl (wd b N sh M) H) (hS : va_S (reg b N s.heap.size) s.heap H locs) {L : List (Option Nat)} (r : Nat) (hr : r < N) (hs : sh r = ob ci L) (hc : cl[ci]? = some (C, T, Nf)) (k : Nat) (hk : k < Nf) (hlink : Cond.fieldLink own index (T k).1 (T k).2.1 (T k).2.2.1 ∈ Ts) (hl : L[k]? = some none) (hfin : (T k).2.2.2 = false) {ty : FieldType} {v : Int32} (hd : parseFieldDescriptor (T k).2.2.1 = some ty) (hn : narrow ty (.int v) = .int v) (hfit : fits ty (.int v) = true) (hdg : decode cc pc = .ok (.putfield index, 3))
    (kk : ∀ (H1 : Heap) (locs1 : List Loc), va_P D cl (wd b N sh (up2 M r k v)) H1 → va_S (reg b N s.heap.size) s.heap H1 locs1 → W p l e R s m args below meth c H1 locs1 cells slots Q (F0 m (pc + 3) ls rest)) : W p l e R s m args below meth c H locs cells slots Q (F0 m pc ls (.int v :: .ref (b + r) :: rest)) := by
  have hk2 : k < L.length := (List.getElem?_eq_some_iff.mp hl).1
  refine va_put (ci := ci) (fs := fl L (M r)) hx hb hts hin ty0 hty hnm hown hK hP reg_D hS r (by rw [wd_at hr, hs]; rfl) hc k hk (hts _ hlink) (fun _ h => h) hfin hd hn hfit (by rw [fl_len]; exact hk2) hdg (fun H1 locs1 hP1 _ hS1 => ?_)
  rw [wd_set (M' := up2 M r k v) hr (by rw [hs, up2_at]; show Sum.inr (ci, fl L (upd (M r) k v)) = _; rw [← fl_set hl]) (fun q hq => up2_ne hq)] at hP1
  exact kk H1 locs1 hP1 hS1
theorem wd_iald (hx : p.tables.exec = Jvm.exec) (hb : c.code = cc) (hK : va_K D cl tys s) (hP : va_P D cl (wd b N sh M) H) (r t0 : Nat) (hr : r < N) {cA : ClassId} {n : Nat} (hs : sh r = ia cA n) (ht : tys[t0]? = some (cA, .int)) {i : Int32} (hin : ixb i n = true) (hdg : decode cc pc = .ok (.iaload, 1))
    (kk : W p l e R s m args below meth c H locs cells slots Q (F0 m (pc + 1) ls (.int (M r i.toNatClampNeg) :: rest))) : W p l e R s m args below meth c H locs cells slots Q (F0 m pc ls (.int i :: .ref (b + r) :: rest)) :=
  va_iald hx hb hK hP r t0 (f := M r) (by rw [wd_at hr, hs]; rfl) ht (ixb_in hin) hdg kk
theorem wd_zald (hx : p.tables.exec = Jvm.exec) (hb : c.code = cc) (hK : va_K D cl tys s) (hP : va_P D cl (wd b N sh M) H) (r t0 : Nat) (hr : r < N) {cA : ClassId} {n : Nat} (hs : sh r = ia cA n) (ht : tys[t0]? = some (cA, .boolean)) {i : Int32} (hin : ixb i n = true) (hdg : decode cc pc = .ok (.baload, 1))
    (kk : W p l e R s m args below meth c H locs cells slots Q (F0 m (pc + 1) ls (.int (M r i.toNatClampNeg) :: rest))) : W p l e R s m args below meth c H locs cells slots Q (F0 m pc ls (.int i :: .ref (b + r) :: rest)) :=
  va_zald hx hb hK hP r t0 (f := M r) (by rw [wd_at hr, hs]; rfl) ht (ixb_in hin) hdg kk
theorem wd_aald (hx : p.tables.exec = Jvm.exec) (hb : c.code = cc) (hK : va_K D cl tys s) (hP : va_P D cl (wd b N sh M) H) (r t0 : Nat) (hr : r < N) {cA : ClassId} {C : String} {n q : Nat} {g : Nat → Option Nat} (hs : sh r = ra cA n g) (ht : tys[t0]? = some (cA, .object C)) {i : Int32} (hin : ixb i n = true) (hg : g i.toNatClampNeg = some q) (hdg : decode cc pc = .ok (.aaload, 1))
    (kk : W p l e R s m args below meth c H locs cells slots Q (F0 m (pc + 1) ls (.ref q :: rest))) : W p l e R s m args below meth c H locs cells slots Q (F0 m pc ls (.int i :: .ref (b + r) :: rest)) := by
  refine va_aldq hx hb hK hP r t0 (f := g) (by rw [wd_at hr, hs]; rfl) ht (ixb_in hin) hdg ?_
  rw [hg]
  exact kk
theorem wd_alen (hx : p.tables.exec = Jvm.exec) (hb : c.code = cc) (hK : va_K D cl tys s) (hP : va_P D cl (wd b N sh M) H) (r t0 : Nat) (hr : r < N) {cA : ClassId} {n : Nat} (hs : sh r = ia cA n) {ty : FieldType} (ht : tys[t0]? = some (cA, ty)) (hdg : decode cc pc = .ok (.arraylength, 1))
    (kk : W p l e R s m args below meth c H locs cells slots Q (F0 m (pc + 1) ls (.int (nI n) :: rest))) : W p l e R s m args below meth c H locs cells slots Q (F0 m pc ls (.ref (b + r) :: rest)) :=
  va_alen hx hb hK hP r t0 (x := (n, .inl (M r))) (by rw [wd_at hr, hs]; rfl) ht (v := nI n) rfl hdg kk
theorem wd_ralen (hx : p.tables.exec = Jvm.exec) (hb : c.code = cc) (hK : va_K D cl tys s) (hP : va_P D cl (wd b N sh M) H) (r t0 : Nat) (hr : r < N) {cA : ClassId} {n : Nat} {g : Nat → Option Nat} (hs : sh r = ra cA n g) {ty : FieldType} (ht : tys[t0]? = some (cA, ty)) (hdg : decode cc pc = .ok (.arraylength, 1))
    (kk : W p l e R s m args below meth c H locs cells slots Q (F0 m (pc + 1) ls (.int (nI n) :: rest))) : W p l e R s m args below meth c H locs cells slots Q (F0 m pc ls (.ref (b + r) :: rest)) :=
  va_alen hx hb hK hP r t0 (x := (n, .inr (.inr (.inr (.inr g))))) (by rw [wd_at hr, hs]; rfl) ht (v := nI n) rfl hdg kk
theorem wd_iast (hx : p.tables.exec = Jvm.exec) (hb : c.code = cc) (hK : va_K D cl tys s) (hP : va_P D cl (wd b N sh M) H) (hS : va_S (reg b N s.heap.size) s.heap H locs) (r t0 : Nat) (hr : r < N) {cA : ClassId} {n : Nat} (hs : sh r = ia cA n) (ht : tys[t0]? = some (cA, .int)) {i v : Int32} (hin : ixb i n = true) (hdg : decode cc pc = .ok (.iastore, 1))
    (kk : ∀ (H1 : Heap) (locs1 : List Loc), va_P D cl (wd b N sh (up2 M r i.toNatClampNeg v)) H1 → va_S (reg b N s.heap.size) s.heap H1 locs1 → W p l e R s m args below meth c H1 locs1 cells slots Q (F0 m (pc + 1) ls rest)) : W p l e R s m args below meth c H locs cells slots Q (F0 m pc ls (.int v :: .int i :: .ref (b + r) :: rest)) := by
  refine va_iast hx hb hK hP reg_D hS r t0 (f := M r) (by rw [wd_at hr, hs]; rfl) ht (ixb_in hin) hdg (fun H1 locs1 hP1 _ hS1 => ?_)
  rw [wd_set (M' := up2 M r i.toNatClampNeg v) hr (by rw [hs, up2_at]; rfl) (fun q hq => up2_ne hq)] at hP1
  exact kk H1 locs1 hP1 hS1
theorem wd_zast (hx : p.tables.exec = Jvm.exec) (hb : c.code = cc) (hK : va_K D cl tys s) (hP : va_P D cl (wd b N sh M) H) (hS : va_S (reg b N s.heap.size) s.heap H locs) (r t0 : Nat) (hr : r < N) {cA : ClassId} {n : Nat} (hs : sh r = ia cA n) (ht : tys[t0]? = some (cA, .boolean)) {i v : Int32} (hv : vp_nar .boolean v = v) (hin : ixb i n = true) (hdg : decode cc pc = .ok (.bastore, 1))
    (kk : ∀ (H1 : Heap) (locs1 : List Loc), va_P D cl (wd b N sh (up2 M r i.toNatClampNeg v)) H1 → va_S (reg b N s.heap.size) s.heap H1 locs1 → W p l e R s m args below meth c H1 locs1 cells slots Q (F0 m (pc + 1) ls rest)) : W p l e R s m args below meth c H locs cells slots Q (F0 m pc ls (.int v :: .int i :: .ref (b + r) :: rest)) := by
  refine va_zast hx hb hK hP reg_D hS r t0 (f := M r) (by rw [wd_at hr, hs]; rfl) ht (ixb_in hin) hdg (fun H1 locs1 hP1 _ hS1 => ?_)
  rw [hv, wd_set (M' := up2 M r i.toNatClampNeg v) hr (by rw [hs, up2_at]; rfl) (fun q hq => up2_ne hq)] at hP1
  exact kk H1 locs1 hP1 hS1
theorem wd_iret {rv : Int32} (hx : p.tables.exec = Jvm.exec) (hb : c.code = cc) (hr : meth.sig.returnType = some .int) (hlk : meth.locks = false) (hP : va_P D cl (wd b N sh M) H) (hS : va_S (reg b N s.heap.size) s.heap H locs) (hdg : decode cc pc = .ok (.ireturn, 1)) :
    W p l e R s m args below meth c H locs cells slots (MQ below (Qwi D cl b N sh rv M s.heap.size) args s cells slots (reg b N s.heap.size)) (F0 m pc ls [.int rv]) :=
  W.iret (v := rv) hx hb hr (fun t ht _ => ⟨⟨rv, (), rfl, rfl, show va_P D cl (wd b N sh M) t.heap by rw [ht]; exact hP⟩, hS.F ht⟩) hS.2.2 hdg hlk
theorem wd_zret {rv : Int32} (hx : p.tables.exec = Jvm.exec) (hb : c.code = cc) (hr : meth.sig.returnType = some .boolean) (hn : narrow .boolean (.int rv) = .int rv) (hlk : meth.locks = false) (hP : va_P D cl (wd b N sh M) H) (hS : va_S (reg b N s.heap.size) s.heap H locs) (hdg : decode cc pc = .ok (.ireturn, 1)) :
    W p l e R s m args below meth c H locs cells slots (MQ below (Qwi D cl b N sh rv M s.heap.size) args s cells slots (reg b N s.heap.size)) (F0 m pc ls [.int rv]) :=
  W.zret (v := rv) hx hb hr hn (fun t ht _ => ⟨⟨rv, (), rfl, rfl, show va_P D cl (wd b N sh M) t.heap by rw [ht]; exact hP⟩, hS.F ht⟩) hS.2.2 hdg hlk
theorem wd_vret (hx : p.tables.exec = Jvm.exec) (hb : c.code = cc) (hr : meth.sig.returnType = none) (hlk : meth.locks = false) (hP : va_P D cl (wd b N sh M) H) (hS : va_S (reg b N s.heap.size) s.heap H locs) (hdg : decode cc pc = .ok (.return_, 1)) :
    W p l e R s m args below meth c H locs cells slots (MQ below (Qwv D cl b N sh M s.heap.size) args s cells slots (reg b N s.heap.size)) (F0 m pc ls []) :=
  W.vret hx hb hr (fun t ht _ => ⟨⟨(), rfl, trivial, show va_P D cl (wd b N sh M) t.heap by rw [ht]; exact hP⟩, hS.F ht⟩) hS.2.2 hdg hlk
variable {y : MethodName} {bytes : ByteArray} {maxL nL n index mc ms : Nat} {ret : Option FieldType} {ws : List Cond} {rm : Room} {Ts : List Cond} {own C : String} {As : List Value}
theorem wd_cvi {rv : Int32} (S : CallFix p m c cc nL s args Ts own) (hK : va_K D cl tys s) (hP : va_P D cl (wd b N sh M) H) (hS : va_S (reg b N s.heap.size) s.heap H locs) (r : Nat) (hr : r < N) {ci : Nat} {L : List (Option Nat)} {T : u_T} {Nf : Nat} (hs : sh r = ob ci L) (hc : cl[ci]? = some (C, T, Nf))
    (hM : Met l y ws rm (Pw D cl tys b N sh (.ref (b + r) :: As) M H.size) (Qwi D cl b N sh rv M' H.size) mc ms (reg b N H.size)) (cw : CallW R s args own C index y bytes maxL ret ws rm mc ms n) (hn : As.length = n) (hsize : ls.size = nL) (hst : st0 = As.reverse ++ .ref (b + r) :: rest) (hroom : (rest.map fun v => v.category).sum ≤ 8) (hdg : decode cc pc = .ok (.invokevirtual index, 3)) (hf : cells + mc ≤ R.cells ∧ slots + ms ≤ R.slots)
    (kk : ∀ (H1 : Heap) (locs1 : List Loc), va_P D cl (wd b N sh M') H1 → va_S (reg b N s.heap.size) s.heap H1 locs1 → W p l e R s m args below meth c H1 locs1 (cells + mc) (slots + ms) Q (F0 m (pc + 3) ls (.int rv :: rest))) : W p l e R s m args below meth c H locs cells slots Q (F0 m pc ls st0) := by
  refine va_calli (va_runV (As := As) (rest := rest) (b := b + r) S hM cw ⟨Pw_blind, va_recv hK hP hc (show (wd b N sh M)[r]? = some (b + r, .inr (ci, fl L (M r))) by rw [wd_at hr, hs]; rfl), fun U hU hW => ⟨rfl, by rw [hU], by rw [hU]; exact hP, va_K.moved hW.alike hK⟩⟩ rfl hn hsize hst (lv_room hroom) hdg hf) hS (fun q _ h => reg_mono hS.1 q h) (fun q h => reg_mono hS.1 q h) (fun r1 u t H1 locs1 ht hvm hw hB hz1 hk1 hS1 => ?_)
  have hw : r1 = rv := hw
  have hB : va_P D cl (wd b N sh M') t.heap := hB
  subst hw
  rw [ht] at hB
  exact kk H1 locs1 hB hS1
theorem wd_cvv (S : CallFix p m c cc nL s args Ts own) (hK : va_K D cl tys s) (hP : va_P D cl (wd b N sh M) H) (hS : va_S (reg b N s.heap.size) s.heap H locs) (r : Nat) (hr : r < N) {ci : Nat} {L : List (Option Nat)} {T : u_T} {Nf : Nat} (hs : sh r = ob ci L) (hc : cl[ci]? = some (C, T, Nf))
    (hM : Met l y ws rm (Pw D cl tys b N sh (.ref (b + r) :: As) M H.size) (Qwv D cl b N sh M' H.size) mc ms (reg b N H.size)) (cw : CallW R s args own C index y bytes maxL ret ws rm mc ms n) (hn : As.length = n) (hsize : ls.size = nL) (hst : st0 = As.reverse ++ .ref (b + r) :: rest) (hroom : (rest.map fun v => v.category).sum ≤ 8) (hdg : decode cc pc = .ok (.invokevirtual index, 3)) (hf : cells + mc ≤ R.cells ∧ slots + ms ≤ R.slots)
    (kk : ∀ (H1 : Heap) (locs1 : List Loc), va_P D cl (wd b N sh M') H1 → va_S (reg b N s.heap.size) s.heap H1 locs1 → W p l e R s m args below meth c H1 locs1 (cells + mc) (slots + ms) Q (F0 m (pc + 3) ls rest)) : W p l e R s m args below meth c H locs cells slots Q (F0 m pc ls st0) := by
  refine va_callv (va_runV (As := As) (rest := rest) (b := b + r) S hM cw ⟨Pw_blind, va_recv hK hP hc (show (wd b N sh M)[r]? = some (b + r, .inr (ci, fl L (M r))) by rw [wd_at hr, hs]; rfl), fun U hU hW => ⟨rfl, by rw [hU], by rw [hU]; exact hP, va_K.moved hW.alike hK⟩⟩ rfl hn hsize hst (lv_room hroom) hdg hf) hS (fun q _ h => reg_mono hS.1 q h) (fun q h => reg_mono hS.1 q h) (fun u t H1 locs1 ht hvm hw hB hz1 hk1 hS1 => ?_)
  have hB : va_P D cl (wd b N sh M') t.heap := hB
  rw [ht] at hB
  exact kk H1 locs1 hB hS1
theorem wd_csi {rv : Int32} (S : CallFix p m c cc nL s args Ts own) (hK : va_K D cl tys s) (hP : va_P D cl (wd b N sh M) H) (hS : va_S (reg b N s.heap.size) s.heap H locs)
    (hM : Met l y ws rm (Pw D cl tys b N sh As M H.size) (Qwi D cl b N sh rv M' H.size) mc ms (reg b N H.size)) (cw : CallB R s args own index y bytes maxL ret ws rm mc ms n ∧ (Cond.static y).before args s = true) (hn : As.length = n) (hsize : ls.size = nL) (hst : st0 = As.reverse ++ rest) (hroom : (rest.map fun v => v.category).sum ≤ 8) (hdg : decode cc pc = .ok (.invokestatic index, 3)) (hf : cells + mc ≤ R.cells ∧ slots + ms ≤ R.slots)
    (kk : ∀ (H1 : Heap) (locs1 : List Loc), va_P D cl (wd b N sh M') H1 → va_S (reg b N s.heap.size) s.heap H1 locs1 → W p l e R s m args below meth c H1 locs1 (cells + mc) (slots + ms) Q (F0 m (pc + 3) ls (.int rv :: rest))) : W p l e R s m args below meth c H locs cells slots Q (F0 m pc ls st0) := by
  refine va_calli (va_runS (As := As) (rest := rest) S hM cw ⟨Pw_blind, fun U hU hW => ⟨rfl, by rw [hU], by rw [hU]; exact hP, va_K.moved hW.alike hK⟩⟩ rfl hn hsize hst (lv_room hroom) hdg hf) hS (fun q _ h => reg_mono hS.1 q h) (fun q h => reg_mono hS.1 q h) (fun r1 u t H1 locs1 ht hvm hw hB hz1 hk1 hS1 => ?_)
  have hw : r1 = rv := hw
  have hB : va_P D cl (wd b N sh M') t.heap := hB
  subst hw
  rw [ht] at hB
  exact kk H1 locs1 hB hS1
theorem wd_csv (S : CallFix p m c cc nL s args Ts own) (hK : va_K D cl tys s) (hP : va_P D cl (wd b N sh M) H) (hS : va_S (reg b N s.heap.size) s.heap H locs)
    (hM : Met l y ws rm (Pw D cl tys b N sh As M H.size) (Qwv D cl b N sh M' H.size) mc ms (reg b N H.size)) (cw : CallB R s args own index y bytes maxL ret ws rm mc ms n ∧ (Cond.static y).before args s = true) (hn : As.length = n) (hsize : ls.size = nL) (hst : st0 = As.reverse ++ rest) (hroom : (rest.map fun v => v.category).sum ≤ 8) (hdg : decode cc pc = .ok (.invokestatic index, 3)) (hf : cells + mc ≤ R.cells ∧ slots + ms ≤ R.slots)
    (kk : ∀ (H1 : Heap) (locs1 : List Loc), va_P D cl (wd b N sh M') H1 → va_S (reg b N s.heap.size) s.heap H1 locs1 → W p l e R s m args below meth c H1 locs1 (cells + mc) (slots + ms) Q (F0 m (pc + 3) ls rest)) : W p l e R s m args below meth c H locs cells slots Q (F0 m pc ls st0) := by
  refine va_callv (va_runS (As := As) (rest := rest) S hM cw ⟨Pw_blind, fun U hU hW => ⟨rfl, by rw [hU], by rw [hU]; exact hP, va_K.moved hW.alike hK⟩⟩ rfl hn hsize hst (lv_room hroom) hdg hf) hS (fun q _ h => reg_mono hS.1 q h) (fun q h => reg_mono hS.1 q h) (fun u t H1 locs1 ht hvm hw hB hz1 hk1 hS1 => ?_)
  have hB : va_P D cl (wd b N sh M') t.heap := hB
  rw [ht] at hB
  exact kk H1 locs1 hB hS1
end KW
/-! booleans -/
def bz (v : Int32) : Bool := decide (v = 0 ∨ v = 1)
theorem bz_or {v : Int32} (h : bz v = true) : v = 0 ∨ v = 1 := of_decide_eq_true h
theorem nbz {v : Int32} (h : bz v = true) : narrow .boolean (.int v) = .int v := by
  rcases bz_or h with rfl | rfl <;> rfl
theorem fbz {v : Int32} (h : bz v = true) : fits .boolean (.int v) = true := by
  rcases bz_or h with rfl | rfl <;> rfl
theorem vpz {v : Int32} (h : bz v = true) : vp_nar .boolean v = v := by
  rcases bz_or h with rfl | rfl <;> rfl
/-! METHODS THAT ONLY READ: the heap behind them is the heap before -/
def Qro (rv : Int32) : Array Value → State → Outcome → State → Prop := fun _ st oc t => oc = .returned (some (.int rv)) ∧ t.heap = st.heap
def nofree : Addr → Prop := fun _ => False
section KR
variable {p : Program} {l : Launch} {e : Env} {R : Room} {s : State} {m : MethodId} {args : Array Value} {below : List Frame} {meth : Method} {c : Code} {H : Heap} {locs : List Loc} {cells slots : Nat} {Q : State → Prop}
variable {cc : ByteArray} {pc : Nat} {ls : Array Slot} {rest st0 : List Value} {D : va_G} {cl : List vw_C} {tys : List (ClassId × FieldType)} {b N : Nat} {sh : Shp} {M : Mm}
theorem wd_iret0 {rv : Int32} (hx : p.tables.exec = Jvm.exec) (hb : c.code = cc) (hr : meth.sig.returnType = some .int) (hlk : meth.locks = false) (hdg : decode cc pc = .ok (.ireturn, 1)) :
    W p l e R s m args below meth c s.heap [] cells slots (MQ below (Qro rv) args s cells slots nofree) (F0 m pc ls [.int rv]) :=
  W.iret (v := rv) hx hb hr (fun t ht _ => ⟨rfl, ht⟩) (fun q h => by cases h) hdg hlk
theorem wd_zret0 {rv : Int32} (hx : p.tables.exec = Jvm.exec) (hb : c.code = cc) (hr : meth.sig.returnType = some .boolean) (hn : narrow .boolean (.int rv) = .int rv) (hlk : meth.locks = false) (hdg : decode cc pc = .ok (.ireturn, 1)) :
    W p l e R s m args below meth c s.heap [] cells slots (MQ below (Qro rv) args s cells slots nofree) (F0 m pc ls [.int rv]) :=
  W.zret (v := rv) hx hb hr hn (fun t ht _ => ⟨rfl, ht⟩) (fun q h => by cases h) hdg hlk
variable {y : MethodName} {bytes : ByteArray} {maxL nL n index : Nat} {ret : Option FieldType} {ws : List Cond} {rm : Room} {Ts : List Cond} {own C : String} {As : List Value}
theorem wd_ro {rv : Int32} {a : Array Value} {g : JFrame} (hr : va_Run p l e R s m args below meth c H locs cells slots 0 0 g rest (Qro rv a) nofree)
    (kk : W p l e R s m args below meth c H locs cells slots Q { g with pc := g.pc + 3, stack := .int rv :: rest }) : W p l e R s m args below meth c H locs cells slots Q g := by
  intro T hT X
  obtain ⟨v, st₀, t, T', L, h0, X', hL, e1, e2, ⟨hv, hh⟩, st⟩ := hr T hT X
  cases hv
  have hL0 : L = [] := by
    cases L with
    | nil => rfl
    | cons q L => exact (hL q List.mem_cons_self).elim
  subst hL0
  rw [List.append_nil] at X'
  obtain ⟨t2, a1, b1⟩ := kk T' (by rw [e1, hh, h0]) X'
  exact ⟨t2, st t2 a1, b1⟩
theorem wd_cvr {rv : Int32} (S : CallFix p m c cc nL s args Ts own) (hK : va_K D cl tys s) (hP : va_P D cl (wd b N sh M) H) (r : Nat) (hr : r < N) {ci : Nat} {L : List (Option Nat)} {T : u_T} {Nf : Nat} (hs : sh r = ob ci L) (hc : cl[ci]? = some (C, T, Nf))
    (hM : Met l y ws rm (Pw D cl tys b N sh (.ref (b + r) :: As) M H.size) (Qro rv) 0 0 nofree) (cw : CallW R s args own C index y bytes maxL ret ws rm 0 0 n) (hn : As.length = n) (hsize : ls.size = nL) (hst : st0 = As.reverse ++ .ref (b + r) :: rest) (hroom : (rest.map fun v => v.category).sum ≤ 8) (hdg : decode cc pc = .ok (.invokevirtual index, 3)) (hf : cells ≤ R.cells ∧ slots ≤ R.slots)
    (kk : W p l e R s m args below meth c H locs cells slots Q (F0 m (pc + 3) ls (.int rv :: rest))) : W p l e R s m args below meth c H locs cells slots Q (F0 m pc ls st0) :=
  wd_ro (va_runV (As := As) (rest := rest) (b := b + r) S hM cw ⟨Pw_blind, va_recv hK hP hc (show (wd b N sh M)[r]? = some (b + r, .inr (ci, fl L (M r))) by rw [wd_at hr, hs]; rfl), fun U hU hW => ⟨rfl, by rw [hU], by rw [hU]; exact hP, va_K.moved hW.alike hK⟩⟩ rfl hn hsize hst (lv_room hroom) hdg hf) kk
theorem wd_csr {rv : Int32} (S : CallFix p m c cc nL s args Ts own) (hK : va_K D cl tys s) (hP : va_P D cl (wd b N sh M) H)
    (hM : Met l y ws rm (Pw D cl tys b N sh As M H.size) (Qro rv) 0 0 nofree) (cw : CallB R s args own index y bytes maxL ret ws rm 0 0 n ∧ (Cond.static y).before args s = true) (hn : As.length = n) (hsize : ls.size = nL) (hst : st0 = As.reverse ++ rest) (hroom : (rest.map fun v => v.category).sum ≤ 8) (hdg : decode cc pc = .ok (.invokestatic index, 3)) (hf : cells ≤ R.cells ∧ slots ≤ R.slots)
    (kk : W p l e R s m args below meth c H locs cells slots Q (F0 m (pc + 3) ls (.int rv :: rest))) : W p l e R s m args below meth c H locs cells slots Q (F0 m pc ls st0) :=
  wd_ro (va_runS (As := As) (rest := rest) S hM cw ⟨Pw_blind, fun U hU hW => ⟨rfl, by rw [hU], by rw [hU]; exact hP, va_K.moved hW.alike hK⟩⟩ rfl hn hsize hst (lv_room hroom) hdg hf) kk
end KR
end
section
/-! ONE LIST OF WORDS FOR ALL METHODS: what a callee needs of the tables is in it, but for its own code, which is in it too -/
def tG : List Cond := lw_tbl.filter (fun w => k2_isCode w || goodWord w)
theorem tG_good {w : Cond} (h : w ∈ tG) : (w.onTables && w.keeps) = true ∨ ∃ ty, w = .arrayClass ty := by
  have h1 := (List.mem_filter.mp h).2
  rcases Bool.or_eq_true_iff.mp h1 with hc | hg
  · cases w <;> first | (simp [k2_isCode] at hc; done) | exact Or.inl rfl
  · exact good_of_word hg
theorem tG_of {w : Cond} (h : w ∈ lw_tbl) (hg : (k2_isCode w || goodWord w) = true) : w ∈ tG := List.mem_filter.mpr ⟨h, hg⟩
theorem tG_at {w : Cond} (i : Nat) (h : lw_tbl[i]? = some w) (hg : (k2_isCode w || goodWord w) = true) : w ∈ tG := tG_of (List.mem_of_getElem? h) hg
def wm (y : MethodName) (bytes : ByteArray) (maxL : Nat) (ret : Option FieldType) : List Cond := Cond.code y bytes maxL ret :: tG
theorem wm_good {y : MethodName} {bytes : ByteArray} {maxL : Nat} {ret : Option FieldType} (hc : Cond.code y bytes maxL ret ∈ tG) : GoodIn tG (wm y bytes maxL ret) := by
  intro w hw
  rcases List.mem_cons.mp hw with rfl | h
  · exact ⟨hc, tG_good hc⟩
  · exact ⟨h, tG_good h⟩
theorem wmV {own C : String} {idx : Nat} {y : MethodName} {bytes : ByteArray} {maxL : Nat} {ret : Option FieldType} (h1 : Cond.methodLink own idx y ∈ tG) (h2 : Cond.instanceMethod y ∈ tG) (h3 : Cond.selects C y y ∈ tG) (h4 : Cond.initialized C ∈ tG) (hc : Cond.code y bytes maxL ret ∈ tG) : GoodIn tG (wsV own idx C y (wm y bytes maxL ret)) := by
  intro w hw
  unfold wsV at hw
  rcases List.mem_append.mp hw with h | h
  · simp only [List.mem_cons, List.not_mem_nil, or_false] at h
    rcases h with rfl | rfl | rfl | rfl
    · exact ⟨h1, tG_good h1⟩
    · exact ⟨h2, tG_good h2⟩
    · exact ⟨h3, tG_good h3⟩
    · exact ⟨h4, tG_good h4⟩
  · exact wm_good hc w h
theorem wmS {own : String} {idx : Nat} {y : MethodName} {bytes : ByteArray} {maxL : Nat} {ret : Option FieldType} (h1 : Cond.methodLink own idx y ∈ tG) (h2 : Cond.static y ∈ tG) (h3 : Cond.initialized own ∈ tG) (hc : Cond.code y bytes maxL ret ∈ tG) : GoodIn tG (wsS own idx y (wm y bytes maxL ret)) := by
  intro w hw
  unfold wsS at hw
  rcases List.mem_append.mp hw with h | h
  · simp only [List.mem_cons, List.not_mem_nil, or_false] at h
    rcases h with rfl | rfl | rfl
    · exact ⟨h1, tG_good h1⟩
    · exact ⟨h2, tG_good h2⟩
    · exact ⟨h3, tG_good h3⟩
  · exact wm_good hc w h
/-- what holds inside a method -/
def Cx (p : Program) (s : State) (m : MethodId) (args : Array Value) (meth : Method) (c : Code) (D : va_G) (cl : List vw_C) (tys : List (ClassId × FieldType)) (own : String) (cc : ByteArray) (nL : Nat) (ret : Option FieldType) : Prop :=
  p.tables.exec = Jvm.exec ∧ c.code = cc ∧ c.maxLocals = nL ∧ meth.sig.returnType = ret ∧ s.vm.findClass own = some m.cls ∧ (∀ w ∈ tG, w.before args s = true) ∧ meth.locks = false ∧ va_K D cl tys s
theorem mk_met {l : Launch} {y : MethodName} {cc : ByteArray} {nL : Nat} {ret : Option FieldType} {rm : Room} {D : va_G} {cl : List vw_C} {tys : List (ClassId × FieldType)} {b N : Nat} {sh : Shp} {av : List Value} {M : Mm} {sz mc ms : Nat} {Qc : Array Value → State → Outcome → State → Prop} {free : Addr → Prop} (hy : plainName y.cls = true) (hav : (lg_sl av).length ≤ nL)
    (hblk : ∀ (p : Program) (e : Env) (s : State) (m : MethodId) (below : List Frame) (meth : Method) (c : Code) (ls : Array Slot), Cx p s m av.toArray meth c D cl tys y.cls cc nL ret → s.heap.size = sz → va_P D cl (wd b N sh M) s.heap → va_S (reg b N s.heap.size) s.heap s.heap [] → lv_has ls nL (lv_args 0 av) → W p l e rm s m av.toArray below meth c s.heap [] 0 0 (MQ below Qc av.toArray s mc ms free) (F0 m 0 ls [])) :
    Met l y (wm y cc nL ret) rm (Pw D cl tys b N sh av M sz) Qc mc ms free := by
  refine Met.ofW (cc := cc) (maxL := nL) (ret := ret) hy rfl ?_
  intro p e s m args below meth c s₁ B hml hv
  obtain ⟨rfl, hsz, hP, hK⟩ := hv
  have hts := atoms_spec (ws := wm y cc nL ret) B.pre
  rw [lg_entry_eq]
  exact hblk p e s m below meth c _ ⟨B.exec, B.bytes, hml, B.returns, findClass_of_methodNamed B.named, fun w h => hts w (List.mem_cons_of_mem _ h), B.notSynchronized, hK⟩ hsz hP va_S.rf (lv_entry av hav)
end
section
theorem d_B_init_0 : decode k_B_init 0 = .ok (.aload_n 0, 1) := by decide +kernel
theorem d_B_init_1 : decode k_B_init 1 = .ok (.invokespecial 1, 3) := by decide +kernel
theorem d_B_init_4 : decode k_B_init 4 = .ok (.aload_n 0, 1) := by decide +kernel
theorem d_B_init_5 : decode k_B_init 5 = .ok (.iload_n 1, 1) := by decide +kernel
theorem d_B_init_6 : decode k_B_init 6 = .ok (.iconst 2, 1) := by decide +kernel
theorem d_B_init_7 : decode k_B_init 7 = .ok (.invokestatic 7, 3) := by decide +kernel
theorem d_B_init_10 : decode k_B_init 10 = .ok (.putfield 13, 3) := by decide +kernel
theorem d_B_init_13 : decode k_B_init 13 = .ok (.aload_n 0, 1) := by decide +kernel
theorem d_B_init_14 : decode k_B_init 14 = .ok (.iload_n 2, 1) := by decide +kernel
theorem d_B_init_15 : decode k_B_init 15 = .ok (.iconst 4, 1) := by decide +kernel
theorem d_B_init_16 : decode k_B_init 16 = .ok (.invokestatic 7, 3) := by decide +kernel
theorem d_B_init_19 : decode k_B_init 19 = .ok (.putfield 19, 3) := by decide +kernel
theorem d_B_init_22 : decode k_B_init 22 = .ok (.aload_n 0, 1) := by decide +kernel
theorem d_B_init_23 : decode k_B_init 23 = .ok (.iconst 1, 1) := by decide +kernel
theorem d_B_init_24 : decode k_B_init 24 = .ok (.aload_n 0, 1) := by decide +kernel
theorem d_B_init_25 : decode k_B_init 25 = .ok (.getfield 19, 3) := by decide +kernel
theorem d_B_init_28 : decode k_B_init 28 = .ok (.ishl, 1) := by decide +kernel
theorem d_B_init_29 : decode k_B_init 29 = .ok (.putfield 22, 3) := by decide +kernel
theorem d_B_init_32 : decode k_B_init 32 = .ok (.aload_n 0, 1) := by decide +kernel
theorem d_B_init_33 : decode k_B_init 33 = .ok (.iload_n 3, 1) := by decide +kernel
theorem d_B_init_34 : decode k_B_init 34 = .ok (.iconst 4, 1) := by decide +kernel
theorem d_B_init_35 : decode k_B_init 35 = .ok (.invokestatic 7, 3) := by decide +kernel
theorem d_B_init_38 : decode k_B_init 38 = .ok (.putfield 25, 3) := by decide +kernel
theorem d_B_init_41 : decode k_B_init 41 = .ok (.getstatic 28, 3) := by decide +kernel
theorem d_B_init_44 : decode k_B_init 44 = .ok (.invokevirtual 32, 3) := by decide +kernel
theorem d_B_init_47 : decode k_B_init 47 = .ok (.checkcast 33, 3) := by decide +kernel
theorem d_B_init_50 : decode k_B_init 50 = .ok (.astore 4, 2) := by decide +kernel
theorem d_B_init_52 : decode k_B_init 52 = .ok (.aload_n 0, 1) := by decide +kernel
theorem d_B_init_53 : decode k_B_init 53 = .ok (.aload 4, 2) := by decide +kernel
theorem d_B_init_55 : decode k_B_init 55 = .ok (.putfield 37, 3) := by decide +kernel
theorem d_B_init_58 : decode k_B_init 58 = .ok (.iconst 1, 1) := by decide +kernel
theorem d_B_init_59 : decode k_B_init 59 = .ok (.aload_n 0, 1) := by decide +kernel
theorem d_B_init_60 : decode k_B_init 60 = .ok (.getfield 13, 3) := by decide +kernel
theorem d_B_init_63 : decode k_B_init 63 = .ok (.iadd, 1) := by decide +kernel
theorem d_B_init_64 : decode k_B_init 64 = .ok (.istore 5, 2) := by decide +kernel
theorem d_B_init_66 : decode k_B_init 66 = .ok (.aload_n 0, 1) := by decide +kernel
theorem d_B_init_67 : decode k_B_init 67 = .ok (.iload 5, 2) := by decide +kernel
theorem d_B_init_69 : decode k_B_init 69 = .ok (.anewarray 40, 3) := by decide +kernel
theorem d_B_init_72 : decode k_B_init 72 = .ok (.putfield 42, 3) := by decide +kernel
theorem d_B_init_75 : decode k_B_init 75 = .ok (.aload_n 0, 1) := by decide +kernel
theorem d_B_init_76 : decode k_B_init 76 = .ok (.iload 5, 2) := by decide +kernel
theorem d_B_init_78 : decode k_B_init 78 = .ok (.anewarray 46, 3) := by decide +kernel
theorem d_B_init_81 : decode k_B_init 81 = .ok (.putfield 48, 3) := by decide +kernel
theorem d_B_init_84 : decode k_B_init 84 = .ok (.iconst 0, 1) := by decide +kernel
theorem d_B_init_85 : decode k_B_init 85 = .ok (.istore 6, 2) := by decide +kernel
theorem d_B_init_87 : decode k_B_init 87 = .ok (.iload 6, 2) := by decide +kernel
theorem d_B_init_89 : decode k_B_init 89 = .ok (.iload 5, 2) := by decide +kernel
theorem d_B_init_91 : decode k_B_init 91 = .ok (.if_icmp .ge 49, 3) := by decide +kernel
theorem d_B_init_94 : decode k_B_init 94 = .ok (.aload_n 0, 1) := by decide +kernel
theorem d_B_init_95 : decode k_B_init 95 = .ok (.getfield 42, 3) := by decide +kernel
theorem d_B_init_98 : decode k_B_init 98 = .ok (.iload 6, 2) := by decide +kernel
theorem d_B_init_100 : decode k_B_init 100 = .ok (.new 40, 3) := by decide +kernel
theorem d_B_init_103 : decode k_B_init 103 = .ok (.dup, 1) := by decide +kernel
theorem d_B_init_104 : decode k_B_init 104 = .ok (.aload_n 0, 1) := by decide +kernel
theorem d_B_init_105 : decode k_B_init 105 = .ok (.getfield 22, 3) := by decide +kernel
theorem d_B_init_108 : decode k_B_init 108 = .ok (.aload 4, 2) := by decide +kernel
theorem d_B_init_110 : decode k_B_init 110 = .ok (.invokespecial 52, 3) := by decide +kernel
theorem d_B_init_113 : decode k_B_init 113 = .ok (.aastore, 1) := by decide +kernel
theorem d_B_init_114 : decode k_B_init 114 = .ok (.aload_n 0, 1) := by decide +kernel
theorem d_B_init_115 : decode k_B_init 115 = .ok (.getfield 48, 3) := by decide +kernel
theorem d_B_init_118 : decode k_B_init 118 = .ok (.iload 6, 2) := by decide +kernel
theorem d_B_init_120 : decode k_B_init 120 = .ok (.new 46, 3) := by decide +kernel
theorem d_B_init_123 : decode k_B_init 123 = .ok (.dup, 1) := by decide +kernel
theorem d_B_init_124 : decode k_B_init 124 = .ok (.aload_n 0, 1) := by decide +kernel
theorem d_B_init_125 : decode k_B_init 125 = .ok (.getfield 22, 3) := by decide +kernel
theorem d_B_init_128 : decode k_B_init 128 = .ok (.aload 4, 2) := by decide +kernel
theorem d_B_init_130 : decode k_B_init 130 = .ok (.invokespecial 55, 3) := by decide +kernel
theorem d_B_init_133 : decode k_B_init 133 = .ok (.aastore, 1) := by decide +kernel
theorem d_B_init_134 : decode k_B_init 134 = .ok (.iinc 6 1, 3) := by decide +kernel
theorem d_B_init_137 : decode k_B_init 137 = .ok (.goto (-50), 3) := by decide +kernel
theorem d_B_init_140 : decode k_B_init 140 = .ok (.aload_n 0, 1) := by decide +kernel
theorem d_B_init_141 : decode k_B_init 141 = .ok (.new 56, 3) := by decide +kernel
theorem d_B_init_144 : decode k_B_init 144 = .ok (.dup, 1) := by decide +kernel
theorem d_B_init_145 : decode k_B_init 145 = .ok (.invokespecial 58, 3) := by decide +kernel
theorem d_B_init_148 : decode k_B_init 148 = .ok (.putfield 59, 3) := by decide +kernel
theorem d_B_init_151 : decode k_B_init 151 = .ok (.aload_n 0, 1) := by decide +kernel
theorem d_B_init_152 : decode k_B_init 152 = .ok (.sipush 512, 3) := by decide +kernel
theorem d_B_init_155 : decode k_B_init 155 = .ok (.newarray .int, 2) := by decide +kernel
theorem d_B_init_157 : decode k_B_init 157 = .ok (.putfield 63, 3) := by decide +kernel
theorem d_B_init_160 : decode k_B_init 160 = .ok (.return_, 1) := by decide +kernel
theorem d_B_time_0 : decode k_B_time 0 = .ok (.iload_n 1, 1) := by decide +kernel
theorem d_B_time_1 : decode k_B_time 1 = .ok (.ifCond .lt 12, 3) := by decide +kernel
theorem d_B_time_4 : decode k_B_time 4 = .ok (.iload_n 1, 1) := by decide +kernel
theorem d_B_time_5 : decode k_B_time 5 = .ok (.aload_n 0, 1) := by decide +kernel
theorem d_B_time_6 : decode k_B_time 6 = .ok (.getfield 37, 3) := by decide +kernel
theorem d_B_time_9 : decode k_B_time 9 = .ok (.arraylength, 1) := by decide +kernel
theorem d_B_time_10 : decode k_B_time 10 = .ok (.if_icmp .lt 13, 3) := by decide +kernel
theorem d_B_time_13 : decode k_B_time 13 = .ok (.new 66, 3) := by decide +kernel
theorem d_B_time_16 : decode k_B_time 16 = .ok (.dup, 1) := by decide +kernel
theorem d_B_time_17 : decode k_B_time 17 = .ok (.ldc 68, 2) := by decide +kernel
theorem d_B_time_19 : decode k_B_time 19 = .ok (.invokespecial 70, 3) := by decide +kernel
theorem d_B_time_22 : decode k_B_time 22 = .ok (.athrow, 1) := by decide +kernel
theorem d_B_time_23 : decode k_B_time 23 = .ok (.iload_n 2, 1) := by decide +kernel
theorem d_B_time_24 : decode k_B_time 24 = .ok (.iconst 1, 1) := by decide +kernel
theorem d_B_time_25 : decode k_B_time 25 = .ok (.if_icmp .lt 9, 3) := by decide +kernel
theorem d_B_time_28 : decode k_B_time 28 = .ok (.iload_n 2, 1) := by decide +kernel
theorem d_B_time_29 : decode k_B_time 29 = .ok (.bipush 100, 2) := by decide +kernel
theorem d_B_time_31 : decode k_B_time 31 = .ok (.if_icmp .le 13, 3) := by decide +kernel
theorem d_B_time_34 : decode k_B_time 34 = .ok (.new 73, 3) := by decide +kernel
theorem d_B_time_37 : decode k_B_time 37 = .ok (.dup, 1) := by decide +kernel
theorem d_B_time_38 : decode k_B_time 38 = .ok (.ldc 75, 2) := by decide +kernel
theorem d_B_time_40 : decode k_B_time 40 = .ok (.invokespecial 77, 3) := by decide +kernel
theorem d_B_time_43 : decode k_B_time 43 = .ok (.athrow, 1) := by decide +kernel
theorem d_B_time_44 : decode k_B_time 44 = .ok (.aload_n 0, 1) := by decide +kernel
theorem d_B_time_45 : decode k_B_time 45 = .ok (.getfield 78, 3) := by decide +kernel
theorem d_B_time_48 : decode k_B_time 48 = .ok (.aload_n 0, 1) := by decide +kernel
theorem d_B_time_49 : decode k_B_time 49 = .ok (.getfield 81, 3) := by decide +kernel
theorem d_B_time_52 : decode k_B_time 52 = .ok (.if_icmp .lt 10, 3) := by decide +kernel
theorem d_B_time_55 : decode k_B_time 55 = .ok (.aload_n 0, 1) := by decide +kernel
theorem d_B_time_56 : decode k_B_time 56 = .ok (.invokevirtual 84, 3) := by decide +kernel
theorem d_B_time_59 : decode k_B_time 59 = .ok (.ifCond .eq 13, 3) := by decide +kernel
theorem d_B_time_62 : decode k_B_time 62 = .ok (.new 88, 3) := by decide +kernel
theorem d_B_time_65 : decode k_B_time 65 = .ok (.dup, 1) := by decide +kernel
theorem d_B_time_66 : decode k_B_time 66 = .ok (.ldc 90, 2) := by decide +kernel
theorem d_B_time_68 : decode k_B_time 68 = .ok (.invokespecial 92, 3) := by decide +kernel
theorem d_B_time_71 : decode k_B_time 71 = .ok (.athrow, 1) := by decide +kernel
theorem d_B_time_72 : decode k_B_time 72 = .ok (.aload_n 0, 1) := by decide +kernel
theorem d_B_time_73 : decode k_B_time 73 = .ok (.getfield 37, 3) := by decide +kernel
theorem d_B_time_76 : decode k_B_time 76 = .ok (.iload_n 1, 1) := by decide +kernel
theorem d_B_time_77 : decode k_B_time 77 = .ok (.iaload, 1) := by decide +kernel
theorem d_B_time_78 : decode k_B_time 78 = .ok (.istore_n 3, 1) := by decide +kernel
theorem d_B_time_79 : decode k_B_time 79 = .ok (.aload_n 0, 1) := by decide +kernel
theorem d_B_time_80 : decode k_B_time 80 = .ok (.getfield 37, 3) := by decide +kernel
theorem d_B_time_83 : decode k_B_time 83 = .ok (.iload_n 1, 1) := by decide +kernel
theorem d_B_time_84 : decode k_B_time 84 = .ok (.iload_n 2, 1) := by decide +kernel
theorem d_B_time_85 : decode k_B_time 85 = .ok (.iastore, 1) := by decide +kernel
theorem d_B_time_86 : decode k_B_time 86 = .ok (.iload_n 3, 1) := by decide +kernel
theorem d_B_time_87 : decode k_B_time 87 = .ok (.ireturn, 1) := by decide +kernel
theorem d_B_span_0 : decode k_B_span 0 = .ok (.iload_n 1, 1) := by decide +kernel
theorem d_B_span_1 : decode k_B_span 1 = .ok (.ifCond .eq 26, 3) := by decide +kernel
theorem d_B_span_4 : decode k_B_span 4 = .ok (.iload_n 1, 1) := by decide +kernel
theorem d_B_span_5 : decode k_B_span 5 = .ok (.bipush 50, 2) := by decide +kernel
theorem d_B_span_7 : decode k_B_span 7 = .ok (.if_icmp .lt 10, 3) := by decide +kernel
theorem d_B_span_10 : decode k_B_span 10 = .ok (.iload_n 1, 1) := by decide +kernel
theorem d_B_span_11 : decode k_B_span 11 = .ok (.sipush 10000, 3) := by decide +kernel
theorem d_B_span_14 : decode k_B_span 14 = .ok (.if_icmp .le 13, 3) := by decide +kernel
theorem d_B_span_17 : decode k_B_span 17 = .ok (.new 73, 3) := by decide +kernel
theorem d_B_span_20 : decode k_B_span 20 = .ok (.dup, 1) := by decide +kernel
theorem d_B_span_21 : decode k_B_span 21 = .ok (.ldc 93, 2) := by decide +kernel
theorem d_B_span_23 : decode k_B_span 23 = .ok (.invokespecial 77, 3) := by decide +kernel
theorem d_B_span_26 : decode k_B_span 26 = .ok (.athrow, 1) := by decide +kernel
theorem d_B_span_27 : decode k_B_span 27 = .ok (.aload_n 0, 1) := by decide +kernel
theorem d_B_span_28 : decode k_B_span 28 = .ok (.getfield 95, 3) := by decide +kernel
theorem d_B_span_31 : decode k_B_span 31 = .ok (.istore_n 2, 1) := by decide +kernel
theorem d_B_span_32 : decode k_B_span 32 = .ok (.aload_n 0, 1) := by decide +kernel
theorem d_B_span_33 : decode k_B_span 33 = .ok (.iload_n 1, 1) := by decide +kernel
theorem d_B_span_34 : decode k_B_span 34 = .ok (.putfield 95, 3) := by decide +kernel
theorem d_B_span_37 : decode k_B_span 37 = .ok (.iload_n 2, 1) := by decide +kernel
theorem d_B_span_38 : decode k_B_span 38 = .ok (.ireturn, 1) := by decide +kernel
theorem d_B_ask_0 : decode k_B_ask 0 = .ok (.iload_n 1, 1) := by decide +kernel
theorem d_B_ask_1 : decode k_B_ask 1 = .ok (.invokestatic 98, 3) := by decide +kernel
theorem d_B_ask_4 : decode k_B_ask 4 = .ok (.ifCond .ne 13, 3) := by decide +kernel
theorem d_B_ask_7 : decode k_B_ask 7 = .ok (.new 73, 3) := by decide +kernel
theorem d_B_ask_10 : decode k_B_ask 10 = .ok (.dup, 1) := by decide +kernel
theorem d_B_ask_11 : decode k_B_ask 11 = .ok (.ldc 102, 2) := by decide +kernel
theorem d_B_ask_13 : decode k_B_ask 13 = .ok (.invokespecial 77, 3) := by decide +kernel
theorem d_B_ask_16 : decode k_B_ask 16 = .ok (.athrow, 1) := by decide +kernel
theorem d_B_ask_17 : decode k_B_ask 17 = .ok (.aload_n 0, 1) := by decide +kernel
theorem d_B_ask_18 : decode k_B_ask 18 = .ok (.getfield 42, 3) := by decide +kernel
theorem d_B_ask_21 : decode k_B_ask 21 = .ok (.aload_n 0, 1) := by decide +kernel
theorem d_B_ask_22 : decode k_B_ask 22 = .ok (.iload_n 1, 1) := by decide +kernel
theorem d_B_ask_23 : decode k_B_ask 23 = .ok (.invokevirtual 104, 3) := by decide +kernel
theorem d_B_ask_26 : decode k_B_ask 26 = .ok (.aaload, 1) := by decide +kernel
theorem d_B_ask_27 : decode k_B_ask 27 = .ok (.getfield 108, 3) := by decide +kernel
theorem d_B_ask_30 : decode k_B_ask 30 = .ok (.astore_n 3, 1) := by decide +kernel
theorem d_B_ask_31 : decode k_B_ask 31 = .ok (.aload_n 3, 1) := by decide +kernel
theorem d_B_ask_32 : decode k_B_ask 32 = .ok (.invokevirtual 112, 3) := by decide +kernel
theorem d_B_ask_35 : decode k_B_ask 35 = .ok (.ifCond .ne 13, 3) := by decide +kernel
theorem d_B_ask_38 : decode k_B_ask 38 = .ok (.aload_n 0, 1) := by decide +kernel
theorem d_B_ask_39 : decode k_B_ask 39 = .ok (.getfield 81, 3) := by decide +kernel
theorem d_B_ask_42 : decode k_B_ask 42 = .ok (.sipush 512, 3) := by decide +kernel
theorem d_B_ask_45 : decode k_B_ask 45 = .ok (.if_icmp .lt 13, 3) := by decide +kernel
theorem d_B_ask_48 : decode k_B_ask 48 = .ok (.new 117, 3) := by decide +kernel
theorem d_B_ask_51 : decode k_B_ask 51 = .ok (.dup, 1) := by decide +kernel
theorem d_B_ask_52 : decode k_B_ask 52 = .ok (.ldc 119, 2) := by decide +kernel
theorem d_B_ask_54 : decode k_B_ask 54 = .ok (.invokespecial 121, 3) := by decide +kernel
theorem d_B_ask_57 : decode k_B_ask 57 = .ok (.athrow, 1) := by decide +kernel
theorem d_B_ask_58 : decode k_B_ask 58 = .ok (.aload_n 0, 1) := by decide +kernel
theorem d_B_ask_59 : decode k_B_ask 59 = .ok (.getfield 81, 3) := by decide +kernel
theorem d_B_ask_62 : decode k_B_ask 62 = .ok (.istore 4, 2) := by decide +kernel
theorem d_B_ask_64 : decode k_B_ask 64 = .ok (.aload_n 3, 1) := by decide +kernel
theorem d_B_ask_65 : decode k_B_ask 65 = .ok (.iload 4, 2) := by decide +kernel
theorem d_B_ask_67 : decode k_B_ask 67 = .ok (.aload_n 0, 1) := by decide +kernel
theorem d_B_ask_68 : decode k_B_ask 68 = .ok (.getfield 122, 3) := by decide +kernel
theorem d_B_ask_71 : decode k_B_ask 71 = .ok (.aload_n 0, 1) := by decide +kernel
theorem d_B_ask_72 : decode k_B_ask 72 = .ok (.iload_n 1, 1) := by decide +kernel
theorem d_B_ask_73 : decode k_B_ask 73 = .ok (.invokevirtual 125, 3) := by decide +kernel
theorem d_B_ask_76 : decode k_B_ask 76 = .ok (.aload_n 0, 1) := by decide +kernel
theorem d_B_ask_77 : decode k_B_ask 77 = .ok (.iload_n 1, 1) := by decide +kernel
theorem d_B_ask_78 : decode k_B_ask 78 = .ok (.invokevirtual 128, 3) := by decide +kernel
theorem d_B_ask_81 : decode k_B_ask 81 = .ok (.iload_n 2, 1) := by decide +kernel
theorem d_B_ask_82 : decode k_B_ask 82 = .ok (.invokevirtual 131, 3) := by decide +kernel
theorem d_B_ask_85 : decode k_B_ask 85 = .ok (.aload_n 0, 1) := by decide +kernel
theorem d_B_ask_86 : decode k_B_ask 86 = .ok (.getfield 63, 3) := by decide +kernel
theorem d_B_ask_89 : decode k_B_ask 89 = .ok (.iload 4, 2) := by decide +kernel
theorem d_B_ask_91 : decode k_B_ask 91 = .ok (.iconst (-1), 1) := by decide +kernel
theorem d_B_ask_92 : decode k_B_ask 92 = .ok (.iastore, 1) := by decide +kernel
theorem d_B_ask_93 : decode k_B_ask 93 = .ok (.aload_n 0, 1) := by decide +kernel
theorem d_B_ask_94 : decode k_B_ask 94 = .ok (.dup, 1) := by decide +kernel
theorem d_B_ask_95 : decode k_B_ask 95 = .ok (.getfield 81, 3) := by decide +kernel
theorem d_B_ask_98 : decode k_B_ask 98 = .ok (.iconst 1, 1) := by decide +kernel
theorem d_B_ask_99 : decode k_B_ask 99 = .ok (.iadd, 1) := by decide +kernel
theorem d_B_ask_100 : decode k_B_ask 100 = .ok (.putfield 81, 3) := by decide +kernel
theorem d_B_ask_103 : decode k_B_ask 103 = .ok (.iload 4, 2) := by decide +kernel
theorem d_B_ask_105 : decode k_B_ask 105 = .ok (.ireturn, 1) := by decide +kernel
theorem d_B_run_0 : decode k_B_run 0 = .ok (.iload_n 1, 1) := by decide +kernel
theorem d_B_run_1 : decode k_B_run 1 = .ok (.iconst 1, 1) := by decide +kernel
theorem d_B_run_2 : decode k_B_run 2 = .ok (.if_icmp .lt 10, 3) := by decide +kernel
theorem d_B_run_5 : decode k_B_run 5 = .ok (.iload_n 1, 1) := by decide +kernel
theorem d_B_run_6 : decode k_B_run 6 = .ok (.sipush 1000, 3) := by decide +kernel
theorem d_B_run_9 : decode k_B_run 9 = .ok (.if_icmp .le 13, 3) := by decide +kernel
theorem d_B_run_12 : decode k_B_run 12 = .ok (.new 73, 3) := by decide +kernel
theorem d_B_run_15 : decode k_B_run 15 = .ok (.dup, 1) := by decide +kernel
theorem d_B_run_16 : decode k_B_run 16 = .ok (.ldc 135, 2) := by decide +kernel
theorem d_B_run_18 : decode k_B_run 18 = .ok (.invokespecial 77, 3) := by decide +kernel
theorem d_B_run_21 : decode k_B_run 21 = .ok (.athrow, 1) := by decide +kernel
theorem d_B_run_22 : decode k_B_run 22 = .ok (.aload_n 0, 1) := by decide +kernel
theorem d_B_run_23 : decode k_B_run 23 = .ok (.getfield 78, 3) := by decide +kernel
theorem d_B_run_26 : decode k_B_run 26 = .ok (.istore_n 2, 1) := by decide +kernel
theorem d_B_run_27 : decode k_B_run 27 = .ok (.iconst 0, 1) := by decide +kernel
theorem d_B_run_28 : decode k_B_run 28 = .ok (.istore_n 3, 1) := by decide +kernel
theorem d_B_run_29 : decode k_B_run 29 = .ok (.iload_n 3, 1) := by decide +kernel
theorem d_B_run_30 : decode k_B_run 30 = .ok (.iload_n 1, 1) := by decide +kernel
theorem d_B_run_31 : decode k_B_run 31 = .ok (.if_icmp .ge 13, 3) := by decide +kernel
theorem d_B_run_34 : decode k_B_run 34 = .ok (.aload_n 0, 1) := by decide +kernel
theorem d_B_run_35 : decode k_B_run 35 = .ok (.invokevirtual 137, 3) := by decide +kernel
theorem d_B_run_38 : decode k_B_run 38 = .ok (.iinc 3 1, 3) := by decide +kernel
theorem d_B_run_41 : decode k_B_run 41 = .ok (.goto (-12), 3) := by decide +kernel
theorem d_B_run_44 : decode k_B_run 44 = .ok (.aload_n 0, 1) := by decide +kernel
theorem d_B_run_45 : decode k_B_run 45 = .ok (.getfield 78, 3) := by decide +kernel
theorem d_B_run_48 : decode k_B_run 48 = .ok (.iload_n 2, 1) := by decide +kernel
theorem d_B_run_49 : decode k_B_run 49 = .ok (.isub, 1) := by decide +kernel
theorem d_B_run_50 : decode k_B_run 50 = .ok (.ireturn, 1) := by decide +kernel
theorem d_B_done_0 : decode k_B_done 0 = .ok (.iload_n 1, 1) := by decide +kernel
theorem d_B_done_1 : decode k_B_done 1 = .ok (.ifCond .lt 11, 3) := by decide +kernel
theorem d_B_done_4 : decode k_B_done 4 = .ok (.iload_n 1, 1) := by decide +kernel
theorem d_B_done_5 : decode k_B_done 5 = .ok (.aload_n 0, 1) := by decide +kernel
theorem d_B_done_6 : decode k_B_done 6 = .ok (.getfield 81, 3) := by decide +kernel
theorem d_B_done_9 : decode k_B_done 9 = .ok (.if_icmp .lt 13, 3) := by decide +kernel
theorem d_B_done_12 : decode k_B_done 12 = .ok (.new 66, 3) := by decide +kernel
theorem d_B_done_15 : decode k_B_done 15 = .ok (.dup, 1) := by decide +kernel
theorem d_B_done_16 : decode k_B_done 16 = .ok (.ldc 140, 2) := by decide +kernel
theorem d_B_done_18 : decode k_B_done 18 = .ok (.invokespecial 70, 3) := by decide +kernel
theorem d_B_done_21 : decode k_B_done 21 = .ok (.athrow, 1) := by decide +kernel
theorem d_B_done_22 : decode k_B_done 22 = .ok (.aload_n 0, 1) := by decide +kernel
theorem d_B_done_23 : decode k_B_done 23 = .ok (.getfield 63, 3) := by decide +kernel
theorem d_B_done_26 : decode k_B_done 26 = .ok (.iload_n 1, 1) := by decide +kernel
theorem d_B_done_27 : decode k_B_done 27 = .ok (.iaload, 1) := by decide +kernel
theorem d_B_done_28 : decode k_B_done 28 = .ok (.ireturn, 1) := by decide +kernel
theorem d_B_command_0 : decode k_B_command 0 = .ok (.iload_n 1, 1) := by decide +kernel
theorem d_B_command_1 : decode k_B_command 1 = .ok (.ifCond .lt 23, 3) := by decide +kernel
theorem d_B_command_4 : decode k_B_command 4 = .ok (.iload_n 1, 1) := by decide +kernel
theorem d_B_command_5 : decode k_B_command 5 = .ok (.aload_n 0, 1) := by decide +kernel
theorem d_B_command_6 : decode k_B_command 6 = .ok (.getfield 59, 3) := by decide +kernel
theorem d_B_command_9 : decode k_B_command 9 = .ok (.getfield 142, 3) := by decide +kernel
theorem d_B_command_12 : decode k_B_command 12 = .ok (.if_icmp .ge 12, 3) := by decide +kernel
theorem d_B_command_15 : decode k_B_command 15 = .ok (.iload_n 2, 1) := by decide +kernel
theorem d_B_command_16 : decode k_B_command 16 = .ok (.ifCond .lt 8, 3) := by decide +kernel
theorem d_B_command_19 : decode k_B_command 19 = .ok (.iload_n 2, 1) := by decide +kernel
theorem d_B_command_20 : decode k_B_command 20 = .ok (.iconst 5, 1) := by decide +kernel
theorem d_B_command_21 : decode k_B_command 21 = .ok (.if_icmp .lt 13, 3) := by decide +kernel
theorem d_B_command_24 : decode k_B_command 24 = .ok (.new 66, 3) := by decide +kernel
theorem d_B_command_27 : decode k_B_command 27 = .ok (.dup, 1) := by decide +kernel
theorem d_B_command_28 : decode k_B_command 28 = .ok (.ldc 145, 2) := by decide +kernel
theorem d_B_command_30 : decode k_B_command 30 = .ok (.invokespecial 70, 3) := by decide +kernel
theorem d_B_command_33 : decode k_B_command 33 = .ok (.athrow, 1) := by decide +kernel
theorem d_B_command_34 : decode k_B_command 34 = .ok (.aload_n 0, 1) := by decide +kernel
theorem d_B_command_35 : decode k_B_command 35 = .ok (.getfield 59, 3) := by decide +kernel
theorem d_B_command_38 : decode k_B_command 38 = .ok (.iload_n 1, 1) := by decide +kernel
theorem d_B_command_39 : decode k_B_command 39 = .ok (.iload_n 2, 1) := by decide +kernel
theorem d_B_command_40 : decode k_B_command 40 = .ok (.invokevirtual 147, 3) := by decide +kernel
theorem d_B_command_43 : decode k_B_command 43 = .ok (.ireturn, 1) := by decide +kernel
theorem d_B_open_0 : decode k_B_open 0 = .ok (.iload_n 1, 1) := by decide +kernel
theorem d_B_open_1 : decode k_B_open 1 = .ok (.ifCond .lt 24, 3) := by decide +kernel
theorem d_B_open_4 : decode k_B_open 4 = .ok (.iload_n 1, 1) := by decide +kernel
theorem d_B_open_5 : decode k_B_open 5 = .ok (.aload_n 0, 1) := by decide +kernel
theorem d_B_open_6 : decode k_B_open 6 = .ok (.getfield 42, 3) := by decide +kernel
theorem d_B_open_9 : decode k_B_open 9 = .ok (.arraylength, 1) := by decide +kernel
theorem d_B_open_10 : decode k_B_open 10 = .ok (.if_icmp .ge 15, 3) := by decide +kernel
theorem d_B_open_13 : decode k_B_open 13 = .ok (.iload_n 2, 1) := by decide +kernel
theorem d_B_open_14 : decode k_B_open 14 = .ok (.ifCond .lt 11, 3) := by decide +kernel
theorem d_B_open_17 : decode k_B_open 17 = .ok (.iload_n 2, 1) := by decide +kernel
theorem d_B_open_18 : decode k_B_open 18 = .ok (.aload_n 0, 1) := by decide +kernel
theorem d_B_open_19 : decode k_B_open 19 = .ok (.getfield 22, 3) := by decide +kernel
theorem d_B_open_22 : decode k_B_open 22 = .ok (.if_icmp .lt 13, 3) := by decide +kernel
theorem d_B_open_25 : decode k_B_open 25 = .ok (.new 66, 3) := by decide +kernel
theorem d_B_open_28 : decode k_B_open 28 = .ok (.dup, 1) := by decide +kernel
theorem d_B_open_29 : decode k_B_open 29 = .ok (.ldc 150, 2) := by decide +kernel
theorem d_B_open_31 : decode k_B_open 31 = .ok (.invokespecial 70, 3) := by decide +kernel
theorem d_B_open_34 : decode k_B_open 34 = .ok (.athrow, 1) := by decide +kernel
theorem d_B_open_35 : decode k_B_open 35 = .ok (.aload_n 0, 1) := by decide +kernel
theorem d_B_open_36 : decode k_B_open 36 = .ok (.getfield 42, 3) := by decide +kernel
theorem d_B_open_39 : decode k_B_open 39 = .ok (.iload_n 1, 1) := by decide +kernel
theorem d_B_open_40 : decode k_B_open 40 = .ok (.aaload, 1) := by decide +kernel
theorem d_B_open_41 : decode k_B_open 41 = .ok (.getfield 152, 3) := by decide +kernel
theorem d_B_open_44 : decode k_B_open 44 = .ok (.getfield 156, 3) := by decide +kernel
theorem d_B_open_47 : decode k_B_open 47 = .ok (.iload_n 2, 1) := by decide +kernel
theorem d_B_open_48 : decode k_B_open 48 = .ok (.iaload, 1) := by decide +kernel
theorem d_B_open_49 : decode k_B_open 49 = .ok (.ireturn, 1) := by decide +kernel
theorem d_B_part_0 : decode k_B_part 0 = .ok (.iload_n 1, 1) := by decide +kernel
theorem d_B_part_1 : decode k_B_part 1 = .ok (.invokestatic 98, 3) := by decide +kernel
theorem d_B_part_4 : decode k_B_part 4 = .ok (.ifCond .ne 13, 3) := by decide +kernel
theorem d_B_part_7 : decode k_B_part 7 = .ok (.new 73, 3) := by decide +kernel
theorem d_B_part_10 : decode k_B_part 10 = .ok (.dup, 1) := by decide +kernel
theorem d_B_part_11 : decode k_B_part 11 = .ok (.ldc 102, 2) := by decide +kernel
theorem d_B_part_13 : decode k_B_part 13 = .ok (.invokespecial 77, 3) := by decide +kernel
theorem d_B_part_16 : decode k_B_part 16 = .ok (.athrow, 1) := by decide +kernel
theorem d_B_part_17 : decode k_B_part 17 = .ok (.iload_n 2, 1) := by decide +kernel
theorem d_B_part_18 : decode k_B_part 18 = .ok (.tableswitch 53 0 3 #[30, 36, 42, 48], 30) := by decide +kernel
theorem d_B_part_48 : decode k_B_part 48 = .ok (.aload_n 0, 1) := by decide +kernel
theorem d_B_part_49 : decode k_B_part 49 = .ok (.iload_n 1, 1) := by decide +kernel
theorem d_B_part_50 : decode k_B_part 50 = .ok (.invokevirtual 104, 3) := by decide +kernel
theorem d_B_part_53 : decode k_B_part 53 = .ok (.ireturn, 1) := by decide +kernel
theorem d_B_part_54 : decode k_B_part 54 = .ok (.aload_n 0, 1) := by decide +kernel
theorem d_B_part_55 : decode k_B_part 55 = .ok (.iload_n 1, 1) := by decide +kernel
theorem d_B_part_56 : decode k_B_part 56 = .ok (.invokevirtual 125, 3) := by decide +kernel
theorem d_B_part_59 : decode k_B_part 59 = .ok (.ireturn, 1) := by decide +kernel
theorem d_B_part_60 : decode k_B_part 60 = .ok (.aload_n 0, 1) := by decide +kernel
theorem d_B_part_61 : decode k_B_part 61 = .ok (.iload_n 1, 1) := by decide +kernel
theorem d_B_part_62 : decode k_B_part 62 = .ok (.invokevirtual 128, 3) := by decide +kernel
theorem d_B_part_65 : decode k_B_part 65 = .ok (.ireturn, 1) := by decide +kernel
theorem d_B_part_66 : decode k_B_part 66 = .ok (.iload_n 1, 1) := by decide +kernel
theorem d_B_part_67 : decode k_B_part 67 = .ok (.bipush 15, 2) := by decide +kernel
theorem d_B_part_69 : decode k_B_part 69 = .ok (.iand, 1) := by decide +kernel
theorem d_B_part_70 : decode k_B_part 70 = .ok (.ireturn, 1) := by decide +kernel
theorem d_B_part_71 : decode k_B_part 71 = .ok (.new 73, 3) := by decide +kernel
theorem d_B_part_74 : decode k_B_part 74 = .ok (.dup, 1) := by decide +kernel
theorem d_B_part_75 : decode k_B_part 75 = .ok (.ldc 159, 2) := by decide +kernel
theorem d_B_part_77 : decode k_B_part 77 = .ok (.invokespecial 77, 3) := by decide +kernel
theorem d_B_part_80 : decode k_B_part 80 = .ok (.athrow, 1) := by decide +kernel
theorem d_B_begin_0 : decode k_B_begin 0 = .ok (.iconst 0, 1) := by decide +kernel
theorem d_B_begin_1 : decode k_B_begin 1 = .ok (.istore_n 1, 1) := by decide +kernel
theorem d_B_begin_2 : decode k_B_begin 2 = .ok (.iload_n 1, 1) := by decide +kernel
theorem d_B_begin_3 : decode k_B_begin 3 = .ok (.aload_n 0, 1) := by decide +kernel
theorem d_B_begin_4 : decode k_B_begin 4 = .ok (.getfield 48, 3) := by decide +kernel
theorem d_B_begin_7 : decode k_B_begin 7 = .ok (.arraylength, 1) := by decide +kernel
theorem d_B_begin_8 : decode k_B_begin 8 = .ok (.if_icmp .ge 18, 3) := by decide +kernel
theorem d_B_begin_11 : decode k_B_begin 11 = .ok (.aload_n 0, 1) := by decide +kernel
theorem d_B_begin_12 : decode k_B_begin 12 = .ok (.getfield 48, 3) := by decide +kernel
theorem d_B_begin_15 : decode k_B_begin 15 = .ok (.iload_n 1, 1) := by decide +kernel
theorem d_B_begin_16 : decode k_B_begin 16 = .ok (.aaload, 1) := by decide +kernel
theorem d_B_begin_17 : decode k_B_begin 17 = .ok (.invokevirtual 161, 3) := by decide +kernel
theorem d_B_begin_20 : decode k_B_begin 20 = .ok (.iinc 1 1, 3) := by decide +kernel
theorem d_B_begin_23 : decode k_B_begin 23 = .ok (.goto (-21), 3) := by decide +kernel
theorem d_B_begin_26 : decode k_B_begin 26 = .ok (.return_, 1) := by decide +kernel
theorem d_B_check_0 : decode k_B_check 0 = .ok (.iload_n 1, 1) := by decide +kernel
theorem d_B_check_1 : decode k_B_check 1 = .ok (.ifCond .lt 21, 3) := by decide +kernel
theorem d_B_check_4 : decode k_B_check 4 = .ok (.iload_n 1, 1) := by decide +kernel
theorem d_B_check_5 : decode k_B_check 5 = .ok (.aload_n 0, 1) := by decide +kernel
theorem d_B_check_6 : decode k_B_check 6 = .ok (.getfield 48, 3) := by decide +kernel
theorem d_B_check_9 : decode k_B_check 9 = .ok (.arraylength, 1) := by decide +kernel
theorem d_B_check_10 : decode k_B_check 10 = .ok (.if_icmp .ge 12, 3) := by decide +kernel
theorem d_B_check_13 : decode k_B_check 13 = .ok (.iload_n 3, 1) := by decide +kernel
theorem d_B_check_14 : decode k_B_check 14 = .ok (.ifCond .lt 8, 3) := by decide +kernel
theorem d_B_check_17 : decode k_B_check 17 = .ok (.iload_n 3, 1) := by decide +kernel
theorem d_B_check_18 : decode k_B_check 18 = .ok (.iconst 5, 1) := by decide +kernel
theorem d_B_check_19 : decode k_B_check 19 = .ok (.if_icmp .lt 13, 3) := by decide +kernel
theorem d_B_check_22 : decode k_B_check 22 = .ok (.new 73, 3) := by decide +kernel
theorem d_B_check_25 : decode k_B_check 25 = .ok (.dup, 1) := by decide +kernel
theorem d_B_check_26 : decode k_B_check 26 = .ok (.ldc 164, 2) := by decide +kernel
theorem d_B_check_28 : decode k_B_check 28 = .ok (.invokespecial 77, 3) := by decide +kernel
theorem d_B_check_31 : decode k_B_check 31 = .ok (.athrow, 1) := by decide +kernel
theorem d_B_check_32 : decode k_B_check 32 = .ok (.iload 4, 2) := by decide +kernel
theorem d_B_check_34 : decode k_B_check 34 = .ok (.ifCond .lt 28, 3) := by decide +kernel
theorem d_B_check_37 : decode k_B_check 37 = .ok (.iload 4, 2) := by decide +kernel
theorem d_B_check_39 : decode k_B_check 39 = .ok (.aload_n 0, 1) := by decide +kernel
theorem d_B_check_40 : decode k_B_check 40 = .ok (.getfield 22, 3) := by decide +kernel
theorem d_B_check_43 : decode k_B_check 43 = .ok (.if_icmp .ge 19, 3) := by decide +kernel
theorem d_B_check_46 : decode k_B_check 46 = .ok (.iload_n 2, 1) := by decide +kernel
theorem d_B_check_47 : decode k_B_check 47 = .ok (.ifCond .lt 15, 3) := by decide +kernel
theorem d_B_check_50 : decode k_B_check 50 = .ok (.iload 5, 2) := by decide +kernel
theorem d_B_check_52 : decode k_B_check 52 = .ok (.ifCond .lt 10, 3) := by decide +kernel
theorem d_B_check_55 : decode k_B_check 55 = .ok (.iload 5, 2) := by decide +kernel
theorem d_B_check_57 : decode k_B_check 57 = .ok (.ldc 166, 2) := by decide +kernel
theorem d_B_check_59 : decode k_B_check 59 = .ok (.if_icmp .le 13, 3) := by decide +kernel
theorem d_B_check_62 : decode k_B_check 62 = .ok (.new 73, 3) := by decide +kernel
theorem d_B_check_65 : decode k_B_check 65 = .ok (.dup, 1) := by decide +kernel
theorem d_B_check_66 : decode k_B_check 66 = .ok (.ldc 167, 2) := by decide +kernel
theorem d_B_check_68 : decode k_B_check 68 = .ok (.invokespecial 77, 3) := by decide +kernel
theorem d_B_check_71 : decode k_B_check 71 = .ok (.athrow, 1) := by decide +kernel
theorem d_B_check_72 : decode k_B_check 72 = .ok (.iload_n 3, 1) := by decide +kernel
theorem d_B_check_73 : decode k_B_check 73 = .ok (.iconst 4, 1) := by decide +kernel
theorem d_B_check_74 : decode k_B_check 74 = .ok (.if_icmp .ne 23, 3) := by decide +kernel
theorem d_B_check_77 : decode k_B_check 77 = .ok (.iload 4, 2) := by decide +kernel
theorem d_B_check_79 : decode k_B_check 79 = .ok (.ifCond .ne 8, 3) := by decide +kernel
theorem d_B_check_82 : decode k_B_check 82 = .ok (.iload 5, 2) := by decide +kernel
theorem d_B_check_84 : decode k_B_check 84 = .ok (.ifCond .eq 13, 3) := by decide +kernel
theorem d_B_check_87 : decode k_B_check 87 = .ok (.new 73, 3) := by decide +kernel
theorem d_B_check_90 : decode k_B_check 90 = .ok (.dup, 1) := by decide +kernel
theorem d_B_check_91 : decode k_B_check 91 = .ok (.ldc 169, 2) := by decide +kernel
theorem d_B_check_93 : decode k_B_check 93 = .ok (.invokespecial 77, 3) := by decide +kernel
theorem d_B_check_96 : decode k_B_check 96 = .ok (.athrow, 1) := by decide +kernel
theorem d_B_check_97 : decode k_B_check 97 = .ok (.aload_n 0, 1) := by decide +kernel
theorem d_B_check_98 : decode k_B_check 98 = .ok (.getfield 48, 3) := by decide +kernel
theorem d_B_check_101 : decode k_B_check 101 = .ok (.iload_n 1, 1) := by decide +kernel
theorem d_B_check_102 : decode k_B_check 102 = .ok (.aaload, 1) := by decide +kernel
theorem d_B_check_103 : decode k_B_check 103 = .ok (.astore 6, 2) := by decide +kernel
theorem d_B_check_105 : decode k_B_check 105 = .ok (.aload 6, 2) := by decide +kernel
theorem d_B_check_107 : decode k_B_check 107 = .ok (.iload_n 2, 1) := by decide +kernel
theorem d_B_check_108 : decode k_B_check 108 = .ok (.iload_n 3, 1) := by decide +kernel
theorem d_B_check_109 : decode k_B_check 109 = .ok (.iload 4, 2) := by decide +kernel
theorem d_B_check_111 : decode k_B_check 111 = .ok (.iload 5, 2) := by decide +kernel
theorem d_B_check_113 : decode k_B_check 113 = .ok (.invokevirtual 171, 3) := by decide +kernel
theorem d_B_check_116 : decode k_B_check 116 = .ok (.istore 7, 2) := by decide +kernel
theorem d_B_check_118 : decode k_B_check 118 = .ok (.iload 7, 2) := by decide +kernel
theorem d_B_check_120 : decode k_B_check 120 = .ok (.ifCond .ne 14, 3) := by decide +kernel
theorem d_B_check_123 : decode k_B_check 123 = .ok (.aload 6, 2) := by decide +kernel
theorem d_B_check_125 : decode k_B_check 125 = .ok (.iload_n 2, 1) := by decide +kernel
theorem d_B_check_126 : decode k_B_check 126 = .ok (.iload_n 3, 1) := by decide +kernel
theorem d_B_check_127 : decode k_B_check 127 = .ok (.iload 4, 2) := by decide +kernel
theorem d_B_check_129 : decode k_B_check 129 = .ok (.iload 5, 2) := by decide +kernel
theorem d_B_check_131 : decode k_B_check 131 = .ok (.invokevirtual 175, 3) := by decide +kernel
theorem d_B_check_134 : decode k_B_check 134 = .ok (.iload 7, 2) := by decide +kernel
theorem d_B_check_136 : decode k_B_check 136 = .ok (.ireturn, 1) := by decide +kernel
theorem d_B_count_0 : decode k_B_count 0 = .ok (.iload_n 1, 1) := by decide +kernel
theorem d_B_count_1 : decode k_B_count 1 = .ok (.iconst 4, 1) := by decide +kernel
theorem d_B_count_2 : decode k_B_count 2 = .ok (.if_icmp .lt 21, 3) := by decide +kernel
theorem d_B_count_5 : decode k_B_count 5 = .ok (.iload_n 1, 1) := by decide +kernel
theorem d_B_count_6 : decode k_B_count 6 = .ok (.bipush 9, 2) := by decide +kernel
theorem d_B_count_8 : decode k_B_count 8 = .ok (.if_icmp .ge 15, 3) := by decide +kernel
theorem d_B_count_11 : decode k_B_count 11 = .ok (.aload_n 0, 1) := by decide +kernel
theorem d_B_count_12 : decode k_B_count 12 = .ok (.getfield 59, 3) := by decide +kernel
theorem d_B_count_15 : decode k_B_count 15 = .ok (.getfield 179, 3) := by decide +kernel
theorem d_B_count_18 : decode k_B_count 18 = .ok (.iload_n 1, 1) := by decide +kernel
theorem d_B_count_19 : decode k_B_count 19 = .ok (.iconst 4, 1) := by decide +kernel
theorem d_B_count_20 : decode k_B_count 20 = .ok (.isub, 1) := by decide +kernel
theorem d_B_count_21 : decode k_B_count 21 = .ok (.iaload, 1) := by decide +kernel
theorem d_B_count_22 : decode k_B_count 22 = .ok (.ireturn, 1) := by decide +kernel
theorem d_B_count_23 : decode k_B_count 23 = .ok (.iload_n 1, 1) := by decide +kernel
theorem d_B_count_24 : decode k_B_count 24 = .ok (.tableswitch 126 0 13 #[72, 77, 82, 87, 126, 126, 126, 126, 126, 95, 100, 110, 115, 121], 72) := by decide +kernel
theorem d_B_count_96 : decode k_B_count 96 = .ok (.aload_n 0, 1) := by decide +kernel
theorem d_B_count_97 : decode k_B_count 97 = .ok (.getfield 122, 3) := by decide +kernel
theorem d_B_count_100 : decode k_B_count 100 = .ok (.ireturn, 1) := by decide +kernel
theorem d_B_count_101 : decode k_B_count 101 = .ok (.aload_n 0, 1) := by decide +kernel
theorem d_B_count_102 : decode k_B_count 102 = .ok (.getfield 81, 3) := by decide +kernel
theorem d_B_count_105 : decode k_B_count 105 = .ok (.ireturn, 1) := by decide +kernel
theorem d_B_count_106 : decode k_B_count 106 = .ok (.aload_n 0, 1) := by decide +kernel
theorem d_B_count_107 : decode k_B_count 107 = .ok (.getfield 78, 3) := by decide +kernel
theorem d_B_count_110 : decode k_B_count 110 = .ok (.ireturn, 1) := by decide +kernel
theorem d_B_count_111 : decode k_B_count 111 = .ok (.aload_n 0, 1) := by decide +kernel
theorem d_B_count_112 : decode k_B_count 112 = .ok (.getfield 59, 3) := by decide +kernel
theorem d_B_count_115 : decode k_B_count 115 = .ok (.getfield 182, 3) := by decide +kernel
theorem d_B_count_118 : decode k_B_count 118 = .ok (.ireturn, 1) := by decide +kernel
theorem d_B_count_119 : decode k_B_count 119 = .ok (.aload_n 0, 1) := by decide +kernel
theorem d_B_count_120 : decode k_B_count 120 = .ok (.invokevirtual 185, 3) := by decide +kernel
theorem d_B_count_123 : decode k_B_count 123 = .ok (.ireturn, 1) := by decide +kernel
theorem d_B_count_124 : decode k_B_count 124 = .ok (.aload_n 0, 1) := by decide +kernel
theorem d_B_count_125 : decode k_B_count 125 = .ok (.getfield 81, 3) := by decide +kernel
theorem d_B_count_128 : decode k_B_count 128 = .ok (.aload_n 0, 1) := by decide +kernel
theorem d_B_count_129 : decode k_B_count 129 = .ok (.getfield 78, 3) := by decide +kernel
theorem d_B_count_132 : decode k_B_count 132 = .ok (.isub, 1) := by decide +kernel
theorem d_B_count_133 : decode k_B_count 133 = .ok (.ireturn, 1) := by decide +kernel
theorem d_B_count_134 : decode k_B_count 134 = .ok (.aload_n 0, 1) := by decide +kernel
theorem d_B_count_135 : decode k_B_count 135 = .ok (.getfield 189, 3) := by decide +kernel
theorem d_B_count_138 : decode k_B_count 138 = .ok (.ireturn, 1) := by decide +kernel
theorem d_B_count_139 : decode k_B_count 139 = .ok (.aload_n 0, 1) := by decide +kernel
theorem d_B_count_140 : decode k_B_count 140 = .ok (.getfield 42, 3) := by decide +kernel
theorem d_B_count_143 : decode k_B_count 143 = .ok (.arraylength, 1) := by decide +kernel
theorem d_B_count_144 : decode k_B_count 144 = .ok (.ireturn, 1) := by decide +kernel
theorem d_B_count_145 : decode k_B_count 145 = .ok (.aload_n 0, 1) := by decide +kernel
theorem d_B_count_146 : decode k_B_count 146 = .ok (.getfield 22, 3) := by decide +kernel
theorem d_B_count_149 : decode k_B_count 149 = .ok (.ireturn, 1) := by decide +kernel
theorem d_B_count_150 : decode k_B_count 150 = .ok (.iconst (-1), 1) := by decide +kernel
theorem d_B_count_151 : decode k_B_count 151 = .ok (.ireturn, 1) := by decide +kernel
theorem d_B_isAddress_0 : decode k_B_isAddress 0 = .ok (.iload_n 0, 1) := by decide +kernel
theorem d_B_isAddress_1 : decode k_B_isAddress 1 = .ok (.ifCond .lt 13, 3) := by decide +kernel
theorem d_B_isAddress_4 : decode k_B_isAddress 4 = .ok (.iload_n 0, 1) := by decide +kernel
theorem d_B_isAddress_5 : decode k_B_isAddress 5 = .ok (.ldc 192, 2) := by decide +kernel
theorem d_B_isAddress_7 : decode k_B_isAddress 7 = .ok (.if_icmp .gt 7, 3) := by decide +kernel
theorem d_B_isAddress_10 : decode k_B_isAddress 10 = .ok (.iconst 1, 1) := by decide +kernel
theorem d_B_isAddress_11 : decode k_B_isAddress 11 = .ok (.goto 4, 3) := by decide +kernel
theorem d_B_isAddress_14 : decode k_B_isAddress 14 = .ok (.iconst 0, 1) := by decide +kernel
theorem d_B_isAddress_15 : decode k_B_isAddress 15 = .ok (.ireturn, 1) := by decide +kernel
theorem d_B_channelOf_0 : decode k_B_channelOf 0 = .ok (.iload_n 1, 1) := by decide +kernel
theorem d_B_channelOf_1 : decode k_B_channelOf 1 = .ok (.iconst 4, 1) := by decide +kernel
theorem d_B_channelOf_2 : decode k_B_channelOf 2 = .ok (.ishr, 1) := by decide +kernel
theorem d_B_channelOf_3 : decode k_B_channelOf 3 = .ok (.aload_n 0, 1) := by decide +kernel
theorem d_B_channelOf_4 : decode k_B_channelOf 4 = .ok (.getfield 42, 3) := by decide +kernel
theorem d_B_channelOf_7 : decode k_B_channelOf 7 = .ok (.arraylength, 1) := by decide +kernel
theorem d_B_channelOf_8 : decode k_B_channelOf 8 = .ok (.iconst 1, 1) := by decide +kernel
theorem d_B_channelOf_9 : decode k_B_channelOf 9 = .ok (.isub, 1) := by decide +kernel
theorem d_B_channelOf_10 : decode k_B_channelOf 10 = .ok (.iand, 1) := by decide +kernel
theorem d_B_channelOf_11 : decode k_B_channelOf 11 = .ok (.ireturn, 1) := by decide +kernel
theorem d_B_bankOf_0 : decode k_B_bankOf 0 = .ok (.iload_n 1, 1) := by decide +kernel
theorem d_B_bankOf_1 : decode k_B_bankOf 1 = .ok (.iconst 4, 1) := by decide +kernel
theorem d_B_bankOf_2 : decode k_B_bankOf 2 = .ok (.aload_n 0, 1) := by decide +kernel
theorem d_B_bankOf_3 : decode k_B_bankOf 3 = .ok (.getfield 13, 3) := by decide +kernel
theorem d_B_bankOf_6 : decode k_B_bankOf 6 = .ok (.iadd, 1) := by decide +kernel
theorem d_B_bankOf_7 : decode k_B_bankOf 7 = .ok (.ishr, 1) := by decide +kernel
theorem d_B_bankOf_8 : decode k_B_bankOf 8 = .ok (.aload_n 0, 1) := by decide +kernel
theorem d_B_bankOf_9 : decode k_B_bankOf 9 = .ok (.getfield 22, 3) := by decide +kernel
theorem d_B_bankOf_12 : decode k_B_bankOf 12 = .ok (.iconst 1, 1) := by decide +kernel
theorem d_B_bankOf_13 : decode k_B_bankOf 13 = .ok (.isub, 1) := by decide +kernel
theorem d_B_bankOf_14 : decode k_B_bankOf 14 = .ok (.iand, 1) := by decide +kernel
theorem d_B_bankOf_15 : decode k_B_bankOf 15 = .ok (.ireturn, 1) := by decide +kernel
theorem d_B_rowOf_0 : decode k_B_rowOf 0 = .ok (.iload_n 1, 1) := by decide +kernel
theorem d_B_rowOf_1 : decode k_B_rowOf 1 = .ok (.iconst 4, 1) := by decide +kernel
theorem d_B_rowOf_2 : decode k_B_rowOf 2 = .ok (.aload_n 0, 1) := by decide +kernel
theorem d_B_rowOf_3 : decode k_B_rowOf 3 = .ok (.getfield 13, 3) := by decide +kernel
theorem d_B_rowOf_6 : decode k_B_rowOf 6 = .ok (.iadd, 1) := by decide +kernel
theorem d_B_rowOf_7 : decode k_B_rowOf 7 = .ok (.aload_n 0, 1) := by decide +kernel
theorem d_B_rowOf_8 : decode k_B_rowOf 8 = .ok (.getfield 19, 3) := by decide +kernel
theorem d_B_rowOf_11 : decode k_B_rowOf 11 = .ok (.iadd, 1) := by decide +kernel
theorem d_B_rowOf_12 : decode k_B_rowOf 12 = .ok (.ishr, 1) := by decide +kernel
theorem d_B_rowOf_13 : decode k_B_rowOf 13 = .ok (.ireturn, 1) := by decide +kernel
theorem d_B_anyRowOpen_0 : decode k_B_anyRowOpen 0 = .ok (.iconst 0, 1) := by decide +kernel
theorem d_B_anyRowOpen_1 : decode k_B_anyRowOpen 1 = .ok (.istore_n 1, 1) := by decide +kernel
theorem d_B_anyRowOpen_2 : decode k_B_anyRowOpen 2 = .ok (.iload_n 1, 1) := by decide +kernel
theorem d_B_anyRowOpen_3 : decode k_B_anyRowOpen 3 = .ok (.aload_n 0, 1) := by decide +kernel
theorem d_B_anyRowOpen_4 : decode k_B_anyRowOpen 4 = .ok (.getfield 42, 3) := by decide +kernel
theorem d_B_anyRowOpen_7 : decode k_B_anyRowOpen 7 = .ok (.arraylength, 1) := by decide +kernel
theorem d_B_anyRowOpen_8 : decode k_B_anyRowOpen 8 = .ok (.if_icmp .ge 26, 3) := by decide +kernel
theorem d_B_anyRowOpen_11 : decode k_B_anyRowOpen 11 = .ok (.aload_n 0, 1) := by decide +kernel
theorem d_B_anyRowOpen_12 : decode k_B_anyRowOpen 12 = .ok (.getfield 42, 3) := by decide +kernel
theorem d_B_anyRowOpen_15 : decode k_B_anyRowOpen 15 = .ok (.iload_n 1, 1) := by decide +kernel
theorem d_B_anyRowOpen_16 : decode k_B_anyRowOpen 16 = .ok (.aaload, 1) := by decide +kernel
theorem d_B_anyRowOpen_17 : decode k_B_anyRowOpen 17 = .ok (.getfield 152, 3) := by decide +kernel
theorem d_B_anyRowOpen_20 : decode k_B_anyRowOpen 20 = .ok (.invokevirtual 193, 3) := by decide +kernel
theorem d_B_anyRowOpen_23 : decode k_B_anyRowOpen 23 = .ok (.ifCond .eq 5, 3) := by decide +kernel
theorem d_B_anyRowOpen_26 : decode k_B_anyRowOpen 26 = .ok (.iconst 1, 1) := by decide +kernel
theorem d_B_anyRowOpen_27 : decode k_B_anyRowOpen 27 = .ok (.ireturn, 1) := by decide +kernel
theorem d_B_anyRowOpen_28 : decode k_B_anyRowOpen 28 = .ok (.iinc 1 1, 3) := by decide +kernel
theorem d_B_anyRowOpen_31 : decode k_B_anyRowOpen 31 = .ok (.goto (-29), 3) := by decide +kernel
theorem d_B_anyRowOpen_34 : decode k_B_anyRowOpen 34 = .ok (.iconst 0, 1) := by decide +kernel
theorem d_B_anyRowOpen_35 : decode k_B_anyRowOpen 35 = .ok (.ireturn, 1) := by decide +kernel
theorem d_B_dueRefreshes_0 : decode k_B_dueRefreshes 0 = .ok (.iconst 0, 1) := by decide +kernel
theorem d_B_dueRefreshes_1 : decode k_B_dueRefreshes 1 = .ok (.istore_n 1, 1) := by decide +kernel
theorem d_B_dueRefreshes_2 : decode k_B_dueRefreshes 2 = .ok (.iconst 0, 1) := by decide +kernel
theorem d_B_dueRefreshes_3 : decode k_B_dueRefreshes 3 = .ok (.istore_n 2, 1) := by decide +kernel
theorem d_B_dueRefreshes_4 : decode k_B_dueRefreshes 4 = .ok (.iload_n 2, 1) := by decide +kernel
theorem d_B_dueRefreshes_5 : decode k_B_dueRefreshes 5 = .ok (.aload_n 0, 1) := by decide +kernel
theorem d_B_dueRefreshes_6 : decode k_B_dueRefreshes 6 = .ok (.getfield 42, 3) := by decide +kernel
theorem d_B_dueRefreshes_9 : decode k_B_dueRefreshes 9 = .ok (.arraylength, 1) := by decide +kernel
theorem d_B_dueRefreshes_10 : decode k_B_dueRefreshes 10 = .ok (.if_icmp .ge 24, 3) := by decide +kernel
theorem d_B_dueRefreshes_13 : decode k_B_dueRefreshes 13 = .ok (.aload_n 0, 1) := by decide +kernel
theorem d_B_dueRefreshes_14 : decode k_B_dueRefreshes 14 = .ok (.getfield 42, 3) := by decide +kernel
theorem d_B_dueRefreshes_17 : decode k_B_dueRefreshes 17 = .ok (.iload_n 2, 1) := by decide +kernel
theorem d_B_dueRefreshes_18 : decode k_B_dueRefreshes 18 = .ok (.aaload, 1) := by decide +kernel
theorem d_B_dueRefreshes_19 : decode k_B_dueRefreshes 19 = .ok (.getfield 196, 3) := by decide +kernel
theorem d_B_dueRefreshes_22 : decode k_B_dueRefreshes 22 = .ok (.ifCond .eq 6, 3) := by decide +kernel
theorem d_B_dueRefreshes_25 : decode k_B_dueRefreshes 25 = .ok (.iinc 1 1, 3) := by decide +kernel
theorem d_B_dueRefreshes_28 : decode k_B_dueRefreshes 28 = .ok (.iinc 2 1, 3) := by decide +kernel
theorem d_B_dueRefreshes_31 : decode k_B_dueRefreshes 31 = .ok (.goto (-27), 3) := by decide +kernel
theorem d_B_dueRefreshes_34 : decode k_B_dueRefreshes 34 = .ok (.iload_n 1, 1) := by decide +kernel
theorem d_B_dueRefreshes_35 : decode k_B_dueRefreshes 35 = .ok (.ireturn, 1) := by decide +kernel
theorem d_B_step_0 : decode k_B_step 0 = .ok (.aload_n 0, 1) := by decide +kernel
theorem d_B_step_1 : decode k_B_step 1 = .ok (.dup, 1) := by decide +kernel
theorem d_B_step_2 : decode k_B_step 2 = .ok (.getfield 122, 3) := by decide +kernel
theorem d_B_step_5 : decode k_B_step 5 = .ok (.iconst 1, 1) := by decide +kernel
theorem d_B_step_6 : decode k_B_step 6 = .ok (.iadd, 1) := by decide +kernel
theorem d_B_step_7 : decode k_B_step 7 = .ok (.putfield 122, 3) := by decide +kernel
theorem d_B_step_10 : decode k_B_step 10 = .ok (.aload_n 0, 1) := by decide +kernel
theorem d_B_step_11 : decode k_B_step 11 = .ok (.getfield 95, 3) := by decide +kernel
theorem d_B_step_14 : decode k_B_step 14 = .ok (.ifCond .le 19, 3) := by decide +kernel
theorem d_B_step_17 : decode k_B_step 17 = .ok (.aload_n 0, 1) := by decide +kernel
theorem d_B_step_18 : decode k_B_step 18 = .ok (.getfield 122, 3) := by decide +kernel
theorem d_B_step_21 : decode k_B_step 21 = .ok (.aload_n 0, 1) := by decide +kernel
theorem d_B_step_22 : decode k_B_step 22 = .ok (.getfield 95, 3) := by decide +kernel
theorem d_B_step_25 : decode k_B_step 25 = .ok (.irem, 1) := by decide +kernel
theorem d_B_step_26 : decode k_B_step 26 = .ok (.ifCond .ne 7, 3) := by decide +kernel
theorem d_B_step_29 : decode k_B_step 29 = .ok (.iconst 1, 1) := by decide +kernel
theorem d_B_step_30 : decode k_B_step 30 = .ok (.goto 4, 3) := by decide +kernel
theorem d_B_step_33 : decode k_B_step 33 = .ok (.iconst 0, 1) := by decide +kernel
theorem d_B_step_34 : decode k_B_step 34 = .ok (.istore_n 1, 1) := by decide +kernel
theorem d_B_step_35 : decode k_B_step 35 = .ok (.iconst 0, 1) := by decide +kernel
theorem d_B_step_36 : decode k_B_step 36 = .ok (.istore_n 2, 1) := by decide +kernel
theorem d_B_step_37 : decode k_B_step 37 = .ok (.iload_n 2, 1) := by decide +kernel
theorem d_B_step_38 : decode k_B_step 38 = .ok (.aload_n 0, 1) := by decide +kernel
theorem d_B_step_39 : decode k_B_step 39 = .ok (.getfield 42, 3) := by decide +kernel
theorem d_B_step_42 : decode k_B_step 42 = .ok (.arraylength, 1) := by decide +kernel
theorem d_B_step_43 : decode k_B_step 43 = .ok (.if_icmp .ge 67, 3) := by decide +kernel
theorem d_B_step_46 : decode k_B_step 46 = .ok (.aload_n 0, 1) := by decide +kernel
theorem d_B_step_47 : decode k_B_step 47 = .ok (.getfield 42, 3) := by decide +kernel
theorem d_B_step_50 : decode k_B_step 50 = .ok (.iload_n 2, 1) := by decide +kernel
theorem d_B_step_51 : decode k_B_step 51 = .ok (.aaload, 1) := by decide +kernel
theorem d_B_step_52 : decode k_B_step 52 = .ok (.astore_n 3, 1) := by decide +kernel
theorem d_B_step_53 : decode k_B_step 53 = .ok (.iload_n 1, 1) := by decide +kernel
theorem d_B_step_54 : decode k_B_step 54 = .ok (.ifCond .eq 8, 3) := by decide +kernel
theorem d_B_step_57 : decode k_B_step 57 = .ok (.aload_n 3, 1) := by decide +kernel
theorem d_B_step_58 : decode k_B_step 58 = .ok (.iconst 1, 1) := by decide +kernel
theorem d_B_step_59 : decode k_B_step 59 = .ok (.putfield 196, 3) := by decide +kernel
theorem d_B_step_62 : decode k_B_step 62 = .ok (.aload_n 3, 1) := by decide +kernel
theorem d_B_step_63 : decode k_B_step 63 = .ok (.getfield 196, 3) := by decide +kernel
theorem d_B_step_66 : decode k_B_step 66 = .ok (.ifCond .eq 11, 3) := by decide +kernel
theorem d_B_step_69 : decode k_B_step 69 = .ok (.aload_n 0, 1) := by decide +kernel
theorem d_B_step_70 : decode k_B_step 70 = .ok (.iload_n 2, 1) := by decide +kernel
theorem d_B_step_71 : decode k_B_step 71 = .ok (.invokevirtual 200, 3) := by decide +kernel
theorem d_B_step_74 : decode k_B_step 74 = .ok (.goto 30, 3) := by decide +kernel
theorem d_B_step_77 : decode k_B_step 77 = .ok (.aload_n 3, 1) := by decide +kernel
theorem d_B_step_78 : decode k_B_step 78 = .ok (.aload_n 0, 1) := by decide +kernel
theorem d_B_step_79 : decode k_B_step 79 = .ok (.getfield 25, 3) := by decide +kernel
theorem d_B_step_82 : decode k_B_step 82 = .ok (.aload_n 0, 1) := by decide +kernel
theorem d_B_step_83 : decode k_B_step 83 = .ok (.getfield 122, 3) := by decide +kernel
theorem d_B_step_86 : decode k_B_step 86 = .ok (.invokevirtual 204, 3) := by decide +kernel
theorem d_B_step_89 : decode k_B_step 89 = .ok (.istore 4, 2) := by decide +kernel
theorem d_B_step_91 : decode k_B_step 91 = .ok (.iload 4, 2) := by decide +kernel
theorem d_B_step_93 : decode k_B_step 93 = .ok (.iconst (-1), 1) := by decide +kernel
theorem d_B_step_94 : decode k_B_step 94 = .ok (.if_icmp .eq 10, 3) := by decide +kernel
theorem d_B_step_97 : decode k_B_step 97 = .ok (.aload_n 0, 1) := by decide +kernel
theorem d_B_step_98 : decode k_B_step 98 = .ok (.iload_n 2, 1) := by decide +kernel
theorem d_B_step_99 : decode k_B_step 99 = .ok (.iload 4, 2) := by decide +kernel
theorem d_B_step_101 : decode k_B_step 101 = .ok (.invokevirtual 207, 3) := by decide +kernel
theorem d_B_step_104 : decode k_B_step 104 = .ok (.iinc 2 1, 3) := by decide +kernel
theorem d_B_step_107 : decode k_B_step 107 = .ok (.goto (-70), 3) := by decide +kernel
theorem d_B_step_110 : decode k_B_step 110 = .ok (.return_, 1) := by decide +kernel
theorem d_B_refresh_0 : decode k_B_refresh 0 = .ok (.aload_n 0, 1) := by decide +kernel
theorem d_B_refresh_1 : decode k_B_refresh 1 = .ok (.getfield 42, 3) := by decide +kernel
theorem d_B_refresh_4 : decode k_B_refresh 4 = .ok (.iload_n 1, 1) := by decide +kernel
theorem d_B_refresh_5 : decode k_B_refresh 5 = .ok (.aaload, 1) := by decide +kernel
theorem d_B_refresh_6 : decode k_B_refresh 6 = .ok (.astore_n 2, 1) := by decide +kernel
theorem d_B_refresh_7 : decode k_B_refresh 7 = .ok (.aload_n 2, 1) := by decide +kernel
theorem d_B_refresh_8 : decode k_B_refresh 8 = .ok (.getfield 152, 3) := by decide +kernel
theorem d_B_refresh_11 : decode k_B_refresh 11 = .ok (.astore_n 3, 1) := by decide +kernel
theorem d_B_refresh_12 : decode k_B_refresh 12 = .ok (.aload_n 3, 1) := by decide +kernel
theorem d_B_refresh_13 : decode k_B_refresh 13 = .ok (.invokevirtual 193, 3) := by decide +kernel
theorem d_B_refresh_16 : decode k_B_refresh 16 = .ok (.ifCond .eq 37, 3) := by decide +kernel
theorem d_B_refresh_19 : decode k_B_refresh 19 = .ok (.aload_n 3, 1) := by decide +kernel
theorem d_B_refresh_20 : decode k_B_refresh 20 = .ok (.aload_n 0, 1) := by decide +kernel
theorem d_B_refresh_21 : decode k_B_refresh 21 = .ok (.getfield 122, 3) := by decide +kernel
theorem d_B_refresh_24 : decode k_B_refresh 24 = .ok (.invokevirtual 211, 3) := by decide +kernel
theorem d_B_refresh_27 : decode k_B_refresh 27 = .ok (.istore 4, 2) := by decide +kernel
theorem d_B_refresh_29 : decode k_B_refresh 29 = .ok (.iload 4, 2) := by decide +kernel
theorem d_B_refresh_31 : decode k_B_refresh 31 = .ok (.iconst (-1), 1) := by decide +kernel
theorem d_B_refresh_32 : decode k_B_refresh 32 = .ok (.if_icmp .eq 18, 3) := by decide +kernel
theorem d_B_refresh_35 : decode k_B_refresh 35 = .ok (.aload_n 0, 1) := by decide +kernel
theorem d_B_refresh_36 : decode k_B_refresh 36 = .ok (.iload_n 1, 1) := by decide +kernel
theorem d_B_refresh_37 : decode k_B_refresh 37 = .ok (.iconst 3, 1) := by decide +kernel
theorem d_B_refresh_38 : decode k_B_refresh 38 = .ok (.iload 4, 2) := by decide +kernel
theorem d_B_refresh_40 : decode k_B_refresh 40 = .ok (.aload_n 3, 1) := by decide +kernel
theorem d_B_refresh_41 : decode k_B_refresh 41 = .ok (.getfield 156, 3) := by decide +kernel
theorem d_B_refresh_44 : decode k_B_refresh 44 = .ok (.iload 4, 2) := by decide +kernel
theorem d_B_refresh_46 : decode k_B_refresh 46 = .ok (.iaload, 1) := by decide +kernel
theorem d_B_refresh_47 : decode k_B_refresh 47 = .ok (.invokevirtual 214, 3) := by decide +kernel
theorem d_B_refresh_50 : decode k_B_refresh 50 = .ok (.goto 30, 3) := by decide +kernel
theorem d_B_refresh_53 : decode k_B_refresh 53 = .ok (.aload_n 3, 1) := by decide +kernel
theorem d_B_refresh_54 : decode k_B_refresh 54 = .ok (.aload_n 0, 1) := by decide +kernel
theorem d_B_refresh_55 : decode k_B_refresh 55 = .ok (.getfield 122, 3) := by decide +kernel
theorem d_B_refresh_58 : decode k_B_refresh 58 = .ok (.iconst 4, 1) := by decide +kernel
theorem d_B_refresh_59 : decode k_B_refresh 59 = .ok (.iconst 0, 1) := by decide +kernel
theorem d_B_refresh_60 : decode k_B_refresh 60 = .ok (.invokevirtual 217, 3) := by decide +kernel
theorem d_B_refresh_63 : decode k_B_refresh 63 = .ok (.iconst (-1), 1) := by decide +kernel
theorem d_B_refresh_64 : decode k_B_refresh 64 = .ok (.if_icmp .ne 16, 3) := by decide +kernel
theorem d_B_refresh_67 : decode k_B_refresh 67 = .ok (.aload_n 0, 1) := by decide +kernel
theorem d_B_refresh_68 : decode k_B_refresh 68 = .ok (.iload_n 1, 1) := by decide +kernel
theorem d_B_refresh_69 : decode k_B_refresh 69 = .ok (.iconst 4, 1) := by decide +kernel
theorem d_B_refresh_70 : decode k_B_refresh 70 = .ok (.iconst 0, 1) := by decide +kernel
theorem d_B_refresh_71 : decode k_B_refresh 71 = .ok (.iconst 0, 1) := by decide +kernel
theorem d_B_refresh_72 : decode k_B_refresh 72 = .ok (.invokevirtual 214, 3) := by decide +kernel
theorem d_B_refresh_75 : decode k_B_refresh 75 = .ok (.aload_n 2, 1) := by decide +kernel
theorem d_B_refresh_76 : decode k_B_refresh 76 = .ok (.iconst 0, 1) := by decide +kernel
theorem d_B_refresh_77 : decode k_B_refresh 77 = .ok (.putfield 196, 3) := by decide +kernel
theorem d_B_refresh_80 : decode k_B_refresh 80 = .ok (.return_, 1) := by decide +kernel
theorem d_B_serve_0 : decode k_B_serve 0 = .ok (.aload_n 0, 1) := by decide +kernel
theorem d_B_serve_1 : decode k_B_serve 1 = .ok (.getfield 42, 3) := by decide +kernel
theorem d_B_serve_4 : decode k_B_serve 4 = .ok (.iload_n 1, 1) := by decide +kernel
theorem d_B_serve_5 : decode k_B_serve 5 = .ok (.aaload, 1) := by decide +kernel
theorem d_B_serve_6 : decode k_B_serve 6 = .ok (.astore_n 3, 1) := by decide +kernel
theorem d_B_serve_7 : decode k_B_serve 7 = .ok (.aload_n 3, 1) := by decide +kernel
theorem d_B_serve_8 : decode k_B_serve 8 = .ok (.getfield 108, 3) := by decide +kernel
theorem d_B_serve_11 : decode k_B_serve 11 = .ok (.astore 4, 2) := by decide +kernel
theorem d_B_serve_13 : decode k_B_serve 13 = .ok (.aload_n 3, 1) := by decide +kernel
theorem d_B_serve_14 : decode k_B_serve 14 = .ok (.iload_n 2, 1) := by decide +kernel
theorem d_B_serve_15 : decode k_B_serve 15 = .ok (.invokevirtual 221, 3) := by decide +kernel
theorem d_B_serve_18 : decode k_B_serve 18 = .ok (.istore 5, 2) := by decide +kernel
theorem d_B_serve_20 : decode k_B_serve 20 = .ok (.aload 4, 2) := by decide +kernel
theorem d_B_serve_22 : decode k_B_serve 22 = .ok (.getfield 224, 3) := by decide +kernel
theorem d_B_serve_25 : decode k_B_serve 25 = .ok (.iload_n 2, 1) := by decide +kernel
theorem d_B_serve_26 : decode k_B_serve 26 = .ok (.iaload, 1) := by decide +kernel
theorem d_B_serve_27 : decode k_B_serve 27 = .ok (.istore 6, 2) := by decide +kernel
theorem d_B_serve_29 : decode k_B_serve 29 = .ok (.aload_n 3, 1) := by decide +kernel
theorem d_B_serve_30 : decode k_B_serve 30 = .ok (.iload 6, 2) := by decide +kernel
theorem d_B_serve_32 : decode k_B_serve 32 = .ok (.putfield 227, 3) := by decide +kernel
theorem d_B_serve_35 : decode k_B_serve 35 = .ok (.aload_n 0, 1) := by decide +kernel
theorem d_B_serve_36 : decode k_B_serve 36 = .ok (.iload_n 1, 1) := by decide +kernel
theorem d_B_serve_37 : decode k_B_serve 37 = .ok (.iload 5, 2) := by decide +kernel
theorem d_B_serve_39 : decode k_B_serve 39 = .ok (.iload 6, 2) := by decide +kernel
theorem d_B_serve_41 : decode k_B_serve 41 = .ok (.iload 5, 2) := by decide +kernel
theorem d_B_serve_43 : decode k_B_serve 43 = .ok (.iconst 3, 1) := by decide +kernel
theorem d_B_serve_44 : decode k_B_serve 44 = .ok (.if_icmp .ne 16, 3) := by decide +kernel
theorem d_B_serve_47 : decode k_B_serve 47 = .ok (.aload_n 3, 1) := by decide +kernel
theorem d_B_serve_48 : decode k_B_serve 48 = .ok (.getfield 152, 3) := by decide +kernel
theorem d_B_serve_51 : decode k_B_serve 51 = .ok (.getfield 156, 3) := by decide +kernel
theorem d_B_serve_54 : decode k_B_serve 54 = .ok (.iload 6, 2) := by decide +kernel
theorem d_B_serve_56 : decode k_B_serve 56 = .ok (.iaload, 1) := by decide +kernel
theorem d_B_serve_57 : decode k_B_serve 57 = .ok (.goto 10, 3) := by decide +kernel
theorem d_B_serve_60 : decode k_B_serve 60 = .ok (.aload 4, 2) := by decide +kernel
theorem d_B_serve_62 : decode k_B_serve 62 = .ok (.getfield 230, 3) := by decide +kernel
theorem d_B_serve_65 : decode k_B_serve 65 = .ok (.iload_n 2, 1) := by decide +kernel
theorem d_B_serve_66 : decode k_B_serve 66 = .ok (.iaload, 1) := by decide +kernel
theorem d_B_serve_67 : decode k_B_serve 67 = .ok (.invokevirtual 214, 3) := by decide +kernel
theorem d_B_serve_70 : decode k_B_serve 70 = .ok (.iload 5, 2) := by decide +kernel
theorem d_B_serve_72 : decode k_B_serve 72 = .ok (.iconst 1, 1) := by decide +kernel
theorem d_B_serve_73 : decode k_B_serve 73 = .ok (.if_icmp .eq 9, 3) := by decide +kernel
theorem d_B_serve_76 : decode k_B_serve 76 = .ok (.iload 5, 2) := by decide +kernel
theorem d_B_serve_78 : decode k_B_serve 78 = .ok (.iconst 2, 1) := by decide +kernel
theorem d_B_serve_79 : decode k_B_serve 79 = .ok (.if_icmp .ne 56, 3) := by decide +kernel
theorem d_B_serve_82 : decode k_B_serve 82 = .ok (.aload_n 0, 1) := by decide +kernel
theorem d_B_serve_83 : decode k_B_serve 83 = .ok (.getfield 63, 3) := by decide +kernel
theorem d_B_serve_86 : decode k_B_serve 86 = .ok (.aload 4, 2) := by decide +kernel
theorem d_B_serve_88 : decode k_B_serve 88 = .ok (.getfield 233, 3) := by decide +kernel
theorem d_B_serve_91 : decode k_B_serve 91 = .ok (.iload_n 2, 1) := by decide +kernel
theorem d_B_serve_92 : decode k_B_serve 92 = .ok (.iaload, 1) := by decide +kernel
theorem d_B_serve_93 : decode k_B_serve 93 = .ok (.aload_n 0, 1) := by decide +kernel
theorem d_B_serve_94 : decode k_B_serve 94 = .ok (.getfield 122, 3) := by decide +kernel
theorem d_B_serve_97 : decode k_B_serve 97 = .ok (.iastore, 1) := by decide +kernel
theorem d_B_serve_98 : decode k_B_serve 98 = .ok (.aload_n 0, 1) := by decide +kernel
theorem d_B_serve_99 : decode k_B_serve 99 = .ok (.dup, 1) := by decide +kernel
theorem d_B_serve_100 : decode k_B_serve 100 = .ok (.getfield 189, 3) := by decide +kernel
theorem d_B_serve_103 : decode k_B_serve 103 = .ok (.aload_n 0, 1) := by decide +kernel
theorem d_B_serve_104 : decode k_B_serve 104 = .ok (.getfield 122, 3) := by decide +kernel
theorem d_B_serve_107 : decode k_B_serve 107 = .ok (.aload 4, 2) := by decide +kernel
theorem d_B_serve_109 : decode k_B_serve 109 = .ok (.getfield 236, 3) := by decide +kernel
theorem d_B_serve_112 : decode k_B_serve 112 = .ok (.iload_n 2, 1) := by decide +kernel
theorem d_B_serve_113 : decode k_B_serve 113 = .ok (.iaload, 1) := by decide +kernel
theorem d_B_serve_114 : decode k_B_serve 114 = .ok (.isub, 1) := by decide +kernel
theorem d_B_serve_115 : decode k_B_serve 115 = .ok (.iadd, 1) := by decide +kernel
theorem d_B_serve_116 : decode k_B_serve 116 = .ok (.putfield 189, 3) := by decide +kernel
theorem d_B_serve_119 : decode k_B_serve 119 = .ok (.aload_n 0, 1) := by decide +kernel
theorem d_B_serve_120 : decode k_B_serve 120 = .ok (.dup, 1) := by decide +kernel
theorem d_B_serve_121 : decode k_B_serve 121 = .ok (.getfield 78, 3) := by decide +kernel
theorem d_B_serve_124 : decode k_B_serve 124 = .ok (.iconst 1, 1) := by decide +kernel
theorem d_B_serve_125 : decode k_B_serve 125 = .ok (.iadd, 1) := by decide +kernel
theorem d_B_serve_126 : decode k_B_serve 126 = .ok (.putfield 78, 3) := by decide +kernel
theorem d_B_serve_129 : decode k_B_serve 129 = .ok (.aload 4, 2) := by decide +kernel
theorem d_B_serve_131 : decode k_B_serve 131 = .ok (.iload_n 2, 1) := by decide +kernel
theorem d_B_serve_132 : decode k_B_serve 132 = .ok (.invokevirtual 239, 3) := by decide +kernel
theorem d_B_serve_135 : decode k_B_serve 135 = .ok (.return_, 1) := by decide +kernel
theorem d_B_give_0 : decode k_B_give 0 = .ok (.aload_n 0, 1) := by decide +kernel
theorem d_B_give_1 : decode k_B_give 1 = .ok (.getfield 42, 3) := by decide +kernel
theorem d_B_give_4 : decode k_B_give 4 = .ok (.iload_n 1, 1) := by decide +kernel
theorem d_B_give_5 : decode k_B_give 5 = .ok (.aaload, 1) := by decide +kernel
theorem d_B_give_6 : decode k_B_give 6 = .ok (.getfield 152, 3) := by decide +kernel
theorem d_B_give_9 : decode k_B_give 9 = .ok (.aload_n 0, 1) := by decide +kernel
theorem d_B_give_10 : decode k_B_give 10 = .ok (.getfield 122, 3) := by decide +kernel
theorem d_B_give_13 : decode k_B_give 13 = .ok (.iload_n 2, 1) := by decide +kernel
theorem d_B_give_14 : decode k_B_give 14 = .ok (.iload_n 3, 1) := by decide +kernel
theorem d_B_give_15 : decode k_B_give 15 = .ok (.iload 4, 2) := by decide +kernel
theorem d_B_give_17 : decode k_B_give 17 = .ok (.invokevirtual 175, 3) := by decide +kernel
theorem d_B_give_20 : decode k_B_give 20 = .ok (.aload_n 0, 1) := by decide +kernel
theorem d_B_give_21 : decode k_B_give 21 = .ok (.getfield 59, 3) := by decide +kernel
theorem d_B_give_24 : decode k_B_give 24 = .ok (.iload_n 1, 1) := by decide +kernel
theorem d_B_give_25 : decode k_B_give 25 = .ok (.aload_n 0, 1) := by decide +kernel
theorem d_B_give_26 : decode k_B_give 26 = .ok (.getfield 122, 3) := by decide +kernel
theorem d_B_give_29 : decode k_B_give 29 = .ok (.iload_n 2, 1) := by decide +kernel
theorem d_B_give_30 : decode k_B_give 30 = .ok (.iload_n 3, 1) := by decide +kernel
theorem d_B_give_31 : decode k_B_give 31 = .ok (.iload 4, 2) := by decide +kernel
theorem d_B_give_33 : decode k_B_give 33 = .ok (.invokevirtual 242, 3) := by decide +kernel
theorem d_B_give_36 : decode k_B_give 36 = .ok (.return_, 1) := by decide +kernel
theorem d_C_init_0 : decode k_C_init 0 = .ok (.aload_n 0, 1) := by decide +kernel
theorem d_C_init_1 : decode k_C_init 1 = .ok (.invokespecial 3, 3) := by decide +kernel
theorem d_C_init_4 : decode k_C_init 4 = .ok (.aload_n 0, 1) := by decide +kernel
theorem d_C_init_5 : decode k_C_init 5 = .ok (.iconst (-1), 1) := by decide +kernel
theorem d_C_init_6 : decode k_C_init 6 = .ok (.putfield 9, 3) := by decide +kernel
theorem d_C_init_9 : decode k_C_init 9 = .ok (.aload_n 0, 1) := by decide +kernel
theorem d_C_init_10 : decode k_C_init 10 = .ok (.new 15, 3) := by decide +kernel
theorem d_C_init_13 : decode k_C_init 13 = .ok (.dup, 1) := by decide +kernel
theorem d_C_init_14 : decode k_C_init 14 = .ok (.iload_n 1, 1) := by decide +kernel
theorem d_C_init_15 : decode k_C_init 15 = .ok (.aload_n 2, 1) := by decide +kernel
theorem d_C_init_16 : decode k_C_init 16 = .ok (.invokespecial 17, 3) := by decide +kernel
theorem d_C_init_19 : decode k_C_init 19 = .ok (.putfield 20, 3) := by decide +kernel
theorem d_C_init_22 : decode k_C_init 22 = .ok (.aload_n 0, 1) := by decide +kernel
theorem d_C_init_23 : decode k_C_init 23 = .ok (.new 24, 3) := by decide +kernel
theorem d_C_init_26 : decode k_C_init 26 = .ok (.dup, 1) := by decide +kernel
theorem d_C_init_27 : decode k_C_init 27 = .ok (.invokespecial 26, 3) := by decide +kernel
theorem d_C_init_30 : decode k_C_init 30 = .ok (.putfield 27, 3) := by decide +kernel
theorem d_C_init_33 : decode k_C_init 33 = .ok (.aload_n 0, 1) := by decide +kernel
theorem d_C_init_34 : decode k_C_init 34 = .ok (.iload_n 1, 1) := by decide +kernel
theorem d_C_init_35 : decode k_C_init 35 = .ok (.putfield 31, 3) := by decide +kernel
theorem d_C_init_38 : decode k_C_init 38 = .ok (.return_, 1) := by decide +kernel
theorem d_C_chosen_0 : decode k_C_chosen 0 = .ok (.aload_n 0, 1) := by decide +kernel
theorem d_C_chosen_1 : decode k_C_chosen 1 = .ok (.getfield 27, 3) := by decide +kernel
theorem d_C_chosen_4 : decode k_C_chosen 4 = .ok (.getfield 34, 3) := by decide +kernel
theorem d_C_chosen_7 : decode k_C_chosen 7 = .ok (.ifCond .ne 5, 3) := by decide +kernel
theorem d_C_chosen_10 : decode k_C_chosen 10 = .ok (.iconst (-1), 1) := by decide +kernel
theorem d_C_chosen_11 : decode k_C_chosen 11 = .ok (.ireturn, 1) := by decide +kernel
theorem d_C_chosen_12 : decode k_C_chosen 12 = .ok (.iload_n 1, 1) := by decide +kernel
theorem d_C_chosen_13 : decode k_C_chosen 13 = .ok (.tableswitch 98 0 2 #[27, 42, 49], 27) := by decide +kernel
theorem d_C_chosen_40 : decode k_C_chosen 40 = .ok (.aload_n 0, 1) := by decide +kernel
theorem d_C_chosen_41 : decode k_C_chosen 41 = .ok (.iconst 0, 1) := by decide +kernel
theorem d_C_chosen_42 : decode k_C_chosen 42 = .ok (.iload_n 2, 1) := by decide +kernel
theorem d_C_chosen_43 : decode k_C_chosen 43 = .ok (.invokevirtual 37, 3) := by decide +kernel
theorem d_C_chosen_46 : decode k_C_chosen 46 = .ok (.ifCond .eq 7, 3) := by decide +kernel
theorem d_C_chosen_49 : decode k_C_chosen 49 = .ok (.iconst 0, 1) := by decide +kernel
theorem d_C_chosen_50 : decode k_C_chosen 50 = .ok (.goto 4, 3) := by decide +kernel
theorem d_C_chosen_53 : decode k_C_chosen 53 = .ok (.iconst (-1), 1) := by decide +kernel
theorem d_C_chosen_54 : decode k_C_chosen 54 = .ok (.ireturn, 1) := by decide +kernel
theorem d_C_chosen_55 : decode k_C_chosen 55 = .ok (.aload_n 0, 1) := by decide +kernel
theorem d_C_chosen_56 : decode k_C_chosen 56 = .ok (.iconst 0, 1) := by decide +kernel
theorem d_C_chosen_57 : decode k_C_chosen 57 = .ok (.iload_n 2, 1) := by decide +kernel
theorem d_C_chosen_58 : decode k_C_chosen 58 = .ok (.invokevirtual 41, 3) := by decide +kernel
theorem d_C_chosen_61 : decode k_C_chosen 61 = .ok (.ireturn, 1) := by decide +kernel
theorem d_C_chosen_62 : decode k_C_chosen 62 = .ok (.aload_n 0, 1) := by decide +kernel
theorem d_C_chosen_63 : decode k_C_chosen 63 = .ok (.getfield 27, 3) := by decide +kernel
theorem d_C_chosen_66 : decode k_C_chosen 66 = .ok (.getfield 45, 3) := by decide +kernel
theorem d_C_chosen_69 : decode k_C_chosen 69 = .ok (.aload_n 0, 1) := by decide +kernel
theorem d_C_chosen_70 : decode k_C_chosen 70 = .ok (.getfield 27, 3) := by decide +kernel
theorem d_C_chosen_73 : decode k_C_chosen 73 = .ok (.getfield 34, 3) := by decide +kernel
theorem d_C_chosen_76 : decode k_C_chosen 76 = .ok (.if_icmp .ge 18, 3) := by decide +kernel
theorem d_C_chosen_79 : decode k_C_chosen 79 = .ok (.aload_n 0, 1) := by decide +kernel
theorem d_C_chosen_80 : decode k_C_chosen 80 = .ok (.getfield 27, 3) := by decide +kernel
theorem d_C_chosen_83 : decode k_C_chosen 83 = .ok (.getfield 45, 3) := by decide +kernel
theorem d_C_chosen_86 : decode k_C_chosen 86 = .ok (.iconst 5, 1) := by decide +kernel
theorem d_C_chosen_87 : decode k_C_chosen 87 = .ok (.if_icmp .ge 7, 3) := by decide +kernel
theorem d_C_chosen_90 : decode k_C_chosen 90 = .ok (.iconst 1, 1) := by decide +kernel
theorem d_C_chosen_91 : decode k_C_chosen 91 = .ok (.goto 4, 3) := by decide +kernel
theorem d_C_chosen_94 : decode k_C_chosen 94 = .ok (.iconst 0, 1) := by decide +kernel
theorem d_C_chosen_95 : decode k_C_chosen 95 = .ok (.istore_n 3, 1) := by decide +kernel
theorem d_C_chosen_96 : decode k_C_chosen 96 = .ok (.aload_n 0, 1) := by decide +kernel
theorem d_C_chosen_97 : decode k_C_chosen 97 = .ok (.iload_n 3, 1) := by decide +kernel
theorem d_C_chosen_98 : decode k_C_chosen 98 = .ok (.ifCond .eq 7, 3) := by decide +kernel
theorem d_C_chosen_101 : decode k_C_chosen 101 = .ok (.iconst 1, 1) := by decide +kernel
theorem d_C_chosen_102 : decode k_C_chosen 102 = .ok (.goto 4, 3) := by decide +kernel
theorem d_C_chosen_105 : decode k_C_chosen 105 = .ok (.iconst 2, 1) := by decide +kernel
theorem d_C_chosen_106 : decode k_C_chosen 106 = .ok (.iload_n 2, 1) := by decide +kernel
theorem d_C_chosen_107 : decode k_C_chosen 107 = .ok (.invokevirtual 41, 3) := by decide +kernel
theorem d_C_chosen_110 : decode k_C_chosen 110 = .ok (.ireturn, 1) := by decide +kernel
theorem d_C_chosen_111 : decode k_C_chosen 111 = .ok (.aload_n 0, 1) := by decide +kernel
theorem d_C_chosen_112 : decode k_C_chosen 112 = .ok (.iload_n 2, 1) := by decide +kernel
theorem d_C_chosen_113 : decode k_C_chosen 113 = .ok (.invokevirtual 48, 3) := by decide +kernel
theorem d_C_chosen_116 : decode k_C_chosen 116 = .ok (.ireturn, 1) := by decide +kernel
theorem d_C_nextKind_0 : decode k_C_nextKind 0 = .ok (.aload_n 0, 1) := by decide +kernel
theorem d_C_nextKind_1 : decode k_C_nextKind 1 = .ok (.getfield 20, 3) := by decide +kernel
theorem d_C_nextKind_4 : decode k_C_nextKind 4 = .ok (.getfield 52, 3) := by decide +kernel
theorem d_C_nextKind_7 : decode k_C_nextKind 7 = .ok (.aload_n 0, 1) := by decide +kernel
theorem d_C_nextKind_8 : decode k_C_nextKind 8 = .ok (.getfield 27, 3) := by decide +kernel
theorem d_C_nextKind_11 : decode k_C_nextKind 11 = .ok (.getfield 56, 3) := by decide +kernel
theorem d_C_nextKind_14 : decode k_C_nextKind 14 = .ok (.iload_n 1, 1) := by decide +kernel
theorem d_C_nextKind_15 : decode k_C_nextKind 15 = .ok (.iaload, 1) := by decide +kernel
theorem d_C_nextKind_16 : decode k_C_nextKind 16 = .ok (.iaload, 1) := by decide +kernel
theorem d_C_nextKind_17 : decode k_C_nextKind 17 = .ok (.istore_n 2, 1) := by decide +kernel
theorem d_C_nextKind_18 : decode k_C_nextKind 18 = .ok (.iload_n 2, 1) := by decide +kernel
theorem d_C_nextKind_19 : decode k_C_nextKind 19 = .ok (.iconst (-1), 1) := by decide +kernel
theorem d_C_nextKind_20 : decode k_C_nextKind 20 = .ok (.if_icmp .ne 5, 3) := by decide +kernel
theorem d_C_nextKind_23 : decode k_C_nextKind 23 = .ok (.iconst 0, 1) := by decide +kernel
theorem d_C_nextKind_24 : decode k_C_nextKind 24 = .ok (.ireturn, 1) := by decide +kernel
theorem d_C_nextKind_25 : decode k_C_nextKind 25 = .ok (.iload_n 2, 1) := by decide +kernel
theorem d_C_nextKind_26 : decode k_C_nextKind 26 = .ok (.aload_n 0, 1) := by decide +kernel
theorem d_C_nextKind_27 : decode k_C_nextKind 27 = .ok (.getfield 27, 3) := by decide +kernel
theorem d_C_nextKind_30 : decode k_C_nextKind 30 = .ok (.getfield 59, 3) := by decide +kernel
theorem d_C_nextKind_33 : decode k_C_nextKind 33 = .ok (.iload_n 1, 1) := by decide +kernel
theorem d_C_nextKind_34 : decode k_C_nextKind 34 = .ok (.iaload, 1) := by decide +kernel
theorem d_C_nextKind_35 : decode k_C_nextKind 35 = .ok (.if_icmp .eq 5, 3) := by decide +kernel
theorem d_C_nextKind_38 : decode k_C_nextKind 38 = .ok (.iconst 3, 1) := by decide +kernel
theorem d_C_nextKind_39 : decode k_C_nextKind 39 = .ok (.ireturn, 1) := by decide +kernel
theorem d_C_nextKind_40 : decode k_C_nextKind 40 = .ok (.aload_n 0, 1) := by decide +kernel
theorem d_C_nextKind_41 : decode k_C_nextKind 41 = .ok (.getfield 27, 3) := by decide +kernel
theorem d_C_nextKind_44 : decode k_C_nextKind 44 = .ok (.getfield 62, 3) := by decide +kernel
theorem d_C_nextKind_47 : decode k_C_nextKind 47 = .ok (.iload_n 1, 1) := by decide +kernel
theorem d_C_nextKind_48 : decode k_C_nextKind 48 = .ok (.baload, 1) := by decide +kernel
theorem d_C_nextKind_49 : decode k_C_nextKind 49 = .ok (.ifCond .eq 7, 3) := by decide +kernel
theorem d_C_nextKind_52 : decode k_C_nextKind 52 = .ok (.iconst 2, 1) := by decide +kernel
theorem d_C_nextKind_53 : decode k_C_nextKind 53 = .ok (.goto 4, 3) := by decide +kernel
theorem d_C_nextKind_56 : decode k_C_nextKind 56 = .ok (.iconst 1, 1) := by decide +kernel
theorem d_C_nextKind_57 : decode k_C_nextKind 57 = .ok (.ireturn, 1) := by decide +kernel
theorem d_C_isReady_0 : decode k_C_isReady 0 = .ok (.aload_n 0, 1) := by decide +kernel
theorem d_C_isReady_1 : decode k_C_isReady 1 = .ok (.getfield 20, 3) := by decide +kernel
theorem d_C_isReady_4 : decode k_C_isReady 4 = .ok (.iload_n 2, 1) := by decide +kernel
theorem d_C_isReady_5 : decode k_C_isReady 5 = .ok (.aload_n 0, 1) := by decide +kernel
theorem d_C_isReady_6 : decode k_C_isReady 6 = .ok (.iload_n 1, 1) := by decide +kernel
theorem d_C_isReady_7 : decode k_C_isReady 7 = .ok (.invokevirtual 66, 3) := by decide +kernel
theorem d_C_isReady_10 : decode k_C_isReady 10 = .ok (.aload_n 0, 1) := by decide +kernel
theorem d_C_isReady_11 : decode k_C_isReady 11 = .ok (.getfield 27, 3) := by decide +kernel
theorem d_C_isReady_14 : decode k_C_isReady 14 = .ok (.getfield 56, 3) := by decide +kernel
theorem d_C_isReady_17 : decode k_C_isReady 17 = .ok (.iload_n 1, 1) := by decide +kernel
theorem d_C_isReady_18 : decode k_C_isReady 18 = .ok (.iaload, 1) := by decide +kernel
theorem d_C_isReady_19 : decode k_C_isReady 19 = .ok (.invokevirtual 69, 3) := by decide +kernel
theorem d_C_isReady_22 : decode k_C_isReady 22 = .ok (.iconst (-1), 1) := by decide +kernel
theorem d_C_isReady_23 : decode k_C_isReady 23 = .ok (.if_icmp .ne 7, 3) := by decide +kernel
theorem d_C_isReady_26 : decode k_C_isReady 26 = .ok (.iconst 1, 1) := by decide +kernel
theorem d_C_isReady_27 : decode k_C_isReady 27 = .ok (.goto 4, 3) := by decide +kernel
theorem d_C_isReady_30 : decode k_C_isReady 30 = .ok (.iconst 0, 1) := by decide +kernel
theorem d_C_isReady_31 : decode k_C_isReady 31 = .ok (.ireturn, 1) := by decide +kernel
theorem d_C_chosenByRows_0 : decode k_C_chosenByRows 0 = .ok (.iconst (-1), 1) := by decide +kernel
theorem d_C_chosenByRows_1 : decode k_C_chosenByRows 1 = .ok (.istore_n 3, 1) := by decide +kernel
theorem d_C_chosenByRows_2 : decode k_C_chosenByRows 2 = .ok (.iconst 0, 1) := by decide +kernel
theorem d_C_chosenByRows_3 : decode k_C_chosenByRows 3 = .ok (.istore 4, 2) := by decide +kernel
theorem d_C_chosenByRows_5 : decode k_C_chosenByRows 5 = .ok (.iload 4, 2) := by decide +kernel
theorem d_C_chosenByRows_7 : decode k_C_chosenByRows 7 = .ok (.aload_n 0, 1) := by decide +kernel
theorem d_C_chosenByRows_8 : decode k_C_chosenByRows 8 = .ok (.getfield 27, 3) := by decide +kernel
theorem d_C_chosenByRows_11 : decode k_C_chosenByRows 11 = .ok (.getfield 34, 3) := by decide +kernel
theorem d_C_chosenByRows_14 : decode k_C_chosenByRows 14 = .ok (.if_icmp .ge 87, 3) := by decide +kernel
theorem d_C_chosenByRows_17 : decode k_C_chosenByRows 17 = .ok (.aload_n 0, 1) := by decide +kernel
theorem d_C_chosenByRows_18 : decode k_C_chosenByRows 18 = .ok (.iload 4, 2) := by decide +kernel
theorem d_C_chosenByRows_20 : decode k_C_chosenByRows 20 = .ok (.iload_n 1, 1) := by decide +kernel
theorem d_C_chosenByRows_21 : decode k_C_chosenByRows 21 = .ok (.invokevirtual 73, 3) := by decide +kernel
theorem d_C_chosenByRows_24 : decode k_C_chosenByRows 24 = .ok (.ifCond .eq 71, 3) := by decide +kernel
theorem d_C_chosenByRows_27 : decode k_C_chosenByRows 27 = .ok (.aload_n 0, 1) := by decide +kernel
theorem d_C_chosenByRows_28 : decode k_C_chosenByRows 28 = .ok (.iload 4, 2) := by decide +kernel
theorem d_C_chosenByRows_30 : decode k_C_chosenByRows 30 = .ok (.iload_n 2, 1) := by decide +kernel
theorem d_C_chosenByRows_31 : decode k_C_chosenByRows 31 = .ok (.invokevirtual 37, 3) := by decide +kernel
theorem d_C_chosenByRows_34 : decode k_C_chosenByRows 34 = .ok (.ifCond .ne 6, 3) := by decide +kernel
theorem d_C_chosenByRows_37 : decode k_C_chosenByRows 37 = .ok (.goto 58, 3) := by decide +kernel
theorem d_C_chosenByRows_40 : decode k_C_chosenByRows 40 = .ok (.aload_n 0, 1) := by decide +kernel
theorem d_C_chosenByRows_41 : decode k_C_chosenByRows 41 = .ok (.iload 4, 2) := by decide +kernel
theorem d_C_chosenByRows_43 : decode k_C_chosenByRows 43 = .ok (.invokevirtual 66, 3) := by decide +kernel
theorem d_C_chosenByRows_46 : decode k_C_chosenByRows 46 = .ok (.istore 5, 2) := by decide +kernel
theorem d_C_chosenByRows_48 : decode k_C_chosenByRows 48 = .ok (.iload 5, 2) := by decide +kernel
theorem d_C_chosenByRows_50 : decode k_C_chosenByRows 50 = .ok (.iconst 1, 1) := by decide +kernel
theorem d_C_chosenByRows_51 : decode k_C_chosenByRows 51 = .ok (.if_icmp .eq 9, 3) := by decide +kernel
theorem d_C_chosenByRows_54 : decode k_C_chosenByRows 54 = .ok (.iload 5, 2) := by decide +kernel
theorem d_C_chosenByRows_56 : decode k_C_chosenByRows 56 = .ok (.iconst 2, 1) := by decide +kernel
theorem d_C_chosenByRows_57 : decode k_C_chosenByRows 57 = .ok (.if_icmp .ne 6, 3) := by decide +kernel
theorem d_C_chosenByRows_60 : decode k_C_chosenByRows 60 = .ok (.iload 4, 2) := by decide +kernel
theorem d_C_chosenByRows_62 : decode k_C_chosenByRows 62 = .ok (.ireturn, 1) := by decide +kernel
theorem d_C_chosenByRows_63 : decode k_C_chosenByRows 63 = .ok (.iload_n 3, 1) := by decide +kernel
theorem d_C_chosenByRows_64 : decode k_C_chosenByRows 64 = .ok (.iconst (-1), 1) := by decide +kernel
theorem d_C_chosenByRows_65 : decode k_C_chosenByRows 65 = .ok (.if_icmp .ne 30, 3) := by decide +kernel
theorem d_C_chosenByRows_68 : decode k_C_chosenByRows 68 = .ok (.iload 5, 2) := by decide +kernel
theorem d_C_chosenByRows_70 : decode k_C_chosenByRows 70 = .ok (.iconst 3, 1) := by decide +kernel
theorem d_C_chosenByRows_71 : decode k_C_chosenByRows 71 = .ok (.if_icmp .ne 21, 3) := by decide +kernel
theorem d_C_chosenByRows_74 : decode k_C_chosenByRows 74 = .ok (.aload_n 0, 1) := by decide +kernel
theorem d_C_chosenByRows_75 : decode k_C_chosenByRows 75 = .ok (.aload_n 0, 1) := by decide +kernel
theorem d_C_chosenByRows_76 : decode k_C_chosenByRows 76 = .ok (.getfield 27, 3) := by decide +kernel
theorem d_C_chosenByRows_79 : decode k_C_chosenByRows 79 = .ok (.getfield 56, 3) := by decide +kernel
theorem d_C_chosenByRows_82 : decode k_C_chosenByRows 82 = .ok (.iload 4, 2) := by decide +kernel
theorem d_C_chosenByRows_84 : decode k_C_chosenByRows 84 = .ok (.iaload, 1) := by decide +kernel
theorem d_C_chosenByRows_85 : decode k_C_chosenByRows 85 = .ok (.iload_n 1, 1) := by decide +kernel
theorem d_C_chosenByRows_86 : decode k_C_chosenByRows 86 = .ok (.invokevirtual 76, 3) := by decide +kernel
theorem d_C_chosenByRows_89 : decode k_C_chosenByRows 89 = .ok (.ifCond .ne 6, 3) := by decide +kernel
theorem d_C_chosenByRows_92 : decode k_C_chosenByRows 92 = .ok (.iload 4, 2) := by decide +kernel
theorem d_C_chosenByRows_94 : decode k_C_chosenByRows 94 = .ok (.istore_n 3, 1) := by decide +kernel
theorem d_C_chosenByRows_95 : decode k_C_chosenByRows 95 = .ok (.iinc 4 1, 3) := by decide +kernel
theorem d_C_chosenByRows_98 : decode k_C_chosenByRows 98 = .ok (.goto (-93), 3) := by decide +kernel
theorem d_C_chosenByRows_101 : decode k_C_chosenByRows 101 = .ok (.iload_n 3, 1) := by decide +kernel
theorem d_C_chosenByRows_102 : decode k_C_chosenByRows 102 = .ok (.ireturn, 1) := by decide +kernel
theorem d_C_isAmong_0 : decode k_C_isAmong 0 = .ok (.iload_n 2, 1) := by decide +kernel
theorem d_C_isAmong_1 : decode k_C_isAmong 1 = .ok (.ifCond .eq 25, 3) := by decide +kernel
theorem d_C_isAmong_4 : decode k_C_isAmong 4 = .ok (.aload_n 0, 1) := by decide +kernel
theorem d_C_isAmong_5 : decode k_C_isAmong 5 = .ok (.getfield 27, 3) := by decide +kernel
theorem d_C_isAmong_8 : decode k_C_isAmong 8 = .ok (.getfield 62, 3) := by decide +kernel
theorem d_C_isAmong_11 : decode k_C_isAmong 11 = .ok (.iload_n 1, 1) := by decide +kernel
theorem d_C_isAmong_12 : decode k_C_isAmong 12 = .ok (.baload, 1) := by decide +kernel
theorem d_C_isAmong_13 : decode k_C_isAmong 13 = .ok (.iload_n 2, 1) := by decide +kernel
theorem d_C_isAmong_14 : decode k_C_isAmong 14 = .ok (.iconst 2, 1) := by decide +kernel
theorem d_C_isAmong_15 : decode k_C_isAmong 15 = .ok (.if_icmp .ne 7, 3) := by decide +kernel
theorem d_C_isAmong_18 : decode k_C_isAmong 18 = .ok (.iconst 1, 1) := by decide +kernel
theorem d_C_isAmong_19 : decode k_C_isAmong 19 = .ok (.goto 4, 3) := by decide +kernel
theorem d_C_isAmong_22 : decode k_C_isAmong 22 = .ok (.iconst 0, 1) := by decide +kernel
theorem d_C_isAmong_23 : decode k_C_isAmong 23 = .ok (.if_icmp .ne 7, 3) := by decide +kernel
theorem d_C_isAmong_26 : decode k_C_isAmong 26 = .ok (.iconst 1, 1) := by decide +kernel
theorem d_C_isAmong_27 : decode k_C_isAmong 27 = .ok (.goto 4, 3) := by decide +kernel
theorem d_C_isAmong_30 : decode k_C_isAmong 30 = .ok (.iconst 0, 1) := by decide +kernel
theorem d_C_isAmong_31 : decode k_C_isAmong 31 = .ok (.ireturn, 1) := by decide +kernel
theorem d_C_openRowIsWanted_0 : decode k_C_openRowIsWanted 0 = .ok (.iconst 0, 1) := by decide +kernel
theorem d_C_openRowIsWanted_1 : decode k_C_openRowIsWanted 1 = .ok (.istore_n 3, 1) := by decide +kernel
theorem d_C_openRowIsWanted_2 : decode k_C_openRowIsWanted 2 = .ok (.iload_n 3, 1) := by decide +kernel
theorem d_C_openRowIsWanted_3 : decode k_C_openRowIsWanted 3 = .ok (.aload_n 0, 1) := by decide +kernel
theorem d_C_openRowIsWanted_4 : decode k_C_openRowIsWanted 4 = .ok (.getfield 27, 3) := by decide +kernel
theorem d_C_openRowIsWanted_7 : decode k_C_openRowIsWanted 7 = .ok (.getfield 34, 3) := by decide +kernel
theorem d_C_openRowIsWanted_10 : decode k_C_openRowIsWanted 10 = .ok (.if_icmp .ge 54, 3) := by decide +kernel
theorem d_C_openRowIsWanted_13 : decode k_C_openRowIsWanted 13 = .ok (.aload_n 0, 1) := by decide +kernel
theorem d_C_openRowIsWanted_14 : decode k_C_openRowIsWanted 14 = .ok (.iload_n 3, 1) := by decide +kernel
theorem d_C_openRowIsWanted_15 : decode k_C_openRowIsWanted 15 = .ok (.iload_n 2, 1) := by decide +kernel
theorem d_C_openRowIsWanted_16 : decode k_C_openRowIsWanted 16 = .ok (.invokevirtual 73, 3) := by decide +kernel
theorem d_C_openRowIsWanted_19 : decode k_C_openRowIsWanted 19 = .ok (.ifCond .eq 39, 3) := by decide +kernel
theorem d_C_openRowIsWanted_22 : decode k_C_openRowIsWanted 22 = .ok (.aload_n 0, 1) := by decide +kernel
theorem d_C_openRowIsWanted_23 : decode k_C_openRowIsWanted 23 = .ok (.getfield 27, 3) := by decide +kernel
theorem d_C_openRowIsWanted_26 : decode k_C_openRowIsWanted 26 = .ok (.getfield 56, 3) := by decide +kernel
theorem d_C_openRowIsWanted_29 : decode k_C_openRowIsWanted 29 = .ok (.iload_n 3, 1) := by decide +kernel
theorem d_C_openRowIsWanted_30 : decode k_C_openRowIsWanted 30 = .ok (.iaload, 1) := by decide +kernel
theorem d_C_openRowIsWanted_31 : decode k_C_openRowIsWanted 31 = .ok (.iload_n 1, 1) := by decide +kernel
theorem d_C_openRowIsWanted_32 : decode k_C_openRowIsWanted 32 = .ok (.if_icmp .ne 26, 3) := by decide +kernel
theorem d_C_openRowIsWanted_35 : decode k_C_openRowIsWanted 35 = .ok (.aload_n 0, 1) := by decide +kernel
theorem d_C_openRowIsWanted_36 : decode k_C_openRowIsWanted 36 = .ok (.getfield 27, 3) := by decide +kernel
theorem d_C_openRowIsWanted_39 : decode k_C_openRowIsWanted 39 = .ok (.getfield 59, 3) := by decide +kernel
theorem d_C_openRowIsWanted_42 : decode k_C_openRowIsWanted 42 = .ok (.iload_n 3, 1) := by decide +kernel
theorem d_C_openRowIsWanted_43 : decode k_C_openRowIsWanted 43 = .ok (.iaload, 1) := by decide +kernel
theorem d_C_openRowIsWanted_44 : decode k_C_openRowIsWanted 44 = .ok (.aload_n 0, 1) := by decide +kernel
theorem d_C_openRowIsWanted_45 : decode k_C_openRowIsWanted 45 = .ok (.getfield 20, 3) := by decide +kernel
theorem d_C_openRowIsWanted_48 : decode k_C_openRowIsWanted 48 = .ok (.getfield 52, 3) := by decide +kernel
theorem d_C_openRowIsWanted_51 : decode k_C_openRowIsWanted 51 = .ok (.iload_n 1, 1) := by decide +kernel
theorem d_C_openRowIsWanted_52 : decode k_C_openRowIsWanted 52 = .ok (.iaload, 1) := by decide +kernel
theorem d_C_openRowIsWanted_53 : decode k_C_openRowIsWanted 53 = .ok (.if_icmp .ne 5, 3) := by decide +kernel
theorem d_C_openRowIsWanted_56 : decode k_C_openRowIsWanted 56 = .ok (.iconst 1, 1) := by decide +kernel
theorem d_C_openRowIsWanted_57 : decode k_C_openRowIsWanted 57 = .ok (.ireturn, 1) := by decide +kernel
theorem d_C_openRowIsWanted_58 : decode k_C_openRowIsWanted 58 = .ok (.iinc 3 1, 3) := by decide +kernel
theorem d_C_openRowIsWanted_61 : decode k_C_openRowIsWanted 61 = .ok (.goto (-59), 3) := by decide +kernel
theorem d_C_openRowIsWanted_64 : decode k_C_openRowIsWanted 64 = .ok (.iconst 0, 1) := by decide +kernel
theorem d_C_openRowIsWanted_65 : decode k_C_openRowIsWanted 65 = .ok (.ireturn, 1) := by decide +kernel
theorem d_C_chosenByTurns_0 : decode k_C_chosenByTurns 0 = .ok (.iconst 1, 1) := by decide +kernel
theorem d_C_chosenByTurns_1 : decode k_C_chosenByTurns 1 = .ok (.istore_n 2, 1) := by decide +kernel
theorem d_C_chosenByTurns_2 : decode k_C_chosenByTurns 2 = .ok (.iload_n 2, 1) := by decide +kernel
theorem d_C_chosenByTurns_3 : decode k_C_chosenByTurns 3 = .ok (.aload_n 0, 1) := by decide +kernel
theorem d_C_chosenByTurns_4 : decode k_C_chosenByTurns 4 = .ok (.getfield 31, 3) := by decide +kernel
theorem d_C_chosenByTurns_7 : decode k_C_chosenByTurns 7 = .ok (.if_icmp .gt 46, 3) := by decide +kernel
theorem d_C_chosenByTurns_10 : decode k_C_chosenByTurns 10 = .ok (.aload_n 0, 1) := by decide +kernel
theorem d_C_chosenByTurns_11 : decode k_C_chosenByTurns 11 = .ok (.getfield 27, 3) := by decide +kernel
theorem d_C_chosenByTurns_14 : decode k_C_chosenByTurns 14 = .ok (.aload_n 0, 1) := by decide +kernel
theorem d_C_chosenByTurns_15 : decode k_C_chosenByTurns 15 = .ok (.getfield 9, 3) := by decide +kernel
theorem d_C_chosenByTurns_18 : decode k_C_chosenByTurns 18 = .ok (.iload_n 2, 1) := by decide +kernel
theorem d_C_chosenByTurns_19 : decode k_C_chosenByTurns 19 = .ok (.iadd, 1) := by decide +kernel
theorem d_C_chosenByTurns_20 : decode k_C_chosenByTurns 20 = .ok (.aload_n 0, 1) := by decide +kernel
theorem d_C_chosenByTurns_21 : decode k_C_chosenByTurns 21 = .ok (.getfield 31, 3) := by decide +kernel
theorem d_C_chosenByTurns_24 : decode k_C_chosenByTurns 24 = .ok (.iconst 1, 1) := by decide +kernel
theorem d_C_chosenByTurns_25 : decode k_C_chosenByTurns 25 = .ok (.isub, 1) := by decide +kernel
theorem d_C_chosenByTurns_26 : decode k_C_chosenByTurns 26 = .ok (.iand, 1) := by decide +kernel
theorem d_C_chosenByTurns_27 : decode k_C_chosenByTurns 27 = .ok (.invokevirtual 79, 3) := by decide +kernel
theorem d_C_chosenByTurns_30 : decode k_C_chosenByTurns 30 = .ok (.istore_n 3, 1) := by decide +kernel
theorem d_C_chosenByTurns_31 : decode k_C_chosenByTurns 31 = .ok (.iload_n 3, 1) := by decide +kernel
theorem d_C_chosenByTurns_32 : decode k_C_chosenByTurns 32 = .ok (.iconst (-1), 1) := by decide +kernel
theorem d_C_chosenByTurns_33 : decode k_C_chosenByTurns 33 = .ok (.if_icmp .eq 14, 3) := by decide +kernel
theorem d_C_chosenByTurns_36 : decode k_C_chosenByTurns 36 = .ok (.aload_n 0, 1) := by decide +kernel
theorem d_C_chosenByTurns_37 : decode k_C_chosenByTurns 37 = .ok (.iload_n 3, 1) := by decide +kernel
theorem d_C_chosenByTurns_38 : decode k_C_chosenByTurns 38 = .ok (.iload_n 1, 1) := by decide +kernel
theorem d_C_chosenByTurns_39 : decode k_C_chosenByTurns 39 = .ok (.invokevirtual 37, 3) := by decide +kernel
theorem d_C_chosenByTurns_42 : decode k_C_chosenByTurns 42 = .ok (.ifCond .eq 5, 3) := by decide +kernel
theorem d_C_chosenByTurns_45 : decode k_C_chosenByTurns 45 = .ok (.iload_n 3, 1) := by decide +kernel
theorem d_C_chosenByTurns_46 : decode k_C_chosenByTurns 46 = .ok (.ireturn, 1) := by decide +kernel
theorem d_C_chosenByTurns_47 : decode k_C_chosenByTurns 47 = .ok (.iinc 2 1, 3) := by decide +kernel
theorem d_C_chosenByTurns_50 : decode k_C_chosenByTurns 50 = .ok (.goto (-48), 3) := by decide +kernel
theorem d_C_chosenByTurns_53 : decode k_C_chosenByTurns 53 = .ok (.iconst (-1), 1) := by decide +kernel
theorem d_C_chosenByTurns_54 : decode k_C_chosenByTurns 54 = .ok (.ireturn, 1) := by decide +kernel
theorem d_G_init_0 : decode k_G_init 0 = .ok (.aload_n 0, 1) := by decide +kernel
theorem d_G_init_1 : decode k_G_init 1 = .ok (.invokespecial 3, 3) := by decide +kernel
theorem d_G_init_4 : decode k_G_init 4 = .ok (.aload_n 0, 1) := by decide +kernel
theorem d_G_init_5 : decode k_G_init 5 = .ok (.sipush 2560, 3) := by decide +kernel
theorem d_G_init_8 : decode k_G_init 8 = .ok (.newarray .int, 2) := by decide +kernel
theorem d_G_init_10 : decode k_G_init 10 = .ok (.putfield 11, 3) := by decide +kernel
theorem d_G_init_13 : decode k_G_init 13 = .ok (.aload_n 0, 1) := by decide +kernel
theorem d_G_init_14 : decode k_G_init 14 = .ok (.iconst 5, 1) := by decide +kernel
theorem d_G_init_15 : decode k_G_init 15 = .ok (.newarray .int, 2) := by decide +kernel
theorem d_G_init_17 : decode k_G_init 17 = .ok (.putfield 15, 3) := by decide +kernel
theorem d_G_init_20 : decode k_G_init 20 = .ok (.return_, 1) := by decide +kernel
theorem d_G_add_0 : decode k_G_add 0 = .ok (.aload_n 0, 1) := by decide +kernel
theorem d_G_add_1 : decode k_G_add 1 = .ok (.aload_n 0, 1) := by decide +kernel
theorem d_G_add_2 : decode k_G_add 2 = .ok (.getfield 18, 3) := by decide +kernel
theorem d_G_add_5 : decode k_G_add 5 = .ok (.invokevirtual 22, 3) := by decide +kernel
theorem d_G_add_8 : decode k_G_add 8 = .ok (.istore 6, 2) := by decide +kernel
theorem d_G_add_10 : decode k_G_add 10 = .ok (.aload_n 0, 1) := by decide +kernel
theorem d_G_add_11 : decode k_G_add 11 = .ok (.getfield 11, 3) := by decide +kernel
theorem d_G_add_14 : decode k_G_add 14 = .ok (.iload 6, 2) := by decide +kernel
theorem d_G_add_16 : decode k_G_add 16 = .ok (.iload_n 1, 1) := by decide +kernel
theorem d_G_add_17 : decode k_G_add 17 = .ok (.iastore, 1) := by decide +kernel
theorem d_G_add_18 : decode k_G_add 18 = .ok (.aload_n 0, 1) := by decide +kernel
theorem d_G_add_19 : decode k_G_add 19 = .ok (.getfield 11, 3) := by decide +kernel
theorem d_G_add_22 : decode k_G_add 22 = .ok (.iload 6, 2) := by decide +kernel
theorem d_G_add_24 : decode k_G_add 24 = .ok (.iconst 1, 1) := by decide +kernel
theorem d_G_add_25 : decode k_G_add 25 = .ok (.iadd, 1) := by decide +kernel
theorem d_G_add_26 : decode k_G_add 26 = .ok (.iload_n 2, 1) := by decide +kernel
theorem d_G_add_27 : decode k_G_add 27 = .ok (.iastore, 1) := by decide +kernel
theorem d_G_add_28 : decode k_G_add 28 = .ok (.aload_n 0, 1) := by decide +kernel
theorem d_G_add_29 : decode k_G_add 29 = .ok (.getfield 11, 3) := by decide +kernel
theorem d_G_add_32 : decode k_G_add 32 = .ok (.iload 6, 2) := by decide +kernel
theorem d_G_add_34 : decode k_G_add 34 = .ok (.iconst 2, 1) := by decide +kernel
theorem d_G_add_35 : decode k_G_add 35 = .ok (.iadd, 1) := by decide +kernel
theorem d_G_add_36 : decode k_G_add 36 = .ok (.iload_n 3, 1) := by decide +kernel
theorem d_G_add_37 : decode k_G_add 37 = .ok (.iastore, 1) := by decide +kernel
theorem d_G_add_38 : decode k_G_add 38 = .ok (.aload_n 0, 1) := by decide +kernel
theorem d_G_add_39 : decode k_G_add 39 = .ok (.getfield 11, 3) := by decide +kernel
theorem d_G_add_42 : decode k_G_add 42 = .ok (.iload 6, 2) := by decide +kernel
theorem d_G_add_44 : decode k_G_add 44 = .ok (.iconst 3, 1) := by decide +kernel
theorem d_G_add_45 : decode k_G_add 45 = .ok (.iadd, 1) := by decide +kernel
theorem d_G_add_46 : decode k_G_add 46 = .ok (.iload 4, 2) := by decide +kernel
theorem d_G_add_48 : decode k_G_add 48 = .ok (.iastore, 1) := by decide +kernel
theorem d_G_add_49 : decode k_G_add 49 = .ok (.aload_n 0, 1) := by decide +kernel
theorem d_G_add_50 : decode k_G_add 50 = .ok (.getfield 11, 3) := by decide +kernel
theorem d_G_add_53 : decode k_G_add 53 = .ok (.iload 6, 2) := by decide +kernel
theorem d_G_add_55 : decode k_G_add 55 = .ok (.iconst 4, 1) := by decide +kernel
theorem d_G_add_56 : decode k_G_add 56 = .ok (.iadd, 1) := by decide +kernel
theorem d_G_add_57 : decode k_G_add 57 = .ok (.iload 5, 2) := by decide +kernel
theorem d_G_add_59 : decode k_G_add 59 = .ok (.iastore, 1) := by decide +kernel
theorem d_G_add_60 : decode k_G_add 60 = .ok (.aload_n 0, 1) := by decide +kernel
theorem d_G_add_61 : decode k_G_add 61 = .ok (.getfield 18, 3) := by decide +kernel
theorem d_G_add_64 : decode k_G_add 64 = .ok (.sipush 512, 3) := by decide +kernel
theorem d_G_add_67 : decode k_G_add 67 = .ok (.if_icmp .ge 16, 3) := by decide +kernel
theorem d_G_add_70 : decode k_G_add 70 = .ok (.aload_n 0, 1) := by decide +kernel
theorem d_G_add_71 : decode k_G_add 71 = .ok (.dup, 1) := by decide +kernel
theorem d_G_add_72 : decode k_G_add 72 = .ok (.getfield 18, 3) := by decide +kernel
theorem d_G_add_75 : decode k_G_add 75 = .ok (.iconst 1, 1) := by decide +kernel
theorem d_G_add_76 : decode k_G_add 76 = .ok (.iadd, 1) := by decide +kernel
theorem d_G_add_77 : decode k_G_add 77 = .ok (.putfield 18, 3) := by decide +kernel
theorem d_G_add_80 : decode k_G_add 80 = .ok (.goto 17, 3) := by decide +kernel
theorem d_G_add_83 : decode k_G_add 83 = .ok (.aload_n 0, 1) := by decide +kernel
theorem d_G_add_84 : decode k_G_add 84 = .ok (.aload_n 0, 1) := by decide +kernel
theorem d_G_add_85 : decode k_G_add 85 = .ok (.getfield 26, 3) := by decide +kernel
theorem d_G_add_88 : decode k_G_add 88 = .ok (.iconst 1, 1) := by decide +kernel
theorem d_G_add_89 : decode k_G_add 89 = .ok (.iadd, 1) := by decide +kernel
theorem d_G_add_90 : decode k_G_add 90 = .ok (.sipush 512, 3) := by decide +kernel
theorem d_G_add_93 : decode k_G_add 93 = .ok (.irem, 1) := by decide +kernel
theorem d_G_add_94 : decode k_G_add 94 = .ok (.putfield 26, 3) := by decide +kernel
theorem d_G_add_97 : decode k_G_add 97 = .ok (.aload_n 0, 1) := by decide +kernel
theorem d_G_add_98 : decode k_G_add 98 = .ok (.getfield 15, 3) := by decide +kernel
theorem d_G_add_101 : decode k_G_add 101 = .ok (.iload_n 3, 1) := by decide +kernel
theorem d_G_add_102 : decode k_G_add 102 = .ok (.dup2, 1) := by decide +kernel
theorem d_G_add_103 : decode k_G_add 103 = .ok (.iaload, 1) := by decide +kernel
theorem d_G_add_104 : decode k_G_add 104 = .ok (.iconst 1, 1) := by decide +kernel
theorem d_G_add_105 : decode k_G_add 105 = .ok (.iadd, 1) := by decide +kernel
theorem d_G_add_106 : decode k_G_add 106 = .ok (.iastore, 1) := by decide +kernel
theorem d_G_add_107 : decode k_G_add 107 = .ok (.aload_n 0, 1) := by decide +kernel
theorem d_G_add_108 : decode k_G_add 108 = .ok (.dup, 1) := by decide +kernel
theorem d_G_add_109 : decode k_G_add 109 = .ok (.getfield 29, 3) := by decide +kernel
theorem d_G_add_112 : decode k_G_add 112 = .ok (.iconst 1, 1) := by decide +kernel
theorem d_G_add_113 : decode k_G_add 113 = .ok (.iadd, 1) := by decide +kernel
theorem d_G_add_114 : decode k_G_add 114 = .ok (.putfield 29, 3) := by decide +kernel
theorem d_G_add_117 : decode k_G_add 117 = .ok (.return_, 1) := by decide +kernel
theorem d_G_partOf_0 : decode k_G_partOf 0 = .ok (.aload_n 0, 1) := by decide +kernel
theorem d_G_partOf_1 : decode k_G_partOf 1 = .ok (.getfield 11, 3) := by decide +kernel
theorem d_G_partOf_4 : decode k_G_partOf 4 = .ok (.aload_n 0, 1) := by decide +kernel
theorem d_G_partOf_5 : decode k_G_partOf 5 = .ok (.iload_n 1, 1) := by decide +kernel
theorem d_G_partOf_6 : decode k_G_partOf 6 = .ok (.invokevirtual 22, 3) := by decide +kernel
theorem d_G_partOf_9 : decode k_G_partOf 9 = .ok (.iload_n 2, 1) := by decide +kernel
theorem d_G_partOf_10 : decode k_G_partOf 10 = .ok (.iadd, 1) := by decide +kernel
theorem d_G_partOf_11 : decode k_G_partOf 11 = .ok (.iaload, 1) := by decide +kernel
theorem d_G_partOf_12 : decode k_G_partOf 12 = .ok (.ireturn, 1) := by decide +kernel
theorem d_G_placeOf_0 : decode k_G_placeOf 0 = .ok (.aload_n 0, 1) := by decide +kernel
theorem d_G_placeOf_1 : decode k_G_placeOf 1 = .ok (.getfield 26, 3) := by decide +kernel
theorem d_G_placeOf_4 : decode k_G_placeOf 4 = .ok (.iload_n 1, 1) := by decide +kernel
theorem d_G_placeOf_5 : decode k_G_placeOf 5 = .ok (.iadd, 1) := by decide +kernel
theorem d_G_placeOf_6 : decode k_G_placeOf 6 = .ok (.sipush 512, 3) := by decide +kernel
theorem d_G_placeOf_9 : decode k_G_placeOf 9 = .ok (.irem, 1) := by decide +kernel
theorem d_G_placeOf_10 : decode k_G_placeOf 10 = .ok (.iconst 5, 1) := by decide +kernel
theorem d_G_placeOf_11 : decode k_G_placeOf 11 = .ok (.imul, 1) := by decide +kernel
theorem d_G_placeOf_12 : decode k_G_placeOf 12 = .ok (.ireturn, 1) := by decide +kernel
theorem d_Q_init_0 : decode k_Q_init 0 = .ok (.aload_n 0, 1) := by decide +kernel
theorem d_Q_init_1 : decode k_Q_init 1 = .ok (.invokespecial 3, 3) := by decide +kernel
theorem d_Q_init_4 : decode k_Q_init 4 = .ok (.aload_n 0, 1) := by decide +kernel
theorem d_Q_init_5 : decode k_Q_init 5 = .ok (.bipush 8, 2) := by decide +kernel
theorem d_Q_init_7 : decode k_Q_init 7 = .ok (.newarray .int, 2) := by decide +kernel
theorem d_Q_init_9 : decode k_Q_init 9 = .ok (.putfield 11, 3) := by decide +kernel
theorem d_Q_init_12 : decode k_Q_init 12 = .ok (.aload_n 0, 1) := by decide +kernel
theorem d_Q_init_13 : decode k_Q_init 13 = .ok (.bipush 8, 2) := by decide +kernel
theorem d_Q_init_15 : decode k_Q_init 15 = .ok (.newarray .int, 2) := by decide +kernel
theorem d_Q_init_17 : decode k_Q_init 17 = .ok (.putfield 15, 3) := by decide +kernel
theorem d_Q_init_20 : decode k_Q_init 20 = .ok (.aload_n 0, 1) := by decide +kernel
theorem d_Q_init_21 : decode k_Q_init 21 = .ok (.bipush 8, 2) := by decide +kernel
theorem d_Q_init_23 : decode k_Q_init 23 = .ok (.newarray .int, 2) := by decide +kernel
theorem d_Q_init_25 : decode k_Q_init 25 = .ok (.putfield 18, 3) := by decide +kernel
theorem d_Q_init_28 : decode k_Q_init 28 = .ok (.aload_n 0, 1) := by decide +kernel
theorem d_Q_init_29 : decode k_Q_init 29 = .ok (.bipush 8, 2) := by decide +kernel
theorem d_Q_init_31 : decode k_Q_init 31 = .ok (.newarray .int, 2) := by decide +kernel
theorem d_Q_init_33 : decode k_Q_init 33 = .ok (.putfield 21, 3) := by decide +kernel
theorem d_Q_init_36 : decode k_Q_init 36 = .ok (.aload_n 0, 1) := by decide +kernel
theorem d_Q_init_37 : decode k_Q_init 37 = .ok (.bipush 8, 2) := by decide +kernel
theorem d_Q_init_39 : decode k_Q_init 39 = .ok (.newarray .boolean, 2) := by decide +kernel
theorem d_Q_init_41 : decode k_Q_init 41 = .ok (.putfield 24, 3) := by decide +kernel
theorem d_Q_init_44 : decode k_Q_init 44 = .ok (.return_, 1) := by decide +kernel
theorem d_Q_isFull_0 : decode k_Q_isFull 0 = .ok (.aload_n 0, 1) := by decide +kernel
theorem d_Q_isFull_1 : decode k_Q_isFull 1 = .ok (.getfield 28, 3) := by decide +kernel
theorem d_Q_isFull_4 : decode k_Q_isFull 4 = .ok (.bipush 8, 2) := by decide +kernel
theorem d_Q_isFull_6 : decode k_Q_isFull 6 = .ok (.if_icmp .lt 7, 3) := by decide +kernel
theorem d_Q_isFull_9 : decode k_Q_isFull 9 = .ok (.iconst 1, 1) := by decide +kernel
theorem d_Q_isFull_10 : decode k_Q_isFull 10 = .ok (.goto 4, 3) := by decide +kernel
theorem d_Q_isFull_13 : decode k_Q_isFull 13 = .ok (.iconst 0, 1) := by decide +kernel
theorem d_Q_isFull_14 : decode k_Q_isFull 14 = .ok (.ireturn, 1) := by decide +kernel
theorem d_Q_add_0 : decode k_Q_add 0 = .ok (.aload_n 0, 1) := by decide +kernel
theorem d_Q_add_1 : decode k_Q_add 1 = .ok (.getfield 11, 3) := by decide +kernel
theorem d_Q_add_4 : decode k_Q_add 4 = .ok (.aload_n 0, 1) := by decide +kernel
theorem d_Q_add_5 : decode k_Q_add 5 = .ok (.getfield 28, 3) := by decide +kernel
theorem d_Q_add_8 : decode k_Q_add 8 = .ok (.iload_n 1, 1) := by decide +kernel
theorem d_Q_add_9 : decode k_Q_add 9 = .ok (.iastore, 1) := by decide +kernel
theorem d_Q_add_10 : decode k_Q_add 10 = .ok (.aload_n 0, 1) := by decide +kernel
theorem d_Q_add_11 : decode k_Q_add 11 = .ok (.getfield 15, 3) := by decide +kernel
theorem d_Q_add_14 : decode k_Q_add 14 = .ok (.aload_n 0, 1) := by decide +kernel
theorem d_Q_add_15 : decode k_Q_add 15 = .ok (.getfield 28, 3) := by decide +kernel
theorem d_Q_add_18 : decode k_Q_add 18 = .ok (.iload_n 2, 1) := by decide +kernel
theorem d_Q_add_19 : decode k_Q_add 19 = .ok (.iastore, 1) := by decide +kernel
theorem d_Q_add_20 : decode k_Q_add 20 = .ok (.aload_n 0, 1) := by decide +kernel
theorem d_Q_add_21 : decode k_Q_add 21 = .ok (.getfield 18, 3) := by decide +kernel
theorem d_Q_add_24 : decode k_Q_add 24 = .ok (.aload_n 0, 1) := by decide +kernel
theorem d_Q_add_25 : decode k_Q_add 25 = .ok (.getfield 28, 3) := by decide +kernel
theorem d_Q_add_28 : decode k_Q_add 28 = .ok (.iload_n 3, 1) := by decide +kernel
theorem d_Q_add_29 : decode k_Q_add 29 = .ok (.iastore, 1) := by decide +kernel
theorem d_Q_add_30 : decode k_Q_add 30 = .ok (.aload_n 0, 1) := by decide +kernel
theorem d_Q_add_31 : decode k_Q_add 31 = .ok (.getfield 21, 3) := by decide +kernel
theorem d_Q_add_34 : decode k_Q_add 34 = .ok (.aload_n 0, 1) := by decide +kernel
theorem d_Q_add_35 : decode k_Q_add 35 = .ok (.getfield 28, 3) := by decide +kernel
theorem d_Q_add_38 : decode k_Q_add 38 = .ok (.iload 4, 2) := by decide +kernel
theorem d_Q_add_40 : decode k_Q_add 40 = .ok (.iastore, 1) := by decide +kernel
theorem d_Q_add_41 : decode k_Q_add 41 = .ok (.aload_n 0, 1) := by decide +kernel
theorem d_Q_add_42 : decode k_Q_add 42 = .ok (.getfield 24, 3) := by decide +kernel
theorem d_Q_add_45 : decode k_Q_add 45 = .ok (.aload_n 0, 1) := by decide +kernel
theorem d_Q_add_46 : decode k_Q_add 46 = .ok (.getfield 28, 3) := by decide +kernel
theorem d_Q_add_49 : decode k_Q_add 49 = .ok (.iload 5, 2) := by decide +kernel
theorem d_Q_add_51 : decode k_Q_add 51 = .ok (.bastore, 1) := by decide +kernel
theorem d_Q_add_52 : decode k_Q_add 52 = .ok (.aload_n 0, 1) := by decide +kernel
theorem d_Q_add_53 : decode k_Q_add 53 = .ok (.dup, 1) := by decide +kernel
theorem d_Q_add_54 : decode k_Q_add 54 = .ok (.getfield 28, 3) := by decide +kernel
theorem d_Q_add_57 : decode k_Q_add 57 = .ok (.iconst 1, 1) := by decide +kernel
theorem d_Q_add_58 : decode k_Q_add 58 = .ok (.iadd, 1) := by decide +kernel
theorem d_Q_add_59 : decode k_Q_add 59 = .ok (.putfield 28, 3) := by decide +kernel
theorem d_Q_add_62 : decode k_Q_add 62 = .ok (.iload 5, 2) := by decide +kernel
theorem d_Q_add_64 : decode k_Q_add 64 = .ok (.ifCond .eq 13, 3) := by decide +kernel
theorem d_Q_add_67 : decode k_Q_add 67 = .ok (.aload_n 0, 1) := by decide +kernel
theorem d_Q_add_68 : decode k_Q_add 68 = .ok (.dup, 1) := by decide +kernel
theorem d_Q_add_69 : decode k_Q_add 69 = .ok (.getfield 32, 3) := by decide +kernel
theorem d_Q_add_72 : decode k_Q_add 72 = .ok (.iconst 1, 1) := by decide +kernel
theorem d_Q_add_73 : decode k_Q_add 73 = .ok (.iadd, 1) := by decide +kernel
theorem d_Q_add_74 : decode k_Q_add 74 = .ok (.putfield 32, 3) := by decide +kernel
theorem d_Q_add_77 : decode k_Q_add 77 = .ok (.return_, 1) := by decide +kernel
theorem d_Q_removeAt_0 : decode k_Q_removeAt 0 = .ok (.aload_n 0, 1) := by decide +kernel
theorem d_Q_removeAt_1 : decode k_Q_removeAt 1 = .ok (.getfield 24, 3) := by decide +kernel
theorem d_Q_removeAt_4 : decode k_Q_removeAt 4 = .ok (.iload_n 1, 1) := by decide +kernel
theorem d_Q_removeAt_5 : decode k_Q_removeAt 5 = .ok (.baload, 1) := by decide +kernel
theorem d_Q_removeAt_6 : decode k_Q_removeAt 6 = .ok (.ifCond .eq 13, 3) := by decide +kernel
theorem d_Q_removeAt_9 : decode k_Q_removeAt 9 = .ok (.aload_n 0, 1) := by decide +kernel
theorem d_Q_removeAt_10 : decode k_Q_removeAt 10 = .ok (.dup, 1) := by decide +kernel
theorem d_Q_removeAt_11 : decode k_Q_removeAt 11 = .ok (.getfield 32, 3) := by decide +kernel
theorem d_Q_removeAt_14 : decode k_Q_removeAt 14 = .ok (.iconst 1, 1) := by decide +kernel
theorem d_Q_removeAt_15 : decode k_Q_removeAt 15 = .ok (.isub, 1) := by decide +kernel
theorem d_Q_removeAt_16 : decode k_Q_removeAt 16 = .ok (.putfield 32, 3) := by decide +kernel
theorem d_Q_removeAt_19 : decode k_Q_removeAt 19 = .ok (.aload_n 0, 1) := by decide +kernel
theorem d_Q_removeAt_20 : decode k_Q_removeAt 20 = .ok (.dup, 1) := by decide +kernel
theorem d_Q_removeAt_21 : decode k_Q_removeAt 21 = .ok (.getfield 28, 3) := by decide +kernel
theorem d_Q_removeAt_24 : decode k_Q_removeAt 24 = .ok (.iconst 1, 1) := by decide +kernel
theorem d_Q_removeAt_25 : decode k_Q_removeAt 25 = .ok (.isub, 1) := by decide +kernel
theorem d_Q_removeAt_26 : decode k_Q_removeAt 26 = .ok (.putfield 28, 3) := by decide +kernel
theorem d_Q_removeAt_29 : decode k_Q_removeAt 29 = .ok (.iload_n 1, 1) := by decide +kernel
theorem d_Q_removeAt_30 : decode k_Q_removeAt 30 = .ok (.istore_n 2, 1) := by decide +kernel
theorem d_Q_removeAt_31 : decode k_Q_removeAt 31 = .ok (.iload_n 2, 1) := by decide +kernel
theorem d_Q_removeAt_32 : decode k_Q_removeAt 32 = .ok (.aload_n 0, 1) := by decide +kernel
theorem d_Q_removeAt_33 : decode k_Q_removeAt 33 = .ok (.getfield 28, 3) := by decide +kernel
theorem d_Q_removeAt_36 : decode k_Q_removeAt 36 = .ok (.if_icmp .ge 79, 3) := by decide +kernel
theorem d_Q_removeAt_39 : decode k_Q_removeAt 39 = .ok (.aload_n 0, 1) := by decide +kernel
theorem d_Q_removeAt_40 : decode k_Q_removeAt 40 = .ok (.getfield 11, 3) := by decide +kernel
theorem d_Q_removeAt_43 : decode k_Q_removeAt 43 = .ok (.iload_n 2, 1) := by decide +kernel
theorem d_Q_removeAt_44 : decode k_Q_removeAt 44 = .ok (.aload_n 0, 1) := by decide +kernel
theorem d_Q_removeAt_45 : decode k_Q_removeAt 45 = .ok (.getfield 11, 3) := by decide +kernel
theorem d_Q_removeAt_48 : decode k_Q_removeAt 48 = .ok (.iload_n 2, 1) := by decide +kernel
theorem d_Q_removeAt_49 : decode k_Q_removeAt 49 = .ok (.iconst 1, 1) := by decide +kernel
theorem d_Q_removeAt_50 : decode k_Q_removeAt 50 = .ok (.iadd, 1) := by decide +kernel
theorem d_Q_removeAt_51 : decode k_Q_removeAt 51 = .ok (.iaload, 1) := by decide +kernel
theorem d_Q_removeAt_52 : decode k_Q_removeAt 52 = .ok (.iastore, 1) := by decide +kernel
theorem d_Q_removeAt_53 : decode k_Q_removeAt 53 = .ok (.aload_n 0, 1) := by decide +kernel
theorem d_Q_removeAt_54 : decode k_Q_removeAt 54 = .ok (.getfield 15, 3) := by decide +kernel
theorem d_Q_removeAt_57 : decode k_Q_removeAt 57 = .ok (.iload_n 2, 1) := by decide +kernel
theorem d_Q_removeAt_58 : decode k_Q_removeAt 58 = .ok (.aload_n 0, 1) := by decide +kernel
theorem d_Q_removeAt_59 : decode k_Q_removeAt 59 = .ok (.getfield 15, 3) := by decide +kernel
theorem d_Q_removeAt_62 : decode k_Q_removeAt 62 = .ok (.iload_n 2, 1) := by decide +kernel
theorem d_Q_removeAt_63 : decode k_Q_removeAt 63 = .ok (.iconst 1, 1) := by decide +kernel
theorem d_Q_removeAt_64 : decode k_Q_removeAt 64 = .ok (.iadd, 1) := by decide +kernel
theorem d_Q_removeAt_65 : decode k_Q_removeAt 65 = .ok (.iaload, 1) := by decide +kernel
theorem d_Q_removeAt_66 : decode k_Q_removeAt 66 = .ok (.iastore, 1) := by decide +kernel
theorem d_Q_removeAt_67 : decode k_Q_removeAt 67 = .ok (.aload_n 0, 1) := by decide +kernel
theorem d_Q_removeAt_68 : decode k_Q_removeAt 68 = .ok (.getfield 18, 3) := by decide +kernel
theorem d_Q_removeAt_71 : decode k_Q_removeAt 71 = .ok (.iload_n 2, 1) := by decide +kernel
theorem d_Q_removeAt_72 : decode k_Q_removeAt 72 = .ok (.aload_n 0, 1) := by decide +kernel
theorem d_Q_removeAt_73 : decode k_Q_removeAt 73 = .ok (.getfield 18, 3) := by decide +kernel
theorem d_Q_removeAt_76 : decode k_Q_removeAt 76 = .ok (.iload_n 2, 1) := by decide +kernel
theorem d_Q_removeAt_77 : decode k_Q_removeAt 77 = .ok (.iconst 1, 1) := by decide +kernel
theorem d_Q_removeAt_78 : decode k_Q_removeAt 78 = .ok (.iadd, 1) := by decide +kernel
theorem d_Q_removeAt_79 : decode k_Q_removeAt 79 = .ok (.iaload, 1) := by decide +kernel
theorem d_Q_removeAt_80 : decode k_Q_removeAt 80 = .ok (.iastore, 1) := by decide +kernel
theorem d_Q_removeAt_81 : decode k_Q_removeAt 81 = .ok (.aload_n 0, 1) := by decide +kernel
theorem d_Q_removeAt_82 : decode k_Q_removeAt 82 = .ok (.getfield 21, 3) := by decide +kernel
theorem d_Q_removeAt_85 : decode k_Q_removeAt 85 = .ok (.iload_n 2, 1) := by decide +kernel
theorem d_Q_removeAt_86 : decode k_Q_removeAt 86 = .ok (.aload_n 0, 1) := by decide +kernel
theorem d_Q_removeAt_87 : decode k_Q_removeAt 87 = .ok (.getfield 21, 3) := by decide +kernel
theorem d_Q_removeAt_90 : decode k_Q_removeAt 90 = .ok (.iload_n 2, 1) := by decide +kernel
theorem d_Q_removeAt_91 : decode k_Q_removeAt 91 = .ok (.iconst 1, 1) := by decide +kernel
theorem d_Q_removeAt_92 : decode k_Q_removeAt 92 = .ok (.iadd, 1) := by decide +kernel
theorem d_Q_removeAt_93 : decode k_Q_removeAt 93 = .ok (.iaload, 1) := by decide +kernel
theorem d_Q_removeAt_94 : decode k_Q_removeAt 94 = .ok (.iastore, 1) := by decide +kernel
theorem d_Q_removeAt_95 : decode k_Q_removeAt 95 = .ok (.aload_n 0, 1) := by decide +kernel
theorem d_Q_removeAt_96 : decode k_Q_removeAt 96 = .ok (.getfield 24, 3) := by decide +kernel
theorem d_Q_removeAt_99 : decode k_Q_removeAt 99 = .ok (.iload_n 2, 1) := by decide +kernel
theorem d_Q_removeAt_100 : decode k_Q_removeAt 100 = .ok (.aload_n 0, 1) := by decide +kernel
theorem d_Q_removeAt_101 : decode k_Q_removeAt 101 = .ok (.getfield 24, 3) := by decide +kernel
theorem d_Q_removeAt_104 : decode k_Q_removeAt 104 = .ok (.iload_n 2, 1) := by decide +kernel
theorem d_Q_removeAt_105 : decode k_Q_removeAt 105 = .ok (.iconst 1, 1) := by decide +kernel
theorem d_Q_removeAt_106 : decode k_Q_removeAt 106 = .ok (.iadd, 1) := by decide +kernel
theorem d_Q_removeAt_107 : decode k_Q_removeAt 107 = .ok (.baload, 1) := by decide +kernel
theorem d_Q_removeAt_108 : decode k_Q_removeAt 108 = .ok (.bastore, 1) := by decide +kernel
theorem d_Q_removeAt_109 : decode k_Q_removeAt 109 = .ok (.iinc 2 1, 3) := by decide +kernel
theorem d_Q_removeAt_112 : decode k_Q_removeAt 112 = .ok (.goto (-81), 3) := by decide +kernel
theorem d_Q_removeAt_115 : decode k_Q_removeAt 115 = .ok (.return_, 1) := by decide +kernel
theorem d_Q_oldestOf_0 : decode k_Q_oldestOf 0 = .ok (.iconst 0, 1) := by decide +kernel
theorem d_Q_oldestOf_1 : decode k_Q_oldestOf 1 = .ok (.istore_n 2, 1) := by decide +kernel
theorem d_Q_oldestOf_2 : decode k_Q_oldestOf 2 = .ok (.iload_n 2, 1) := by decide +kernel
theorem d_Q_oldestOf_3 : decode k_Q_oldestOf 3 = .ok (.aload_n 0, 1) := by decide +kernel
theorem d_Q_oldestOf_4 : decode k_Q_oldestOf 4 = .ok (.getfield 28, 3) := by decide +kernel
theorem d_Q_oldestOf_7 : decode k_Q_oldestOf 7 = .ok (.if_icmp .ge 21, 3) := by decide +kernel
theorem d_Q_oldestOf_10 : decode k_Q_oldestOf 10 = .ok (.aload_n 0, 1) := by decide +kernel
theorem d_Q_oldestOf_11 : decode k_Q_oldestOf 11 = .ok (.getfield 18, 3) := by decide +kernel
theorem d_Q_oldestOf_14 : decode k_Q_oldestOf 14 = .ok (.iload_n 2, 1) := by decide +kernel
theorem d_Q_oldestOf_15 : decode k_Q_oldestOf 15 = .ok (.iaload, 1) := by decide +kernel
theorem d_Q_oldestOf_16 : decode k_Q_oldestOf 16 = .ok (.iload_n 1, 1) := by decide +kernel
theorem d_Q_oldestOf_17 : decode k_Q_oldestOf 17 = .ok (.if_icmp .ne 5, 3) := by decide +kernel
theorem d_Q_oldestOf_20 : decode k_Q_oldestOf 20 = .ok (.iload_n 2, 1) := by decide +kernel
theorem d_Q_oldestOf_21 : decode k_Q_oldestOf 21 = .ok (.ireturn, 1) := by decide +kernel
theorem d_Q_oldestOf_22 : decode k_Q_oldestOf 22 = .ok (.iinc 2 1, 3) := by decide +kernel
theorem d_Q_oldestOf_25 : decode k_Q_oldestOf 25 = .ok (.goto (-23), 3) := by decide +kernel
theorem d_Q_oldestOf_28 : decode k_Q_oldestOf 28 = .ok (.iconst (-1), 1) := by decide +kernel
theorem d_Q_oldestOf_29 : decode k_Q_oldestOf 29 = .ok (.ireturn, 1) := by decide +kernel
theorem d_R_init_0 : decode k_R_init 0 = .ok (.aload_n 0, 1) := by decide +kernel
theorem d_R_init_1 : decode k_R_init 1 = .ok (.invokespecial 3, 3) := by decide +kernel
theorem d_R_init_4 : decode k_R_init 4 = .ok (.aload_n 0, 1) := by decide +kernel
theorem d_R_init_5 : decode k_R_init 5 = .ok (.aload_n 2, 1) := by decide +kernel
theorem d_R_init_6 : decode k_R_init 6 = .ok (.putfield 9, 3) := by decide +kernel
theorem d_R_init_9 : decode k_R_init 9 = .ok (.aload_n 0, 1) := by decide +kernel
theorem d_R_init_10 : decode k_R_init 10 = .ok (.iload_n 1, 1) := by decide +kernel
theorem d_R_init_11 : decode k_R_init 11 = .ok (.newarray .int, 2) := by decide +kernel
theorem d_R_init_13 : decode k_R_init 13 = .ok (.putfield 15, 3) := by decide +kernel
theorem d_R_init_16 : decode k_R_init 16 = .ok (.aload_n 0, 1) := by decide +kernel
theorem d_R_init_17 : decode k_R_init 17 = .ok (.iload_n 1, 1) := by decide +kernel
theorem d_R_init_18 : decode k_R_init 18 = .ok (.newarray .int, 2) := by decide +kernel
theorem d_R_init_20 : decode k_R_init 20 = .ok (.putfield 18, 3) := by decide +kernel
theorem d_R_init_23 : decode k_R_init 23 = .ok (.aload_n 0, 1) := by decide +kernel
theorem d_R_init_24 : decode k_R_init 24 = .ok (.iload_n 1, 1) := by decide +kernel
theorem d_R_init_25 : decode k_R_init 25 = .ok (.newarray .int, 2) := by decide +kernel
theorem d_R_init_27 : decode k_R_init 27 = .ok (.putfield 21, 3) := by decide +kernel
theorem d_R_init_30 : decode k_R_init 30 = .ok (.aload_n 0, 1) := by decide +kernel
theorem d_R_init_31 : decode k_R_init 31 = .ok (.iload_n 1, 1) := by decide +kernel
theorem d_R_init_32 : decode k_R_init 32 = .ok (.newarray .int, 2) := by decide +kernel
theorem d_R_init_34 : decode k_R_init 34 = .ok (.putfield 24, 3) := by decide +kernel
theorem d_R_init_37 : decode k_R_init 37 = .ok (.aload_n 0, 1) := by decide +kernel
theorem d_R_init_38 : decode k_R_init 38 = .ok (.iload_n 1, 1) := by decide +kernel
theorem d_R_init_39 : decode k_R_init 39 = .ok (.newarray .int, 2) := by decide +kernel
theorem d_R_init_41 : decode k_R_init 41 = .ok (.putfield 27, 3) := by decide +kernel
theorem d_R_init_44 : decode k_R_init 44 = .ok (.aload_n 0, 1) := by decide +kernel
theorem d_R_init_45 : decode k_R_init 45 = .ok (.iconst 4, 1) := by decide +kernel
theorem d_R_init_46 : decode k_R_init 46 = .ok (.newarray .int, 2) := by decide +kernel
theorem d_R_init_48 : decode k_R_init 48 = .ok (.putfield 30, 3) := by decide +kernel
theorem d_R_init_51 : decode k_R_init 51 = .ok (.aload_n 0, 1) := by decide +kernel
theorem d_R_init_52 : decode k_R_init 52 = .ok (.invokevirtual 33, 3) := by decide +kernel
theorem d_R_init_55 : decode k_R_init 55 = .ok (.return_, 1) := by decide +kernel
theorem d_R_forget_0 : decode k_R_forget 0 = .ok (.aload_n 0, 1) := by decide +kernel
theorem d_R_forget_1 : decode k_R_forget 1 = .ok (.getfield 15, 3) := by decide +kernel
theorem d_R_forget_4 : decode k_R_forget 4 = .ok (.iconst (-1), 1) := by decide +kernel
theorem d_R_forget_5 : decode k_R_forget 5 = .ok (.invokestatic 36, 3) := by decide +kernel
theorem d_R_forget_8 : decode k_R_forget 8 = .ok (.aload_n 0, 1) := by decide +kernel
theorem d_R_forget_9 : decode k_R_forget 9 = .ok (.getfield 18, 3) := by decide +kernel
theorem d_R_forget_12 : decode k_R_forget 12 = .ok (.iconst (-1), 1) := by decide +kernel
theorem d_R_forget_13 : decode k_R_forget 13 = .ok (.invokestatic 36, 3) := by decide +kernel
theorem d_R_forget_16 : decode k_R_forget 16 = .ok (.aload_n 0, 1) := by decide +kernel
theorem d_R_forget_17 : decode k_R_forget 17 = .ok (.getfield 21, 3) := by decide +kernel
theorem d_R_forget_20 : decode k_R_forget 20 = .ok (.iconst (-1), 1) := by decide +kernel
theorem d_R_forget_21 : decode k_R_forget 21 = .ok (.invokestatic 36, 3) := by decide +kernel
theorem d_R_forget_24 : decode k_R_forget 24 = .ok (.aload_n 0, 1) := by decide +kernel
theorem d_R_forget_25 : decode k_R_forget 25 = .ok (.getfield 24, 3) := by decide +kernel
theorem d_R_forget_28 : decode k_R_forget 28 = .ok (.iconst (-1), 1) := by decide +kernel
theorem d_R_forget_29 : decode k_R_forget 29 = .ok (.invokestatic 36, 3) := by decide +kernel
theorem d_R_forget_32 : decode k_R_forget 32 = .ok (.aload_n 0, 1) := by decide +kernel
theorem d_R_forget_33 : decode k_R_forget 33 = .ok (.getfield 27, 3) := by decide +kernel
theorem d_R_forget_36 : decode k_R_forget 36 = .ok (.iconst (-1), 1) := by decide +kernel
theorem d_R_forget_37 : decode k_R_forget 37 = .ok (.invokestatic 36, 3) := by decide +kernel
theorem d_R_forget_40 : decode k_R_forget 40 = .ok (.aload_n 0, 1) := by decide +kernel
theorem d_R_forget_41 : decode k_R_forget 41 = .ok (.getfield 30, 3) := by decide +kernel
theorem d_R_forget_44 : decode k_R_forget 44 = .ok (.iconst (-1), 1) := by decide +kernel
theorem d_R_forget_45 : decode k_R_forget 45 = .ok (.invokestatic 36, 3) := by decide +kernel
theorem d_R_forget_48 : decode k_R_forget 48 = .ok (.aload_n 0, 1) := by decide +kernel
theorem d_R_forget_49 : decode k_R_forget 49 = .ok (.iconst (-1), 1) := by decide +kernel
theorem d_R_forget_50 : decode k_R_forget 50 = .ok (.putfield 42, 3) := by decide +kernel
theorem d_R_forget_53 : decode k_R_forget 53 = .ok (.aload_n 0, 1) := by decide +kernel
theorem d_R_forget_54 : decode k_R_forget 54 = .ok (.iconst (-1), 1) := by decide +kernel
theorem d_R_forget_55 : decode k_R_forget 55 = .ok (.putfield 46, 3) := by decide +kernel
theorem d_R_forget_58 : decode k_R_forget 58 = .ok (.aload_n 0, 1) := by decide +kernel
theorem d_R_forget_59 : decode k_R_forget 59 = .ok (.iconst (-1), 1) := by decide +kernel
theorem d_R_forget_60 : decode k_R_forget 60 = .ok (.putfield 49, 3) := by decide +kernel
theorem d_R_forget_63 : decode k_R_forget 63 = .ok (.aload_n 0, 1) := by decide +kernel
theorem d_R_forget_64 : decode k_R_forget 64 = .ok (.iconst (-1), 1) := by decide +kernel
theorem d_R_forget_65 : decode k_R_forget 65 = .ok (.putfield 52, 3) := by decide +kernel
theorem d_R_forget_68 : decode k_R_forget 68 = .ok (.return_, 1) := by decide +kernel
theorem d_R_anyOpen_0 : decode k_R_anyOpen 0 = .ok (.iconst 0, 1) := by decide +kernel
theorem d_R_anyOpen_1 : decode k_R_anyOpen 1 = .ok (.istore_n 1, 1) := by decide +kernel
theorem d_R_anyOpen_2 : decode k_R_anyOpen 2 = .ok (.iload_n 1, 1) := by decide +kernel
theorem d_R_anyOpen_3 : decode k_R_anyOpen 3 = .ok (.aload_n 0, 1) := by decide +kernel
theorem d_R_anyOpen_4 : decode k_R_anyOpen 4 = .ok (.getfield 15, 3) := by decide +kernel
theorem d_R_anyOpen_7 : decode k_R_anyOpen 7 = .ok (.arraylength, 1) := by decide +kernel
theorem d_R_anyOpen_8 : decode k_R_anyOpen 8 = .ok (.if_icmp .ge 21, 3) := by decide +kernel
theorem d_R_anyOpen_11 : decode k_R_anyOpen 11 = .ok (.aload_n 0, 1) := by decide +kernel
theorem d_R_anyOpen_12 : decode k_R_anyOpen 12 = .ok (.getfield 15, 3) := by decide +kernel
theorem d_R_anyOpen_15 : decode k_R_anyOpen 15 = .ok (.iload_n 1, 1) := by decide +kernel
theorem d_R_anyOpen_16 : decode k_R_anyOpen 16 = .ok (.iaload, 1) := by decide +kernel
theorem d_R_anyOpen_17 : decode k_R_anyOpen 17 = .ok (.iconst (-1), 1) := by decide +kernel
theorem d_R_anyOpen_18 : decode k_R_anyOpen 18 = .ok (.if_icmp .eq 5, 3) := by decide +kernel
theorem d_R_anyOpen_21 : decode k_R_anyOpen 21 = .ok (.iconst 1, 1) := by decide +kernel
theorem d_R_anyOpen_22 : decode k_R_anyOpen 22 = .ok (.ireturn, 1) := by decide +kernel
theorem d_R_anyOpen_23 : decode k_R_anyOpen 23 = .ok (.iinc 1 1, 3) := by decide +kernel
theorem d_R_anyOpen_26 : decode k_R_anyOpen 26 = .ok (.goto (-24), 3) := by decide +kernel
theorem d_R_anyOpen_29 : decode k_R_anyOpen 29 = .ok (.iconst 0, 1) := by decide +kernel
theorem d_R_anyOpen_30 : decode k_R_anyOpen 30 = .ok (.ireturn, 1) := by decide +kernel
theorem d_R_lowestToClose_0 : decode k_R_lowestToClose 0 = .ok (.iconst 0, 1) := by decide +kernel
theorem d_R_lowestToClose_1 : decode k_R_lowestToClose 1 = .ok (.istore_n 2, 1) := by decide +kernel
theorem d_R_lowestToClose_2 : decode k_R_lowestToClose 2 = .ok (.iload_n 2, 1) := by decide +kernel
theorem d_R_lowestToClose_3 : decode k_R_lowestToClose 3 = .ok (.aload_n 0, 1) := by decide +kernel
theorem d_R_lowestToClose_4 : decode k_R_lowestToClose 4 = .ok (.getfield 15, 3) := by decide +kernel
theorem d_R_lowestToClose_7 : decode k_R_lowestToClose 7 = .ok (.arraylength, 1) := by decide +kernel
theorem d_R_lowestToClose_8 : decode k_R_lowestToClose 8 = .ok (.if_icmp .ge 32, 3) := by decide +kernel
theorem d_R_lowestToClose_11 : decode k_R_lowestToClose 11 = .ok (.aload_n 0, 1) := by decide +kernel
theorem d_R_lowestToClose_12 : decode k_R_lowestToClose 12 = .ok (.getfield 15, 3) := by decide +kernel
theorem d_R_lowestToClose_15 : decode k_R_lowestToClose 15 = .ok (.iload_n 2, 1) := by decide +kernel
theorem d_R_lowestToClose_16 : decode k_R_lowestToClose 16 = .ok (.iaload, 1) := by decide +kernel
theorem d_R_lowestToClose_17 : decode k_R_lowestToClose 17 = .ok (.iconst (-1), 1) := by decide +kernel
theorem d_R_lowestToClose_18 : decode k_R_lowestToClose 18 = .ok (.if_icmp .eq 16, 3) := by decide +kernel
theorem d_R_lowestToClose_21 : decode k_R_lowestToClose 21 = .ok (.aload_n 0, 1) := by decide +kernel
theorem d_R_lowestToClose_22 : decode k_R_lowestToClose 22 = .ok (.iload_n 1, 1) := by decide +kernel
theorem d_R_lowestToClose_23 : decode k_R_lowestToClose 23 = .ok (.iconst 3, 1) := by decide +kernel
theorem d_R_lowestToClose_24 : decode k_R_lowestToClose 24 = .ok (.iload_n 2, 1) := by decide +kernel
theorem d_R_lowestToClose_25 : decode k_R_lowestToClose 25 = .ok (.invokevirtual 55, 3) := by decide +kernel
theorem d_R_lowestToClose_28 : decode k_R_lowestToClose 28 = .ok (.iconst (-1), 1) := by decide +kernel
theorem d_R_lowestToClose_29 : decode k_R_lowestToClose 29 = .ok (.if_icmp .ne 5, 3) := by decide +kernel
theorem d_R_lowestToClose_32 : decode k_R_lowestToClose 32 = .ok (.iload_n 2, 1) := by decide +kernel
theorem d_R_lowestToClose_33 : decode k_R_lowestToClose 33 = .ok (.ireturn, 1) := by decide +kernel
theorem d_R_lowestToClose_34 : decode k_R_lowestToClose 34 = .ok (.iinc 2 1, 3) := by decide +kernel
theorem d_R_lowestToClose_37 : decode k_R_lowestToClose 37 = .ok (.goto (-35), 3) := by decide +kernel
theorem d_R_lowestToClose_40 : decode k_R_lowestToClose 40 = .ok (.iconst (-1), 1) := by decide +kernel
theorem d_R_lowestToClose_41 : decode k_R_lowestToClose 41 = .ok (.ireturn, 1) := by decide +kernel
theorem d_R_brokenRule_0 : decode k_R_brokenRule 0 = .ok (.iload_n 1, 1) := by decide +kernel
theorem d_R_brokenRule_1 : decode k_R_brokenRule 1 = .ok (.aload_n 0, 1) := by decide +kernel
theorem d_R_brokenRule_2 : decode k_R_brokenRule 2 = .ok (.getfield 52, 3) := by decide +kernel
theorem d_R_brokenRule_5 : decode k_R_brokenRule 5 = .ok (.if_icmp .gt 5, 3) := by decide +kernel
theorem d_R_brokenRule_8 : decode k_R_brokenRule 8 = .ok (.iconst 1, 1) := by decide +kernel
theorem d_R_brokenRule_9 : decode k_R_brokenRule 9 = .ok (.ireturn, 1) := by decide +kernel
theorem d_R_brokenRule_10 : decode k_R_brokenRule 10 = .ok (.aload_n 0, 1) := by decide +kernel
theorem d_R_brokenRule_11 : decode k_R_brokenRule 11 = .ok (.iload_n 2, 1) := by decide +kernel
theorem d_R_brokenRule_12 : decode k_R_brokenRule 12 = .ok (.iload_n 3, 1) := by decide +kernel
theorem d_R_brokenRule_13 : decode k_R_brokenRule 13 = .ok (.iload 4, 2) := by decide +kernel
theorem d_R_brokenRule_15 : decode k_R_brokenRule 15 = .ok (.invokevirtual 59, 3) := by decide +kernel
theorem d_R_brokenRule_18 : decode k_R_brokenRule 18 = .ok (.ifCond .ne 5, 3) := by decide +kernel
theorem d_R_brokenRule_21 : decode k_R_brokenRule 21 = .ok (.iconst 2, 1) := by decide +kernel
theorem d_R_brokenRule_22 : decode k_R_brokenRule 22 = .ok (.ireturn, 1) := by decide +kernel
theorem d_R_brokenRule_23 : decode k_R_brokenRule 23 = .ok (.aload_n 0, 1) := by decide +kernel
theorem d_R_brokenRule_24 : decode k_R_brokenRule 24 = .ok (.iload_n 1, 1) := by decide +kernel
theorem d_R_brokenRule_25 : decode k_R_brokenRule 25 = .ok (.iload_n 2, 1) := by decide +kernel
theorem d_R_brokenRule_26 : decode k_R_brokenRule 26 = .ok (.iload_n 3, 1) := by decide +kernel
theorem d_R_brokenRule_27 : decode k_R_brokenRule 27 = .ok (.invokevirtual 55, 3) := by decide +kernel
theorem d_R_brokenRule_30 : decode k_R_brokenRule 30 = .ok (.istore 5, 2) := by decide +kernel
theorem d_R_brokenRule_32 : decode k_R_brokenRule 32 = .ok (.iload 5, 2) := by decide +kernel
theorem d_R_brokenRule_34 : decode k_R_brokenRule 34 = .ok (.iconst (-1), 1) := by decide +kernel
theorem d_R_brokenRule_35 : decode k_R_brokenRule 35 = .ok (.if_icmp .ne 7, 3) := by decide +kernel
theorem d_R_brokenRule_38 : decode k_R_brokenRule 38 = .ok (.iconst 0, 1) := by decide +kernel
theorem d_R_brokenRule_39 : decode k_R_brokenRule 39 = .ok (.goto 7, 3) := by decide +kernel
theorem d_R_brokenRule_42 : decode k_R_brokenRule 42 = .ok (.iconst 3, 1) := by decide +kernel
theorem d_R_brokenRule_43 : decode k_R_brokenRule 43 = .ok (.iload 5, 2) := by decide +kernel
theorem d_R_brokenRule_45 : decode k_R_brokenRule 45 = .ok (.iadd, 1) := by decide +kernel
theorem d_R_brokenRule_46 : decode k_R_brokenRule 46 = .ok (.ireturn, 1) := by decide +kernel
theorem d_R_fitsBank_0 : decode k_R_fitsBank 0 = .ok (.iload_n 1, 1) := by decide +kernel
theorem d_R_fitsBank_1 : decode k_R_fitsBank 1 = .ok (.tableswitch 80 0 4 #[35, 80, 80, 51, 67], 35) := by decide +kernel
theorem d_R_fitsBank_36 : decode k_R_fitsBank 36 = .ok (.aload_n 0, 1) := by decide +kernel
theorem d_R_fitsBank_37 : decode k_R_fitsBank 37 = .ok (.getfield 15, 3) := by decide +kernel
theorem d_R_fitsBank_40 : decode k_R_fitsBank 40 = .ok (.iload_n 2, 1) := by decide +kernel
theorem d_R_fitsBank_41 : decode k_R_fitsBank 41 = .ok (.iaload, 1) := by decide +kernel
theorem d_R_fitsBank_42 : decode k_R_fitsBank 42 = .ok (.iconst (-1), 1) := by decide +kernel
theorem d_R_fitsBank_43 : decode k_R_fitsBank 43 = .ok (.if_icmp .ne 7, 3) := by decide +kernel
theorem d_R_fitsBank_46 : decode k_R_fitsBank 46 = .ok (.iconst 1, 1) := by decide +kernel
theorem d_R_fitsBank_47 : decode k_R_fitsBank 47 = .ok (.goto 4, 3) := by decide +kernel
theorem d_R_fitsBank_50 : decode k_R_fitsBank 50 = .ok (.iconst 0, 1) := by decide +kernel
theorem d_R_fitsBank_51 : decode k_R_fitsBank 51 = .ok (.ireturn, 1) := by decide +kernel
theorem d_R_fitsBank_52 : decode k_R_fitsBank 52 = .ok (.aload_n 0, 1) := by decide +kernel
theorem d_R_fitsBank_53 : decode k_R_fitsBank 53 = .ok (.getfield 15, 3) := by decide +kernel
theorem d_R_fitsBank_56 : decode k_R_fitsBank 56 = .ok (.iload_n 2, 1) := by decide +kernel
theorem d_R_fitsBank_57 : decode k_R_fitsBank 57 = .ok (.iaload, 1) := by decide +kernel
theorem d_R_fitsBank_58 : decode k_R_fitsBank 58 = .ok (.iconst (-1), 1) := by decide +kernel
theorem d_R_fitsBank_59 : decode k_R_fitsBank 59 = .ok (.if_icmp .eq 7, 3) := by decide +kernel
theorem d_R_fitsBank_62 : decode k_R_fitsBank 62 = .ok (.iconst 1, 1) := by decide +kernel
theorem d_R_fitsBank_63 : decode k_R_fitsBank 63 = .ok (.goto 4, 3) := by decide +kernel
theorem d_R_fitsBank_66 : decode k_R_fitsBank 66 = .ok (.iconst 0, 1) := by decide +kernel
theorem d_R_fitsBank_67 : decode k_R_fitsBank 67 = .ok (.ireturn, 1) := by decide +kernel
theorem d_R_fitsBank_68 : decode k_R_fitsBank 68 = .ok (.aload_n 0, 1) := by decide +kernel
theorem d_R_fitsBank_69 : decode k_R_fitsBank 69 = .ok (.invokevirtual 63, 3) := by decide +kernel
theorem d_R_fitsBank_72 : decode k_R_fitsBank 72 = .ok (.ifCond .ne 7, 3) := by decide +kernel
theorem d_R_fitsBank_75 : decode k_R_fitsBank 75 = .ok (.iconst 1, 1) := by decide +kernel
theorem d_R_fitsBank_76 : decode k_R_fitsBank 76 = .ok (.goto 4, 3) := by decide +kernel
theorem d_R_fitsBank_79 : decode k_R_fitsBank 79 = .ok (.iconst 0, 1) := by decide +kernel
theorem d_R_fitsBank_80 : decode k_R_fitsBank 80 = .ok (.ireturn, 1) := by decide +kernel
theorem d_R_fitsBank_81 : decode k_R_fitsBank 81 = .ok (.aload_n 0, 1) := by decide +kernel
theorem d_R_fitsBank_82 : decode k_R_fitsBank 82 = .ok (.getfield 15, 3) := by decide +kernel
theorem d_R_fitsBank_85 : decode k_R_fitsBank 85 = .ok (.iload_n 2, 1) := by decide +kernel
theorem d_R_fitsBank_86 : decode k_R_fitsBank 86 = .ok (.iaload, 1) := by decide +kernel
theorem d_R_fitsBank_87 : decode k_R_fitsBank 87 = .ok (.iload_n 3, 1) := by decide +kernel
theorem d_R_fitsBank_88 : decode k_R_fitsBank 88 = .ok (.if_icmp .ne 7, 3) := by decide +kernel
theorem d_R_fitsBank_91 : decode k_R_fitsBank 91 = .ok (.iconst 1, 1) := by decide +kernel
theorem d_R_fitsBank_92 : decode k_R_fitsBank 92 = .ok (.goto 4, 3) := by decide +kernel
theorem d_R_fitsBank_95 : decode k_R_fitsBank 95 = .ok (.iconst 0, 1) := by decide +kernel
theorem d_R_fitsBank_96 : decode k_R_fitsBank 96 = .ok (.ireturn, 1) := by decide +kernel
theorem d_R_brokenTime_0 : decode k_R_brokenTime 0 = .ok (.iconst 0, 1) := by decide +kernel
theorem d_R_brokenTime_1 : decode k_R_brokenTime 1 = .ok (.istore 4, 2) := by decide +kernel
theorem d_R_brokenTime_3 : decode k_R_brokenTime 3 = .ok (.iload 4, 2) := by decide +kernel
theorem d_R_brokenTime_5 : decode k_R_brokenTime 5 = .ok (.aload_n 0, 1) := by decide +kernel
theorem d_R_brokenTime_6 : decode k_R_brokenTime 6 = .ok (.getfield 9, 3) := by decide +kernel
theorem d_R_brokenTime_9 : decode k_R_brokenTime 9 = .ok (.arraylength, 1) := by decide +kernel
theorem d_R_brokenTime_10 : decode k_R_brokenTime 10 = .ok (.if_icmp .ge 42, 3) := by decide +kernel
theorem d_R_brokenTime_13 : decode k_R_brokenTime 13 = .ok (.aload_n 0, 1) := by decide +kernel
theorem d_R_brokenTime_14 : decode k_R_brokenTime 14 = .ok (.iload 4, 2) := by decide +kernel
theorem d_R_brokenTime_16 : decode k_R_brokenTime 16 = .ok (.iload_n 2, 1) := by decide +kernel
theorem d_R_brokenTime_17 : decode k_R_brokenTime 17 = .ok (.iload_n 3, 1) := by decide +kernel
theorem d_R_brokenTime_18 : decode k_R_brokenTime 18 = .ok (.invokevirtual 67, 3) := by decide +kernel
theorem d_R_brokenTime_21 : decode k_R_brokenTime 21 = .ok (.istore 5, 2) := by decide +kernel
theorem d_R_brokenTime_23 : decode k_R_brokenTime 23 = .ok (.iload 5, 2) := by decide +kernel
theorem d_R_brokenTime_25 : decode k_R_brokenTime 25 = .ok (.iconst (-1), 1) := by decide +kernel
theorem d_R_brokenTime_26 : decode k_R_brokenTime 26 = .ok (.if_icmp .eq 20, 3) := by decide +kernel
theorem d_R_brokenTime_29 : decode k_R_brokenTime 29 = .ok (.iload_n 1, 1) := by decide +kernel
theorem d_R_brokenTime_30 : decode k_R_brokenTime 30 = .ok (.iload 5, 2) := by decide +kernel
theorem d_R_brokenTime_32 : decode k_R_brokenTime 32 = .ok (.isub, 1) := by decide +kernel
theorem d_R_brokenTime_33 : decode k_R_brokenTime 33 = .ok (.aload_n 0, 1) := by decide +kernel
theorem d_R_brokenTime_34 : decode k_R_brokenTime 34 = .ok (.getfield 9, 3) := by decide +kernel
theorem d_R_brokenTime_37 : decode k_R_brokenTime 37 = .ok (.iload 4, 2) := by decide +kernel
theorem d_R_brokenTime_39 : decode k_R_brokenTime 39 = .ok (.iaload, 1) := by decide +kernel
theorem d_R_brokenTime_40 : decode k_R_brokenTime 40 = .ok (.if_icmp .ge 6, 3) := by decide +kernel
theorem d_R_brokenTime_43 : decode k_R_brokenTime 43 = .ok (.iload 4, 2) := by decide +kernel
theorem d_R_brokenTime_45 : decode k_R_brokenTime 45 = .ok (.ireturn, 1) := by decide +kernel
theorem d_R_brokenTime_46 : decode k_R_brokenTime 46 = .ok (.iinc 4 1, 3) := by decide +kernel
theorem d_R_brokenTime_49 : decode k_R_brokenTime 49 = .ok (.goto (-46), 3) := by decide +kernel
theorem d_R_brokenTime_52 : decode k_R_brokenTime 52 = .ok (.iconst (-1), 1) := by decide +kernel
theorem d_R_brokenTime_53 : decode k_R_brokenTime 53 = .ok (.ireturn, 1) := by decide +kernel
theorem d_R_startOf_0 : decode k_R_startOf 0 = .ok (.iload_n 2, 1) := by decide +kernel
theorem d_R_startOf_1 : decode k_R_startOf 1 = .ok (.iconst 1, 1) := by decide +kernel
theorem d_R_startOf_2 : decode k_R_startOf 2 = .ok (.if_icmp .eq 8, 3) := by decide +kernel
theorem d_R_startOf_5 : decode k_R_startOf 5 = .ok (.iload_n 2, 1) := by decide +kernel
theorem d_R_startOf_6 : decode k_R_startOf 6 = .ok (.iconst 2, 1) := by decide +kernel
theorem d_R_startOf_7 : decode k_R_startOf 7 = .ok (.if_icmp .ne 7, 3) := by decide +kernel
theorem d_R_startOf_10 : decode k_R_startOf 10 = .ok (.iconst 1, 1) := by decide +kernel
theorem d_R_startOf_11 : decode k_R_startOf 11 = .ok (.goto 4, 3) := by decide +kernel
theorem d_R_startOf_14 : decode k_R_startOf 14 = .ok (.iconst 0, 1) := by decide +kernel
theorem d_R_startOf_15 : decode k_R_startOf 15 = .ok (.istore 4, 2) := by decide +kernel
theorem d_R_startOf_17 : decode k_R_startOf 17 = .ok (.iload_n 1, 1) := by decide +kernel
theorem d_R_startOf_18 : decode k_R_startOf 18 = .ok (.tableswitch 190 0 8 #[50, 66, 81, 97, 125, 139, 155, 170, 175], 50) := by decide +kernel
theorem d_R_startOf_68 : decode k_R_startOf 68 = .ok (.iload 4, 2) := by decide +kernel
theorem d_R_startOf_70 : decode k_R_startOf 70 = .ok (.ifCond .eq 12, 3) := by decide +kernel
theorem d_R_startOf_73 : decode k_R_startOf 73 = .ok (.aload_n 0, 1) := by decide +kernel
theorem d_R_startOf_74 : decode k_R_startOf 74 = .ok (.getfield 18, 3) := by decide +kernel
theorem d_R_startOf_77 : decode k_R_startOf 77 = .ok (.iload_n 3, 1) := by decide +kernel
theorem d_R_startOf_78 : decode k_R_startOf 78 = .ok (.iaload, 1) := by decide +kernel
theorem d_R_startOf_79 : decode k_R_startOf 79 = .ok (.goto 4, 3) := by decide +kernel
theorem d_R_startOf_82 : decode k_R_startOf 82 = .ok (.iconst (-1), 1) := by decide +kernel
theorem d_R_startOf_83 : decode k_R_startOf 83 = .ok (.ireturn, 1) := by decide +kernel
theorem d_R_startOf_84 : decode k_R_startOf 84 = .ok (.iload_n 2, 1) := by decide +kernel
theorem d_R_startOf_85 : decode k_R_startOf 85 = .ok (.ifCond .ne 12, 3) := by decide +kernel
theorem d_R_startOf_88 : decode k_R_startOf 88 = .ok (.aload_n 0, 1) := by decide +kernel
theorem d_R_startOf_89 : decode k_R_startOf 89 = .ok (.getfield 27, 3) := by decide +kernel
theorem d_R_startOf_92 : decode k_R_startOf 92 = .ok (.iload_n 3, 1) := by decide +kernel
theorem d_R_startOf_93 : decode k_R_startOf 93 = .ok (.iaload, 1) := by decide +kernel
theorem d_R_startOf_94 : decode k_R_startOf 94 = .ok (.goto 4, 3) := by decide +kernel
theorem d_R_startOf_97 : decode k_R_startOf 97 = .ok (.iconst (-1), 1) := by decide +kernel
theorem d_R_startOf_98 : decode k_R_startOf 98 = .ok (.ireturn, 1) := by decide +kernel
theorem d_R_startOf_99 : decode k_R_startOf 99 = .ok (.iload_n 2, 1) := by decide +kernel
theorem d_R_startOf_100 : decode k_R_startOf 100 = .ok (.iconst 3, 1) := by decide +kernel
theorem d_R_startOf_101 : decode k_R_startOf 101 = .ok (.if_icmp .ne 12, 3) := by decide +kernel
theorem d_R_startOf_104 : decode k_R_startOf 104 = .ok (.aload_n 0, 1) := by decide +kernel
theorem d_R_startOf_105 : decode k_R_startOf 105 = .ok (.getfield 18, 3) := by decide +kernel
theorem d_R_startOf_108 : decode k_R_startOf 108 = .ok (.iload_n 3, 1) := by decide +kernel
theorem d_R_startOf_109 : decode k_R_startOf 109 = .ok (.iaload, 1) := by decide +kernel
theorem d_R_startOf_110 : decode k_R_startOf 110 = .ok (.goto 4, 3) := by decide +kernel
theorem d_R_startOf_113 : decode k_R_startOf 113 = .ok (.iconst (-1), 1) := by decide +kernel
theorem d_R_startOf_114 : decode k_R_startOf 114 = .ok (.ireturn, 1) := by decide +kernel
theorem d_R_startOf_115 : decode k_R_startOf 115 = .ok (.iload 4, 2) := by decide +kernel
theorem d_R_startOf_117 : decode k_R_startOf 117 = .ok (.ifCond .eq 10, 3) := by decide +kernel
theorem d_R_startOf_120 : decode k_R_startOf 120 = .ok (.aload_n 0, 1) := by decide +kernel
theorem d_R_startOf_121 : decode k_R_startOf 121 = .ok (.getfield 42, 3) := by decide +kernel
theorem d_R_startOf_124 : decode k_R_startOf 124 = .ok (.goto 18, 3) := by decide +kernel
theorem d_R_startOf_127 : decode k_R_startOf 127 = .ok (.iload_n 2, 1) := by decide +kernel
theorem d_R_startOf_128 : decode k_R_startOf 128 = .ok (.iconst 3, 1) := by decide +kernel
theorem d_R_startOf_129 : decode k_R_startOf 129 = .ok (.if_icmp .ne 12, 3) := by decide +kernel
theorem d_R_startOf_132 : decode k_R_startOf 132 = .ok (.aload_n 0, 1) := by decide +kernel
theorem d_R_startOf_133 : decode k_R_startOf 133 = .ok (.getfield 21, 3) := by decide +kernel
theorem d_R_startOf_136 : decode k_R_startOf 136 = .ok (.iload_n 3, 1) := by decide +kernel
theorem d_R_startOf_137 : decode k_R_startOf 137 = .ok (.iaload, 1) := by decide +kernel
theorem d_R_startOf_138 : decode k_R_startOf 138 = .ok (.goto 4, 3) := by decide +kernel
theorem d_R_startOf_141 : decode k_R_startOf 141 = .ok (.iconst (-1), 1) := by decide +kernel
theorem d_R_startOf_142 : decode k_R_startOf 142 = .ok (.ireturn, 1) := by decide +kernel
theorem d_R_startOf_143 : decode k_R_startOf 143 = .ok (.iload_n 2, 1) := by decide +kernel
theorem d_R_startOf_144 : decode k_R_startOf 144 = .ok (.iconst 1, 1) := by decide +kernel
theorem d_R_startOf_145 : decode k_R_startOf 145 = .ok (.if_icmp .ne 10, 3) := by decide +kernel
theorem d_R_startOf_148 : decode k_R_startOf 148 = .ok (.aload_n 0, 1) := by decide +kernel
theorem d_R_startOf_149 : decode k_R_startOf 149 = .ok (.getfield 46, 3) := by decide +kernel
theorem d_R_startOf_152 : decode k_R_startOf 152 = .ok (.goto 4, 3) := by decide +kernel
theorem d_R_startOf_155 : decode k_R_startOf 155 = .ok (.iconst (-1), 1) := by decide +kernel
theorem d_R_startOf_156 : decode k_R_startOf 156 = .ok (.ireturn, 1) := by decide +kernel
theorem d_R_startOf_157 : decode k_R_startOf 157 = .ok (.iload_n 2, 1) := by decide +kernel
theorem d_R_startOf_158 : decode k_R_startOf 158 = .ok (.iconst 3, 1) := by decide +kernel
theorem d_R_startOf_159 : decode k_R_startOf 159 = .ok (.if_icmp .ne 12, 3) := by decide +kernel
theorem d_R_startOf_162 : decode k_R_startOf 162 = .ok (.aload_n 0, 1) := by decide +kernel
theorem d_R_startOf_163 : decode k_R_startOf 163 = .ok (.getfield 24, 3) := by decide +kernel
theorem d_R_startOf_166 : decode k_R_startOf 166 = .ok (.iload_n 3, 1) := by decide +kernel
theorem d_R_startOf_167 : decode k_R_startOf 167 = .ok (.iaload, 1) := by decide +kernel
theorem d_R_startOf_168 : decode k_R_startOf 168 = .ok (.goto 4, 3) := by decide +kernel
theorem d_R_startOf_171 : decode k_R_startOf 171 = .ok (.iconst (-1), 1) := by decide +kernel
theorem d_R_startOf_172 : decode k_R_startOf 172 = .ok (.ireturn, 1) := by decide +kernel
theorem d_R_startOf_173 : decode k_R_startOf 173 = .ok (.iload_n 2, 1) := by decide +kernel
theorem d_R_startOf_174 : decode k_R_startOf 174 = .ok (.ifCond .ne 12, 3) := by decide +kernel
theorem d_R_startOf_177 : decode k_R_startOf 177 = .ok (.aload_n 0, 1) := by decide +kernel
theorem d_R_startOf_178 : decode k_R_startOf 178 = .ok (.getfield 30, 3) := by decide +kernel
theorem d_R_startOf_181 : decode k_R_startOf 181 = .ok (.iconst 0, 1) := by decide +kernel
theorem d_R_startOf_182 : decode k_R_startOf 182 = .ok (.iaload, 1) := by decide +kernel
theorem d_R_startOf_183 : decode k_R_startOf 183 = .ok (.goto 4, 3) := by decide +kernel
theorem d_R_startOf_186 : decode k_R_startOf 186 = .ok (.iconst (-1), 1) := by decide +kernel
theorem d_R_startOf_187 : decode k_R_startOf 187 = .ok (.ireturn, 1) := by decide +kernel
theorem d_R_startOf_188 : decode k_R_startOf 188 = .ok (.aload_n 0, 1) := by decide +kernel
theorem d_R_startOf_189 : decode k_R_startOf 189 = .ok (.getfield 49, 3) := by decide +kernel
theorem d_R_startOf_192 : decode k_R_startOf 192 = .ok (.ireturn, 1) := by decide +kernel
theorem d_R_startOf_193 : decode k_R_startOf 193 = .ok (.iload_n 2, 1) := by decide +kernel
theorem d_R_startOf_194 : decode k_R_startOf 194 = .ok (.ifCond .ne 12, 3) := by decide +kernel
theorem d_R_startOf_197 : decode k_R_startOf 197 = .ok (.aload_n 0, 1) := by decide +kernel
theorem d_R_startOf_198 : decode k_R_startOf 198 = .ok (.getfield 30, 3) := by decide +kernel
theorem d_R_startOf_201 : decode k_R_startOf 201 = .ok (.iconst 3, 1) := by decide +kernel
theorem d_R_startOf_202 : decode k_R_startOf 202 = .ok (.iaload, 1) := by decide +kernel
theorem d_R_startOf_203 : decode k_R_startOf 203 = .ok (.goto 4, 3) := by decide +kernel
theorem d_R_startOf_206 : decode k_R_startOf 206 = .ok (.iconst (-1), 1) := by decide +kernel
theorem d_R_startOf_207 : decode k_R_startOf 207 = .ok (.ireturn, 1) := by decide +kernel
theorem d_R_startOf_208 : decode k_R_startOf 208 = .ok (.iconst (-1), 1) := by decide +kernel
theorem d_R_startOf_209 : decode k_R_startOf 209 = .ok (.ireturn, 1) := by decide +kernel
theorem d_R_take_0 : decode k_R_take 0 = .ok (.aload_n 0, 1) := by decide +kernel
theorem d_R_take_1 : decode k_R_take 1 = .ok (.iload_n 1, 1) := by decide +kernel
theorem d_R_take_2 : decode k_R_take 2 = .ok (.putfield 52, 3) := by decide +kernel
theorem d_R_take_5 : decode k_R_take 5 = .ok (.iload_n 2, 1) := by decide +kernel
theorem d_R_take_6 : decode k_R_take 6 = .ok (.tableswitch 137 0 3 #[30, 85, 100, 120], 30) := by decide +kernel
theorem d_R_take_36 : decode k_R_take 36 = .ok (.aload_n 0, 1) := by decide +kernel
theorem d_R_take_37 : decode k_R_take 37 = .ok (.getfield 15, 3) := by decide +kernel
theorem d_R_take_40 : decode k_R_take 40 = .ok (.iload_n 3, 1) := by decide +kernel
theorem d_R_take_41 : decode k_R_take 41 = .ok (.iload 4, 2) := by decide +kernel
theorem d_R_take_43 : decode k_R_take 43 = .ok (.iastore, 1) := by decide +kernel
theorem d_R_take_44 : decode k_R_take 44 = .ok (.aload_n 0, 1) := by decide +kernel
theorem d_R_take_45 : decode k_R_take 45 = .ok (.getfield 18, 3) := by decide +kernel
theorem d_R_take_48 : decode k_R_take 48 = .ok (.iload_n 3, 1) := by decide +kernel
theorem d_R_take_49 : decode k_R_take 49 = .ok (.iload_n 1, 1) := by decide +kernel
theorem d_R_take_50 : decode k_R_take 50 = .ok (.iastore, 1) := by decide +kernel
theorem d_R_take_51 : decode k_R_take 51 = .ok (.iconst 3, 1) := by decide +kernel
theorem d_R_take_52 : decode k_R_take 52 = .ok (.istore 5, 2) := by decide +kernel
theorem d_R_take_54 : decode k_R_take 54 = .ok (.iload 5, 2) := by decide +kernel
theorem d_R_take_56 : decode k_R_take 56 = .ok (.ifCond .le 25, 3) := by decide +kernel
theorem d_R_take_59 : decode k_R_take 59 = .ok (.aload_n 0, 1) := by decide +kernel
theorem d_R_take_60 : decode k_R_take 60 = .ok (.getfield 30, 3) := by decide +kernel
theorem d_R_take_63 : decode k_R_take 63 = .ok (.iload 5, 2) := by decide +kernel
theorem d_R_take_65 : decode k_R_take 65 = .ok (.aload_n 0, 1) := by decide +kernel
theorem d_R_take_66 : decode k_R_take 66 = .ok (.getfield 30, 3) := by decide +kernel
theorem d_R_take_69 : decode k_R_take 69 = .ok (.iload 5, 2) := by decide +kernel
theorem d_R_take_71 : decode k_R_take 71 = .ok (.iconst 1, 1) := by decide +kernel
theorem d_R_take_72 : decode k_R_take 72 = .ok (.isub, 1) := by decide +kernel
theorem d_R_take_73 : decode k_R_take 73 = .ok (.iaload, 1) := by decide +kernel
theorem d_R_take_74 : decode k_R_take 74 = .ok (.iastore, 1) := by decide +kernel
theorem d_R_take_75 : decode k_R_take 75 = .ok (.iinc 5 (-1), 3) := by decide +kernel
theorem d_R_take_78 : decode k_R_take 78 = .ok (.goto (-24), 3) := by decide +kernel
theorem d_R_take_81 : decode k_R_take 81 = .ok (.aload_n 0, 1) := by decide +kernel
theorem d_R_take_82 : decode k_R_take 82 = .ok (.getfield 30, 3) := by decide +kernel
theorem d_R_take_85 : decode k_R_take 85 = .ok (.iconst 0, 1) := by decide +kernel
theorem d_R_take_86 : decode k_R_take 86 = .ok (.iload_n 1, 1) := by decide +kernel
theorem d_R_take_87 : decode k_R_take 87 = .ok (.iastore, 1) := by decide +kernel
theorem d_R_take_88 : decode k_R_take 88 = .ok (.goto 60, 3) := by decide +kernel
theorem d_R_take_91 : decode k_R_take 91 = .ok (.aload_n 0, 1) := by decide +kernel
theorem d_R_take_92 : decode k_R_take 92 = .ok (.getfield 21, 3) := by decide +kernel
theorem d_R_take_95 : decode k_R_take 95 = .ok (.iload_n 3, 1) := by decide +kernel
theorem d_R_take_96 : decode k_R_take 96 = .ok (.iload_n 1, 1) := by decide +kernel
theorem d_R_take_97 : decode k_R_take 97 = .ok (.iastore, 1) := by decide +kernel
theorem d_R_take_98 : decode k_R_take 98 = .ok (.aload_n 0, 1) := by decide +kernel
theorem d_R_take_99 : decode k_R_take 99 = .ok (.iload_n 1, 1) := by decide +kernel
theorem d_R_take_100 : decode k_R_take 100 = .ok (.putfield 42, 3) := by decide +kernel
theorem d_R_take_103 : decode k_R_take 103 = .ok (.goto 45, 3) := by decide +kernel
theorem d_R_take_106 : decode k_R_take 106 = .ok (.aload_n 0, 1) := by decide +kernel
theorem d_R_take_107 : decode k_R_take 107 = .ok (.getfield 24, 3) := by decide +kernel
theorem d_R_take_110 : decode k_R_take 110 = .ok (.iload_n 3, 1) := by decide +kernel
theorem d_R_take_111 : decode k_R_take 111 = .ok (.iload_n 1, 1) := by decide +kernel
theorem d_R_take_112 : decode k_R_take 112 = .ok (.iastore, 1) := by decide +kernel
theorem d_R_take_113 : decode k_R_take 113 = .ok (.aload_n 0, 1) := by decide +kernel
theorem d_R_take_114 : decode k_R_take 114 = .ok (.iload_n 1, 1) := by decide +kernel
theorem d_R_take_115 : decode k_R_take 115 = .ok (.putfield 42, 3) := by decide +kernel
theorem d_R_take_118 : decode k_R_take 118 = .ok (.aload_n 0, 1) := by decide +kernel
theorem d_R_take_119 : decode k_R_take 119 = .ok (.iload_n 1, 1) := by decide +kernel
theorem d_R_take_120 : decode k_R_take 120 = .ok (.putfield 46, 3) := by decide +kernel
theorem d_R_take_123 : decode k_R_take 123 = .ok (.goto 25, 3) := by decide +kernel
theorem d_R_take_126 : decode k_R_take 126 = .ok (.aload_n 0, 1) := by decide +kernel
theorem d_R_take_127 : decode k_R_take 127 = .ok (.getfield 15, 3) := by decide +kernel
theorem d_R_take_130 : decode k_R_take 130 = .ok (.iload_n 3, 1) := by decide +kernel
theorem d_R_take_131 : decode k_R_take 131 = .ok (.iconst (-1), 1) := by decide +kernel
theorem d_R_take_132 : decode k_R_take 132 = .ok (.iastore, 1) := by decide +kernel
theorem d_R_take_133 : decode k_R_take 133 = .ok (.aload_n 0, 1) := by decide +kernel
theorem d_R_take_134 : decode k_R_take 134 = .ok (.getfield 27, 3) := by decide +kernel
theorem d_R_take_137 : decode k_R_take 137 = .ok (.iload_n 3, 1) := by decide +kernel
theorem d_R_take_138 : decode k_R_take 138 = .ok (.iload_n 1, 1) := by decide +kernel
theorem d_R_take_139 : decode k_R_take 139 = .ok (.iastore, 1) := by decide +kernel
theorem d_R_take_140 : decode k_R_take 140 = .ok (.goto 8, 3) := by decide +kernel
theorem d_R_take_143 : decode k_R_take 143 = .ok (.aload_n 0, 1) := by decide +kernel
theorem d_R_take_144 : decode k_R_take 144 = .ok (.iload_n 1, 1) := by decide +kernel
theorem d_R_take_145 : decode k_R_take 145 = .ok (.putfield 49, 3) := by decide +kernel
theorem d_R_take_148 : decode k_R_take 148 = .ok (.return_, 1) := by decide +kernel
end
section
theorem d_D_init_0 : decode k_D_init 0 = .ok (.aload_n 0, 1) := by decide +kernel
theorem d_D_init_1 : decode k_D_init 1 = .ok (.invokespecial 1, 3) := by decide +kernel
theorem d_D_init_4 : decode k_D_init 4 = .ok (.aload_n 0, 1) := by decide +kernel
theorem d_D_init_5 : decode k_D_init 5 = .ok (.bipush 9, 2) := by decide +kernel
theorem d_D_init_7 : decode k_D_init 7 = .ok (.newarray .int, 2) := by decide +kernel
theorem d_D_init_9 : decode k_D_init 9 = .ok (.dup, 1) := by decide +kernel
theorem d_D_init_10 : decode k_D_init 10 = .ok (.iconst 0, 1) := by decide +kernel
theorem d_D_init_11 : decode k_D_init 11 = .ok (.iconst 3, 1) := by decide +kernel
theorem d_D_init_12 : decode k_D_init 12 = .ok (.iastore, 1) := by decide +kernel
theorem d_D_init_13 : decode k_D_init 13 = .ok (.dup, 1) := by decide +kernel
theorem d_D_init_14 : decode k_D_init 14 = .ok (.iconst 1, 1) := by decide +kernel
theorem d_D_init_15 : decode k_D_init 15 = .ok (.iconst 3, 1) := by decide +kernel
theorem d_D_init_16 : decode k_D_init 16 = .ok (.iastore, 1) := by decide +kernel
theorem d_D_init_17 : decode k_D_init 17 = .ok (.dup, 1) := by decide +kernel
theorem d_D_init_18 : decode k_D_init 18 = .ok (.iconst 2, 1) := by decide +kernel
theorem d_D_init_19 : decode k_D_init 19 = .ok (.bipush 7, 2) := by decide +kernel
theorem d_D_init_21 : decode k_D_init 21 = .ok (.iastore, 1) := by decide +kernel
theorem d_D_init_22 : decode k_D_init 22 = .ok (.dup, 1) := by decide +kernel
theorem d_D_init_23 : decode k_D_init 23 = .ok (.iconst 3, 1) := by decide +kernel
theorem d_D_init_24 : decode k_D_init 24 = .ok (.iconst 2, 1) := by decide +kernel
theorem d_D_init_25 : decode k_D_init 25 = .ok (.iastore, 1) := by decide +kernel
theorem d_D_init_26 : decode k_D_init 26 = .ok (.dup, 1) := by decide +kernel
theorem d_D_init_27 : decode k_D_init 27 = .ok (.iconst 4, 1) := by decide +kernel
theorem d_D_init_28 : decode k_D_init 28 = .ok (.iconst 4, 1) := by decide +kernel
theorem d_D_init_29 : decode k_D_init 29 = .ok (.iastore, 1) := by decide +kernel
theorem d_D_init_30 : decode k_D_init 30 = .ok (.dup, 1) := by decide +kernel
theorem d_D_init_31 : decode k_D_init 31 = .ok (.iconst 5, 1) := by decide +kernel
theorem d_D_init_32 : decode k_D_init 32 = .ok (.iconst 5, 1) := by decide +kernel
theorem d_D_init_33 : decode k_D_init 33 = .ok (.iastore, 1) := by decide +kernel
theorem d_D_init_34 : decode k_D_init 34 = .ok (.dup, 1) := by decide +kernel
theorem d_D_init_35 : decode k_D_init 35 = .ok (.bipush 6, 2) := by decide +kernel
theorem d_D_init_37 : decode k_D_init 37 = .ok (.iconst 2, 1) := by decide +kernel
theorem d_D_init_38 : decode k_D_init 38 = .ok (.iastore, 1) := by decide +kernel
theorem d_D_init_39 : decode k_D_init 39 = .ok (.dup, 1) := by decide +kernel
theorem d_D_init_40 : decode k_D_init 40 = .ok (.bipush 7, 2) := by decide +kernel
theorem d_D_init_42 : decode k_D_init 42 = .ok (.bipush 10, 2) := by decide +kernel
theorem d_D_init_44 : decode k_D_init 44 = .ok (.iastore, 1) := by decide +kernel
theorem d_D_init_45 : decode k_D_init 45 = .ok (.dup, 1) := by decide +kernel
theorem d_D_init_46 : decode k_D_init 46 = .ok (.bipush 8, 2) := by decide +kernel
theorem d_D_init_48 : decode k_D_init 48 = .ok (.bipush 12, 2) := by decide +kernel
theorem d_D_init_50 : decode k_D_init 50 = .ok (.iastore, 1) := by decide +kernel
theorem d_D_init_51 : decode k_D_init 51 = .ok (.putfield 7, 3) := by decide +kernel
theorem d_D_init_54 : decode k_D_init 54 = .ok (.aload_n 0, 1) := by decide +kernel
theorem d_D_init_55 : decode k_D_init 55 = .ok (.bipush 32, 2) := by decide +kernel
theorem d_D_init_57 : decode k_D_init 57 = .ok (.newarray .int, 2) := by decide +kernel
theorem d_D_init_59 : decode k_D_init 59 = .ok (.putfield 13, 3) := by decide +kernel
theorem d_D_init_62 : decode k_D_init 62 = .ok (.aload_n 0, 1) := by decide +kernel
theorem d_D_init_63 : decode k_D_init 63 = .ok (.bipush 32, 2) := by decide +kernel
theorem d_D_init_65 : decode k_D_init 65 = .ok (.newarray .int, 2) := by decide +kernel
theorem d_D_init_67 : decode k_D_init 67 = .ok (.putfield 16, 3) := by decide +kernel
theorem d_D_init_70 : decode k_D_init 70 = .ok (.aload_n 0, 1) := by decide +kernel
theorem d_D_init_71 : decode k_D_init 71 = .ok (.bipush 32, 2) := by decide +kernel
theorem d_D_init_73 : decode k_D_init 73 = .ok (.newarray .int, 2) := by decide +kernel
theorem d_D_init_75 : decode k_D_init 75 = .ok (.putfield 19, 3) := by decide +kernel
theorem d_D_init_78 : decode k_D_init 78 = .ok (.aload_n 0, 1) := by decide +kernel
theorem d_D_init_79 : decode k_D_init 79 = .ok (.bipush 32, 2) := by decide +kernel
theorem d_D_init_81 : decode k_D_init 81 = .ok (.newarray .int, 2) := by decide +kernel
theorem d_D_init_83 : decode k_D_init 83 = .ok (.putfield 22, 3) := by decide +kernel
theorem d_D_init_86 : decode k_D_init 86 = .ok (.aload_n 0, 1) := by decide +kernel
theorem d_D_init_87 : decode k_D_init 87 = .ok (.bipush 32, 2) := by decide +kernel
theorem d_D_init_89 : decode k_D_init 89 = .ok (.newarray .int, 2) := by decide +kernel
theorem d_D_init_91 : decode k_D_init 91 = .ok (.putfield 25, 3) := by decide +kernel
theorem d_D_init_94 : decode k_D_init 94 = .ok (.aload_n 0, 1) := by decide +kernel
theorem d_D_init_95 : decode k_D_init 95 = .ok (.iconst 4, 1) := by decide +kernel
theorem d_D_init_96 : decode k_D_init 96 = .ok (.newarray .int, 2) := by decide +kernel
theorem d_D_init_98 : decode k_D_init 98 = .ok (.putfield 28, 3) := by decide +kernel
theorem d_D_init_101 : decode k_D_init 101 = .ok (.aload_n 0, 1) := by decide +kernel
theorem d_D_init_102 : decode k_D_init 102 = .ok (.iconst 4, 1) := by decide +kernel
theorem d_D_init_103 : decode k_D_init 103 = .ok (.newarray .int, 2) := by decide +kernel
theorem d_D_init_105 : decode k_D_init 105 = .ok (.putfield 31, 3) := by decide +kernel
theorem d_D_init_108 : decode k_D_init 108 = .ok (.aload_n 0, 1) := by decide +kernel
theorem d_D_init_109 : decode k_D_init 109 = .ok (.iconst 4, 1) := by decide +kernel
theorem d_D_init_110 : decode k_D_init 110 = .ok (.newarray .int, 2) := by decide +kernel
theorem d_D_init_112 : decode k_D_init 112 = .ok (.putfield 34, 3) := by decide +kernel
theorem d_D_init_115 : decode k_D_init 115 = .ok (.aload_n 0, 1) := by decide +kernel
theorem d_D_init_116 : decode k_D_init 116 = .ok (.bipush 16, 2) := by decide +kernel
theorem d_D_init_118 : decode k_D_init 118 = .ok (.newarray .int, 2) := by decide +kernel
theorem d_D_init_120 : decode k_D_init 120 = .ok (.putfield 37, 3) := by decide +kernel
theorem d_D_init_123 : decode k_D_init 123 = .ok (.aload_n 0, 1) := by decide +kernel
theorem d_D_init_124 : decode k_D_init 124 = .ok (.iconst 4, 1) := by decide +kernel
theorem d_D_init_125 : decode k_D_init 125 = .ok (.newarray .int, 2) := by decide +kernel
theorem d_D_init_127 : decode k_D_init 127 = .ok (.putfield 40, 3) := by decide +kernel
theorem d_D_init_130 : decode k_D_init 130 = .ok (.aload_n 0, 1) := by decide +kernel
theorem d_D_init_131 : decode k_D_init 131 = .ok (.iconst 2, 1) := by decide +kernel
theorem d_D_init_132 : decode k_D_init 132 = .ok (.newarray .boolean, 2) := by decide +kernel
theorem d_D_init_134 : decode k_D_init 134 = .ok (.putfield 43, 3) := by decide +kernel
theorem d_D_init_137 : decode k_D_init 137 = .ok (.aload_n 0, 1) := by decide +kernel
theorem d_D_init_138 : decode k_D_init 138 = .ok (.iconst 2, 1) := by decide +kernel
theorem d_D_init_139 : decode k_D_init 139 = .ok (.newarray .int, 2) := by decide +kernel
theorem d_D_init_141 : decode k_D_init 141 = .ok (.putfield 47, 3) := by decide +kernel
theorem d_D_init_144 : decode k_D_init 144 = .ok (.aload_n 0, 1) := by decide +kernel
theorem d_D_init_145 : decode k_D_init 145 = .ok (.sipush 600, 3) := by decide +kernel
theorem d_D_init_148 : decode k_D_init 148 = .ok (.newarray .int, 2) := by decide +kernel
theorem d_D_init_150 : decode k_D_init 150 = .ok (.putfield 50, 3) := by decide +kernel
theorem d_D_init_153 : decode k_D_init 153 = .ok (.aload_n 0, 1) := by decide +kernel
theorem d_D_init_154 : decode k_D_init 154 = .ok (.sipush 600, 3) := by decide +kernel
theorem d_D_init_157 : decode k_D_init 157 = .ok (.newarray .boolean, 2) := by decide +kernel
theorem d_D_init_159 : decode k_D_init 159 = .ok (.putfield 53, 3) := by decide +kernel
theorem d_D_init_162 : decode k_D_init 162 = .ok (.aload_n 0, 1) := by decide +kernel
theorem d_D_init_163 : decode k_D_init 163 = .ok (.sipush 600, 3) := by decide +kernel
theorem d_D_init_166 : decode k_D_init 166 = .ok (.newarray .int, 2) := by decide +kernel
theorem d_D_init_168 : decode k_D_init 168 = .ok (.putfield 56, 3) := by decide +kernel
theorem d_D_init_171 : decode k_D_init 171 = .ok (.aload_n 0, 1) := by decide +kernel
theorem d_D_init_172 : decode k_D_init 172 = .ok (.sipush 600, 3) := by decide +kernel
theorem d_D_init_175 : decode k_D_init 175 = .ok (.newarray .int, 2) := by decide +kernel
theorem d_D_init_177 : decode k_D_init 177 = .ok (.putfield 59, 3) := by decide +kernel
theorem d_D_init_180 : decode k_D_init 180 = .ok (.aload_n 0, 1) := by decide +kernel
theorem d_D_init_181 : decode k_D_init 181 = .ok (.iconst 5, 1) := by decide +kernel
theorem d_D_init_182 : decode k_D_init 182 = .ok (.newarray .int, 2) := by decide +kernel
theorem d_D_init_184 : decode k_D_init 184 = .ok (.putfield 62, 3) := by decide +kernel
theorem d_D_init_187 : decode k_D_init 187 = .ok (.aload_n 0, 1) := by decide +kernel
theorem d_D_init_188 : decode k_D_init 188 = .ok (.sipush 512, 3) := by decide +kernel
theorem d_D_init_191 : decode k_D_init 191 = .ok (.newarray .int, 2) := by decide +kernel
theorem d_D_init_193 : decode k_D_init 193 = .ok (.putfield 65, 3) := by decide +kernel
theorem d_D_init_196 : decode k_D_init 196 = .ok (.aload_n 0, 1) := by decide +kernel
theorem d_D_init_197 : decode k_D_init 197 = .ok (.sipush 512, 3) := by decide +kernel
theorem d_D_init_200 : decode k_D_init 200 = .ok (.newarray .int, 2) := by decide +kernel
theorem d_D_init_202 : decode k_D_init 202 = .ok (.putfield 68, 3) := by decide +kernel
theorem d_D_init_205 : decode k_D_init 205 = .ok (.aload_n 0, 1) := by decide +kernel
theorem d_D_init_206 : decode k_D_init 206 = .ok (.sipush 512, 3) := by decide +kernel
theorem d_D_init_209 : decode k_D_init 209 = .ok (.newarray .int, 2) := by decide +kernel
theorem d_D_init_211 : decode k_D_init 211 = .ok (.putfield 71, 3) := by decide +kernel
theorem d_D_init_214 : decode k_D_init 214 = .ok (.aload_n 0, 1) := by decide +kernel
theorem d_D_init_215 : decode k_D_init 215 = .ok (.sipush 512, 3) := by decide +kernel
theorem d_D_init_218 : decode k_D_init 218 = .ok (.newarray .int, 2) := by decide +kernel
theorem d_D_init_220 : decode k_D_init 220 = .ok (.putfield 74, 3) := by decide +kernel
theorem d_D_init_223 : decode k_D_init 223 = .ok (.aload_n 0, 1) := by decide +kernel
theorem d_D_init_224 : decode k_D_init 224 = .ok (.sipush 512, 3) := by decide +kernel
theorem d_D_init_227 : decode k_D_init 227 = .ok (.newarray .int, 2) := by decide +kernel
theorem d_D_init_229 : decode k_D_init 229 = .ok (.putfield 77, 3) := by decide +kernel
theorem d_D_init_232 : decode k_D_init 232 = .ok (.aload_n 0, 1) := by decide +kernel
theorem d_D_init_233 : decode k_D_init 233 = .ok (.iconst 1, 1) := by decide +kernel
theorem d_D_init_234 : decode k_D_init 234 = .ok (.iload_n 1, 1) := by decide +kernel
theorem d_D_init_235 : decode k_D_init 235 = .ok (.iconst 1, 1) := by decide +kernel
theorem d_D_init_236 : decode k_D_init 236 = .ok (.iand, 1) := by decide +kernel
theorem d_D_init_237 : decode k_D_init 237 = .ok (.iadd, 1) := by decide +kernel
theorem d_D_init_238 : decode k_D_init 238 = .ok (.putfield 80, 3) := by decide +kernel
theorem d_D_init_241 : decode k_D_init 241 = .ok (.aload_n 0, 1) := by decide +kernel
theorem d_D_init_242 : decode k_D_init 242 = .ok (.iload_n 2, 1) := by decide +kernel
theorem d_D_init_243 : decode k_D_init 243 = .ok (.iconst 3, 1) := by decide +kernel
theorem d_D_init_244 : decode k_D_init 244 = .ok (.iand, 1) := by decide +kernel
theorem d_D_init_245 : decode k_D_init 245 = .ok (.putfield 84, 3) := by decide +kernel
theorem d_D_init_248 : decode k_D_init 248 = .ok (.aload_n 0, 1) := by decide +kernel
theorem d_D_init_249 : decode k_D_init 249 = .ok (.iconst 1, 1) := by decide +kernel
theorem d_D_init_250 : decode k_D_init 250 = .ok (.aload_n 0, 1) := by decide +kernel
theorem d_D_init_251 : decode k_D_init 251 = .ok (.getfield 84, 3) := by decide +kernel
theorem d_D_init_254 : decode k_D_init 254 = .ok (.ishl, 1) := by decide +kernel
theorem d_D_init_255 : decode k_D_init 255 = .ok (.putfield 87, 3) := by decide +kernel
theorem d_D_init_258 : decode k_D_init 258 = .ok (.aload_n 0, 1) := by decide +kernel
theorem d_D_init_259 : decode k_D_init 259 = .ok (.iload_n 3, 1) := by decide +kernel
theorem d_D_init_260 : decode k_D_init 260 = .ok (.iconst 3, 1) := by decide +kernel
theorem d_D_init_261 : decode k_D_init 261 = .ok (.iand, 1) := by decide +kernel
theorem d_D_init_262 : decode k_D_init 262 = .ok (.putfield 90, 3) := by decide +kernel
theorem d_D_init_265 : decode k_D_init 265 = .ok (.iconst 0, 1) := by decide +kernel
theorem d_D_init_266 : decode k_D_init 266 = .ok (.istore 4, 2) := by decide +kernel
theorem d_D_init_268 : decode k_D_init 268 = .ok (.iload 4, 2) := by decide +kernel
theorem d_D_init_270 : decode k_D_init 270 = .ok (.iconst 4, 1) := by decide +kernel
theorem d_D_init_271 : decode k_D_init 271 = .ok (.if_icmp .ge 15, 3) := by decide +kernel
theorem d_D_init_274 : decode k_D_init 274 = .ok (.aload_n 0, 1) := by decide +kernel
theorem d_D_init_275 : decode k_D_init 275 = .ok (.iload 4, 2) := by decide +kernel
theorem d_D_init_277 : decode k_D_init 277 = .ok (.invokevirtual 93, 3) := by decide +kernel
theorem d_D_init_280 : decode k_D_init 280 = .ok (.iinc 4 1, 3) := by decide +kernel
theorem d_D_init_283 : decode k_D_init 283 = .ok (.goto (-15), 3) := by decide +kernel
theorem d_D_init_286 : decode k_D_init 286 = .ok (.aload_n 0, 1) := by decide +kernel
theorem d_D_init_287 : decode k_D_init 287 = .ok (.getfield 47, 3) := by decide +kernel
theorem d_D_init_290 : decode k_D_init 290 = .ok (.iconst 0, 1) := by decide +kernel
theorem d_D_init_291 : decode k_D_init 291 = .ok (.aload_n 0, 1) := by decide +kernel
theorem d_D_init_292 : decode k_D_init 292 = .ok (.getfield 87, 3) := by decide +kernel
theorem d_D_init_295 : decode k_D_init 295 = .ok (.iconst 1, 1) := by decide +kernel
theorem d_D_init_296 : decode k_D_init 296 = .ok (.isub, 1) := by decide +kernel
theorem d_D_init_297 : decode k_D_init 297 = .ok (.iastore, 1) := by decide +kernel
theorem d_D_init_298 : decode k_D_init 298 = .ok (.aload_n 0, 1) := by decide +kernel
theorem d_D_init_299 : decode k_D_init 299 = .ok (.getfield 47, 3) := by decide +kernel
theorem d_D_init_302 : decode k_D_init 302 = .ok (.iconst 1, 1) := by decide +kernel
theorem d_D_init_303 : decode k_D_init 303 = .ok (.aload_n 0, 1) := by decide +kernel
theorem d_D_init_304 : decode k_D_init 304 = .ok (.getfield 87, 3) := by decide +kernel
theorem d_D_init_307 : decode k_D_init 307 = .ok (.iconst 1, 1) := by decide +kernel
theorem d_D_init_308 : decode k_D_init 308 = .ok (.isub, 1) := by decide +kernel
theorem d_D_init_309 : decode k_D_init 309 = .ok (.iastore, 1) := by decide +kernel
theorem d_D_init_310 : decode k_D_init 310 = .ok (.return_, 1) := by decide +kernel
theorem d_D_thrown_0 : decode k_D_thrown 0 = .ok (.aload_n 0, 1) := by decide +kernel
theorem d_D_thrown_1 : decode k_D_thrown 1 = .ok (.getfield 97, 3) := by decide +kernel
theorem d_D_thrown_4 : decode k_D_thrown 4 = .ok (.ireturn, 1) := by decide +kernel
theorem d_D_fail_0 : decode k_D_fail 0 = .ok (.aload_n 0, 1) := by decide +kernel
theorem d_D_fail_1 : decode k_D_fail 1 = .ok (.iload_n 1, 1) := by decide +kernel
theorem d_D_fail_2 : decode k_D_fail 2 = .ok (.putfield 97, 3) := by decide +kernel
theorem d_D_fail_5 : decode k_D_fail 5 = .ok (.iconst 0, 1) := by decide +kernel
theorem d_D_fail_6 : decode k_D_fail 6 = .ok (.ireturn, 1) := by decide +kernel
theorem d_D_within_0 : decode k_D_within 0 = .ok (.iload_n 0, 1) := by decide +kernel
theorem d_D_within_1 : decode k_D_within 1 = .ok (.iload_n 1, 1) := by decide +kernel
theorem d_D_within_2 : decode k_D_within 2 = .ok (.if_icmp .lt 12, 3) := by decide +kernel
theorem d_D_within_5 : decode k_D_within 5 = .ok (.iload_n 0, 1) := by decide +kernel
theorem d_D_within_6 : decode k_D_within 6 = .ok (.iload_n 2, 1) := by decide +kernel
theorem d_D_within_7 : decode k_D_within 7 = .ok (.if_icmp .gt 7, 3) := by decide +kernel
theorem d_D_within_10 : decode k_D_within 10 = .ok (.iconst 1, 1) := by decide +kernel
theorem d_D_within_11 : decode k_D_within 11 = .ok (.goto 4, 3) := by decide +kernel
theorem d_D_within_14 : decode k_D_within 14 = .ok (.iconst 0, 1) := by decide +kernel
theorem d_D_within_15 : decode k_D_within 15 = .ok (.ireturn, 1) := by decide +kernel
theorem d_D_clear_0 : decode k_D_clear 0 = .ok (.bipush 8, 2) := by decide +kernel
theorem d_D_clear_2 : decode k_D_clear 2 = .ok (.iload_n 1, 1) := by decide +kernel
theorem d_D_clear_3 : decode k_D_clear 3 = .ok (.imul, 1) := by decide +kernel
theorem d_D_clear_4 : decode k_D_clear 4 = .ok (.istore_n 2, 1) := by decide +kernel
theorem d_D_clear_5 : decode k_D_clear 5 = .ok (.iload_n 2, 1) := by decide +kernel
theorem d_D_clear_6 : decode k_D_clear 6 = .ok (.bipush 8, 2) := by decide +kernel
theorem d_D_clear_8 : decode k_D_clear 8 = .ok (.iload_n 1, 1) := by decide +kernel
theorem d_D_clear_9 : decode k_D_clear 9 = .ok (.imul, 1) := by decide +kernel
theorem d_D_clear_10 : decode k_D_clear 10 = .ok (.bipush 8, 2) := by decide +kernel
theorem d_D_clear_12 : decode k_D_clear 12 = .ok (.iadd, 1) := by decide +kernel
theorem d_D_clear_13 : decode k_D_clear 13 = .ok (.if_icmp .ge 48, 3) := by decide +kernel
theorem d_D_clear_16 : decode k_D_clear 16 = .ok (.aload_n 0, 1) := by decide +kernel
theorem d_D_clear_17 : decode k_D_clear 17 = .ok (.getfield 13, 3) := by decide +kernel
theorem d_D_clear_20 : decode k_D_clear 20 = .ok (.iload_n 2, 1) := by decide +kernel
theorem d_D_clear_21 : decode k_D_clear 21 = .ok (.iconst (-1), 1) := by decide +kernel
theorem d_D_clear_22 : decode k_D_clear 22 = .ok (.iastore, 1) := by decide +kernel
theorem d_D_clear_23 : decode k_D_clear 23 = .ok (.aload_n 0, 1) := by decide +kernel
theorem d_D_clear_24 : decode k_D_clear 24 = .ok (.getfield 16, 3) := by decide +kernel
theorem d_D_clear_27 : decode k_D_clear 27 = .ok (.iload_n 2, 1) := by decide +kernel
theorem d_D_clear_28 : decode k_D_clear 28 = .ok (.ldc 100, 2) := by decide +kernel
theorem d_D_clear_30 : decode k_D_clear 30 = .ok (.iastore, 1) := by decide +kernel
theorem d_D_clear_31 : decode k_D_clear 31 = .ok (.aload_n 0, 1) := by decide +kernel
theorem d_D_clear_32 : decode k_D_clear 32 = .ok (.getfield 19, 3) := by decide +kernel
theorem d_D_clear_35 : decode k_D_clear 35 = .ok (.iload_n 2, 1) := by decide +kernel
theorem d_D_clear_36 : decode k_D_clear 36 = .ok (.ldc 100, 2) := by decide +kernel
theorem d_D_clear_38 : decode k_D_clear 38 = .ok (.iastore, 1) := by decide +kernel
theorem d_D_clear_39 : decode k_D_clear 39 = .ok (.aload_n 0, 1) := by decide +kernel
theorem d_D_clear_40 : decode k_D_clear 40 = .ok (.getfield 22, 3) := by decide +kernel
theorem d_D_clear_43 : decode k_D_clear 43 = .ok (.iload_n 2, 1) := by decide +kernel
theorem d_D_clear_44 : decode k_D_clear 44 = .ok (.ldc 100, 2) := by decide +kernel
theorem d_D_clear_46 : decode k_D_clear 46 = .ok (.iastore, 1) := by decide +kernel
theorem d_D_clear_47 : decode k_D_clear 47 = .ok (.aload_n 0, 1) := by decide +kernel
theorem d_D_clear_48 : decode k_D_clear 48 = .ok (.getfield 25, 3) := by decide +kernel
theorem d_D_clear_51 : decode k_D_clear 51 = .ok (.iload_n 2, 1) := by decide +kernel
theorem d_D_clear_52 : decode k_D_clear 52 = .ok (.ldc 100, 2) := by decide +kernel
theorem d_D_clear_54 : decode k_D_clear 54 = .ok (.iastore, 1) := by decide +kernel
theorem d_D_clear_55 : decode k_D_clear 55 = .ok (.iinc 2 1, 3) := by decide +kernel
theorem d_D_clear_58 : decode k_D_clear 58 = .ok (.goto (-53), 3) := by decide +kernel
theorem d_D_clear_61 : decode k_D_clear 61 = .ok (.aload_n 0, 1) := by decide +kernel
theorem d_D_clear_62 : decode k_D_clear 62 = .ok (.getfield 28, 3) := by decide +kernel
theorem d_D_clear_65 : decode k_D_clear 65 = .ok (.iload_n 1, 1) := by decide +kernel
theorem d_D_clear_66 : decode k_D_clear 66 = .ok (.ldc 100, 2) := by decide +kernel
theorem d_D_clear_68 : decode k_D_clear 68 = .ok (.iastore, 1) := by decide +kernel
theorem d_D_clear_69 : decode k_D_clear 69 = .ok (.aload_n 0, 1) := by decide +kernel
theorem d_D_clear_70 : decode k_D_clear 70 = .ok (.getfield 31, 3) := by decide +kernel
theorem d_D_clear_73 : decode k_D_clear 73 = .ok (.iload_n 1, 1) := by decide +kernel
theorem d_D_clear_74 : decode k_D_clear 74 = .ok (.ldc 100, 2) := by decide +kernel
theorem d_D_clear_76 : decode k_D_clear 76 = .ok (.iastore, 1) := by decide +kernel
theorem d_D_clear_77 : decode k_D_clear 77 = .ok (.aload_n 0, 1) := by decide +kernel
theorem d_D_clear_78 : decode k_D_clear 78 = .ok (.getfield 34, 3) := by decide +kernel
theorem d_D_clear_81 : decode k_D_clear 81 = .ok (.iload_n 1, 1) := by decide +kernel
theorem d_D_clear_82 : decode k_D_clear 82 = .ok (.ldc 100, 2) := by decide +kernel
theorem d_D_clear_84 : decode k_D_clear 84 = .ok (.iastore, 1) := by decide +kernel
theorem d_D_clear_85 : decode k_D_clear 85 = .ok (.aload_n 0, 1) := by decide +kernel
theorem d_D_clear_86 : decode k_D_clear 86 = .ok (.getfield 40, 3) := by decide +kernel
theorem d_D_clear_89 : decode k_D_clear 89 = .ok (.iload_n 1, 1) := by decide +kernel
theorem d_D_clear_90 : decode k_D_clear 90 = .ok (.iconst (-1), 1) := by decide +kernel
theorem d_D_clear_91 : decode k_D_clear 91 = .ok (.iastore, 1) := by decide +kernel
theorem d_D_clear_92 : decode k_D_clear 92 = .ok (.iconst 0, 1) := by decide +kernel
theorem d_D_clear_93 : decode k_D_clear 93 = .ok (.istore_n 2, 1) := by decide +kernel
theorem d_D_clear_94 : decode k_D_clear 94 = .ok (.iload_n 2, 1) := by decide +kernel
theorem d_D_clear_95 : decode k_D_clear 95 = .ok (.iconst 4, 1) := by decide +kernel
theorem d_D_clear_96 : decode k_D_clear 96 = .ok (.if_icmp .ge 21, 3) := by decide +kernel
theorem d_D_clear_99 : decode k_D_clear 99 = .ok (.aload_n 0, 1) := by decide +kernel
theorem d_D_clear_100 : decode k_D_clear 100 = .ok (.getfield 37, 3) := by decide +kernel
theorem d_D_clear_103 : decode k_D_clear 103 = .ok (.iconst 4, 1) := by decide +kernel
theorem d_D_clear_104 : decode k_D_clear 104 = .ok (.iload_n 1, 1) := by decide +kernel
theorem d_D_clear_105 : decode k_D_clear 105 = .ok (.imul, 1) := by decide +kernel
theorem d_D_clear_106 : decode k_D_clear 106 = .ok (.iload_n 2, 1) := by decide +kernel
theorem d_D_clear_107 : decode k_D_clear 107 = .ok (.iadd, 1) := by decide +kernel
theorem d_D_clear_108 : decode k_D_clear 108 = .ok (.ldc 100, 2) := by decide +kernel
theorem d_D_clear_110 : decode k_D_clear 110 = .ok (.iastore, 1) := by decide +kernel
theorem d_D_clear_111 : decode k_D_clear 111 = .ok (.iinc 2 1, 3) := by decide +kernel
theorem d_D_clear_114 : decode k_D_clear 114 = .ok (.goto (-20), 3) := by decide +kernel
theorem d_D_clear_117 : decode k_D_clear 117 = .ok (.return_, 1) := by decide +kernel
theorem d_D_isAddress_0 : decode k_D_isAddress 0 = .ok (.iload_n 1, 1) := by decide +kernel
theorem d_D_isAddress_1 : decode k_D_isAddress 1 = .ok (.iconst 0, 1) := by decide +kernel
theorem d_D_isAddress_2 : decode k_D_isAddress 2 = .ok (.ldc 101, 2) := by decide +kernel
theorem d_D_isAddress_4 : decode k_D_isAddress 4 = .ok (.invokestatic 102, 3) := by decide +kernel
theorem d_D_isAddress_7 : decode k_D_isAddress 7 = .ok (.ireturn, 1) := by decide +kernel
theorem d_D_channelOf_0 : decode k_D_channelOf 0 = .ok (.iload_n 1, 1) := by decide +kernel
theorem d_D_channelOf_1 : decode k_D_channelOf 1 = .ok (.iconst 4, 1) := by decide +kernel
theorem d_D_channelOf_2 : decode k_D_channelOf 2 = .ok (.ishr, 1) := by decide +kernel
theorem d_D_channelOf_3 : decode k_D_channelOf 3 = .ok (.aload_n 0, 1) := by decide +kernel
theorem d_D_channelOf_4 : decode k_D_channelOf 4 = .ok (.getfield 80, 3) := by decide +kernel
theorem d_D_channelOf_7 : decode k_D_channelOf 7 = .ok (.iconst 1, 1) := by decide +kernel
theorem d_D_channelOf_8 : decode k_D_channelOf 8 = .ok (.isub, 1) := by decide +kernel
theorem d_D_channelOf_9 : decode k_D_channelOf 9 = .ok (.iand, 1) := by decide +kernel
theorem d_D_channelOf_10 : decode k_D_channelOf 10 = .ok (.ireturn, 1) := by decide +kernel
theorem d_D_bankOf_0 : decode k_D_bankOf 0 = .ok (.iload_n 1, 1) := by decide +kernel
theorem d_D_bankOf_1 : decode k_D_bankOf 1 = .ok (.iconst 3, 1) := by decide +kernel
theorem d_D_bankOf_2 : decode k_D_bankOf 2 = .ok (.aload_n 0, 1) := by decide +kernel
theorem d_D_bankOf_3 : decode k_D_bankOf 3 = .ok (.getfield 80, 3) := by decide +kernel
theorem d_D_bankOf_6 : decode k_D_bankOf 6 = .ok (.iadd, 1) := by decide +kernel
theorem d_D_bankOf_7 : decode k_D_bankOf 7 = .ok (.ishr, 1) := by decide +kernel
theorem d_D_bankOf_8 : decode k_D_bankOf 8 = .ok (.aload_n 0, 1) := by decide +kernel
theorem d_D_bankOf_9 : decode k_D_bankOf 9 = .ok (.getfield 87, 3) := by decide +kernel
theorem d_D_bankOf_12 : decode k_D_bankOf 12 = .ok (.iconst 1, 1) := by decide +kernel
theorem d_D_bankOf_13 : decode k_D_bankOf 13 = .ok (.isub, 1) := by decide +kernel
theorem d_D_bankOf_14 : decode k_D_bankOf 14 = .ok (.iand, 1) := by decide +kernel
theorem d_D_bankOf_15 : decode k_D_bankOf 15 = .ok (.ireturn, 1) := by decide +kernel
theorem d_D_rowOf_0 : decode k_D_rowOf 0 = .ok (.iload_n 1, 1) := by decide +kernel
theorem d_D_rowOf_1 : decode k_D_rowOf 1 = .ok (.iconst 3, 1) := by decide +kernel
theorem d_D_rowOf_2 : decode k_D_rowOf 2 = .ok (.aload_n 0, 1) := by decide +kernel
theorem d_D_rowOf_3 : decode k_D_rowOf 3 = .ok (.getfield 80, 3) := by decide +kernel
theorem d_D_rowOf_6 : decode k_D_rowOf 6 = .ok (.iadd, 1) := by decide +kernel
theorem d_D_rowOf_7 : decode k_D_rowOf 7 = .ok (.aload_n 0, 1) := by decide +kernel
theorem d_D_rowOf_8 : decode k_D_rowOf 8 = .ok (.getfield 84, 3) := by decide +kernel
theorem d_D_rowOf_11 : decode k_D_rowOf 11 = .ok (.iadd, 1) := by decide +kernel
theorem d_D_rowOf_12 : decode k_D_rowOf 12 = .ok (.ishr, 1) := by decide +kernel
theorem d_D_rowOf_13 : decode k_D_rowOf 13 = .ok (.ireturn, 1) := by decide +kernel
theorem d_D_part_0 : decode k_D_part 0 = .ok (.aload_n 0, 1) := by decide +kernel
theorem d_D_part_1 : decode k_D_part 1 = .ok (.iconst 0, 1) := by decide +kernel
theorem d_D_part_2 : decode k_D_part 2 = .ok (.putfield 97, 3) := by decide +kernel
theorem d_D_part_5 : decode k_D_part 5 = .ok (.aload_n 0, 1) := by decide +kernel
theorem d_D_part_6 : decode k_D_part 6 = .ok (.iload_n 1, 1) := by decide +kernel
theorem d_D_part_7 : decode k_D_part 7 = .ok (.invokevirtual 106, 3) := by decide +kernel
theorem d_D_part_10 : decode k_D_part 10 = .ok (.ifCond .eq 12, 3) := by decide +kernel
theorem d_D_part_13 : decode k_D_part 13 = .ok (.iload_n 2, 1) := by decide +kernel
theorem d_D_part_14 : decode k_D_part 14 = .ok (.iconst 0, 1) := by decide +kernel
theorem d_D_part_15 : decode k_D_part 15 = .ok (.iconst 3, 1) := by decide +kernel
theorem d_D_part_16 : decode k_D_part 16 = .ok (.invokestatic 102, 3) := by decide +kernel
theorem d_D_part_19 : decode k_D_part 19 = .ok (.ifCond .ne 9, 3) := by decide +kernel
theorem d_D_part_22 : decode k_D_part 22 = .ok (.aload_n 0, 1) := by decide +kernel
theorem d_D_part_23 : decode k_D_part 23 = .ok (.iconst 1, 1) := by decide +kernel
theorem d_D_part_24 : decode k_D_part 24 = .ok (.invokevirtual 110, 3) := by decide +kernel
theorem d_D_part_27 : decode k_D_part 27 = .ok (.ireturn, 1) := by decide +kernel
theorem d_D_part_28 : decode k_D_part 28 = .ok (.iload_n 2, 1) := by decide +kernel
theorem d_D_part_29 : decode k_D_part 29 = .ok (.ifCond .ne 11, 3) := by decide +kernel
theorem d_D_part_32 : decode k_D_part 32 = .ok (.aload_n 0, 1) := by decide +kernel
theorem d_D_part_33 : decode k_D_part 33 = .ok (.iload_n 1, 1) := by decide +kernel
theorem d_D_part_34 : decode k_D_part 34 = .ok (.invokevirtual 114, 3) := by decide +kernel
theorem d_D_part_37 : decode k_D_part 37 = .ok (.goto 33, 3) := by decide +kernel
theorem d_D_part_40 : decode k_D_part 40 = .ok (.iload_n 2, 1) := by decide +kernel
theorem d_D_part_41 : decode k_D_part 41 = .ok (.iconst 1, 1) := by decide +kernel
theorem d_D_part_42 : decode k_D_part 42 = .ok (.if_icmp .ne 11, 3) := by decide +kernel
theorem d_D_part_45 : decode k_D_part 45 = .ok (.aload_n 0, 1) := by decide +kernel
theorem d_D_part_46 : decode k_D_part 46 = .ok (.iload_n 1, 1) := by decide +kernel
theorem d_D_part_47 : decode k_D_part 47 = .ok (.invokevirtual 117, 3) := by decide +kernel
theorem d_D_part_50 : decode k_D_part 50 = .ok (.goto 20, 3) := by decide +kernel
theorem d_D_part_53 : decode k_D_part 53 = .ok (.iload_n 2, 1) := by decide +kernel
theorem d_D_part_54 : decode k_D_part 54 = .ok (.iconst 2, 1) := by decide +kernel
theorem d_D_part_55 : decode k_D_part 55 = .ok (.if_icmp .ne 11, 3) := by decide +kernel
theorem d_D_part_58 : decode k_D_part 58 = .ok (.aload_n 0, 1) := by decide +kernel
theorem d_D_part_59 : decode k_D_part 59 = .ok (.iload_n 1, 1) := by decide +kernel
theorem d_D_part_60 : decode k_D_part 60 = .ok (.invokevirtual 120, 3) := by decide +kernel
theorem d_D_part_63 : decode k_D_part 63 = .ok (.goto 7, 3) := by decide +kernel
theorem d_D_part_66 : decode k_D_part 66 = .ok (.iload_n 1, 1) := by decide +kernel
theorem d_D_part_67 : decode k_D_part 67 = .ok (.bipush 15, 2) := by decide +kernel
theorem d_D_part_69 : decode k_D_part 69 = .ok (.iand, 1) := by decide +kernel
theorem d_D_part_70 : decode k_D_part 70 = .ok (.ireturn, 1) := by decide +kernel
theorem d_D_anyOpen_0 : decode k_D_anyOpen 0 = .ok (.iconst 0, 1) := by decide +kernel
theorem d_D_anyOpen_1 : decode k_D_anyOpen 1 = .ok (.istore_n 2, 1) := by decide +kernel
theorem d_D_anyOpen_2 : decode k_D_anyOpen 2 = .ok (.bipush 8, 2) := by decide +kernel
theorem d_D_anyOpen_4 : decode k_D_anyOpen 4 = .ok (.iload_n 1, 1) := by decide +kernel
theorem d_D_anyOpen_5 : decode k_D_anyOpen 5 = .ok (.imul, 1) := by decide +kernel
theorem d_D_anyOpen_6 : decode k_D_anyOpen 6 = .ok (.istore_n 3, 1) := by decide +kernel
theorem d_D_anyOpen_7 : decode k_D_anyOpen 7 = .ok (.iload_n 3, 1) := by decide +kernel
theorem d_D_anyOpen_8 : decode k_D_anyOpen 8 = .ok (.bipush 8, 2) := by decide +kernel
theorem d_D_anyOpen_10 : decode k_D_anyOpen 10 = .ok (.iload_n 1, 1) := by decide +kernel
theorem d_D_anyOpen_11 : decode k_D_anyOpen 11 = .ok (.imul, 1) := by decide +kernel
theorem d_D_anyOpen_12 : decode k_D_anyOpen 12 = .ok (.aload_n 0, 1) := by decide +kernel
theorem d_D_anyOpen_13 : decode k_D_anyOpen 13 = .ok (.getfield 87, 3) := by decide +kernel
theorem d_D_anyOpen_16 : decode k_D_anyOpen 16 = .ok (.iadd, 1) := by decide +kernel
theorem d_D_anyOpen_17 : decode k_D_anyOpen 17 = .ok (.if_icmp .ge 28, 3) := by decide +kernel
theorem d_D_anyOpen_20 : decode k_D_anyOpen 20 = .ok (.iload_n 2, 1) := by decide +kernel
theorem d_D_anyOpen_21 : decode k_D_anyOpen 21 = .ok (.ifCond .ne 12, 3) := by decide +kernel
theorem d_D_anyOpen_24 : decode k_D_anyOpen 24 = .ok (.aload_n 0, 1) := by decide +kernel
theorem d_D_anyOpen_25 : decode k_D_anyOpen 25 = .ok (.getfield 13, 3) := by decide +kernel
theorem d_D_anyOpen_28 : decode k_D_anyOpen 28 = .ok (.iload_n 3, 1) := by decide +kernel
theorem d_D_anyOpen_29 : decode k_D_anyOpen 29 = .ok (.iaload, 1) := by decide +kernel
theorem d_D_anyOpen_30 : decode k_D_anyOpen 30 = .ok (.ifCond .lt 7, 3) := by decide +kernel
theorem d_D_anyOpen_33 : decode k_D_anyOpen 33 = .ok (.iconst 1, 1) := by decide +kernel
theorem d_D_anyOpen_34 : decode k_D_anyOpen 34 = .ok (.goto 4, 3) := by decide +kernel
theorem d_D_anyOpen_37 : decode k_D_anyOpen 37 = .ok (.iconst 0, 1) := by decide +kernel
theorem d_D_anyOpen_38 : decode k_D_anyOpen 38 = .ok (.istore_n 2, 1) := by decide +kernel
theorem d_D_anyOpen_39 : decode k_D_anyOpen 39 = .ok (.iinc 3 1, 3) := by decide +kernel
theorem d_D_anyOpen_42 : decode k_D_anyOpen 42 = .ok (.goto (-35), 3) := by decide +kernel
theorem d_D_anyOpen_45 : decode k_D_anyOpen 45 = .ok (.iload_n 2, 1) := by decide +kernel
theorem d_D_anyOpen_46 : decode k_D_anyOpen 46 = .ok (.ireturn, 1) := by decide +kernel
theorem d_D_fits_0 : decode k_D_fits 0 = .ok (.bipush 8, 2) := by decide +kernel
theorem d_D_fits_2 : decode k_D_fits 2 = .ok (.iload_n 1, 1) := by decide +kernel
theorem d_D_fits_3 : decode k_D_fits 3 = .ok (.imul, 1) := by decide +kernel
theorem d_D_fits_4 : decode k_D_fits 4 = .ok (.iload_n 3, 1) := by decide +kernel
theorem d_D_fits_5 : decode k_D_fits 5 = .ok (.iadd, 1) := by decide +kernel
theorem d_D_fits_6 : decode k_D_fits 6 = .ok (.istore 5, 2) := by decide +kernel
theorem d_D_fits_8 : decode k_D_fits 8 = .ok (.iload_n 2, 1) := by decide +kernel
theorem d_D_fits_9 : decode k_D_fits 9 = .ok (.ifCond .ne 19, 3) := by decide +kernel
theorem d_D_fits_12 : decode k_D_fits 12 = .ok (.aload_n 0, 1) := by decide +kernel
theorem d_D_fits_13 : decode k_D_fits 13 = .ok (.getfield 13, 3) := by decide +kernel
theorem d_D_fits_16 : decode k_D_fits 16 = .ok (.iload 5, 2) := by decide +kernel
theorem d_D_fits_18 : decode k_D_fits 18 = .ok (.iaload, 1) := by decide +kernel
theorem d_D_fits_19 : decode k_D_fits 19 = .ok (.ifCond .ge 7, 3) := by decide +kernel
theorem d_D_fits_22 : decode k_D_fits 22 = .ok (.iconst 1, 1) := by decide +kernel
theorem d_D_fits_23 : decode k_D_fits 23 = .ok (.goto 4, 3) := by decide +kernel
theorem d_D_fits_26 : decode k_D_fits 26 = .ok (.iconst 0, 1) := by decide +kernel
theorem d_D_fits_27 : decode k_D_fits 27 = .ok (.ireturn, 1) := by decide +kernel
theorem d_D_fits_28 : decode k_D_fits 28 = .ok (.iload_n 2, 1) := by decide +kernel
theorem d_D_fits_29 : decode k_D_fits 29 = .ok (.iconst 4, 1) := by decide +kernel
theorem d_D_fits_30 : decode k_D_fits 30 = .ok (.if_icmp .ne 17, 3) := by decide +kernel
theorem d_D_fits_33 : decode k_D_fits 33 = .ok (.aload_n 0, 1) := by decide +kernel
theorem d_D_fits_34 : decode k_D_fits 34 = .ok (.iload_n 1, 1) := by decide +kernel
theorem d_D_fits_35 : decode k_D_fits 35 = .ok (.invokevirtual 123, 3) := by decide +kernel
theorem d_D_fits_38 : decode k_D_fits 38 = .ok (.ifCond .ne 7, 3) := by decide +kernel
theorem d_D_fits_41 : decode k_D_fits 41 = .ok (.iconst 1, 1) := by decide +kernel
theorem d_D_fits_42 : decode k_D_fits 42 = .ok (.goto 4, 3) := by decide +kernel
theorem d_D_fits_45 : decode k_D_fits 45 = .ok (.iconst 0, 1) := by decide +kernel
theorem d_D_fits_46 : decode k_D_fits 46 = .ok (.ireturn, 1) := by decide +kernel
theorem d_D_fits_47 : decode k_D_fits 47 = .ok (.aload_n 0, 1) := by decide +kernel
theorem d_D_fits_48 : decode k_D_fits 48 = .ok (.getfield 13, 3) := by decide +kernel
theorem d_D_fits_51 : decode k_D_fits 51 = .ok (.iload 5, 2) := by decide +kernel
theorem d_D_fits_53 : decode k_D_fits 53 = .ok (.iaload, 1) := by decide +kernel
theorem d_D_fits_54 : decode k_D_fits 54 = .ok (.ifCond .lt 24, 3) := by decide +kernel
theorem d_D_fits_57 : decode k_D_fits 57 = .ok (.iload_n 2, 1) := by decide +kernel
theorem d_D_fits_58 : decode k_D_fits 58 = .ok (.iconst 3, 1) := by decide +kernel
theorem d_D_fits_59 : decode k_D_fits 59 = .ok (.if_icmp .eq 15, 3) := by decide +kernel
theorem d_D_fits_62 : decode k_D_fits 62 = .ok (.aload_n 0, 1) := by decide +kernel
theorem d_D_fits_63 : decode k_D_fits 63 = .ok (.getfield 13, 3) := by decide +kernel
theorem d_D_fits_66 : decode k_D_fits 66 = .ok (.iload 5, 2) := by decide +kernel
theorem d_D_fits_68 : decode k_D_fits 68 = .ok (.iaload, 1) := by decide +kernel
theorem d_D_fits_69 : decode k_D_fits 69 = .ok (.iload 4, 2) := by decide +kernel
theorem d_D_fits_71 : decode k_D_fits 71 = .ok (.if_icmp .ne 7, 3) := by decide +kernel
theorem d_D_fits_74 : decode k_D_fits 74 = .ok (.iconst 1, 1) := by decide +kernel
theorem d_D_fits_75 : decode k_D_fits 75 = .ok (.goto 4, 3) := by decide +kernel
theorem d_D_fits_78 : decode k_D_fits 78 = .ok (.iconst 0, 1) := by decide +kernel
theorem d_D_fits_79 : decode k_D_fits 79 = .ok (.ireturn, 1) := by decide +kernel
theorem d_D_since_0 : decode k_D_since 0 = .ok (.bipush 8, 2) := by decide +kernel
theorem d_D_since_2 : decode k_D_since 2 = .ok (.iload_n 2, 1) := by decide +kernel
theorem d_D_since_3 : decode k_D_since 3 = .ok (.imul, 1) := by decide +kernel
theorem d_D_since_4 : decode k_D_since 4 = .ok (.iload 4, 2) := by decide +kernel
theorem d_D_since_6 : decode k_D_since 6 = .ok (.iadd, 1) := by decide +kernel
theorem d_D_since_7 : decode k_D_since 7 = .ok (.istore 5, 2) := by decide +kernel
theorem d_D_since_9 : decode k_D_since 9 = .ok (.iload_n 3, 1) := by decide +kernel
theorem d_D_since_10 : decode k_D_since 10 = .ok (.iconst 1, 1) := by decide +kernel
theorem d_D_since_11 : decode k_D_since 11 = .ok (.if_icmp .eq 8, 3) := by decide +kernel
theorem d_D_since_14 : decode k_D_since 14 = .ok (.iload_n 3, 1) := by decide +kernel
theorem d_D_since_15 : decode k_D_since 15 = .ok (.iconst 2, 1) := by decide +kernel
theorem d_D_since_16 : decode k_D_since 16 = .ok (.if_icmp .ne 7, 3) := by decide +kernel
theorem d_D_since_19 : decode k_D_since 19 = .ok (.iconst 1, 1) := by decide +kernel
theorem d_D_since_20 : decode k_D_since 20 = .ok (.goto 4, 3) := by decide +kernel
theorem d_D_since_23 : decode k_D_since 23 = .ok (.iconst 0, 1) := by decide +kernel
theorem d_D_since_24 : decode k_D_since 24 = .ok (.istore 6, 2) := by decide +kernel
theorem d_D_since_26 : decode k_D_since 26 = .ok (.iload_n 1, 1) := by decide +kernel
theorem d_D_since_27 : decode k_D_since 27 = .ok (.tableswitch 190 0 7 #[45, 63, 80, 98, 130, 147, 165, 183], 45) := by decide +kernel
theorem d_D_since_72 : decode k_D_since 72 = .ok (.iload 6, 2) := by decide +kernel
theorem d_D_since_74 : decode k_D_since 74 = .ok (.ifCond .eq 13, 3) := by decide +kernel
theorem d_D_since_77 : decode k_D_since 77 = .ok (.aload_n 0, 1) := by decide +kernel
theorem d_D_since_78 : decode k_D_since 78 = .ok (.getfield 16, 3) := by decide +kernel
theorem d_D_since_81 : decode k_D_since 81 = .ok (.iload 5, 2) := by decide +kernel
theorem d_D_since_83 : decode k_D_since 83 = .ok (.iaload, 1) := by decide +kernel
theorem d_D_since_84 : decode k_D_since 84 = .ok (.goto 5, 3) := by decide +kernel
theorem d_D_since_87 : decode k_D_since 87 = .ok (.ldc 100, 2) := by decide +kernel
theorem d_D_since_89 : decode k_D_since 89 = .ok (.ireturn, 1) := by decide +kernel
theorem d_D_since_90 : decode k_D_since 90 = .ok (.iload_n 3, 1) := by decide +kernel
theorem d_D_since_91 : decode k_D_since 91 = .ok (.ifCond .ne 13, 3) := by decide +kernel
theorem d_D_since_94 : decode k_D_since 94 = .ok (.aload_n 0, 1) := by decide +kernel
theorem d_D_since_95 : decode k_D_since 95 = .ok (.getfield 19, 3) := by decide +kernel
theorem d_D_since_98 : decode k_D_since 98 = .ok (.iload 5, 2) := by decide +kernel
theorem d_D_since_100 : decode k_D_since 100 = .ok (.iaload, 1) := by decide +kernel
theorem d_D_since_101 : decode k_D_since 101 = .ok (.goto 5, 3) := by decide +kernel
theorem d_D_since_104 : decode k_D_since 104 = .ok (.ldc 100, 2) := by decide +kernel
theorem d_D_since_106 : decode k_D_since 106 = .ok (.ireturn, 1) := by decide +kernel
theorem d_D_since_107 : decode k_D_since 107 = .ok (.iload_n 3, 1) := by decide +kernel
theorem d_D_since_108 : decode k_D_since 108 = .ok (.iconst 3, 1) := by decide +kernel
theorem d_D_since_109 : decode k_D_since 109 = .ok (.if_icmp .ne 13, 3) := by decide +kernel
theorem d_D_since_112 : decode k_D_since 112 = .ok (.aload_n 0, 1) := by decide +kernel
theorem d_D_since_113 : decode k_D_since 113 = .ok (.getfield 16, 3) := by decide +kernel
theorem d_D_since_116 : decode k_D_since 116 = .ok (.iload 5, 2) := by decide +kernel
theorem d_D_since_118 : decode k_D_since 118 = .ok (.iaload, 1) := by decide +kernel
theorem d_D_since_119 : decode k_D_since 119 = .ok (.goto 5, 3) := by decide +kernel
theorem d_D_since_122 : decode k_D_since 122 = .ok (.ldc 100, 2) := by decide +kernel
theorem d_D_since_124 : decode k_D_since 124 = .ok (.ireturn, 1) := by decide +kernel
theorem d_D_since_125 : decode k_D_since 125 = .ok (.iload 6, 2) := by decide +kernel
theorem d_D_since_127 : decode k_D_since 127 = .ok (.ifCond .eq 12, 3) := by decide +kernel
theorem d_D_since_130 : decode k_D_since 130 = .ok (.aload_n 0, 1) := by decide +kernel
theorem d_D_since_131 : decode k_D_since 131 = .ok (.getfield 31, 3) := by decide +kernel
theorem d_D_since_134 : decode k_D_since 134 = .ok (.iload_n 2, 1) := by decide +kernel
theorem d_D_since_135 : decode k_D_since 135 = .ok (.iaload, 1) := by decide +kernel
theorem d_D_since_136 : decode k_D_since 136 = .ok (.goto 20, 3) := by decide +kernel
theorem d_D_since_139 : decode k_D_since 139 = .ok (.iload_n 3, 1) := by decide +kernel
theorem d_D_since_140 : decode k_D_since 140 = .ok (.iconst 3, 1) := by decide +kernel
theorem d_D_since_141 : decode k_D_since 141 = .ok (.if_icmp .ne 13, 3) := by decide +kernel
theorem d_D_since_144 : decode k_D_since 144 = .ok (.aload_n 0, 1) := by decide +kernel
theorem d_D_since_145 : decode k_D_since 145 = .ok (.getfield 22, 3) := by decide +kernel
theorem d_D_since_148 : decode k_D_since 148 = .ok (.iload 5, 2) := by decide +kernel
theorem d_D_since_150 : decode k_D_since 150 = .ok (.iaload, 1) := by decide +kernel
theorem d_D_since_151 : decode k_D_since 151 = .ok (.goto 5, 3) := by decide +kernel
theorem d_D_since_154 : decode k_D_since 154 = .ok (.ldc 100, 2) := by decide +kernel
theorem d_D_since_156 : decode k_D_since 156 = .ok (.ireturn, 1) := by decide +kernel
theorem d_D_since_157 : decode k_D_since 157 = .ok (.iload_n 3, 1) := by decide +kernel
theorem d_D_since_158 : decode k_D_since 158 = .ok (.iconst 1, 1) := by decide +kernel
theorem d_D_since_159 : decode k_D_since 159 = .ok (.if_icmp .ne 12, 3) := by decide +kernel
theorem d_D_since_162 : decode k_D_since 162 = .ok (.aload_n 0, 1) := by decide +kernel
theorem d_D_since_163 : decode k_D_since 163 = .ok (.getfield 28, 3) := by decide +kernel
theorem d_D_since_166 : decode k_D_since 166 = .ok (.iload_n 2, 1) := by decide +kernel
theorem d_D_since_167 : decode k_D_since 167 = .ok (.iaload, 1) := by decide +kernel
theorem d_D_since_168 : decode k_D_since 168 = .ok (.goto 5, 3) := by decide +kernel
theorem d_D_since_171 : decode k_D_since 171 = .ok (.ldc 100, 2) := by decide +kernel
theorem d_D_since_173 : decode k_D_since 173 = .ok (.ireturn, 1) := by decide +kernel
theorem d_D_since_174 : decode k_D_since 174 = .ok (.iload_n 3, 1) := by decide +kernel
theorem d_D_since_175 : decode k_D_since 175 = .ok (.iconst 3, 1) := by decide +kernel
theorem d_D_since_176 : decode k_D_since 176 = .ok (.if_icmp .ne 13, 3) := by decide +kernel
theorem d_D_since_179 : decode k_D_since 179 = .ok (.aload_n 0, 1) := by decide +kernel
theorem d_D_since_180 : decode k_D_since 180 = .ok (.getfield 25, 3) := by decide +kernel
theorem d_D_since_183 : decode k_D_since 183 = .ok (.iload 5, 2) := by decide +kernel
theorem d_D_since_185 : decode k_D_since 185 = .ok (.iaload, 1) := by decide +kernel
theorem d_D_since_186 : decode k_D_since 186 = .ok (.goto 5, 3) := by decide +kernel
theorem d_D_since_189 : decode k_D_since 189 = .ok (.ldc 100, 2) := by decide +kernel
theorem d_D_since_191 : decode k_D_since 191 = .ok (.ireturn, 1) := by decide +kernel
theorem d_D_since_192 : decode k_D_since 192 = .ok (.iload_n 3, 1) := by decide +kernel
theorem d_D_since_193 : decode k_D_since 193 = .ok (.ifCond .ne 14, 3) := by decide +kernel
theorem d_D_since_196 : decode k_D_since 196 = .ok (.aload_n 0, 1) := by decide +kernel
theorem d_D_since_197 : decode k_D_since 197 = .ok (.getfield 37, 3) := by decide +kernel
theorem d_D_since_200 : decode k_D_since 200 = .ok (.iconst 4, 1) := by decide +kernel
theorem d_D_since_201 : decode k_D_since 201 = .ok (.iload_n 2, 1) := by decide +kernel
theorem d_D_since_202 : decode k_D_since 202 = .ok (.imul, 1) := by decide +kernel
theorem d_D_since_203 : decode k_D_since 203 = .ok (.iaload, 1) := by decide +kernel
theorem d_D_since_204 : decode k_D_since 204 = .ok (.goto 5, 3) := by decide +kernel
theorem d_D_since_207 : decode k_D_since 207 = .ok (.ldc 100, 2) := by decide +kernel
theorem d_D_since_209 : decode k_D_since 209 = .ok (.ireturn, 1) := by decide +kernel
theorem d_D_since_210 : decode k_D_since 210 = .ok (.aload_n 0, 1) := by decide +kernel
theorem d_D_since_211 : decode k_D_since 211 = .ok (.getfield 34, 3) := by decide +kernel
theorem d_D_since_214 : decode k_D_since 214 = .ok (.iload_n 2, 1) := by decide +kernel
theorem d_D_since_215 : decode k_D_since 215 = .ok (.iaload, 1) := by decide +kernel
theorem d_D_since_216 : decode k_D_since 216 = .ok (.ireturn, 1) := by decide +kernel
theorem d_D_since_217 : decode k_D_since 217 = .ok (.iload_n 3, 1) := by decide +kernel
theorem d_D_since_218 : decode k_D_since 218 = .ok (.ifCond .ne 16, 3) := by decide +kernel
theorem d_D_since_221 : decode k_D_since 221 = .ok (.aload_n 0, 1) := by decide +kernel
theorem d_D_since_222 : decode k_D_since 222 = .ok (.getfield 37, 3) := by decide +kernel
theorem d_D_since_225 : decode k_D_since 225 = .ok (.iconst 4, 1) := by decide +kernel
theorem d_D_since_226 : decode k_D_since 226 = .ok (.iload_n 2, 1) := by decide +kernel
theorem d_D_since_227 : decode k_D_since 227 = .ok (.imul, 1) := by decide +kernel
theorem d_D_since_228 : decode k_D_since 228 = .ok (.iconst 3, 1) := by decide +kernel
theorem d_D_since_229 : decode k_D_since 229 = .ok (.iadd, 1) := by decide +kernel
theorem d_D_since_230 : decode k_D_since 230 = .ok (.iaload, 1) := by decide +kernel
theorem d_D_since_231 : decode k_D_since 231 = .ok (.goto 5, 3) := by decide +kernel
theorem d_D_since_234 : decode k_D_since 234 = .ok (.ldc 100, 2) := by decide +kernel
theorem d_D_since_236 : decode k_D_since 236 = .ok (.ireturn, 1) := by decide +kernel
theorem d_D_broken_0 : decode k_D_broken 0 = .ok (.iconst 0, 1) := by decide +kernel
theorem d_D_broken_1 : decode k_D_broken 1 = .ok (.istore 5, 2) := by decide +kernel
theorem d_D_broken_3 : decode k_D_broken 3 = .ok (.iload 5, 2) := by decide +kernel
theorem d_D_broken_5 : decode k_D_broken 5 = .ok (.bipush 9, 2) := by decide +kernel
theorem d_D_broken_7 : decode k_D_broken 7 = .ok (.if_icmp .ge 38, 3) := by decide +kernel
theorem d_D_broken_10 : decode k_D_broken 10 = .ok (.iload 4, 2) := by decide +kernel
theorem d_D_broken_12 : decode k_D_broken 12 = .ok (.i2l, 1) := by decide +kernel
theorem d_D_broken_13 : decode k_D_broken 13 = .ok (.aload_n 0, 1) := by decide +kernel
theorem d_D_broken_14 : decode k_D_broken 14 = .ok (.iload 5, 2) := by decide +kernel
theorem d_D_broken_16 : decode k_D_broken 16 = .ok (.iload_n 1, 1) := by decide +kernel
theorem d_D_broken_17 : decode k_D_broken 17 = .ok (.iload_n 2, 1) := by decide +kernel
theorem d_D_broken_18 : decode k_D_broken 18 = .ok (.iload_n 3, 1) := by decide +kernel
theorem d_D_broken_19 : decode k_D_broken 19 = .ok (.invokevirtual 126, 3) := by decide +kernel
theorem d_D_broken_22 : decode k_D_broken 22 = .ok (.i2l, 1) := by decide +kernel
theorem d_D_broken_23 : decode k_D_broken 23 = .ok (.lsub, 1) := by decide +kernel
theorem d_D_broken_24 : decode k_D_broken 24 = .ok (.aload_n 0, 1) := by decide +kernel
theorem d_D_broken_25 : decode k_D_broken 25 = .ok (.getfield 7, 3) := by decide +kernel
theorem d_D_broken_28 : decode k_D_broken 28 = .ok (.iload 5, 2) := by decide +kernel
theorem d_D_broken_30 : decode k_D_broken 30 = .ok (.iaload, 1) := by decide +kernel
theorem d_D_broken_31 : decode k_D_broken 31 = .ok (.i2l, 1) := by decide +kernel
theorem d_D_broken_32 : decode k_D_broken 32 = .ok (.lcmp, 1) := by decide +kernel
theorem d_D_broken_33 : decode k_D_broken 33 = .ok (.ifCond .ge 6, 3) := by decide +kernel
theorem d_D_broken_36 : decode k_D_broken 36 = .ok (.iload 5, 2) := by decide +kernel
theorem d_D_broken_38 : decode k_D_broken 38 = .ok (.ireturn, 1) := by decide +kernel
theorem d_D_broken_39 : decode k_D_broken 39 = .ok (.iinc 5 1, 3) := by decide +kernel
theorem d_D_broken_42 : decode k_D_broken 42 = .ok (.goto (-39), 3) := by decide +kernel
theorem d_D_broken_45 : decode k_D_broken 45 = .ok (.iconst (-1), 1) := by decide +kernel
theorem d_D_broken_46 : decode k_D_broken 46 = .ok (.ireturn, 1) := by decide +kernel
theorem d_D_note_0 : decode k_D_note 0 = .ok (.bipush 8, 2) := by decide +kernel
theorem d_D_note_2 : decode k_D_note 2 = .ok (.iload_n 1, 1) := by decide +kernel
theorem d_D_note_3 : decode k_D_note 3 = .ok (.imul, 1) := by decide +kernel
theorem d_D_note_4 : decode k_D_note 4 = .ok (.iload_n 3, 1) := by decide +kernel
theorem d_D_note_5 : decode k_D_note 5 = .ok (.iadd, 1) := by decide +kernel
theorem d_D_note_6 : decode k_D_note 6 = .ok (.istore 6, 2) := by decide +kernel
theorem d_D_note_8 : decode k_D_note 8 = .ok (.iload_n 2, 1) := by decide +kernel
theorem d_D_note_9 : decode k_D_note 9 = .ok (.ifCond .ne 72, 3) := by decide +kernel
theorem d_D_note_12 : decode k_D_note 12 = .ok (.aload_n 0, 1) := by decide +kernel
theorem d_D_note_13 : decode k_D_note 13 = .ok (.getfield 13, 3) := by decide +kernel
theorem d_D_note_16 : decode k_D_note 16 = .ok (.iload 6, 2) := by decide +kernel
theorem d_D_note_18 : decode k_D_note 18 = .ok (.iload 4, 2) := by decide +kernel
theorem d_D_note_20 : decode k_D_note 20 = .ok (.iastore, 1) := by decide +kernel
theorem d_D_note_21 : decode k_D_note 21 = .ok (.aload_n 0, 1) := by decide +kernel
theorem d_D_note_22 : decode k_D_note 22 = .ok (.getfield 16, 3) := by decide +kernel
theorem d_D_note_25 : decode k_D_note 25 = .ok (.iload 6, 2) := by decide +kernel
theorem d_D_note_27 : decode k_D_note 27 = .ok (.iload 5, 2) := by decide +kernel
theorem d_D_note_29 : decode k_D_note 29 = .ok (.iastore, 1) := by decide +kernel
theorem d_D_note_30 : decode k_D_note 30 = .ok (.iconst 3, 1) := by decide +kernel
theorem d_D_note_31 : decode k_D_note 31 = .ok (.istore 7, 2) := by decide +kernel
theorem d_D_note_33 : decode k_D_note 33 = .ok (.iload 7, 2) := by decide +kernel
theorem d_D_note_35 : decode k_D_note 35 = .ok (.ifCond .le 33, 3) := by decide +kernel
theorem d_D_note_38 : decode k_D_note 38 = .ok (.aload_n 0, 1) := by decide +kernel
theorem d_D_note_39 : decode k_D_note 39 = .ok (.getfield 37, 3) := by decide +kernel
theorem d_D_note_42 : decode k_D_note 42 = .ok (.iconst 4, 1) := by decide +kernel
theorem d_D_note_43 : decode k_D_note 43 = .ok (.iload_n 1, 1) := by decide +kernel
theorem d_D_note_44 : decode k_D_note 44 = .ok (.imul, 1) := by decide +kernel
theorem d_D_note_45 : decode k_D_note 45 = .ok (.iload 7, 2) := by decide +kernel
theorem d_D_note_47 : decode k_D_note 47 = .ok (.iadd, 1) := by decide +kernel
theorem d_D_note_48 : decode k_D_note 48 = .ok (.aload_n 0, 1) := by decide +kernel
theorem d_D_note_49 : decode k_D_note 49 = .ok (.getfield 37, 3) := by decide +kernel
theorem d_D_note_52 : decode k_D_note 52 = .ok (.iconst 4, 1) := by decide +kernel
theorem d_D_note_53 : decode k_D_note 53 = .ok (.iload_n 1, 1) := by decide +kernel
theorem d_D_note_54 : decode k_D_note 54 = .ok (.imul, 1) := by decide +kernel
theorem d_D_note_55 : decode k_D_note 55 = .ok (.iload 7, 2) := by decide +kernel
theorem d_D_note_57 : decode k_D_note 57 = .ok (.iadd, 1) := by decide +kernel
theorem d_D_note_58 : decode k_D_note 58 = .ok (.iconst 1, 1) := by decide +kernel
theorem d_D_note_59 : decode k_D_note 59 = .ok (.isub, 1) := by decide +kernel
theorem d_D_note_60 : decode k_D_note 60 = .ok (.iaload, 1) := by decide +kernel
theorem d_D_note_61 : decode k_D_note 61 = .ok (.iastore, 1) := by decide +kernel
theorem d_D_note_62 : decode k_D_note 62 = .ok (.iinc 7 (-1), 3) := by decide +kernel
theorem d_D_note_65 : decode k_D_note 65 = .ok (.goto (-32), 3) := by decide +kernel
theorem d_D_note_68 : decode k_D_note 68 = .ok (.aload_n 0, 1) := by decide +kernel
theorem d_D_note_69 : decode k_D_note 69 = .ok (.getfield 37, 3) := by decide +kernel
theorem d_D_note_72 : decode k_D_note 72 = .ok (.iconst 4, 1) := by decide +kernel
theorem d_D_note_73 : decode k_D_note 73 = .ok (.iload_n 1, 1) := by decide +kernel
theorem d_D_note_74 : decode k_D_note 74 = .ok (.imul, 1) := by decide +kernel
theorem d_D_note_75 : decode k_D_note 75 = .ok (.iload 5, 2) := by decide +kernel
theorem d_D_note_77 : decode k_D_note 77 = .ok (.iastore, 1) := by decide +kernel
theorem d_D_note_78 : decode k_D_note 78 = .ok (.goto 86, 3) := by decide +kernel
theorem d_D_note_81 : decode k_D_note 81 = .ok (.iload_n 2, 1) := by decide +kernel
theorem d_D_note_82 : decode k_D_note 82 = .ok (.iconst 3, 1) := by decide +kernel
theorem d_D_note_83 : decode k_D_note 83 = .ok (.if_icmp .ne 23, 3) := by decide +kernel
theorem d_D_note_86 : decode k_D_note 86 = .ok (.aload_n 0, 1) := by decide +kernel
theorem d_D_note_87 : decode k_D_note 87 = .ok (.getfield 13, 3) := by decide +kernel
theorem d_D_note_90 : decode k_D_note 90 = .ok (.iload 6, 2) := by decide +kernel
theorem d_D_note_92 : decode k_D_note 92 = .ok (.iconst (-1), 1) := by decide +kernel
theorem d_D_note_93 : decode k_D_note 93 = .ok (.iastore, 1) := by decide +kernel
theorem d_D_note_94 : decode k_D_note 94 = .ok (.aload_n 0, 1) := by decide +kernel
theorem d_D_note_95 : decode k_D_note 95 = .ok (.getfield 19, 3) := by decide +kernel
theorem d_D_note_98 : decode k_D_note 98 = .ok (.iload 6, 2) := by decide +kernel
theorem d_D_note_100 : decode k_D_note 100 = .ok (.iload 5, 2) := by decide +kernel
theorem d_D_note_102 : decode k_D_note 102 = .ok (.iastore, 1) := by decide +kernel
theorem d_D_note_103 : decode k_D_note 103 = .ok (.goto 61, 3) := by decide +kernel
theorem d_D_note_106 : decode k_D_note 106 = .ok (.iload_n 2, 1) := by decide +kernel
theorem d_D_note_107 : decode k_D_note 107 = .ok (.iconst 4, 1) := by decide +kernel
theorem d_D_note_108 : decode k_D_note 108 = .ok (.if_icmp .ne 14, 3) := by decide +kernel
theorem d_D_note_111 : decode k_D_note 111 = .ok (.aload_n 0, 1) := by decide +kernel
theorem d_D_note_112 : decode k_D_note 112 = .ok (.getfield 34, 3) := by decide +kernel
theorem d_D_note_115 : decode k_D_note 115 = .ok (.iload_n 1, 1) := by decide +kernel
theorem d_D_note_116 : decode k_D_note 116 = .ok (.iload 5, 2) := by decide +kernel
theorem d_D_note_118 : decode k_D_note 118 = .ok (.iastore, 1) := by decide +kernel
theorem d_D_note_119 : decode k_D_note 119 = .ok (.goto 45, 3) := by decide +kernel
theorem d_D_note_122 : decode k_D_note 122 = .ok (.aload_n 0, 1) := by decide +kernel
theorem d_D_note_123 : decode k_D_note 123 = .ok (.getfield 31, 3) := by decide +kernel
theorem d_D_note_126 : decode k_D_note 126 = .ok (.iload_n 1, 1) := by decide +kernel
theorem d_D_note_127 : decode k_D_note 127 = .ok (.iload 5, 2) := by decide +kernel
theorem d_D_note_129 : decode k_D_note 129 = .ok (.iastore, 1) := by decide +kernel
theorem d_D_note_130 : decode k_D_note 130 = .ok (.iload_n 2, 1) := by decide +kernel
theorem d_D_note_131 : decode k_D_note 131 = .ok (.iconst 1, 1) := by decide +kernel
theorem d_D_note_132 : decode k_D_note 132 = .ok (.if_icmp .ne 15, 3) := by decide +kernel
theorem d_D_note_135 : decode k_D_note 135 = .ok (.aload_n 0, 1) := by decide +kernel
theorem d_D_note_136 : decode k_D_note 136 = .ok (.getfield 22, 3) := by decide +kernel
theorem d_D_note_139 : decode k_D_note 139 = .ok (.iload 6, 2) := by decide +kernel
theorem d_D_note_141 : decode k_D_note 141 = .ok (.iload 5, 2) := by decide +kernel
theorem d_D_note_143 : decode k_D_note 143 = .ok (.iastore, 1) := by decide +kernel
theorem d_D_note_144 : decode k_D_note 144 = .ok (.goto 20, 3) := by decide +kernel
theorem d_D_note_147 : decode k_D_note 147 = .ok (.aload_n 0, 1) := by decide +kernel
theorem d_D_note_148 : decode k_D_note 148 = .ok (.getfield 25, 3) := by decide +kernel
theorem d_D_note_151 : decode k_D_note 151 = .ok (.iload 6, 2) := by decide +kernel
theorem d_D_note_153 : decode k_D_note 153 = .ok (.iload 5, 2) := by decide +kernel
theorem d_D_note_155 : decode k_D_note 155 = .ok (.iastore, 1) := by decide +kernel
theorem d_D_note_156 : decode k_D_note 156 = .ok (.aload_n 0, 1) := by decide +kernel
theorem d_D_note_157 : decode k_D_note 157 = .ok (.getfield 28, 3) := by decide +kernel
theorem d_D_note_160 : decode k_D_note 160 = .ok (.iload_n 1, 1) := by decide +kernel
theorem d_D_note_161 : decode k_D_note 161 = .ok (.iload 5, 2) := by decide +kernel
theorem d_D_note_163 : decode k_D_note 163 = .ok (.iastore, 1) := by decide +kernel
theorem d_D_note_164 : decode k_D_note 164 = .ok (.return_, 1) := by decide +kernel
theorem d_D_waiting_0 : decode k_D_waiting 0 = .ok (.iconst 0, 1) := by decide +kernel
theorem d_D_waiting_1 : decode k_D_waiting 1 = .ok (.istore_n 2, 1) := by decide +kernel
theorem d_D_waiting_2 : decode k_D_waiting 2 = .ok (.iconst 0, 1) := by decide +kernel
theorem d_D_waiting_3 : decode k_D_waiting 3 = .ok (.istore_n 3, 1) := by decide +kernel
theorem d_D_waiting_4 : decode k_D_waiting 4 = .ok (.iload_n 3, 1) := by decide +kernel
theorem d_D_waiting_5 : decode k_D_waiting 5 = .ok (.aload_n 0, 1) := by decide +kernel
theorem d_D_waiting_6 : decode k_D_waiting 6 = .ok (.getfield 130, 3) := by decide +kernel
theorem d_D_waiting_9 : decode k_D_waiting 9 = .ok (.if_icmp .ge 44, 3) := by decide +kernel
theorem d_D_waiting_12 : decode k_D_waiting 12 = .ok (.iload_n 2, 1) := by decide +kernel
theorem d_D_waiting_13 : decode k_D_waiting 13 = .ok (.aload_n 0, 1) := by decide +kernel
theorem d_D_waiting_14 : decode k_D_waiting 14 = .ok (.getfield 59, 3) := by decide +kernel
theorem d_D_waiting_17 : decode k_D_waiting 17 = .ok (.iload_n 3, 1) := by decide +kernel
theorem d_D_waiting_18 : decode k_D_waiting 18 = .ok (.iaload, 1) := by decide +kernel
theorem d_D_waiting_19 : decode k_D_waiting 19 = .ok (.ifCond .ge 25, 3) := by decide +kernel
theorem d_D_waiting_22 : decode k_D_waiting 22 = .ok (.iload_n 1, 1) := by decide +kernel
theorem d_D_waiting_23 : decode k_D_waiting 23 = .ok (.ifCond .lt 17, 3) := by decide +kernel
theorem d_D_waiting_26 : decode k_D_waiting 26 = .ok (.aload_n 0, 1) := by decide +kernel
theorem d_D_waiting_27 : decode k_D_waiting 27 = .ok (.aload_n 0, 1) := by decide +kernel
theorem d_D_waiting_28 : decode k_D_waiting 28 = .ok (.getfield 50, 3) := by decide +kernel
theorem d_D_waiting_31 : decode k_D_waiting 31 = .ok (.iload_n 3, 1) := by decide +kernel
theorem d_D_waiting_32 : decode k_D_waiting 32 = .ok (.iaload, 1) := by decide +kernel
theorem d_D_waiting_33 : decode k_D_waiting 33 = .ok (.invokevirtual 114, 3) := by decide +kernel
theorem d_D_waiting_36 : decode k_D_waiting 36 = .ok (.iload_n 1, 1) := by decide +kernel
theorem d_D_waiting_37 : decode k_D_waiting 37 = .ok (.if_icmp .ne 7, 3) := by decide +kernel
theorem d_D_waiting_40 : decode k_D_waiting 40 = .ok (.iconst 1, 1) := by decide +kernel
theorem d_D_waiting_41 : decode k_D_waiting 41 = .ok (.goto 4, 3) := by decide +kernel
theorem d_D_waiting_44 : decode k_D_waiting 44 = .ok (.iconst 0, 1) := by decide +kernel
theorem d_D_waiting_45 : decode k_D_waiting 45 = .ok (.iadd, 1) := by decide +kernel
theorem d_D_waiting_46 : decode k_D_waiting 46 = .ok (.istore_n 2, 1) := by decide +kernel
theorem d_D_waiting_47 : decode k_D_waiting 47 = .ok (.iinc 3 1, 3) := by decide +kernel
theorem d_D_waiting_50 : decode k_D_waiting 50 = .ok (.goto (-46), 3) := by decide +kernel
theorem d_D_waiting_53 : decode k_D_waiting 53 = .ok (.iload_n 2, 1) := by decide +kernel
theorem d_D_waiting_54 : decode k_D_waiting 54 = .ok (.ireturn, 1) := by decide +kernel
theorem d_D_time_0 : decode k_D_time 0 = .ok (.aload_n 0, 1) := by decide +kernel
theorem d_D_time_1 : decode k_D_time 1 = .ok (.iconst 0, 1) := by decide +kernel
theorem d_D_time_2 : decode k_D_time 2 = .ok (.putfield 97, 3) := by decide +kernel
theorem d_D_time_5 : decode k_D_time 5 = .ok (.iload_n 1, 1) := by decide +kernel
theorem d_D_time_6 : decode k_D_time 6 = .ok (.iconst 0, 1) := by decide +kernel
theorem d_D_time_7 : decode k_D_time 7 = .ok (.bipush 8, 2) := by decide +kernel
theorem d_D_time_9 : decode k_D_time 9 = .ok (.invokestatic 102, 3) := by decide +kernel
theorem d_D_time_12 : decode k_D_time 12 = .ok (.ifCond .ne 9, 3) := by decide +kernel
theorem d_D_time_15 : decode k_D_time 15 = .ok (.aload_n 0, 1) := by decide +kernel
theorem d_D_time_16 : decode k_D_time 16 = .ok (.iconst 1, 1) := by decide +kernel
theorem d_D_time_17 : decode k_D_time 17 = .ok (.invokevirtual 110, 3) := by decide +kernel
theorem d_D_time_20 : decode k_D_time 20 = .ok (.ireturn, 1) := by decide +kernel
theorem d_D_time_21 : decode k_D_time 21 = .ok (.iload_n 2, 1) := by decide +kernel
theorem d_D_time_22 : decode k_D_time 22 = .ok (.iconst 1, 1) := by decide +kernel
theorem d_D_time_23 : decode k_D_time 23 = .ok (.bipush 100, 2) := by decide +kernel
theorem d_D_time_25 : decode k_D_time 25 = .ok (.invokestatic 102, 3) := by decide +kernel
theorem d_D_time_28 : decode k_D_time 28 = .ok (.ifCond .ne 9, 3) := by decide +kernel
theorem d_D_time_31 : decode k_D_time 31 = .ok (.aload_n 0, 1) := by decide +kernel
theorem d_D_time_32 : decode k_D_time 32 = .ok (.iconst 2, 1) := by decide +kernel
theorem d_D_time_33 : decode k_D_time 33 = .ok (.invokevirtual 110, 3) := by decide +kernel
theorem d_D_time_36 : decode k_D_time 36 = .ok (.ireturn, 1) := by decide +kernel
theorem d_D_time_37 : decode k_D_time 37 = .ok (.aload_n 0, 1) := by decide +kernel
theorem d_D_time_38 : decode k_D_time 38 = .ok (.iconst (-1), 1) := by decide +kernel
theorem d_D_time_39 : decode k_D_time 39 = .ok (.invokevirtual 133, 3) := by decide +kernel
theorem d_D_time_42 : decode k_D_time 42 = .ok (.ifCond .gt 19, 3) := by decide +kernel
theorem d_D_time_45 : decode k_D_time 45 = .ok (.aload_n 0, 1) := by decide +kernel
theorem d_D_time_46 : decode k_D_time 46 = .ok (.iconst 0, 1) := by decide +kernel
theorem d_D_time_47 : decode k_D_time 47 = .ok (.invokevirtual 123, 3) := by decide +kernel
theorem d_D_time_50 : decode k_D_time 50 = .ok (.ifCond .ne 11, 3) := by decide +kernel
theorem d_D_time_53 : decode k_D_time 53 = .ok (.aload_n 0, 1) := by decide +kernel
theorem d_D_time_54 : decode k_D_time 54 = .ok (.iconst 1, 1) := by decide +kernel
theorem d_D_time_55 : decode k_D_time 55 = .ok (.invokevirtual 123, 3) := by decide +kernel
theorem d_D_time_58 : decode k_D_time 58 = .ok (.ifCond .eq 9, 3) := by decide +kernel
theorem d_D_time_61 : decode k_D_time 61 = .ok (.aload_n 0, 1) := by decide +kernel
theorem d_D_time_62 : decode k_D_time 62 = .ok (.iconst 3, 1) := by decide +kernel
theorem d_D_time_63 : decode k_D_time 63 = .ok (.invokevirtual 110, 3) := by decide +kernel
theorem d_D_time_66 : decode k_D_time 66 = .ok (.ireturn, 1) := by decide +kernel
theorem d_D_time_67 : decode k_D_time 67 = .ok (.aload_n 0, 1) := by decide +kernel
theorem d_D_time_68 : decode k_D_time 68 = .ok (.getfield 7, 3) := by decide +kernel
theorem d_D_time_71 : decode k_D_time 71 = .ok (.iload_n 1, 1) := by decide +kernel
theorem d_D_time_72 : decode k_D_time 72 = .ok (.iaload, 1) := by decide +kernel
theorem d_D_time_73 : decode k_D_time 73 = .ok (.istore_n 3, 1) := by decide +kernel
theorem d_D_time_74 : decode k_D_time 74 = .ok (.aload_n 0, 1) := by decide +kernel
theorem d_D_time_75 : decode k_D_time 75 = .ok (.getfield 7, 3) := by decide +kernel
theorem d_D_time_78 : decode k_D_time 78 = .ok (.iload_n 1, 1) := by decide +kernel
theorem d_D_time_79 : decode k_D_time 79 = .ok (.iload_n 2, 1) := by decide +kernel
theorem d_D_time_80 : decode k_D_time 80 = .ok (.iastore, 1) := by decide +kernel
theorem d_D_time_81 : decode k_D_time 81 = .ok (.iload_n 3, 1) := by decide +kernel
theorem d_D_time_82 : decode k_D_time 82 = .ok (.ireturn, 1) := by decide +kernel
theorem d_D_span_0 : decode k_D_span 0 = .ok (.aload_n 0, 1) := by decide +kernel
theorem d_D_span_1 : decode k_D_span 1 = .ok (.iconst 0, 1) := by decide +kernel
theorem d_D_span_2 : decode k_D_span 2 = .ok (.putfield 97, 3) := by decide +kernel
theorem d_D_span_5 : decode k_D_span 5 = .ok (.iload_n 1, 1) := by decide +kernel
theorem d_D_span_6 : decode k_D_span 6 = .ok (.ifCond .eq 21, 3) := by decide +kernel
theorem d_D_span_9 : decode k_D_span 9 = .ok (.iload_n 1, 1) := by decide +kernel
theorem d_D_span_10 : decode k_D_span 10 = .ok (.bipush 50, 2) := by decide +kernel
theorem d_D_span_12 : decode k_D_span 12 = .ok (.sipush 10000, 3) := by decide +kernel
theorem d_D_span_15 : decode k_D_span 15 = .ok (.invokestatic 102, 3) := by decide +kernel
theorem d_D_span_18 : decode k_D_span 18 = .ok (.ifCond .ne 9, 3) := by decide +kernel
theorem d_D_span_21 : decode k_D_span 21 = .ok (.aload_n 0, 1) := by decide +kernel
theorem d_D_span_22 : decode k_D_span 22 = .ok (.iconst 1, 1) := by decide +kernel
theorem d_D_span_23 : decode k_D_span 23 = .ok (.invokevirtual 110, 3) := by decide +kernel
theorem d_D_span_26 : decode k_D_span 26 = .ok (.ireturn, 1) := by decide +kernel
theorem d_D_span_27 : decode k_D_span 27 = .ok (.aload_n 0, 1) := by decide +kernel
theorem d_D_span_28 : decode k_D_span 28 = .ok (.getfield 136, 3) := by decide +kernel
theorem d_D_span_31 : decode k_D_span 31 = .ok (.istore_n 2, 1) := by decide +kernel
theorem d_D_span_32 : decode k_D_span 32 = .ok (.aload_n 0, 1) := by decide +kernel
theorem d_D_span_33 : decode k_D_span 33 = .ok (.iload_n 1, 1) := by decide +kernel
theorem d_D_span_34 : decode k_D_span 34 = .ok (.putfield 136, 3) := by decide +kernel
theorem d_D_span_37 : decode k_D_span 37 = .ok (.iload_n 2, 1) := by decide +kernel
theorem d_D_span_38 : decode k_D_span 38 = .ok (.ireturn, 1) := by decide +kernel
theorem d_D_ask_0 : decode k_D_ask 0 = .ok (.aload_n 0, 1) := by decide +kernel
theorem d_D_ask_1 : decode k_D_ask 1 = .ok (.iconst 0, 1) := by decide +kernel
theorem d_D_ask_2 : decode k_D_ask 2 = .ok (.putfield 97, 3) := by decide +kernel
theorem d_D_ask_5 : decode k_D_ask 5 = .ok (.aload_n 0, 1) := by decide +kernel
theorem d_D_ask_6 : decode k_D_ask 6 = .ok (.iload_n 1, 1) := by decide +kernel
theorem d_D_ask_7 : decode k_D_ask 7 = .ok (.invokevirtual 106, 3) := by decide +kernel
theorem d_D_ask_10 : decode k_D_ask 10 = .ok (.ifCond .ne 9, 3) := by decide +kernel
theorem d_D_ask_13 : decode k_D_ask 13 = .ok (.aload_n 0, 1) := by decide +kernel
theorem d_D_ask_14 : decode k_D_ask 14 = .ok (.iconst 1, 1) := by decide +kernel
theorem d_D_ask_15 : decode k_D_ask 15 = .ok (.invokevirtual 110, 3) := by decide +kernel
theorem d_D_ask_18 : decode k_D_ask 18 = .ok (.ireturn, 1) := by decide +kernel
theorem d_D_ask_19 : decode k_D_ask 19 = .ok (.aload_n 0, 1) := by decide +kernel
theorem d_D_ask_20 : decode k_D_ask 20 = .ok (.aload_n 0, 1) := by decide +kernel
theorem d_D_ask_21 : decode k_D_ask 21 = .ok (.iload_n 1, 1) := by decide +kernel
theorem d_D_ask_22 : decode k_D_ask 22 = .ok (.invokevirtual 114, 3) := by decide +kernel
theorem d_D_ask_25 : decode k_D_ask 25 = .ok (.invokevirtual 133, 3) := by decide +kernel
theorem d_D_ask_28 : decode k_D_ask 28 = .ok (.bipush 8, 2) := by decide +kernel
theorem d_D_ask_30 : decode k_D_ask 30 = .ok (.if_icmp .ne 9, 3) := by decide +kernel
theorem d_D_ask_33 : decode k_D_ask 33 = .ok (.aload_n 0, 1) := by decide +kernel
theorem d_D_ask_34 : decode k_D_ask 34 = .ok (.iconst 2, 1) := by decide +kernel
theorem d_D_ask_35 : decode k_D_ask 35 = .ok (.invokevirtual 110, 3) := by decide +kernel
theorem d_D_ask_38 : decode k_D_ask 38 = .ok (.ireturn, 1) := by decide +kernel
theorem d_D_ask_39 : decode k_D_ask 39 = .ok (.aload_n 0, 1) := by decide +kernel
theorem d_D_ask_40 : decode k_D_ask 40 = .ok (.getfield 50, 3) := by decide +kernel
theorem d_D_ask_43 : decode k_D_ask 43 = .ok (.aload_n 0, 1) := by decide +kernel
theorem d_D_ask_44 : decode k_D_ask 44 = .ok (.getfield 130, 3) := by decide +kernel
theorem d_D_ask_47 : decode k_D_ask 47 = .ok (.iload_n 1, 1) := by decide +kernel
theorem d_D_ask_48 : decode k_D_ask 48 = .ok (.iastore, 1) := by decide +kernel
theorem d_D_ask_49 : decode k_D_ask 49 = .ok (.aload_n 0, 1) := by decide +kernel
theorem d_D_ask_50 : decode k_D_ask 50 = .ok (.getfield 53, 3) := by decide +kernel
theorem d_D_ask_53 : decode k_D_ask 53 = .ok (.aload_n 0, 1) := by decide +kernel
theorem d_D_ask_54 : decode k_D_ask 54 = .ok (.getfield 130, 3) := by decide +kernel
theorem d_D_ask_57 : decode k_D_ask 57 = .ok (.iload_n 2, 1) := by decide +kernel
theorem d_D_ask_58 : decode k_D_ask 58 = .ok (.bastore, 1) := by decide +kernel
theorem d_D_ask_59 : decode k_D_ask 59 = .ok (.aload_n 0, 1) := by decide +kernel
theorem d_D_ask_60 : decode k_D_ask 60 = .ok (.getfield 56, 3) := by decide +kernel
theorem d_D_ask_63 : decode k_D_ask 63 = .ok (.aload_n 0, 1) := by decide +kernel
theorem d_D_ask_64 : decode k_D_ask 64 = .ok (.getfield 130, 3) := by decide +kernel
theorem d_D_ask_67 : decode k_D_ask 67 = .ok (.aload_n 0, 1) := by decide +kernel
theorem d_D_ask_68 : decode k_D_ask 68 = .ok (.getfield 139, 3) := by decide +kernel
theorem d_D_ask_71 : decode k_D_ask 71 = .ok (.iastore, 1) := by decide +kernel
theorem d_D_ask_72 : decode k_D_ask 72 = .ok (.aload_n 0, 1) := by decide +kernel
theorem d_D_ask_73 : decode k_D_ask 73 = .ok (.getfield 59, 3) := by decide +kernel
theorem d_D_ask_76 : decode k_D_ask 76 = .ok (.aload_n 0, 1) := by decide +kernel
theorem d_D_ask_77 : decode k_D_ask 77 = .ok (.getfield 130, 3) := by decide +kernel
theorem d_D_ask_80 : decode k_D_ask 80 = .ok (.iconst (-1), 1) := by decide +kernel
theorem d_D_ask_81 : decode k_D_ask 81 = .ok (.iastore, 1) := by decide +kernel
theorem d_D_ask_82 : decode k_D_ask 82 = .ok (.aload_n 0, 1) := by decide +kernel
theorem d_D_ask_83 : decode k_D_ask 83 = .ok (.dup, 1) := by decide +kernel
theorem d_D_ask_84 : decode k_D_ask 84 = .ok (.getfield 130, 3) := by decide +kernel
theorem d_D_ask_87 : decode k_D_ask 87 = .ok (.iconst 1, 1) := by decide +kernel
theorem d_D_ask_88 : decode k_D_ask 88 = .ok (.iadd, 1) := by decide +kernel
theorem d_D_ask_89 : decode k_D_ask 89 = .ok (.putfield 130, 3) := by decide +kernel
theorem d_D_ask_92 : decode k_D_ask 92 = .ok (.aload_n 0, 1) := by decide +kernel
theorem d_D_ask_93 : decode k_D_ask 93 = .ok (.getfield 130, 3) := by decide +kernel
theorem d_D_ask_96 : decode k_D_ask 96 = .ok (.iconst 1, 1) := by decide +kernel
theorem d_D_ask_97 : decode k_D_ask 97 = .ok (.isub, 1) := by decide +kernel
theorem d_D_ask_98 : decode k_D_ask 98 = .ok (.ireturn, 1) := by decide +kernel
theorem d_D_give_0 : decode k_D_give 0 = .ok (.aload_n 0, 1) := by decide +kernel
theorem d_D_give_1 : decode k_D_give 1 = .ok (.getfield 142, 3) := by decide +kernel
theorem d_D_give_4 : decode k_D_give 4 = .ok (.sipush 512, 3) := by decide +kernel
theorem d_D_give_7 : decode k_D_give 7 = .ok (.irem, 1) := by decide +kernel
theorem d_D_give_8 : decode k_D_give 8 = .ok (.istore 5, 2) := by decide +kernel
theorem d_D_give_10 : decode k_D_give 10 = .ok (.aload_n 0, 1) := by decide +kernel
theorem d_D_give_11 : decode k_D_give 11 = .ok (.getfield 65, 3) := by decide +kernel
theorem d_D_give_14 : decode k_D_give 14 = .ok (.iload 5, 2) := by decide +kernel
theorem d_D_give_16 : decode k_D_give 16 = .ok (.iload_n 1, 1) := by decide +kernel
theorem d_D_give_17 : decode k_D_give 17 = .ok (.iastore, 1) := by decide +kernel
theorem d_D_give_18 : decode k_D_give 18 = .ok (.aload_n 0, 1) := by decide +kernel
theorem d_D_give_19 : decode k_D_give 19 = .ok (.getfield 68, 3) := by decide +kernel
theorem d_D_give_22 : decode k_D_give 22 = .ok (.iload 5, 2) := by decide +kernel
theorem d_D_give_24 : decode k_D_give 24 = .ok (.aload_n 0, 1) := by decide +kernel
theorem d_D_give_25 : decode k_D_give 25 = .ok (.getfield 139, 3) := by decide +kernel
theorem d_D_give_28 : decode k_D_give 28 = .ok (.iastore, 1) := by decide +kernel
theorem d_D_give_29 : decode k_D_give 29 = .ok (.aload_n 0, 1) := by decide +kernel
theorem d_D_give_30 : decode k_D_give 30 = .ok (.getfield 71, 3) := by decide +kernel
theorem d_D_give_33 : decode k_D_give 33 = .ok (.iload 5, 2) := by decide +kernel
theorem d_D_give_35 : decode k_D_give 35 = .ok (.iload_n 2, 1) := by decide +kernel
theorem d_D_give_36 : decode k_D_give 36 = .ok (.iastore, 1) := by decide +kernel
theorem d_D_give_37 : decode k_D_give 37 = .ok (.aload_n 0, 1) := by decide +kernel
theorem d_D_give_38 : decode k_D_give 38 = .ok (.getfield 74, 3) := by decide +kernel
theorem d_D_give_41 : decode k_D_give 41 = .ok (.iload 5, 2) := by decide +kernel
theorem d_D_give_43 : decode k_D_give 43 = .ok (.iload_n 3, 1) := by decide +kernel
theorem d_D_give_44 : decode k_D_give 44 = .ok (.iastore, 1) := by decide +kernel
theorem d_D_give_45 : decode k_D_give 45 = .ok (.aload_n 0, 1) := by decide +kernel
theorem d_D_give_46 : decode k_D_give 46 = .ok (.getfield 77, 3) := by decide +kernel
theorem d_D_give_49 : decode k_D_give 49 = .ok (.iload 5, 2) := by decide +kernel
theorem d_D_give_51 : decode k_D_give 51 = .ok (.iload 4, 2) := by decide +kernel
theorem d_D_give_53 : decode k_D_give 53 = .ok (.iastore, 1) := by decide +kernel
theorem d_D_give_54 : decode k_D_give 54 = .ok (.aload_n 0, 1) := by decide +kernel
theorem d_D_give_55 : decode k_D_give 55 = .ok (.dup, 1) := by decide +kernel
theorem d_D_give_56 : decode k_D_give 56 = .ok (.getfield 142, 3) := by decide +kernel
theorem d_D_give_59 : decode k_D_give 59 = .ok (.iconst 1, 1) := by decide +kernel
theorem d_D_give_60 : decode k_D_give 60 = .ok (.iadd, 1) := by decide +kernel
theorem d_D_give_61 : decode k_D_give 61 = .ok (.putfield 142, 3) := by decide +kernel
theorem d_D_give_64 : decode k_D_give 64 = .ok (.aload_n 0, 1) := by decide +kernel
theorem d_D_give_65 : decode k_D_give 65 = .ok (.getfield 62, 3) := by decide +kernel
theorem d_D_give_68 : decode k_D_give 68 = .ok (.iload_n 2, 1) := by decide +kernel
theorem d_D_give_69 : decode k_D_give 69 = .ok (.dup2, 1) := by decide +kernel
theorem d_D_give_70 : decode k_D_give 70 = .ok (.iaload, 1) := by decide +kernel
theorem d_D_give_71 : decode k_D_give 71 = .ok (.iconst 1, 1) := by decide +kernel
theorem d_D_give_72 : decode k_D_give 72 = .ok (.iadd, 1) := by decide +kernel
theorem d_D_give_73 : decode k_D_give 73 = .ok (.iastore, 1) := by decide +kernel
theorem d_D_give_74 : decode k_D_give 74 = .ok (.aload_n 0, 1) := by decide +kernel
theorem d_D_give_75 : decode k_D_give 75 = .ok (.iload_n 1, 1) := by decide +kernel
theorem d_D_give_76 : decode k_D_give 76 = .ok (.iload_n 2, 1) := by decide +kernel
theorem d_D_give_77 : decode k_D_give 77 = .ok (.iload_n 3, 1) := by decide +kernel
theorem d_D_give_78 : decode k_D_give 78 = .ok (.iload 4, 2) := by decide +kernel
theorem d_D_give_80 : decode k_D_give 80 = .ok (.aload_n 0, 1) := by decide +kernel
theorem d_D_give_81 : decode k_D_give 81 = .ok (.getfield 139, 3) := by decide +kernel
theorem d_D_give_84 : decode k_D_give 84 = .ok (.invokevirtual 145, 3) := by decide +kernel
theorem d_D_give_87 : decode k_D_give 87 = .ok (.return_, 1) := by decide +kernel
theorem d_D_nextOf_0 : decode k_D_nextOf 0 = .ok (.aload_n 0, 1) := by decide +kernel
theorem d_D_nextOf_1 : decode k_D_nextOf 1 = .ok (.getfield 13, 3) := by decide +kernel
theorem d_D_nextOf_4 : decode k_D_nextOf 4 = .ok (.bipush 8, 2) := by decide +kernel
theorem d_D_nextOf_6 : decode k_D_nextOf 6 = .ok (.aload_n 0, 1) := by decide +kernel
theorem d_D_nextOf_7 : decode k_D_nextOf 7 = .ok (.aload_n 0, 1) := by decide +kernel
theorem d_D_nextOf_8 : decode k_D_nextOf 8 = .ok (.getfield 50, 3) := by decide +kernel
theorem d_D_nextOf_11 : decode k_D_nextOf 11 = .ok (.iload_n 1, 1) := by decide +kernel
theorem d_D_nextOf_12 : decode k_D_nextOf 12 = .ok (.iaload, 1) := by decide +kernel
theorem d_D_nextOf_13 : decode k_D_nextOf 13 = .ok (.invokevirtual 114, 3) := by decide +kernel
theorem d_D_nextOf_16 : decode k_D_nextOf 16 = .ok (.imul, 1) := by decide +kernel
theorem d_D_nextOf_17 : decode k_D_nextOf 17 = .ok (.aload_n 0, 1) := by decide +kernel
theorem d_D_nextOf_18 : decode k_D_nextOf 18 = .ok (.aload_n 0, 1) := by decide +kernel
theorem d_D_nextOf_19 : decode k_D_nextOf 19 = .ok (.getfield 50, 3) := by decide +kernel
theorem d_D_nextOf_22 : decode k_D_nextOf 22 = .ok (.iload_n 1, 1) := by decide +kernel
theorem d_D_nextOf_23 : decode k_D_nextOf 23 = .ok (.iaload, 1) := by decide +kernel
theorem d_D_nextOf_24 : decode k_D_nextOf 24 = .ok (.invokevirtual 117, 3) := by decide +kernel
theorem d_D_nextOf_27 : decode k_D_nextOf 27 = .ok (.iadd, 1) := by decide +kernel
theorem d_D_nextOf_28 : decode k_D_nextOf 28 = .ok (.iaload, 1) := by decide +kernel
theorem d_D_nextOf_29 : decode k_D_nextOf 29 = .ok (.istore_n 2, 1) := by decide +kernel
theorem d_D_nextOf_30 : decode k_D_nextOf 30 = .ok (.iload_n 2, 1) := by decide +kernel
theorem d_D_nextOf_31 : decode k_D_nextOf 31 = .ok (.ifCond .ge 5, 3) := by decide +kernel
theorem d_D_nextOf_34 : decode k_D_nextOf 34 = .ok (.iconst 0, 1) := by decide +kernel
theorem d_D_nextOf_35 : decode k_D_nextOf 35 = .ok (.ireturn, 1) := by decide +kernel
theorem d_D_nextOf_36 : decode k_D_nextOf 36 = .ok (.iload_n 2, 1) := by decide +kernel
theorem d_D_nextOf_37 : decode k_D_nextOf 37 = .ok (.aload_n 0, 1) := by decide +kernel
theorem d_D_nextOf_38 : decode k_D_nextOf 38 = .ok (.aload_n 0, 1) := by decide +kernel
theorem d_D_nextOf_39 : decode k_D_nextOf 39 = .ok (.getfield 50, 3) := by decide +kernel
theorem d_D_nextOf_42 : decode k_D_nextOf 42 = .ok (.iload_n 1, 1) := by decide +kernel
theorem d_D_nextOf_43 : decode k_D_nextOf 43 = .ok (.iaload, 1) := by decide +kernel
theorem d_D_nextOf_44 : decode k_D_nextOf 44 = .ok (.invokevirtual 120, 3) := by decide +kernel
theorem d_D_nextOf_47 : decode k_D_nextOf 47 = .ok (.if_icmp .eq 7, 3) := by decide +kernel
theorem d_D_nextOf_50 : decode k_D_nextOf 50 = .ok (.iconst 3, 1) := by decide +kernel
theorem d_D_nextOf_51 : decode k_D_nextOf 51 = .ok (.goto 17, 3) := by decide +kernel
theorem d_D_nextOf_54 : decode k_D_nextOf 54 = .ok (.aload_n 0, 1) := by decide +kernel
theorem d_D_nextOf_55 : decode k_D_nextOf 55 = .ok (.getfield 53, 3) := by decide +kernel
theorem d_D_nextOf_58 : decode k_D_nextOf 58 = .ok (.iload_n 1, 1) := by decide +kernel
theorem d_D_nextOf_59 : decode k_D_nextOf 59 = .ok (.baload, 1) := by decide +kernel
theorem d_D_nextOf_60 : decode k_D_nextOf 60 = .ok (.ifCond .eq 7, 3) := by decide +kernel
theorem d_D_nextOf_63 : decode k_D_nextOf 63 = .ok (.iconst 2, 1) := by decide +kernel
theorem d_D_nextOf_64 : decode k_D_nextOf 64 = .ok (.goto 4, 3) := by decide +kernel
theorem d_D_nextOf_67 : decode k_D_nextOf 67 = .ok (.iconst 1, 1) := by decide +kernel
theorem d_D_nextOf_68 : decode k_D_nextOf 68 = .ok (.ireturn, 1) := by decide +kernel
theorem d_D_isReady_0 : decode k_D_isReady 0 = .ok (.aload_n 0, 1) := by decide +kernel
theorem d_D_isReady_1 : decode k_D_isReady 1 = .ok (.aload_n 0, 1) := by decide +kernel
theorem d_D_isReady_2 : decode k_D_isReady 2 = .ok (.aload_n 0, 1) := by decide +kernel
theorem d_D_isReady_3 : decode k_D_isReady 3 = .ok (.getfield 50, 3) := by decide +kernel
theorem d_D_isReady_6 : decode k_D_isReady 6 = .ok (.iload_n 1, 1) := by decide +kernel
theorem d_D_isReady_7 : decode k_D_isReady 7 = .ok (.iaload, 1) := by decide +kernel
theorem d_D_isReady_8 : decode k_D_isReady 8 = .ok (.invokevirtual 114, 3) := by decide +kernel
theorem d_D_isReady_11 : decode k_D_isReady 11 = .ok (.aload_n 0, 1) := by decide +kernel
theorem d_D_isReady_12 : decode k_D_isReady 12 = .ok (.iload_n 1, 1) := by decide +kernel
theorem d_D_isReady_13 : decode k_D_isReady 13 = .ok (.invokevirtual 149, 3) := by decide +kernel
theorem d_D_isReady_16 : decode k_D_isReady 16 = .ok (.aload_n 0, 1) := by decide +kernel
theorem d_D_isReady_17 : decode k_D_isReady 17 = .ok (.aload_n 0, 1) := by decide +kernel
theorem d_D_isReady_18 : decode k_D_isReady 18 = .ok (.getfield 50, 3) := by decide +kernel
theorem d_D_isReady_21 : decode k_D_isReady 21 = .ok (.iload_n 1, 1) := by decide +kernel
theorem d_D_isReady_22 : decode k_D_isReady 22 = .ok (.iaload, 1) := by decide +kernel
theorem d_D_isReady_23 : decode k_D_isReady 23 = .ok (.invokevirtual 117, 3) := by decide +kernel
theorem d_D_isReady_26 : decode k_D_isReady 26 = .ok (.aload_n 0, 1) := by decide +kernel
theorem d_D_isReady_27 : decode k_D_isReady 27 = .ok (.getfield 139, 3) := by decide +kernel
theorem d_D_isReady_30 : decode k_D_isReady 30 = .ok (.invokevirtual 152, 3) := by decide +kernel
theorem d_D_isReady_33 : decode k_D_isReady 33 = .ok (.ifCond .ge 7, 3) := by decide +kernel
theorem d_D_isReady_36 : decode k_D_isReady 36 = .ok (.iconst 1, 1) := by decide +kernel
theorem d_D_isReady_37 : decode k_D_isReady 37 = .ok (.goto 4, 3) := by decide +kernel
theorem d_D_isReady_40 : decode k_D_isReady 40 = .ok (.iconst 0, 1) := by decide +kernel
theorem d_D_isReady_41 : decode k_D_isReady 41 = .ok (.ireturn, 1) := by decide +kernel
theorem d_D_isOf_0 : decode k_D_isOf 0 = .ok (.aload_n 0, 1) := by decide +kernel
theorem d_D_isOf_1 : decode k_D_isOf 1 = .ok (.getfield 59, 3) := by decide +kernel
theorem d_D_isOf_4 : decode k_D_isOf 4 = .ok (.iload_n 1, 1) := by decide +kernel
theorem d_D_isOf_5 : decode k_D_isOf 5 = .ok (.iaload, 1) := by decide +kernel
theorem d_D_isOf_6 : decode k_D_isOf 6 = .ok (.ifCond .ge 21, 3) := by decide +kernel
theorem d_D_isOf_9 : decode k_D_isOf 9 = .ok (.aload_n 0, 1) := by decide +kernel
theorem d_D_isOf_10 : decode k_D_isOf 10 = .ok (.aload_n 0, 1) := by decide +kernel
theorem d_D_isOf_11 : decode k_D_isOf 11 = .ok (.getfield 50, 3) := by decide +kernel
theorem d_D_isOf_14 : decode k_D_isOf 14 = .ok (.iload_n 1, 1) := by decide +kernel
theorem d_D_isOf_15 : decode k_D_isOf 15 = .ok (.iaload, 1) := by decide +kernel
theorem d_D_isOf_16 : decode k_D_isOf 16 = .ok (.invokevirtual 114, 3) := by decide +kernel
theorem d_D_isOf_19 : decode k_D_isOf 19 = .ok (.iload_n 2, 1) := by decide +kernel
theorem d_D_isOf_20 : decode k_D_isOf 20 = .ok (.if_icmp .ne 7, 3) := by decide +kernel
theorem d_D_isOf_23 : decode k_D_isOf 23 = .ok (.iconst 1, 1) := by decide +kernel
theorem d_D_isOf_24 : decode k_D_isOf 24 = .ok (.goto 4, 3) := by decide +kernel
theorem d_D_isOf_27 : decode k_D_isOf 27 = .ok (.iconst 0, 1) := by decide +kernel
theorem d_D_isOf_28 : decode k_D_isOf 28 = .ok (.ireturn, 1) := by decide +kernel
theorem d_D_isAmong_0 : decode k_D_isAmong 0 = .ok (.aload_n 0, 1) := by decide +kernel
theorem d_D_isAmong_1 : decode k_D_isAmong 1 = .ok (.iload_n 1, 1) := by decide +kernel
theorem d_D_isAmong_2 : decode k_D_isAmong 2 = .ok (.iload_n 2, 1) := by decide +kernel
theorem d_D_isAmong_3 : decode k_D_isAmong 3 = .ok (.invokevirtual 155, 3) := by decide +kernel
theorem d_D_isAmong_6 : decode k_D_isAmong 6 = .ok (.ifCond .eq 30, 3) := by decide +kernel
theorem d_D_isAmong_9 : decode k_D_isAmong 9 = .ok (.iload_n 3, 1) := by decide +kernel
theorem d_D_isAmong_10 : decode k_D_isAmong 10 = .ok (.ifCond .eq 22, 3) := by decide +kernel
theorem d_D_isAmong_13 : decode k_D_isAmong 13 = .ok (.aload_n 0, 1) := by decide +kernel
theorem d_D_isAmong_14 : decode k_D_isAmong 14 = .ok (.getfield 53, 3) := by decide +kernel
theorem d_D_isAmong_17 : decode k_D_isAmong 17 = .ok (.iload_n 1, 1) := by decide +kernel
theorem d_D_isAmong_18 : decode k_D_isAmong 18 = .ok (.baload, 1) := by decide +kernel
theorem d_D_isAmong_19 : decode k_D_isAmong 19 = .ok (.iload_n 3, 1) := by decide +kernel
theorem d_D_isAmong_20 : decode k_D_isAmong 20 = .ok (.iconst 2, 1) := by decide +kernel
theorem d_D_isAmong_21 : decode k_D_isAmong 21 = .ok (.if_icmp .ne 7, 3) := by decide +kernel
theorem d_D_isAmong_24 : decode k_D_isAmong 24 = .ok (.iconst 1, 1) := by decide +kernel
theorem d_D_isAmong_25 : decode k_D_isAmong 25 = .ok (.goto 4, 3) := by decide +kernel
theorem d_D_isAmong_28 : decode k_D_isAmong 28 = .ok (.iconst 0, 1) := by decide +kernel
theorem d_D_isAmong_29 : decode k_D_isAmong 29 = .ok (.if_icmp .ne 7, 3) := by decide +kernel
theorem d_D_isAmong_32 : decode k_D_isAmong 32 = .ok (.iconst 1, 1) := by decide +kernel
theorem d_D_isAmong_33 : decode k_D_isAmong 33 = .ok (.goto 4, 3) := by decide +kernel
theorem d_D_isAmong_36 : decode k_D_isAmong 36 = .ok (.iconst 0, 1) := by decide +kernel
theorem d_D_isAmong_37 : decode k_D_isAmong 37 = .ok (.ireturn, 1) := by decide +kernel
theorem d_D_isWanted_0 : decode k_D_isWanted 0 = .ok (.iconst 0, 1) := by decide +kernel
theorem d_D_isWanted_1 : decode k_D_isWanted 1 = .ok (.istore 4, 2) := by decide +kernel
theorem d_D_isWanted_3 : decode k_D_isWanted 3 = .ok (.iconst 0, 1) := by decide +kernel
theorem d_D_isWanted_4 : decode k_D_isWanted 4 = .ok (.istore 5, 2) := by decide +kernel
theorem d_D_isWanted_6 : decode k_D_isWanted 6 = .ok (.iload 5, 2) := by decide +kernel
theorem d_D_isWanted_8 : decode k_D_isWanted 8 = .ok (.aload_n 0, 1) := by decide +kernel
theorem d_D_isWanted_9 : decode k_D_isWanted 9 = .ok (.getfield 130, 3) := by decide +kernel
theorem d_D_isWanted_12 : decode k_D_isWanted 12 = .ok (.if_icmp .ge 96, 3) := by decide +kernel
theorem d_D_isWanted_15 : decode k_D_isWanted 15 = .ok (.iload 4, 2) := by decide +kernel
theorem d_D_isWanted_17 : decode k_D_isWanted 17 = .ok (.ifCond .ne 78, 3) := by decide +kernel
theorem d_D_isWanted_20 : decode k_D_isWanted 20 = .ok (.iload 5, 2) := by decide +kernel
theorem d_D_isWanted_22 : decode k_D_isWanted 22 = .ok (.iload_n 1, 1) := by decide +kernel
theorem d_D_isWanted_23 : decode k_D_isWanted 23 = .ok (.if_icmp .eq 76, 3) := by decide +kernel
theorem d_D_isWanted_26 : decode k_D_isWanted 26 = .ok (.aload_n 0, 1) := by decide +kernel
theorem d_D_isWanted_27 : decode k_D_isWanted 27 = .ok (.iload 5, 2) := by decide +kernel
theorem d_D_isWanted_29 : decode k_D_isWanted 29 = .ok (.iload_n 2, 1) := by decide +kernel
theorem d_D_isWanted_30 : decode k_D_isWanted 30 = .ok (.iload_n 3, 1) := by decide +kernel
theorem d_D_isWanted_31 : decode k_D_isWanted 31 = .ok (.invokevirtual 159, 3) := by decide +kernel
theorem d_D_isWanted_34 : decode k_D_isWanted 34 = .ok (.ifCond .eq 65, 3) := by decide +kernel
theorem d_D_isWanted_37 : decode k_D_isWanted 37 = .ok (.aload_n 0, 1) := by decide +kernel
theorem d_D_isWanted_38 : decode k_D_isWanted 38 = .ok (.aload_n 0, 1) := by decide +kernel
theorem d_D_isWanted_39 : decode k_D_isWanted 39 = .ok (.getfield 50, 3) := by decide +kernel
theorem d_D_isWanted_42 : decode k_D_isWanted 42 = .ok (.iload 5, 2) := by decide +kernel
theorem d_D_isWanted_44 : decode k_D_isWanted 44 = .ok (.iaload, 1) := by decide +kernel
theorem d_D_isWanted_45 : decode k_D_isWanted 45 = .ok (.invokevirtual 117, 3) := by decide +kernel
theorem d_D_isWanted_48 : decode k_D_isWanted 48 = .ok (.aload_n 0, 1) := by decide +kernel
theorem d_D_isWanted_49 : decode k_D_isWanted 49 = .ok (.aload_n 0, 1) := by decide +kernel
theorem d_D_isWanted_50 : decode k_D_isWanted 50 = .ok (.getfield 50, 3) := by decide +kernel
theorem d_D_isWanted_53 : decode k_D_isWanted 53 = .ok (.iload_n 1, 1) := by decide +kernel
theorem d_D_isWanted_54 : decode k_D_isWanted 54 = .ok (.iaload, 1) := by decide +kernel
theorem d_D_isWanted_55 : decode k_D_isWanted 55 = .ok (.invokevirtual 117, 3) := by decide +kernel
theorem d_D_isWanted_58 : decode k_D_isWanted 58 = .ok (.if_icmp .ne 41, 3) := by decide +kernel
theorem d_D_isWanted_61 : decode k_D_isWanted 61 = .ok (.aload_n 0, 1) := by decide +kernel
theorem d_D_isWanted_62 : decode k_D_isWanted 62 = .ok (.aload_n 0, 1) := by decide +kernel
theorem d_D_isWanted_63 : decode k_D_isWanted 63 = .ok (.getfield 50, 3) := by decide +kernel
theorem d_D_isWanted_66 : decode k_D_isWanted 66 = .ok (.iload 5, 2) := by decide +kernel
theorem d_D_isWanted_68 : decode k_D_isWanted 68 = .ok (.iaload, 1) := by decide +kernel
theorem d_D_isWanted_69 : decode k_D_isWanted 69 = .ok (.invokevirtual 120, 3) := by decide +kernel
theorem d_D_isWanted_72 : decode k_D_isWanted 72 = .ok (.aload_n 0, 1) := by decide +kernel
theorem d_D_isWanted_73 : decode k_D_isWanted 73 = .ok (.getfield 13, 3) := by decide +kernel
theorem d_D_isWanted_76 : decode k_D_isWanted 76 = .ok (.bipush 8, 2) := by decide +kernel
theorem d_D_isWanted_78 : decode k_D_isWanted 78 = .ok (.iload_n 2, 1) := by decide +kernel
theorem d_D_isWanted_79 : decode k_D_isWanted 79 = .ok (.imul, 1) := by decide +kernel
theorem d_D_isWanted_80 : decode k_D_isWanted 80 = .ok (.aload_n 0, 1) := by decide +kernel
theorem d_D_isWanted_81 : decode k_D_isWanted 81 = .ok (.aload_n 0, 1) := by decide +kernel
theorem d_D_isWanted_82 : decode k_D_isWanted 82 = .ok (.getfield 50, 3) := by decide +kernel
theorem d_D_isWanted_85 : decode k_D_isWanted 85 = .ok (.iload_n 1, 1) := by decide +kernel
theorem d_D_isWanted_86 : decode k_D_isWanted 86 = .ok (.iaload, 1) := by decide +kernel
theorem d_D_isWanted_87 : decode k_D_isWanted 87 = .ok (.invokevirtual 117, 3) := by decide +kernel
theorem d_D_isWanted_90 : decode k_D_isWanted 90 = .ok (.iadd, 1) := by decide +kernel
theorem d_D_isWanted_91 : decode k_D_isWanted 91 = .ok (.iaload, 1) := by decide +kernel
theorem d_D_isWanted_92 : decode k_D_isWanted 92 = .ok (.if_icmp .ne 7, 3) := by decide +kernel
theorem d_D_isWanted_95 : decode k_D_isWanted 95 = .ok (.iconst 1, 1) := by decide +kernel
theorem d_D_isWanted_96 : decode k_D_isWanted 96 = .ok (.goto 4, 3) := by decide +kernel
theorem d_D_isWanted_99 : decode k_D_isWanted 99 = .ok (.iconst 0, 1) := by decide +kernel
theorem d_D_isWanted_100 : decode k_D_isWanted 100 = .ok (.istore 4, 2) := by decide +kernel
theorem d_D_isWanted_102 : decode k_D_isWanted 102 = .ok (.iinc 5 1, 3) := by decide +kernel
theorem d_D_isWanted_105 : decode k_D_isWanted 105 = .ok (.goto (-99), 3) := by decide +kernel
theorem d_D_isWanted_108 : decode k_D_isWanted 108 = .ok (.iload 4, 2) := by decide +kernel
theorem d_D_isWanted_110 : decode k_D_isWanted 110 = .ok (.ireturn, 1) := by decide +kernel
theorem d_D_byRows_0 : decode k_D_byRows 0 = .ok (.iconst 0, 1) := by decide +kernel
theorem d_D_byRows_1 : decode k_D_byRows 1 = .ok (.istore_n 3, 1) := by decide +kernel
theorem d_D_byRows_2 : decode k_D_byRows 2 = .ok (.iload_n 3, 1) := by decide +kernel
theorem d_D_byRows_3 : decode k_D_byRows 3 = .ok (.aload_n 0, 1) := by decide +kernel
theorem d_D_byRows_4 : decode k_D_byRows 4 = .ok (.getfield 130, 3) := by decide +kernel
theorem d_D_byRows_7 : decode k_D_byRows 7 = .ok (.if_icmp .ge 47, 3) := by decide +kernel
theorem d_D_byRows_10 : decode k_D_byRows 10 = .ok (.aload_n 0, 1) := by decide +kernel
theorem d_D_byRows_11 : decode k_D_byRows 11 = .ok (.iload_n 3, 1) := by decide +kernel
theorem d_D_byRows_12 : decode k_D_byRows 12 = .ok (.iload_n 1, 1) := by decide +kernel
theorem d_D_byRows_13 : decode k_D_byRows 13 = .ok (.iload_n 2, 1) := by decide +kernel
theorem d_D_byRows_14 : decode k_D_byRows 14 = .ok (.invokevirtual 159, 3) := by decide +kernel
theorem d_D_byRows_17 : decode k_D_byRows 17 = .ok (.ifCond .eq 31, 3) := by decide +kernel
theorem d_D_byRows_20 : decode k_D_byRows 20 = .ok (.aload_n 0, 1) := by decide +kernel
theorem d_D_byRows_21 : decode k_D_byRows 21 = .ok (.iload_n 3, 1) := by decide +kernel
theorem d_D_byRows_22 : decode k_D_byRows 22 = .ok (.invokevirtual 149, 3) := by decide +kernel
theorem d_D_byRows_25 : decode k_D_byRows 25 = .ok (.iconst 1, 1) := by decide +kernel
theorem d_D_byRows_26 : decode k_D_byRows 26 = .ok (.if_icmp .eq 12, 3) := by decide +kernel
theorem d_D_byRows_29 : decode k_D_byRows 29 = .ok (.aload_n 0, 1) := by decide +kernel
theorem d_D_byRows_30 : decode k_D_byRows 30 = .ok (.iload_n 3, 1) := by decide +kernel
theorem d_D_byRows_31 : decode k_D_byRows 31 = .ok (.invokevirtual 149, 3) := by decide +kernel
theorem d_D_byRows_34 : decode k_D_byRows 34 = .ok (.iconst 2, 1) := by decide +kernel
theorem d_D_byRows_35 : decode k_D_byRows 35 = .ok (.if_icmp .ne 13, 3) := by decide +kernel
theorem d_D_byRows_38 : decode k_D_byRows 38 = .ok (.aload_n 0, 1) := by decide +kernel
theorem d_D_byRows_39 : decode k_D_byRows 39 = .ok (.iload_n 3, 1) := by decide +kernel
theorem d_D_byRows_40 : decode k_D_byRows 40 = .ok (.invokevirtual 162, 3) := by decide +kernel
theorem d_D_byRows_43 : decode k_D_byRows 43 = .ok (.ifCond .eq 5, 3) := by decide +kernel
theorem d_D_byRows_46 : decode k_D_byRows 46 = .ok (.iload_n 3, 1) := by decide +kernel
theorem d_D_byRows_47 : decode k_D_byRows 47 = .ok (.ireturn, 1) := by decide +kernel
theorem d_D_byRows_48 : decode k_D_byRows 48 = .ok (.iinc 3 1, 3) := by decide +kernel
theorem d_D_byRows_51 : decode k_D_byRows 51 = .ok (.goto (-49), 3) := by decide +kernel
theorem d_D_byRows_54 : decode k_D_byRows 54 = .ok (.iconst 0, 1) := by decide +kernel
theorem d_D_byRows_55 : decode k_D_byRows 55 = .ok (.istore_n 3, 1) := by decide +kernel
theorem d_D_byRows_56 : decode k_D_byRows 56 = .ok (.iload_n 3, 1) := by decide +kernel
theorem d_D_byRows_57 : decode k_D_byRows 57 = .ok (.aload_n 0, 1) := by decide +kernel
theorem d_D_byRows_58 : decode k_D_byRows 58 = .ok (.getfield 130, 3) := by decide +kernel
theorem d_D_byRows_61 : decode k_D_byRows 61 = .ok (.if_icmp .ge 48, 3) := by decide +kernel
theorem d_D_byRows_64 : decode k_D_byRows 64 = .ok (.aload_n 0, 1) := by decide +kernel
theorem d_D_byRows_65 : decode k_D_byRows 65 = .ok (.iload_n 3, 1) := by decide +kernel
theorem d_D_byRows_66 : decode k_D_byRows 66 = .ok (.iload_n 1, 1) := by decide +kernel
theorem d_D_byRows_67 : decode k_D_byRows 67 = .ok (.iload_n 2, 1) := by decide +kernel
theorem d_D_byRows_68 : decode k_D_byRows 68 = .ok (.invokevirtual 159, 3) := by decide +kernel
theorem d_D_byRows_71 : decode k_D_byRows 71 = .ok (.ifCond .eq 32, 3) := by decide +kernel
theorem d_D_byRows_74 : decode k_D_byRows 74 = .ok (.aload_n 0, 1) := by decide +kernel
theorem d_D_byRows_75 : decode k_D_byRows 75 = .ok (.iload_n 3, 1) := by decide +kernel
theorem d_D_byRows_76 : decode k_D_byRows 76 = .ok (.invokevirtual 162, 3) := by decide +kernel
theorem d_D_byRows_79 : decode k_D_byRows 79 = .ok (.ifCond .eq 24, 3) := by decide +kernel
theorem d_D_byRows_82 : decode k_D_byRows 82 = .ok (.aload_n 0, 1) := by decide +kernel
theorem d_D_byRows_83 : decode k_D_byRows 83 = .ok (.iload_n 3, 1) := by decide +kernel
theorem d_D_byRows_84 : decode k_D_byRows 84 = .ok (.invokevirtual 149, 3) := by decide +kernel
theorem d_D_byRows_87 : decode k_D_byRows 87 = .ok (.iconst 3, 1) := by decide +kernel
theorem d_D_byRows_88 : decode k_D_byRows 88 = .ok (.if_icmp .ne 13, 3) := by decide +kernel
theorem d_D_byRows_91 : decode k_D_byRows 91 = .ok (.aload_n 0, 1) := by decide +kernel
theorem d_D_byRows_92 : decode k_D_byRows 92 = .ok (.iload_n 3, 1) := by decide +kernel
theorem d_D_byRows_93 : decode k_D_byRows 93 = .ok (.iload_n 1, 1) := by decide +kernel
theorem d_D_byRows_94 : decode k_D_byRows 94 = .ok (.iload_n 2, 1) := by decide +kernel
theorem d_D_byRows_95 : decode k_D_byRows 95 = .ok (.invokevirtual 165, 3) := by decide +kernel
theorem d_D_byRows_98 : decode k_D_byRows 98 = .ok (.ifCond .ne 5, 3) := by decide +kernel
theorem d_D_byRows_101 : decode k_D_byRows 101 = .ok (.iload_n 3, 1) := by decide +kernel
theorem d_D_byRows_102 : decode k_D_byRows 102 = .ok (.ireturn, 1) := by decide +kernel
theorem d_D_byRows_103 : decode k_D_byRows 103 = .ok (.iinc 3 1, 3) := by decide +kernel
theorem d_D_byRows_106 : decode k_D_byRows 106 = .ok (.goto (-50), 3) := by decide +kernel
theorem d_D_byRows_109 : decode k_D_byRows 109 = .ok (.iconst (-1), 1) := by decide +kernel
theorem d_D_byRows_110 : decode k_D_byRows 110 = .ok (.ireturn, 1) := by decide +kernel
end
section
theorem d_D_byReads_0 : decode k_D_byReads 0 = .ok (.iconst 0, 1) := by decide +kernel
theorem d_D_byReads_1 : decode k_D_byReads 1 = .ok (.istore_n 2, 1) := by decide +kernel
theorem d_D_byReads_2 : decode k_D_byReads 2 = .ok (.iconst 0, 1) := by decide +kernel
theorem d_D_byReads_3 : decode k_D_byReads 3 = .ok (.istore_n 3, 1) := by decide +kernel
theorem d_D_byReads_4 : decode k_D_byReads 4 = .ok (.iconst 0, 1) := by decide +kernel
theorem d_D_byReads_5 : decode k_D_byReads 5 = .ok (.istore 4, 2) := by decide +kernel
theorem d_D_byReads_7 : decode k_D_byReads 7 = .ok (.iload 4, 2) := by decide +kernel
theorem d_D_byReads_9 : decode k_D_byReads 9 = .ok (.aload_n 0, 1) := by decide +kernel
theorem d_D_byReads_10 : decode k_D_byReads 10 = .ok (.getfield 130, 3) := by decide +kernel
theorem d_D_byReads_13 : decode k_D_byReads 13 = .ok (.if_icmp .ge 47, 3) := by decide +kernel
theorem d_D_byReads_16 : decode k_D_byReads 16 = .ok (.iload_n 2, 1) := by decide +kernel
theorem d_D_byReads_17 : decode k_D_byReads 17 = .ok (.aload_n 0, 1) := by decide +kernel
theorem d_D_byReads_18 : decode k_D_byReads 18 = .ok (.iload 4, 2) := by decide +kernel
theorem d_D_byReads_20 : decode k_D_byReads 20 = .ok (.iload_n 1, 1) := by decide +kernel
theorem d_D_byReads_21 : decode k_D_byReads 21 = .ok (.iconst 1, 1) := by decide +kernel
theorem d_D_byReads_22 : decode k_D_byReads 22 = .ok (.invokevirtual 159, 3) := by decide +kernel
theorem d_D_byReads_25 : decode k_D_byReads 25 = .ok (.ifCond .eq 7, 3) := by decide +kernel
theorem d_D_byReads_28 : decode k_D_byReads 28 = .ok (.iconst 1, 1) := by decide +kernel
theorem d_D_byReads_29 : decode k_D_byReads 29 = .ok (.goto 4, 3) := by decide +kernel
theorem d_D_byReads_32 : decode k_D_byReads 32 = .ok (.iconst 0, 1) := by decide +kernel
theorem d_D_byReads_33 : decode k_D_byReads 33 = .ok (.iadd, 1) := by decide +kernel
theorem d_D_byReads_34 : decode k_D_byReads 34 = .ok (.istore_n 2, 1) := by decide +kernel
theorem d_D_byReads_35 : decode k_D_byReads 35 = .ok (.iload_n 3, 1) := by decide +kernel
theorem d_D_byReads_36 : decode k_D_byReads 36 = .ok (.aload_n 0, 1) := by decide +kernel
theorem d_D_byReads_37 : decode k_D_byReads 37 = .ok (.iload 4, 2) := by decide +kernel
theorem d_D_byReads_39 : decode k_D_byReads 39 = .ok (.iload_n 1, 1) := by decide +kernel
theorem d_D_byReads_40 : decode k_D_byReads 40 = .ok (.iconst 2, 1) := by decide +kernel
theorem d_D_byReads_41 : decode k_D_byReads 41 = .ok (.invokevirtual 159, 3) := by decide +kernel
theorem d_D_byReads_44 : decode k_D_byReads 44 = .ok (.ifCond .eq 7, 3) := by decide +kernel
theorem d_D_byReads_47 : decode k_D_byReads 47 = .ok (.iconst 1, 1) := by decide +kernel
theorem d_D_byReads_48 : decode k_D_byReads 48 = .ok (.goto 4, 3) := by decide +kernel
theorem d_D_byReads_51 : decode k_D_byReads 51 = .ok (.iconst 0, 1) := by decide +kernel
theorem d_D_byReads_52 : decode k_D_byReads 52 = .ok (.iadd, 1) := by decide +kernel
theorem d_D_byReads_53 : decode k_D_byReads 53 = .ok (.istore_n 3, 1) := by decide +kernel
theorem d_D_byReads_54 : decode k_D_byReads 54 = .ok (.iinc 4 1, 3) := by decide +kernel
theorem d_D_byReads_57 : decode k_D_byReads 57 = .ok (.goto (-50), 3) := by decide +kernel
theorem d_D_byReads_60 : decode k_D_byReads 60 = .ok (.aload_n 0, 1) := by decide +kernel
theorem d_D_byReads_61 : decode k_D_byReads 61 = .ok (.iload_n 1, 1) := by decide +kernel
theorem d_D_byReads_62 : decode k_D_byReads 62 = .ok (.iload_n 2, 1) := by decide +kernel
theorem d_D_byReads_63 : decode k_D_byReads 63 = .ok (.ifCond .le 12, 3) := by decide +kernel
theorem d_D_byReads_66 : decode k_D_byReads 66 = .ok (.iload_n 3, 1) := by decide +kernel
theorem d_D_byReads_67 : decode k_D_byReads 67 = .ok (.iconst 5, 1) := by decide +kernel
theorem d_D_byReads_68 : decode k_D_byReads 68 = .ok (.if_icmp .ge 7, 3) := by decide +kernel
theorem d_D_byReads_71 : decode k_D_byReads 71 = .ok (.iconst 1, 1) := by decide +kernel
theorem d_D_byReads_72 : decode k_D_byReads 72 = .ok (.goto 4, 3) := by decide +kernel
theorem d_D_byReads_75 : decode k_D_byReads 75 = .ok (.iconst 2, 1) := by decide +kernel
theorem d_D_byReads_76 : decode k_D_byReads 76 = .ok (.invokevirtual 168, 3) := by decide +kernel
theorem d_D_byReads_79 : decode k_D_byReads 79 = .ok (.ireturn, 1) := by decide +kernel
theorem d_D_byTurns_0 : decode k_D_byTurns 0 = .ok (.iconst 1, 1) := by decide +kernel
theorem d_D_byTurns_1 : decode k_D_byTurns 1 = .ok (.istore_n 2, 1) := by decide +kernel
theorem d_D_byTurns_2 : decode k_D_byTurns 2 = .ok (.iload_n 2, 1) := by decide +kernel
theorem d_D_byTurns_3 : decode k_D_byTurns 3 = .ok (.aload_n 0, 1) := by decide +kernel
theorem d_D_byTurns_4 : decode k_D_byTurns 4 = .ok (.getfield 87, 3) := by decide +kernel
theorem d_D_byTurns_7 : decode k_D_byTurns 7 = .ok (.if_icmp .gt 87, 3) := by decide +kernel
theorem d_D_byTurns_10 : decode k_D_byTurns 10 = .ok (.aload_n 0, 1) := by decide +kernel
theorem d_D_byTurns_11 : decode k_D_byTurns 11 = .ok (.getfield 47, 3) := by decide +kernel
theorem d_D_byTurns_14 : decode k_D_byTurns 14 = .ok (.iload_n 1, 1) := by decide +kernel
theorem d_D_byTurns_15 : decode k_D_byTurns 15 = .ok (.iaload, 1) := by decide +kernel
theorem d_D_byTurns_16 : decode k_D_byTurns 16 = .ok (.iload_n 2, 1) := by decide +kernel
theorem d_D_byTurns_17 : decode k_D_byTurns 17 = .ok (.iadd, 1) := by decide +kernel
theorem d_D_byTurns_18 : decode k_D_byTurns 18 = .ok (.aload_n 0, 1) := by decide +kernel
theorem d_D_byTurns_19 : decode k_D_byTurns 19 = .ok (.getfield 87, 3) := by decide +kernel
theorem d_D_byTurns_22 : decode k_D_byTurns 22 = .ok (.irem, 1) := by decide +kernel
theorem d_D_byTurns_23 : decode k_D_byTurns 23 = .ok (.istore_n 3, 1) := by decide +kernel
theorem d_D_byTurns_24 : decode k_D_byTurns 24 = .ok (.iconst 0, 1) := by decide +kernel
theorem d_D_byTurns_25 : decode k_D_byTurns 25 = .ok (.istore 4, 2) := by decide +kernel
theorem d_D_byTurns_27 : decode k_D_byTurns 27 = .ok (.iload 4, 2) := by decide +kernel
theorem d_D_byTurns_29 : decode k_D_byTurns 29 = .ok (.aload_n 0, 1) := by decide +kernel
theorem d_D_byTurns_30 : decode k_D_byTurns 30 = .ok (.getfield 130, 3) := by decide +kernel
theorem d_D_byTurns_33 : decode k_D_byTurns 33 = .ok (.if_icmp .ge 34, 3) := by decide +kernel
theorem d_D_byTurns_36 : decode k_D_byTurns 36 = .ok (.aload_n 0, 1) := by decide +kernel
theorem d_D_byTurns_37 : decode k_D_byTurns 37 = .ok (.iload 4, 2) := by decide +kernel
theorem d_D_byTurns_39 : decode k_D_byTurns 39 = .ok (.iload_n 1, 1) := by decide +kernel
theorem d_D_byTurns_40 : decode k_D_byTurns 40 = .ok (.invokevirtual 155, 3) := by decide +kernel
theorem d_D_byTurns_43 : decode k_D_byTurns 43 = .ok (.ifCond .eq 18, 3) := by decide +kernel
theorem d_D_byTurns_46 : decode k_D_byTurns 46 = .ok (.aload_n 0, 1) := by decide +kernel
theorem d_D_byTurns_47 : decode k_D_byTurns 47 = .ok (.aload_n 0, 1) := by decide +kernel
theorem d_D_byTurns_48 : decode k_D_byTurns 48 = .ok (.getfield 50, 3) := by decide +kernel
theorem d_D_byTurns_51 : decode k_D_byTurns 51 = .ok (.iload 4, 2) := by decide +kernel
theorem d_D_byTurns_53 : decode k_D_byTurns 53 = .ok (.iaload, 1) := by decide +kernel
theorem d_D_byTurns_54 : decode k_D_byTurns 54 = .ok (.invokevirtual 117, 3) := by decide +kernel
theorem d_D_byTurns_57 : decode k_D_byTurns 57 = .ok (.iload_n 3, 1) := by decide +kernel
theorem d_D_byTurns_58 : decode k_D_byTurns 58 = .ok (.if_icmp .eq 9, 3) := by decide +kernel
theorem d_D_byTurns_61 : decode k_D_byTurns 61 = .ok (.iinc 4 1, 3) := by decide +kernel
theorem d_D_byTurns_64 : decode k_D_byTurns 64 = .ok (.goto (-37), 3) := by decide +kernel
theorem d_D_byTurns_67 : decode k_D_byTurns 67 = .ok (.iload 4, 2) := by decide +kernel
theorem d_D_byTurns_69 : decode k_D_byTurns 69 = .ok (.aload_n 0, 1) := by decide +kernel
theorem d_D_byTurns_70 : decode k_D_byTurns 70 = .ok (.getfield 130, 3) := by decide +kernel
theorem d_D_byTurns_73 : decode k_D_byTurns 73 = .ok (.if_icmp .ge 15, 3) := by decide +kernel
theorem d_D_byTurns_76 : decode k_D_byTurns 76 = .ok (.aload_n 0, 1) := by decide +kernel
theorem d_D_byTurns_77 : decode k_D_byTurns 77 = .ok (.iload 4, 2) := by decide +kernel
theorem d_D_byTurns_79 : decode k_D_byTurns 79 = .ok (.invokevirtual 162, 3) := by decide +kernel
theorem d_D_byTurns_82 : decode k_D_byTurns 82 = .ok (.ifCond .eq 6, 3) := by decide +kernel
theorem d_D_byTurns_85 : decode k_D_byTurns 85 = .ok (.iload 4, 2) := by decide +kernel
theorem d_D_byTurns_87 : decode k_D_byTurns 87 = .ok (.ireturn, 1) := by decide +kernel
theorem d_D_byTurns_88 : decode k_D_byTurns 88 = .ok (.iinc 2 1, 3) := by decide +kernel
theorem d_D_byTurns_91 : decode k_D_byTurns 91 = .ok (.goto (-89), 3) := by decide +kernel
theorem d_D_byTurns_94 : decode k_D_byTurns 94 = .ok (.iconst (-1), 1) := by decide +kernel
theorem d_D_byTurns_95 : decode k_D_byTurns 95 = .ok (.ireturn, 1) := by decide +kernel
theorem d_D_named_0 : decode k_D_named 0 = .ok (.aload_n 0, 1) := by decide +kernel
theorem d_D_named_1 : decode k_D_named 1 = .ok (.getfield 90, 3) := by decide +kernel
theorem d_D_named_4 : decode k_D_named 4 = .ok (.iconst 1, 1) := by decide +kernel
theorem d_D_named_5 : decode k_D_named 5 = .ok (.if_icmp .ne 10, 3) := by decide +kernel
theorem d_D_named_8 : decode k_D_named 8 = .ok (.aload_n 0, 1) := by decide +kernel
theorem d_D_named_9 : decode k_D_named 9 = .ok (.iload_n 1, 1) := by decide +kernel
theorem d_D_named_10 : decode k_D_named 10 = .ok (.iconst 0, 1) := by decide +kernel
theorem d_D_named_11 : decode k_D_named 11 = .ok (.invokevirtual 168, 3) := by decide +kernel
theorem d_D_named_14 : decode k_D_named 14 = .ok (.ireturn, 1) := by decide +kernel
theorem d_D_named_15 : decode k_D_named 15 = .ok (.aload_n 0, 1) := by decide +kernel
theorem d_D_named_16 : decode k_D_named 16 = .ok (.getfield 90, 3) := by decide +kernel
theorem d_D_named_19 : decode k_D_named 19 = .ok (.iconst 2, 1) := by decide +kernel
theorem d_D_named_20 : decode k_D_named 20 = .ok (.if_icmp .ne 9, 3) := by decide +kernel
theorem d_D_named_23 : decode k_D_named 23 = .ok (.aload_n 0, 1) := by decide +kernel
theorem d_D_named_24 : decode k_D_named 24 = .ok (.iload_n 1, 1) := by decide +kernel
theorem d_D_named_25 : decode k_D_named 25 = .ok (.invokevirtual 172, 3) := by decide +kernel
theorem d_D_named_28 : decode k_D_named 28 = .ok (.ireturn, 1) := by decide +kernel
theorem d_D_named_29 : decode k_D_named 29 = .ok (.aload_n 0, 1) := by decide +kernel
theorem d_D_named_30 : decode k_D_named 30 = .ok (.getfield 90, 3) := by decide +kernel
theorem d_D_named_33 : decode k_D_named 33 = .ok (.iconst 3, 1) := by decide +kernel
theorem d_D_named_34 : decode k_D_named 34 = .ok (.if_icmp .ne 9, 3) := by decide +kernel
theorem d_D_named_37 : decode k_D_named 37 = .ok (.aload_n 0, 1) := by decide +kernel
theorem d_D_named_38 : decode k_D_named 38 = .ok (.iload_n 1, 1) := by decide +kernel
theorem d_D_named_39 : decode k_D_named 39 = .ok (.invokevirtual 175, 3) := by decide +kernel
theorem d_D_named_42 : decode k_D_named 42 = .ok (.ireturn, 1) := by decide +kernel
theorem d_D_named_43 : decode k_D_named 43 = .ok (.iconst 0, 1) := by decide +kernel
theorem d_D_named_44 : decode k_D_named 44 = .ok (.istore_n 2, 1) := by decide +kernel
theorem d_D_named_45 : decode k_D_named 45 = .ok (.iload_n 2, 1) := by decide +kernel
theorem d_D_named_46 : decode k_D_named 46 = .ok (.aload_n 0, 1) := by decide +kernel
theorem d_D_named_47 : decode k_D_named 47 = .ok (.getfield 130, 3) := by decide +kernel
theorem d_D_named_50 : decode k_D_named 50 = .ok (.if_icmp .ge 18, 3) := by decide +kernel
theorem d_D_named_53 : decode k_D_named 53 = .ok (.aload_n 0, 1) := by decide +kernel
theorem d_D_named_54 : decode k_D_named 54 = .ok (.iload_n 2, 1) := by decide +kernel
theorem d_D_named_55 : decode k_D_named 55 = .ok (.iload_n 1, 1) := by decide +kernel
theorem d_D_named_56 : decode k_D_named 56 = .ok (.invokevirtual 155, 3) := by decide +kernel
theorem d_D_named_59 : decode k_D_named 59 = .ok (.ifCond .ne 9, 3) := by decide +kernel
theorem d_D_named_62 : decode k_D_named 62 = .ok (.iinc 2 1, 3) := by decide +kernel
theorem d_D_named_65 : decode k_D_named 65 = .ok (.goto (-20), 3) := by decide +kernel
theorem d_D_named_68 : decode k_D_named 68 = .ok (.iload_n 2, 1) := by decide +kernel
theorem d_D_named_69 : decode k_D_named 69 = .ok (.aload_n 0, 1) := by decide +kernel
theorem d_D_named_70 : decode k_D_named 70 = .ok (.getfield 130, 3) := by decide +kernel
theorem d_D_named_73 : decode k_D_named 73 = .ok (.if_icmp .ge 15, 3) := by decide +kernel
theorem d_D_named_76 : decode k_D_named 76 = .ok (.aload_n 0, 1) := by decide +kernel
theorem d_D_named_77 : decode k_D_named 77 = .ok (.iload_n 2, 1) := by decide +kernel
theorem d_D_named_78 : decode k_D_named 78 = .ok (.invokevirtual 162, 3) := by decide +kernel
theorem d_D_named_81 : decode k_D_named 81 = .ok (.ifCond .eq 7, 3) := by decide +kernel
theorem d_D_named_84 : decode k_D_named 84 = .ok (.iload_n 2, 1) := by decide +kernel
theorem d_D_named_85 : decode k_D_named 85 = .ok (.goto 4, 3) := by decide +kernel
theorem d_D_named_88 : decode k_D_named 88 = .ok (.iconst (-1), 1) := by decide +kernel
theorem d_D_named_89 : decode k_D_named 89 = .ok (.ireturn, 1) := by decide +kernel
theorem d_D_refresh_0 : decode k_D_refresh 0 = .ok (.aload_n 0, 1) := by decide +kernel
theorem d_D_refresh_1 : decode k_D_refresh 1 = .ok (.iload_n 1, 1) := by decide +kernel
theorem d_D_refresh_2 : decode k_D_refresh 2 = .ok (.invokevirtual 123, 3) := by decide +kernel
theorem d_D_refresh_5 : decode k_D_refresh 5 = .ok (.ifCond .ne 34, 3) := by decide +kernel
theorem d_D_refresh_8 : decode k_D_refresh 8 = .ok (.aload_n 0, 1) := by decide +kernel
theorem d_D_refresh_9 : decode k_D_refresh 9 = .ok (.iload_n 1, 1) := by decide +kernel
theorem d_D_refresh_10 : decode k_D_refresh 10 = .ok (.iconst 4, 1) := by decide +kernel
theorem d_D_refresh_11 : decode k_D_refresh 11 = .ok (.iconst 0, 1) := by decide +kernel
theorem d_D_refresh_12 : decode k_D_refresh 12 = .ok (.aload_n 0, 1) := by decide +kernel
theorem d_D_refresh_13 : decode k_D_refresh 13 = .ok (.getfield 139, 3) := by decide +kernel
theorem d_D_refresh_16 : decode k_D_refresh 16 = .ok (.invokevirtual 152, 3) := by decide +kernel
theorem d_D_refresh_19 : decode k_D_refresh 19 = .ok (.ifCond .lt 4, 3) := by decide +kernel
theorem d_D_refresh_22 : decode k_D_refresh 22 = .ok (.return_, 1) := by decide +kernel
theorem d_D_refresh_23 : decode k_D_refresh 23 = .ok (.aload_n 0, 1) := by decide +kernel
theorem d_D_refresh_24 : decode k_D_refresh 24 = .ok (.iload_n 1, 1) := by decide +kernel
theorem d_D_refresh_25 : decode k_D_refresh 25 = .ok (.iconst 4, 1) := by decide +kernel
theorem d_D_refresh_26 : decode k_D_refresh 26 = .ok (.iconst 0, 1) := by decide +kernel
theorem d_D_refresh_27 : decode k_D_refresh 27 = .ok (.iconst 0, 1) := by decide +kernel
theorem d_D_refresh_28 : decode k_D_refresh 28 = .ok (.invokevirtual 178, 3) := by decide +kernel
theorem d_D_refresh_31 : decode k_D_refresh 31 = .ok (.aload_n 0, 1) := by decide +kernel
theorem d_D_refresh_32 : decode k_D_refresh 32 = .ok (.getfield 43, 3) := by decide +kernel
theorem d_D_refresh_35 : decode k_D_refresh 35 = .ok (.iload_n 1, 1) := by decide +kernel
theorem d_D_refresh_36 : decode k_D_refresh 36 = .ok (.iconst 0, 1) := by decide +kernel
theorem d_D_refresh_37 : decode k_D_refresh 37 = .ok (.bastore, 1) := by decide +kernel
theorem d_D_refresh_38 : decode k_D_refresh 38 = .ok (.return_, 1) := by decide +kernel
theorem d_D_refresh_39 : decode k_D_refresh 39 = .ok (.iconst 0, 1) := by decide +kernel
theorem d_D_refresh_40 : decode k_D_refresh 40 = .ok (.istore_n 2, 1) := by decide +kernel
theorem d_D_refresh_41 : decode k_D_refresh 41 = .ok (.iload_n 2, 1) := by decide +kernel
theorem d_D_refresh_42 : decode k_D_refresh 42 = .ok (.aload_n 0, 1) := by decide +kernel
theorem d_D_refresh_43 : decode k_D_refresh 43 = .ok (.getfield 87, 3) := by decide +kernel
theorem d_D_refresh_46 : decode k_D_refresh 46 = .ok (.if_icmp .ge 56, 3) := by decide +kernel
theorem d_D_refresh_49 : decode k_D_refresh 49 = .ok (.aload_n 0, 1) := by decide +kernel
theorem d_D_refresh_50 : decode k_D_refresh 50 = .ok (.getfield 13, 3) := by decide +kernel
theorem d_D_refresh_53 : decode k_D_refresh 53 = .ok (.bipush 8, 2) := by decide +kernel
theorem d_D_refresh_55 : decode k_D_refresh 55 = .ok (.iload_n 1, 1) := by decide +kernel
theorem d_D_refresh_56 : decode k_D_refresh 56 = .ok (.imul, 1) := by decide +kernel
theorem d_D_refresh_57 : decode k_D_refresh 57 = .ok (.iload_n 2, 1) := by decide +kernel
theorem d_D_refresh_58 : decode k_D_refresh 58 = .ok (.iadd, 1) := by decide +kernel
theorem d_D_refresh_59 : decode k_D_refresh 59 = .ok (.iaload, 1) := by decide +kernel
theorem d_D_refresh_60 : decode k_D_refresh 60 = .ok (.ifCond .lt 36, 3) := by decide +kernel
theorem d_D_refresh_63 : decode k_D_refresh 63 = .ok (.aload_n 0, 1) := by decide +kernel
theorem d_D_refresh_64 : decode k_D_refresh 64 = .ok (.iload_n 1, 1) := by decide +kernel
theorem d_D_refresh_65 : decode k_D_refresh 65 = .ok (.iconst 3, 1) := by decide +kernel
theorem d_D_refresh_66 : decode k_D_refresh 66 = .ok (.iload_n 2, 1) := by decide +kernel
theorem d_D_refresh_67 : decode k_D_refresh 67 = .ok (.aload_n 0, 1) := by decide +kernel
theorem d_D_refresh_68 : decode k_D_refresh 68 = .ok (.getfield 139, 3) := by decide +kernel
theorem d_D_refresh_71 : decode k_D_refresh 71 = .ok (.invokevirtual 152, 3) := by decide +kernel
theorem d_D_refresh_74 : decode k_D_refresh 74 = .ok (.ifCond .ge 22, 3) := by decide +kernel
theorem d_D_refresh_77 : decode k_D_refresh 77 = .ok (.aload_n 0, 1) := by decide +kernel
theorem d_D_refresh_78 : decode k_D_refresh 78 = .ok (.iload_n 1, 1) := by decide +kernel
theorem d_D_refresh_79 : decode k_D_refresh 79 = .ok (.iconst 3, 1) := by decide +kernel
theorem d_D_refresh_80 : decode k_D_refresh 80 = .ok (.iload_n 2, 1) := by decide +kernel
theorem d_D_refresh_81 : decode k_D_refresh 81 = .ok (.aload_n 0, 1) := by decide +kernel
theorem d_D_refresh_82 : decode k_D_refresh 82 = .ok (.getfield 13, 3) := by decide +kernel
theorem d_D_refresh_85 : decode k_D_refresh 85 = .ok (.bipush 8, 2) := by decide +kernel
theorem d_D_refresh_87 : decode k_D_refresh 87 = .ok (.iload_n 1, 1) := by decide +kernel
theorem d_D_refresh_88 : decode k_D_refresh 88 = .ok (.imul, 1) := by decide +kernel
theorem d_D_refresh_89 : decode k_D_refresh 89 = .ok (.iload_n 2, 1) := by decide +kernel
theorem d_D_refresh_90 : decode k_D_refresh 90 = .ok (.iadd, 1) := by decide +kernel
theorem d_D_refresh_91 : decode k_D_refresh 91 = .ok (.iaload, 1) := by decide +kernel
theorem d_D_refresh_92 : decode k_D_refresh 92 = .ok (.invokevirtual 178, 3) := by decide +kernel
theorem d_D_refresh_95 : decode k_D_refresh 95 = .ok (.return_, 1) := by decide +kernel
theorem d_D_refresh_96 : decode k_D_refresh 96 = .ok (.iinc 2 1, 3) := by decide +kernel
theorem d_D_refresh_99 : decode k_D_refresh 99 = .ok (.goto (-58), 3) := by decide +kernel
theorem d_D_refresh_102 : decode k_D_refresh 102 = .ok (.return_, 1) := by decide +kernel
theorem d_D_serve_0 : decode k_D_serve 0 = .ok (.aload_n 0, 1) := by decide +kernel
theorem d_D_serve_1 : decode k_D_serve 1 = .ok (.iload_n 1, 1) := by decide +kernel
theorem d_D_serve_2 : decode k_D_serve 2 = .ok (.invokevirtual 182, 3) := by decide +kernel
theorem d_D_serve_5 : decode k_D_serve 5 = .ok (.istore_n 2, 1) := by decide +kernel
theorem d_D_serve_6 : decode k_D_serve 6 = .ok (.iload_n 2, 1) := by decide +kernel
theorem d_D_serve_7 : decode k_D_serve 7 = .ok (.ifCond .ge 4, 3) := by decide +kernel
theorem d_D_serve_10 : decode k_D_serve 10 = .ok (.return_, 1) := by decide +kernel
theorem d_D_serve_11 : decode k_D_serve 11 = .ok (.aload_n 0, 1) := by decide +kernel
theorem d_D_serve_12 : decode k_D_serve 12 = .ok (.aload_n 0, 1) := by decide +kernel
theorem d_D_serve_13 : decode k_D_serve 13 = .ok (.getfield 50, 3) := by decide +kernel
theorem d_D_serve_16 : decode k_D_serve 16 = .ok (.iload_n 2, 1) := by decide +kernel
theorem d_D_serve_17 : decode k_D_serve 17 = .ok (.iaload, 1) := by decide +kernel
theorem d_D_serve_18 : decode k_D_serve 18 = .ok (.invokevirtual 117, 3) := by decide +kernel
theorem d_D_serve_21 : decode k_D_serve 21 = .ok (.istore_n 3, 1) := by decide +kernel
theorem d_D_serve_22 : decode k_D_serve 22 = .ok (.aload_n 0, 1) := by decide +kernel
theorem d_D_serve_23 : decode k_D_serve 23 = .ok (.iload_n 2, 1) := by decide +kernel
theorem d_D_serve_24 : decode k_D_serve 24 = .ok (.invokevirtual 149, 3) := by decide +kernel
theorem d_D_serve_27 : decode k_D_serve 27 = .ok (.istore 4, 2) := by decide +kernel
theorem d_D_serve_29 : decode k_D_serve 29 = .ok (.aload_n 0, 1) := by decide +kernel
theorem d_D_serve_30 : decode k_D_serve 30 = .ok (.iload_n 1, 1) := by decide +kernel
theorem d_D_serve_31 : decode k_D_serve 31 = .ok (.iload 4, 2) := by decide +kernel
theorem d_D_serve_33 : decode k_D_serve 33 = .ok (.iload_n 3, 1) := by decide +kernel
theorem d_D_serve_34 : decode k_D_serve 34 = .ok (.iload 4, 2) := by decide +kernel
theorem d_D_serve_36 : decode k_D_serve 36 = .ok (.iconst 3, 1) := by decide +kernel
theorem d_D_serve_37 : decode k_D_serve 37 = .ok (.if_icmp .ne 17, 3) := by decide +kernel
theorem d_D_serve_40 : decode k_D_serve 40 = .ok (.aload_n 0, 1) := by decide +kernel
theorem d_D_serve_41 : decode k_D_serve 41 = .ok (.getfield 13, 3) := by decide +kernel
theorem d_D_serve_44 : decode k_D_serve 44 = .ok (.bipush 8, 2) := by decide +kernel
theorem d_D_serve_46 : decode k_D_serve 46 = .ok (.iload_n 1, 1) := by decide +kernel
theorem d_D_serve_47 : decode k_D_serve 47 = .ok (.imul, 1) := by decide +kernel
theorem d_D_serve_48 : decode k_D_serve 48 = .ok (.iload_n 3, 1) := by decide +kernel
theorem d_D_serve_49 : decode k_D_serve 49 = .ok (.iadd, 1) := by decide +kernel
theorem d_D_serve_50 : decode k_D_serve 50 = .ok (.iaload, 1) := by decide +kernel
theorem d_D_serve_51 : decode k_D_serve 51 = .ok (.goto 13, 3) := by decide +kernel
theorem d_D_serve_54 : decode k_D_serve 54 = .ok (.aload_n 0, 1) := by decide +kernel
theorem d_D_serve_55 : decode k_D_serve 55 = .ok (.aload_n 0, 1) := by decide +kernel
theorem d_D_serve_56 : decode k_D_serve 56 = .ok (.getfield 50, 3) := by decide +kernel
theorem d_D_serve_59 : decode k_D_serve 59 = .ok (.iload_n 2, 1) := by decide +kernel
theorem d_D_serve_60 : decode k_D_serve 60 = .ok (.iaload, 1) := by decide +kernel
theorem d_D_serve_61 : decode k_D_serve 61 = .ok (.invokevirtual 120, 3) := by decide +kernel
theorem d_D_serve_64 : decode k_D_serve 64 = .ok (.invokevirtual 178, 3) := by decide +kernel
theorem d_D_serve_67 : decode k_D_serve 67 = .ok (.aload_n 0, 1) := by decide +kernel
theorem d_D_serve_68 : decode k_D_serve 68 = .ok (.getfield 47, 3) := by decide +kernel
theorem d_D_serve_71 : decode k_D_serve 71 = .ok (.iload_n 1, 1) := by decide +kernel
theorem d_D_serve_72 : decode k_D_serve 72 = .ok (.iload_n 3, 1) := by decide +kernel
theorem d_D_serve_73 : decode k_D_serve 73 = .ok (.iastore, 1) := by decide +kernel
theorem d_D_serve_74 : decode k_D_serve 74 = .ok (.iload 4, 2) := by decide +kernel
theorem d_D_serve_76 : decode k_D_serve 76 = .ok (.iconst 1, 1) := by decide +kernel
theorem d_D_serve_77 : decode k_D_serve 77 = .ok (.if_icmp .eq 9, 3) := by decide +kernel
theorem d_D_serve_80 : decode k_D_serve 80 = .ok (.iload 4, 2) := by decide +kernel
theorem d_D_serve_82 : decode k_D_serve 82 = .ok (.iconst 2, 1) := by decide +kernel
theorem d_D_serve_83 : decode k_D_serve 83 = .ok (.if_icmp .ne 43, 3) := by decide +kernel
theorem d_D_serve_86 : decode k_D_serve 86 = .ok (.aload_n 0, 1) := by decide +kernel
theorem d_D_serve_87 : decode k_D_serve 87 = .ok (.getfield 59, 3) := by decide +kernel
theorem d_D_serve_90 : decode k_D_serve 90 = .ok (.iload_n 2, 1) := by decide +kernel
theorem d_D_serve_91 : decode k_D_serve 91 = .ok (.aload_n 0, 1) := by decide +kernel
theorem d_D_serve_92 : decode k_D_serve 92 = .ok (.getfield 139, 3) := by decide +kernel
theorem d_D_serve_95 : decode k_D_serve 95 = .ok (.iastore, 1) := by decide +kernel
theorem d_D_serve_96 : decode k_D_serve 96 = .ok (.aload_n 0, 1) := by decide +kernel
theorem d_D_serve_97 : decode k_D_serve 97 = .ok (.dup, 1) := by decide +kernel
theorem d_D_serve_98 : decode k_D_serve 98 = .ok (.getfield 185, 3) := by decide +kernel
theorem d_D_serve_101 : decode k_D_serve 101 = .ok (.iconst 1, 1) := by decide +kernel
theorem d_D_serve_102 : decode k_D_serve 102 = .ok (.iadd, 1) := by decide +kernel
theorem d_D_serve_103 : decode k_D_serve 103 = .ok (.putfield 185, 3) := by decide +kernel
theorem d_D_serve_106 : decode k_D_serve 106 = .ok (.aload_n 0, 1) := by decide +kernel
theorem d_D_serve_107 : decode k_D_serve 107 = .ok (.dup, 1) := by decide +kernel
theorem d_D_serve_108 : decode k_D_serve 108 = .ok (.getfield 188, 3) := by decide +kernel
theorem d_D_serve_111 : decode k_D_serve 111 = .ok (.aload_n 0, 1) := by decide +kernel
theorem d_D_serve_112 : decode k_D_serve 112 = .ok (.getfield 139, 3) := by decide +kernel
theorem d_D_serve_115 : decode k_D_serve 115 = .ok (.aload_n 0, 1) := by decide +kernel
theorem d_D_serve_116 : decode k_D_serve 116 = .ok (.getfield 56, 3) := by decide +kernel
theorem d_D_serve_119 : decode k_D_serve 119 = .ok (.iload_n 2, 1) := by decide +kernel
theorem d_D_serve_120 : decode k_D_serve 120 = .ok (.iaload, 1) := by decide +kernel
theorem d_D_serve_121 : decode k_D_serve 121 = .ok (.isub, 1) := by decide +kernel
theorem d_D_serve_122 : decode k_D_serve 122 = .ok (.iadd, 1) := by decide +kernel
theorem d_D_serve_123 : decode k_D_serve 123 = .ok (.putfield 188, 3) := by decide +kernel
theorem d_D_serve_126 : decode k_D_serve 126 = .ok (.return_, 1) := by decide +kernel
theorem d_D_run_0 : decode k_D_run 0 = .ok (.aload_n 0, 1) := by decide +kernel
theorem d_D_run_1 : decode k_D_run 1 = .ok (.iconst 0, 1) := by decide +kernel
theorem d_D_run_2 : decode k_D_run 2 = .ok (.putfield 97, 3) := by decide +kernel
theorem d_D_run_5 : decode k_D_run 5 = .ok (.iload_n 1, 1) := by decide +kernel
theorem d_D_run_6 : decode k_D_run 6 = .ok (.iconst 1, 1) := by decide +kernel
theorem d_D_run_7 : decode k_D_run 7 = .ok (.sipush 1000, 3) := by decide +kernel
theorem d_D_run_10 : decode k_D_run 10 = .ok (.invokestatic 102, 3) := by decide +kernel
theorem d_D_run_13 : decode k_D_run 13 = .ok (.ifCond .ne 9, 3) := by decide +kernel
theorem d_D_run_16 : decode k_D_run 16 = .ok (.aload_n 0, 1) := by decide +kernel
theorem d_D_run_17 : decode k_D_run 17 = .ok (.iconst 1, 1) := by decide +kernel
theorem d_D_run_18 : decode k_D_run 18 = .ok (.invokevirtual 110, 3) := by decide +kernel
theorem d_D_run_21 : decode k_D_run 21 = .ok (.ireturn, 1) := by decide +kernel
theorem d_D_run_22 : decode k_D_run 22 = .ok (.aload_n 0, 1) := by decide +kernel
theorem d_D_run_23 : decode k_D_run 23 = .ok (.getfield 185, 3) := by decide +kernel
theorem d_D_run_26 : decode k_D_run 26 = .ok (.istore_n 2, 1) := by decide +kernel
theorem d_D_run_27 : decode k_D_run 27 = .ok (.iconst 0, 1) := by decide +kernel
theorem d_D_run_28 : decode k_D_run 28 = .ok (.istore_n 3, 1) := by decide +kernel
theorem d_D_run_29 : decode k_D_run 29 = .ok (.iload_n 3, 1) := by decide +kernel
theorem d_D_run_30 : decode k_D_run 30 = .ok (.iload_n 1, 1) := by decide +kernel
theorem d_D_run_31 : decode k_D_run 31 = .ok (.if_icmp .ge 89, 3) := by decide +kernel
theorem d_D_run_34 : decode k_D_run 34 = .ok (.aload_n 0, 1) := by decide +kernel
theorem d_D_run_35 : decode k_D_run 35 = .ok (.dup, 1) := by decide +kernel
theorem d_D_run_36 : decode k_D_run 36 = .ok (.getfield 139, 3) := by decide +kernel
theorem d_D_run_39 : decode k_D_run 39 = .ok (.iconst 1, 1) := by decide +kernel
theorem d_D_run_40 : decode k_D_run 40 = .ok (.iadd, 1) := by decide +kernel
theorem d_D_run_41 : decode k_D_run 41 = .ok (.putfield 139, 3) := by decide +kernel
theorem d_D_run_44 : decode k_D_run 44 = .ok (.iconst 0, 1) := by decide +kernel
theorem d_D_run_45 : decode k_D_run 45 = .ok (.istore 4, 2) := by decide +kernel
theorem d_D_run_47 : decode k_D_run 47 = .ok (.iload 4, 2) := by decide +kernel
theorem d_D_run_49 : decode k_D_run 49 = .ok (.aload_n 0, 1) := by decide +kernel
theorem d_D_run_50 : decode k_D_run 50 = .ok (.getfield 80, 3) := by decide +kernel
theorem d_D_run_53 : decode k_D_run 53 = .ok (.if_icmp .ge 61, 3) := by decide +kernel
theorem d_D_run_56 : decode k_D_run 56 = .ok (.aload_n 0, 1) := by decide +kernel
theorem d_D_run_57 : decode k_D_run 57 = .ok (.getfield 136, 3) := by decide +kernel
theorem d_D_run_60 : decode k_D_run 60 = .ok (.ifCond .le 23, 3) := by decide +kernel
theorem d_D_run_63 : decode k_D_run 63 = .ok (.aload_n 0, 1) := by decide +kernel
theorem d_D_run_64 : decode k_D_run 64 = .ok (.getfield 139, 3) := by decide +kernel
theorem d_D_run_67 : decode k_D_run 67 = .ok (.aload_n 0, 1) := by decide +kernel
theorem d_D_run_68 : decode k_D_run 68 = .ok (.getfield 136, 3) := by decide +kernel
theorem d_D_run_71 : decode k_D_run 71 = .ok (.irem, 1) := by decide +kernel
theorem d_D_run_72 : decode k_D_run 72 = .ok (.ifCond .ne 11, 3) := by decide +kernel
theorem d_D_run_75 : decode k_D_run 75 = .ok (.aload_n 0, 1) := by decide +kernel
theorem d_D_run_76 : decode k_D_run 76 = .ok (.getfield 43, 3) := by decide +kernel
theorem d_D_run_79 : decode k_D_run 79 = .ok (.iload 4, 2) := by decide +kernel
theorem d_D_run_81 : decode k_D_run 81 = .ok (.iconst 1, 1) := by decide +kernel
theorem d_D_run_82 : decode k_D_run 82 = .ok (.bastore, 1) := by decide +kernel
theorem d_D_run_83 : decode k_D_run 83 = .ok (.aload_n 0, 1) := by decide +kernel
theorem d_D_run_84 : decode k_D_run 84 = .ok (.getfield 43, 3) := by decide +kernel
theorem d_D_run_87 : decode k_D_run 87 = .ok (.iload 4, 2) := by decide +kernel
theorem d_D_run_89 : decode k_D_run 89 = .ok (.baload, 1) := by decide +kernel
theorem d_D_run_90 : decode k_D_run 90 = .ok (.ifCond .eq 12, 3) := by decide +kernel
theorem d_D_run_93 : decode k_D_run 93 = .ok (.aload_n 0, 1) := by decide +kernel
theorem d_D_run_94 : decode k_D_run 94 = .ok (.iload 4, 2) := by decide +kernel
theorem d_D_run_96 : decode k_D_run 96 = .ok (.invokevirtual 191, 3) := by decide +kernel
theorem d_D_run_99 : decode k_D_run 99 = .ok (.goto 9, 3) := by decide +kernel
theorem d_D_run_102 : decode k_D_run 102 = .ok (.aload_n 0, 1) := by decide +kernel
theorem d_D_run_103 : decode k_D_run 103 = .ok (.iload 4, 2) := by decide +kernel
theorem d_D_run_105 : decode k_D_run 105 = .ok (.invokevirtual 194, 3) := by decide +kernel
theorem d_D_run_108 : decode k_D_run 108 = .ok (.iinc 4 1, 3) := by decide +kernel
theorem d_D_run_111 : decode k_D_run 111 = .ok (.goto (-64), 3) := by decide +kernel
theorem d_D_run_114 : decode k_D_run 114 = .ok (.iinc 3 1, 3) := by decide +kernel
theorem d_D_run_117 : decode k_D_run 117 = .ok (.goto (-88), 3) := by decide +kernel
theorem d_D_run_120 : decode k_D_run 120 = .ok (.aload_n 0, 1) := by decide +kernel
theorem d_D_run_121 : decode k_D_run 121 = .ok (.getfield 185, 3) := by decide +kernel
theorem d_D_run_124 : decode k_D_run 124 = .ok (.iload_n 2, 1) := by decide +kernel
theorem d_D_run_125 : decode k_D_run 125 = .ok (.isub, 1) := by decide +kernel
theorem d_D_run_126 : decode k_D_run 126 = .ok (.ireturn, 1) := by decide +kernel
theorem d_D_done_0 : decode k_D_done 0 = .ok (.aload_n 0, 1) := by decide +kernel
theorem d_D_done_1 : decode k_D_done 1 = .ok (.iconst 0, 1) := by decide +kernel
theorem d_D_done_2 : decode k_D_done 2 = .ok (.putfield 97, 3) := by decide +kernel
theorem d_D_done_5 : decode k_D_done 5 = .ok (.iload_n 1, 1) := by decide +kernel
theorem d_D_done_6 : decode k_D_done 6 = .ok (.iconst 0, 1) := by decide +kernel
theorem d_D_done_7 : decode k_D_done 7 = .ok (.aload_n 0, 1) := by decide +kernel
theorem d_D_done_8 : decode k_D_done 8 = .ok (.getfield 130, 3) := by decide +kernel
theorem d_D_done_11 : decode k_D_done 11 = .ok (.iconst 1, 1) := by decide +kernel
theorem d_D_done_12 : decode k_D_done 12 = .ok (.isub, 1) := by decide +kernel
theorem d_D_done_13 : decode k_D_done 13 = .ok (.invokestatic 102, 3) := by decide +kernel
theorem d_D_done_16 : decode k_D_done 16 = .ok (.ifCond .eq 12, 3) := by decide +kernel
theorem d_D_done_19 : decode k_D_done 19 = .ok (.aload_n 0, 1) := by decide +kernel
theorem d_D_done_20 : decode k_D_done 20 = .ok (.getfield 59, 3) := by decide +kernel
theorem d_D_done_23 : decode k_D_done 23 = .ok (.iload_n 1, 1) := by decide +kernel
theorem d_D_done_24 : decode k_D_done 24 = .ok (.iaload, 1) := by decide +kernel
theorem d_D_done_25 : decode k_D_done 25 = .ok (.goto 8, 3) := by decide +kernel
theorem d_D_done_28 : decode k_D_done 28 = .ok (.aload_n 0, 1) := by decide +kernel
theorem d_D_done_29 : decode k_D_done 29 = .ok (.iconst 1, 1) := by decide +kernel
theorem d_D_done_30 : decode k_D_done 30 = .ok (.invokevirtual 110, 3) := by decide +kernel
theorem d_D_done_33 : decode k_D_done 33 = .ok (.ireturn, 1) := by decide +kernel
theorem d_D_command_0 : decode k_D_command 0 = .ok (.aload_n 0, 1) := by decide +kernel
theorem d_D_command_1 : decode k_D_command 1 = .ok (.iconst 0, 1) := by decide +kernel
theorem d_D_command_2 : decode k_D_command 2 = .ok (.putfield 97, 3) := by decide +kernel
theorem d_D_command_5 : decode k_D_command 5 = .ok (.aload_n 0, 1) := by decide +kernel
theorem d_D_command_6 : decode k_D_command 6 = .ok (.getfield 142, 3) := by decide +kernel
theorem d_D_command_9 : decode k_D_command 9 = .ok (.sipush 512, 3) := by decide +kernel
theorem d_D_command_12 : decode k_D_command 12 = .ok (.if_icmp .ge 10, 3) := by decide +kernel
theorem d_D_command_15 : decode k_D_command 15 = .ok (.aload_n 0, 1) := by decide +kernel
theorem d_D_command_16 : decode k_D_command 16 = .ok (.getfield 142, 3) := by decide +kernel
theorem d_D_command_19 : decode k_D_command 19 = .ok (.goto 6, 3) := by decide +kernel
theorem d_D_command_22 : decode k_D_command 22 = .ok (.sipush 512, 3) := by decide +kernel
theorem d_D_command_25 : decode k_D_command 25 = .ok (.istore_n 3, 1) := by decide +kernel
theorem d_D_command_26 : decode k_D_command 26 = .ok (.iload_n 1, 1) := by decide +kernel
theorem d_D_command_27 : decode k_D_command 27 = .ok (.iconst 0, 1) := by decide +kernel
theorem d_D_command_28 : decode k_D_command 28 = .ok (.iload_n 3, 1) := by decide +kernel
theorem d_D_command_29 : decode k_D_command 29 = .ok (.iconst 1, 1) := by decide +kernel
theorem d_D_command_30 : decode k_D_command 30 = .ok (.isub, 1) := by decide +kernel
theorem d_D_command_31 : decode k_D_command 31 = .ok (.invokestatic 102, 3) := by decide +kernel
theorem d_D_command_34 : decode k_D_command 34 = .ok (.ifCond .eq 12, 3) := by decide +kernel
theorem d_D_command_37 : decode k_D_command 37 = .ok (.iload_n 2, 1) := by decide +kernel
theorem d_D_command_38 : decode k_D_command 38 = .ok (.iconst 0, 1) := by decide +kernel
theorem d_D_command_39 : decode k_D_command 39 = .ok (.iconst 4, 1) := by decide +kernel
theorem d_D_command_40 : decode k_D_command 40 = .ok (.invokestatic 102, 3) := by decide +kernel
theorem d_D_command_43 : decode k_D_command 43 = .ok (.ifCond .ne 9, 3) := by decide +kernel
theorem d_D_command_46 : decode k_D_command 46 = .ok (.aload_n 0, 1) := by decide +kernel
theorem d_D_command_47 : decode k_D_command 47 = .ok (.iconst 1, 1) := by decide +kernel
theorem d_D_command_48 : decode k_D_command 48 = .ok (.invokevirtual 110, 3) := by decide +kernel
theorem d_D_command_51 : decode k_D_command 51 = .ok (.ireturn, 1) := by decide +kernel
theorem d_D_command_52 : decode k_D_command 52 = .ok (.aload_n 0, 1) := by decide +kernel
theorem d_D_command_53 : decode k_D_command 53 = .ok (.getfield 142, 3) := by decide +kernel
theorem d_D_command_56 : decode k_D_command 56 = .ok (.iload_n 3, 1) := by decide +kernel
theorem d_D_command_57 : decode k_D_command 57 = .ok (.isub, 1) := by decide +kernel
theorem d_D_command_58 : decode k_D_command 58 = .ok (.iload_n 1, 1) := by decide +kernel
theorem d_D_command_59 : decode k_D_command 59 = .ok (.iadd, 1) := by decide +kernel
theorem d_D_command_60 : decode k_D_command 60 = .ok (.sipush 512, 3) := by decide +kernel
theorem d_D_command_63 : decode k_D_command 63 = .ok (.irem, 1) := by decide +kernel
theorem d_D_command_64 : decode k_D_command 64 = .ok (.istore 4, 2) := by decide +kernel
theorem d_D_command_66 : decode k_D_command 66 = .ok (.iload_n 2, 1) := by decide +kernel
theorem d_D_command_67 : decode k_D_command 67 = .ok (.ifCond .ne 13, 3) := by decide +kernel
theorem d_D_command_70 : decode k_D_command 70 = .ok (.aload_n 0, 1) := by decide +kernel
theorem d_D_command_71 : decode k_D_command 71 = .ok (.getfield 65, 3) := by decide +kernel
theorem d_D_command_74 : decode k_D_command 74 = .ok (.iload 4, 2) := by decide +kernel
theorem d_D_command_76 : decode k_D_command 76 = .ok (.iaload, 1) := by decide +kernel
theorem d_D_command_77 : decode k_D_command 77 = .ok (.goto 55, 3) := by decide +kernel
theorem d_D_command_80 : decode k_D_command 80 = .ok (.iload_n 2, 1) := by decide +kernel
theorem d_D_command_81 : decode k_D_command 81 = .ok (.iconst 1, 1) := by decide +kernel
theorem d_D_command_82 : decode k_D_command 82 = .ok (.if_icmp .ne 13, 3) := by decide +kernel
theorem d_D_command_85 : decode k_D_command 85 = .ok (.aload_n 0, 1) := by decide +kernel
theorem d_D_command_86 : decode k_D_command 86 = .ok (.getfield 68, 3) := by decide +kernel
theorem d_D_command_89 : decode k_D_command 89 = .ok (.iload 4, 2) := by decide +kernel
theorem d_D_command_91 : decode k_D_command 91 = .ok (.iaload, 1) := by decide +kernel
theorem d_D_command_92 : decode k_D_command 92 = .ok (.goto 40, 3) := by decide +kernel
theorem d_D_command_95 : decode k_D_command 95 = .ok (.iload_n 2, 1) := by decide +kernel
theorem d_D_command_96 : decode k_D_command 96 = .ok (.iconst 2, 1) := by decide +kernel
theorem d_D_command_97 : decode k_D_command 97 = .ok (.if_icmp .ne 13, 3) := by decide +kernel
theorem d_D_command_100 : decode k_D_command 100 = .ok (.aload_n 0, 1) := by decide +kernel
theorem d_D_command_101 : decode k_D_command 101 = .ok (.getfield 71, 3) := by decide +kernel
theorem d_D_command_104 : decode k_D_command 104 = .ok (.iload 4, 2) := by decide +kernel
theorem d_D_command_106 : decode k_D_command 106 = .ok (.iaload, 1) := by decide +kernel
theorem d_D_command_107 : decode k_D_command 107 = .ok (.goto 25, 3) := by decide +kernel
theorem d_D_command_110 : decode k_D_command 110 = .ok (.iload_n 2, 1) := by decide +kernel
theorem d_D_command_111 : decode k_D_command 111 = .ok (.iconst 3, 1) := by decide +kernel
theorem d_D_command_112 : decode k_D_command 112 = .ok (.if_icmp .ne 13, 3) := by decide +kernel
theorem d_D_command_115 : decode k_D_command 115 = .ok (.aload_n 0, 1) := by decide +kernel
theorem d_D_command_116 : decode k_D_command 116 = .ok (.getfield 74, 3) := by decide +kernel
theorem d_D_command_119 : decode k_D_command 119 = .ok (.iload 4, 2) := by decide +kernel
theorem d_D_command_121 : decode k_D_command 121 = .ok (.iaload, 1) := by decide +kernel
theorem d_D_command_122 : decode k_D_command 122 = .ok (.goto 10, 3) := by decide +kernel
theorem d_D_command_125 : decode k_D_command 125 = .ok (.aload_n 0, 1) := by decide +kernel
theorem d_D_command_126 : decode k_D_command 126 = .ok (.getfield 77, 3) := by decide +kernel
theorem d_D_command_129 : decode k_D_command 129 = .ok (.iload 4, 2) := by decide +kernel
theorem d_D_command_131 : decode k_D_command 131 = .ok (.iaload, 1) := by decide +kernel
theorem d_D_command_132 : decode k_D_command 132 = .ok (.ireturn, 1) := by decide +kernel
theorem d_D_open_0 : decode k_D_open 0 = .ok (.aload_n 0, 1) := by decide +kernel
theorem d_D_open_1 : decode k_D_open 1 = .ok (.iconst 0, 1) := by decide +kernel
theorem d_D_open_2 : decode k_D_open 2 = .ok (.putfield 97, 3) := by decide +kernel
theorem d_D_open_5 : decode k_D_open 5 = .ok (.iload_n 1, 1) := by decide +kernel
theorem d_D_open_6 : decode k_D_open 6 = .ok (.iconst 0, 1) := by decide +kernel
theorem d_D_open_7 : decode k_D_open 7 = .ok (.aload_n 0, 1) := by decide +kernel
theorem d_D_open_8 : decode k_D_open 8 = .ok (.getfield 80, 3) := by decide +kernel
theorem d_D_open_11 : decode k_D_open 11 = .ok (.iconst 1, 1) := by decide +kernel
theorem d_D_open_12 : decode k_D_open 12 = .ok (.isub, 1) := by decide +kernel
theorem d_D_open_13 : decode k_D_open 13 = .ok (.invokestatic 102, 3) := by decide +kernel
theorem d_D_open_16 : decode k_D_open 16 = .ok (.ifCond .eq 31, 3) := by decide +kernel
theorem d_D_open_19 : decode k_D_open 19 = .ok (.iload_n 2, 1) := by decide +kernel
theorem d_D_open_20 : decode k_D_open 20 = .ok (.iconst 0, 1) := by decide +kernel
theorem d_D_open_21 : decode k_D_open 21 = .ok (.aload_n 0, 1) := by decide +kernel
theorem d_D_open_22 : decode k_D_open 22 = .ok (.getfield 87, 3) := by decide +kernel
theorem d_D_open_25 : decode k_D_open 25 = .ok (.iconst 1, 1) := by decide +kernel
theorem d_D_open_26 : decode k_D_open 26 = .ok (.isub, 1) := by decide +kernel
theorem d_D_open_27 : decode k_D_open 27 = .ok (.invokestatic 102, 3) := by decide +kernel
theorem d_D_open_30 : decode k_D_open 30 = .ok (.ifCond .eq 17, 3) := by decide +kernel
theorem d_D_open_33 : decode k_D_open 33 = .ok (.aload_n 0, 1) := by decide +kernel
theorem d_D_open_34 : decode k_D_open 34 = .ok (.getfield 13, 3) := by decide +kernel
theorem d_D_open_37 : decode k_D_open 37 = .ok (.bipush 8, 2) := by decide +kernel
theorem d_D_open_39 : decode k_D_open 39 = .ok (.iload_n 1, 1) := by decide +kernel
theorem d_D_open_40 : decode k_D_open 40 = .ok (.imul, 1) := by decide +kernel
theorem d_D_open_41 : decode k_D_open 41 = .ok (.iload_n 2, 1) := by decide +kernel
theorem d_D_open_42 : decode k_D_open 42 = .ok (.iadd, 1) := by decide +kernel
theorem d_D_open_43 : decode k_D_open 43 = .ok (.iaload, 1) := by decide +kernel
theorem d_D_open_44 : decode k_D_open 44 = .ok (.goto 8, 3) := by decide +kernel
theorem d_D_open_47 : decode k_D_open 47 = .ok (.aload_n 0, 1) := by decide +kernel
theorem d_D_open_48 : decode k_D_open 48 = .ok (.iconst 1, 1) := by decide +kernel
theorem d_D_open_49 : decode k_D_open 49 = .ok (.invokevirtual 110, 3) := by decide +kernel
theorem d_D_open_52 : decode k_D_open 52 = .ok (.ireturn, 1) := by decide +kernel
theorem d_D_begin_0 : decode k_D_begin 0 = .ok (.aload_n 0, 1) := by decide +kernel
theorem d_D_begin_1 : decode k_D_begin 1 = .ok (.iconst 0, 1) := by decide +kernel
theorem d_D_begin_2 : decode k_D_begin 2 = .ok (.putfield 97, 3) := by decide +kernel
theorem d_D_begin_5 : decode k_D_begin 5 = .ok (.aload_n 0, 1) := by decide +kernel
theorem d_D_begin_6 : decode k_D_begin 6 = .ok (.iconst 2, 1) := by decide +kernel
theorem d_D_begin_7 : decode k_D_begin 7 = .ok (.invokevirtual 93, 3) := by decide +kernel
theorem d_D_begin_10 : decode k_D_begin 10 = .ok (.aload_n 0, 1) := by decide +kernel
theorem d_D_begin_11 : decode k_D_begin 11 = .ok (.iconst 3, 1) := by decide +kernel
theorem d_D_begin_12 : decode k_D_begin 12 = .ok (.invokevirtual 93, 3) := by decide +kernel
theorem d_D_begin_15 : decode k_D_begin 15 = .ok (.return_, 1) := by decide +kernel
theorem d_D_check_0 : decode k_D_check 0 = .ok (.aload_n 0, 1) := by decide +kernel
theorem d_D_check_1 : decode k_D_check 1 = .ok (.iconst 0, 1) := by decide +kernel
theorem d_D_check_2 : decode k_D_check 2 = .ok (.putfield 97, 3) := by decide +kernel
theorem d_D_check_5 : decode k_D_check 5 = .ok (.iload_n 1, 1) := by decide +kernel
theorem d_D_check_6 : decode k_D_check 6 = .ok (.iconst 0, 1) := by decide +kernel
theorem d_D_check_7 : decode k_D_check 7 = .ok (.aload_n 0, 1) := by decide +kernel
theorem d_D_check_8 : decode k_D_check 8 = .ok (.getfield 80, 3) := by decide +kernel
theorem d_D_check_11 : decode k_D_check 11 = .ok (.iconst 1, 1) := by decide +kernel
theorem d_D_check_12 : decode k_D_check 12 = .ok (.isub, 1) := by decide +kernel
theorem d_D_check_13 : decode k_D_check 13 = .ok (.invokestatic 102, 3) := by decide +kernel
theorem d_D_check_16 : decode k_D_check 16 = .ok (.ifCond .eq 46, 3) := by decide +kernel
theorem d_D_check_19 : decode k_D_check 19 = .ok (.iload_n 3, 1) := by decide +kernel
theorem d_D_check_20 : decode k_D_check 20 = .ok (.iconst 0, 1) := by decide +kernel
theorem d_D_check_21 : decode k_D_check 21 = .ok (.iconst 4, 1) := by decide +kernel
theorem d_D_check_22 : decode k_D_check 22 = .ok (.invokestatic 102, 3) := by decide +kernel
theorem d_D_check_25 : decode k_D_check 25 = .ok (.ifCond .eq 37, 3) := by decide +kernel
theorem d_D_check_28 : decode k_D_check 28 = .ok (.iload 4, 2) := by decide +kernel
theorem d_D_check_30 : decode k_D_check 30 = .ok (.iconst 0, 1) := by decide +kernel
theorem d_D_check_31 : decode k_D_check 31 = .ok (.aload_n 0, 1) := by decide +kernel
theorem d_D_check_32 : decode k_D_check 32 = .ok (.getfield 87, 3) := by decide +kernel
theorem d_D_check_35 : decode k_D_check 35 = .ok (.iconst 1, 1) := by decide +kernel
theorem d_D_check_36 : decode k_D_check 36 = .ok (.isub, 1) := by decide +kernel
theorem d_D_check_37 : decode k_D_check 37 = .ok (.invokestatic 102, 3) := by decide +kernel
theorem d_D_check_40 : decode k_D_check 40 = .ok (.ifCond .eq 22, 3) := by decide +kernel
theorem d_D_check_43 : decode k_D_check 43 = .ok (.iload_n 2, 1) := by decide +kernel
theorem d_D_check_44 : decode k_D_check 44 = .ok (.ifCond .lt 18, 3) := by decide +kernel
theorem d_D_check_47 : decode k_D_check 47 = .ok (.iload 5, 2) := by decide +kernel
theorem d_D_check_49 : decode k_D_check 49 = .ok (.iconst 0, 1) := by decide +kernel
theorem d_D_check_50 : decode k_D_check 50 = .ok (.ldc 197, 2) := by decide +kernel
theorem d_D_check_52 : decode k_D_check 52 = .ok (.invokestatic 102, 3) := by decide +kernel
theorem d_D_check_55 : decode k_D_check 55 = .ok (.ifCond .eq 7, 3) := by decide +kernel
theorem d_D_check_58 : decode k_D_check 58 = .ok (.iconst 1, 1) := by decide +kernel
theorem d_D_check_59 : decode k_D_check 59 = .ok (.goto 4, 3) := by decide +kernel
theorem d_D_check_62 : decode k_D_check 62 = .ok (.iconst 0, 1) := by decide +kernel
theorem d_D_check_63 : decode k_D_check 63 = .ok (.istore 6, 2) := by decide +kernel
theorem d_D_check_65 : decode k_D_check 65 = .ok (.iload 6, 2) := by decide +kernel
theorem d_D_check_67 : decode k_D_check 67 = .ok (.ifCond .eq 18, 3) := by decide +kernel
theorem d_D_check_70 : decode k_D_check 70 = .ok (.iload_n 3, 1) := by decide +kernel
theorem d_D_check_71 : decode k_D_check 71 = .ok (.iconst 4, 1) := by decide +kernel
theorem d_D_check_72 : decode k_D_check 72 = .ok (.if_icmp .ne 19, 3) := by decide +kernel
theorem d_D_check_75 : decode k_D_check 75 = .ok (.iload 4, 2) := by decide +kernel
theorem d_D_check_77 : decode k_D_check 77 = .ok (.ifCond .ne 8, 3) := by decide +kernel
theorem d_D_check_80 : decode k_D_check 80 = .ok (.iload 5, 2) := by decide +kernel
theorem d_D_check_82 : decode k_D_check 82 = .ok (.ifCond .eq 9, 3) := by decide +kernel
theorem d_D_check_85 : decode k_D_check 85 = .ok (.aload_n 0, 1) := by decide +kernel
theorem d_D_check_86 : decode k_D_check 86 = .ok (.iconst 1, 1) := by decide +kernel
theorem d_D_check_87 : decode k_D_check 87 = .ok (.invokevirtual 110, 3) := by decide +kernel
theorem d_D_check_90 : decode k_D_check 90 = .ok (.ireturn, 1) := by decide +kernel
theorem d_D_check_91 : decode k_D_check 91 = .ok (.iconst 2, 1) := by decide +kernel
theorem d_D_check_92 : decode k_D_check 92 = .ok (.iload_n 1, 1) := by decide +kernel
theorem d_D_check_93 : decode k_D_check 93 = .ok (.iadd, 1) := by decide +kernel
theorem d_D_check_94 : decode k_D_check 94 = .ok (.istore 7, 2) := by decide +kernel
theorem d_D_check_96 : decode k_D_check 96 = .ok (.iload_n 2, 1) := by decide +kernel
theorem d_D_check_97 : decode k_D_check 97 = .ok (.aload_n 0, 1) := by decide +kernel
theorem d_D_check_98 : decode k_D_check 98 = .ok (.getfield 40, 3) := by decide +kernel
theorem d_D_check_101 : decode k_D_check 101 = .ok (.iload 7, 2) := by decide +kernel
theorem d_D_check_103 : decode k_D_check 103 = .ok (.iaload, 1) := by decide +kernel
theorem d_D_check_104 : decode k_D_check 104 = .ok (.if_icmp .gt 5, 3) := by decide +kernel
theorem d_D_check_107 : decode k_D_check 107 = .ok (.iconst 1, 1) := by decide +kernel
theorem d_D_check_108 : decode k_D_check 108 = .ok (.ireturn, 1) := by decide +kernel
theorem d_D_check_109 : decode k_D_check 109 = .ok (.aload_n 0, 1) := by decide +kernel
theorem d_D_check_110 : decode k_D_check 110 = .ok (.iload 7, 2) := by decide +kernel
theorem d_D_check_112 : decode k_D_check 112 = .ok (.iload_n 3, 1) := by decide +kernel
theorem d_D_check_113 : decode k_D_check 113 = .ok (.iload 4, 2) := by decide +kernel
theorem d_D_check_115 : decode k_D_check 115 = .ok (.iload 5, 2) := by decide +kernel
theorem d_D_check_117 : decode k_D_check 117 = .ok (.invokevirtual 198, 3) := by decide +kernel
theorem d_D_check_120 : decode k_D_check 120 = .ok (.ifCond .ne 5, 3) := by decide +kernel
theorem d_D_check_123 : decode k_D_check 123 = .ok (.iconst 2, 1) := by decide +kernel
theorem d_D_check_124 : decode k_D_check 124 = .ok (.ireturn, 1) := by decide +kernel
theorem d_D_check_125 : decode k_D_check 125 = .ok (.aload_n 0, 1) := by decide +kernel
theorem d_D_check_126 : decode k_D_check 126 = .ok (.iload 7, 2) := by decide +kernel
theorem d_D_check_128 : decode k_D_check 128 = .ok (.iload_n 3, 1) := by decide +kernel
theorem d_D_check_129 : decode k_D_check 129 = .ok (.iload 4, 2) := by decide +kernel
theorem d_D_check_131 : decode k_D_check 131 = .ok (.iload_n 2, 1) := by decide +kernel
theorem d_D_check_132 : decode k_D_check 132 = .ok (.invokevirtual 152, 3) := by decide +kernel
theorem d_D_check_135 : decode k_D_check 135 = .ok (.istore 8, 2) := by decide +kernel
theorem d_D_check_137 : decode k_D_check 137 = .ok (.iload 8, 2) := by decide +kernel
theorem d_D_check_139 : decode k_D_check 139 = .ok (.ifCond .lt 8, 3) := by decide +kernel
theorem d_D_check_142 : decode k_D_check 142 = .ok (.iconst 3, 1) := by decide +kernel
theorem d_D_check_143 : decode k_D_check 143 = .ok (.iload 8, 2) := by decide +kernel
theorem d_D_check_145 : decode k_D_check 145 = .ok (.iadd, 1) := by decide +kernel
theorem d_D_check_146 : decode k_D_check 146 = .ok (.ireturn, 1) := by decide +kernel
theorem d_D_check_147 : decode k_D_check 147 = .ok (.aload_n 0, 1) := by decide +kernel
theorem d_D_check_148 : decode k_D_check 148 = .ok (.iload 7, 2) := by decide +kernel
theorem d_D_check_150 : decode k_D_check 150 = .ok (.iload_n 3, 1) := by decide +kernel
theorem d_D_check_151 : decode k_D_check 151 = .ok (.iload 4, 2) := by decide +kernel
theorem d_D_check_153 : decode k_D_check 153 = .ok (.iload 5, 2) := by decide +kernel
theorem d_D_check_155 : decode k_D_check 155 = .ok (.iload_n 2, 1) := by decide +kernel
theorem d_D_check_156 : decode k_D_check 156 = .ok (.invokevirtual 145, 3) := by decide +kernel
theorem d_D_check_159 : decode k_D_check 159 = .ok (.aload_n 0, 1) := by decide +kernel
theorem d_D_check_160 : decode k_D_check 160 = .ok (.getfield 40, 3) := by decide +kernel
theorem d_D_check_163 : decode k_D_check 163 = .ok (.iload 7, 2) := by decide +kernel
theorem d_D_check_165 : decode k_D_check 165 = .ok (.iload_n 2, 1) := by decide +kernel
theorem d_D_check_166 : decode k_D_check 166 = .ok (.iastore, 1) := by decide +kernel
theorem d_D_check_167 : decode k_D_check 167 = .ok (.iconst 0, 1) := by decide +kernel
theorem d_D_check_168 : decode k_D_check 168 = .ok (.ireturn, 1) := by decide +kernel
theorem d_D_count_0 : decode k_D_count 0 = .ok (.aload_n 0, 1) := by decide +kernel
theorem d_D_count_1 : decode k_D_count 1 = .ok (.iconst 0, 1) := by decide +kernel
theorem d_D_count_2 : decode k_D_count 2 = .ok (.putfield 97, 3) := by decide +kernel
theorem d_D_count_5 : decode k_D_count 5 = .ok (.iload_n 1, 1) := by decide +kernel
theorem d_D_count_6 : decode k_D_count 6 = .ok (.iconst 0, 1) := by decide +kernel
theorem d_D_count_7 : decode k_D_count 7 = .ok (.bipush 13, 2) := by decide +kernel
theorem d_D_count_9 : decode k_D_count 9 = .ok (.invokestatic 102, 3) := by decide +kernel
theorem d_D_count_12 : decode k_D_count 12 = .ok (.ifCond .ne 5, 3) := by decide +kernel
theorem d_D_count_15 : decode k_D_count 15 = .ok (.iconst (-1), 1) := by decide +kernel
theorem d_D_count_16 : decode k_D_count 16 = .ok (.ireturn, 1) := by decide +kernel
theorem d_D_count_17 : decode k_D_count 17 = .ok (.iload_n 1, 1) := by decide +kernel
theorem d_D_count_18 : decode k_D_count 18 = .ok (.iconst 4, 1) := by decide +kernel
theorem d_D_count_19 : decode k_D_count 19 = .ok (.bipush 8, 2) := by decide +kernel
theorem d_D_count_21 : decode k_D_count 21 = .ok (.invokestatic 102, 3) := by decide +kernel
theorem d_D_count_24 : decode k_D_count 24 = .ok (.ifCond .eq 12, 3) := by decide +kernel
theorem d_D_count_27 : decode k_D_count 27 = .ok (.aload_n 0, 1) := by decide +kernel
theorem d_D_count_28 : decode k_D_count 28 = .ok (.getfield 62, 3) := by decide +kernel
theorem d_D_count_31 : decode k_D_count 31 = .ok (.iload_n 1, 1) := by decide +kernel
theorem d_D_count_32 : decode k_D_count 32 = .ok (.iconst 4, 1) := by decide +kernel
theorem d_D_count_33 : decode k_D_count 33 = .ok (.isub, 1) := by decide +kernel
theorem d_D_count_34 : decode k_D_count 34 = .ok (.iaload, 1) := by decide +kernel
theorem d_D_count_35 : decode k_D_count 35 = .ok (.ireturn, 1) := by decide +kernel
theorem d_D_count_36 : decode k_D_count 36 = .ok (.iload_n 1, 1) := by decide +kernel
theorem d_D_count_37 : decode k_D_count 37 = .ok (.tableswitch 133 0 12 #[67, 72, 77, 82, 133, 133, 133, 133, 133, 87, 117, 123, 128], 67) := by decide +kernel
theorem d_D_count_104 : decode k_D_count 104 = .ok (.aload_n 0, 1) := by decide +kernel
theorem d_D_count_105 : decode k_D_count 105 = .ok (.getfield 139, 3) := by decide +kernel
theorem d_D_count_108 : decode k_D_count 108 = .ok (.ireturn, 1) := by decide +kernel
theorem d_D_count_109 : decode k_D_count 109 = .ok (.aload_n 0, 1) := by decide +kernel
theorem d_D_count_110 : decode k_D_count 110 = .ok (.getfield 130, 3) := by decide +kernel
theorem d_D_count_113 : decode k_D_count 113 = .ok (.ireturn, 1) := by decide +kernel
theorem d_D_count_114 : decode k_D_count 114 = .ok (.aload_n 0, 1) := by decide +kernel
theorem d_D_count_115 : decode k_D_count 115 = .ok (.getfield 185, 3) := by decide +kernel
theorem d_D_count_118 : decode k_D_count 118 = .ok (.ireturn, 1) := by decide +kernel
theorem d_D_count_119 : decode k_D_count 119 = .ok (.aload_n 0, 1) := by decide +kernel
theorem d_D_count_120 : decode k_D_count 120 = .ok (.getfield 142, 3) := by decide +kernel
theorem d_D_count_123 : decode k_D_count 123 = .ok (.ireturn, 1) := by decide +kernel
theorem d_D_count_124 : decode k_D_count 124 = .ok (.aload_n 0, 1) := by decide +kernel
theorem d_D_count_125 : decode k_D_count 125 = .ok (.getfield 43, 3) := by decide +kernel
theorem d_D_count_128 : decode k_D_count 128 = .ok (.iconst 0, 1) := by decide +kernel
theorem d_D_count_129 : decode k_D_count 129 = .ok (.baload, 1) := by decide +kernel
theorem d_D_count_130 : decode k_D_count 130 = .ok (.ifCond .eq 7, 3) := by decide +kernel
theorem d_D_count_133 : decode k_D_count 133 = .ok (.iconst 1, 1) := by decide +kernel
theorem d_D_count_134 : decode k_D_count 134 = .ok (.goto 4, 3) := by decide +kernel
theorem d_D_count_137 : decode k_D_count 137 = .ok (.iconst 0, 1) := by decide +kernel
theorem d_D_count_138 : decode k_D_count 138 = .ok (.aload_n 0, 1) := by decide +kernel
theorem d_D_count_139 : decode k_D_count 139 = .ok (.getfield 43, 3) := by decide +kernel
theorem d_D_count_142 : decode k_D_count 142 = .ok (.iconst 1, 1) := by decide +kernel
theorem d_D_count_143 : decode k_D_count 143 = .ok (.baload, 1) := by decide +kernel
theorem d_D_count_144 : decode k_D_count 144 = .ok (.ifCond .eq 7, 3) := by decide +kernel
theorem d_D_count_147 : decode k_D_count 147 = .ok (.iconst 1, 1) := by decide +kernel
theorem d_D_count_148 : decode k_D_count 148 = .ok (.goto 4, 3) := by decide +kernel
theorem d_D_count_151 : decode k_D_count 151 = .ok (.iconst 0, 1) := by decide +kernel
theorem d_D_count_152 : decode k_D_count 152 = .ok (.iadd, 1) := by decide +kernel
theorem d_D_count_153 : decode k_D_count 153 = .ok (.ireturn, 1) := by decide +kernel
theorem d_D_count_154 : decode k_D_count 154 = .ok (.aload_n 0, 1) := by decide +kernel
theorem d_D_count_155 : decode k_D_count 155 = .ok (.iconst (-1), 1) := by decide +kernel
theorem d_D_count_156 : decode k_D_count 156 = .ok (.invokevirtual 133, 3) := by decide +kernel
theorem d_D_count_159 : decode k_D_count 159 = .ok (.ireturn, 1) := by decide +kernel
theorem d_D_count_160 : decode k_D_count 160 = .ok (.aload_n 0, 1) := by decide +kernel
theorem d_D_count_161 : decode k_D_count 161 = .ok (.getfield 188, 3) := by decide +kernel
theorem d_D_count_164 : decode k_D_count 164 = .ok (.ireturn, 1) := by decide +kernel
theorem d_D_count_165 : decode k_D_count 165 = .ok (.aload_n 0, 1) := by decide +kernel
theorem d_D_count_166 : decode k_D_count 166 = .ok (.getfield 80, 3) := by decide +kernel
theorem d_D_count_169 : decode k_D_count 169 = .ok (.ireturn, 1) := by decide +kernel
theorem d_D_count_170 : decode k_D_count 170 = .ok (.aload_n 0, 1) := by decide +kernel
theorem d_D_count_171 : decode k_D_count 171 = .ok (.getfield 87, 3) := by decide +kernel
theorem d_D_count_174 : decode k_D_count 174 = .ok (.ireturn, 1) := by decide +kernel
end
section
theorem d_L_cell_0 : decode k_L_cell 0 = .ok (.iload_n 1, 1) := by decide +kernel
theorem d_L_cell_1 : decode k_L_cell 1 = .ok (.aload_n 0, 1) := by decide +kernel
theorem d_L_cell_2 : decode k_L_cell 2 = .ok (.arraylength, 1) := by decide +kernel
theorem d_L_cell_3 : decode k_L_cell 3 = .ok (.if_icmp .ge 9, 3) := by decide +kernel
theorem d_L_cell_6 : decode k_L_cell 6 = .ok (.aload_n 0, 1) := by decide +kernel
theorem d_L_cell_7 : decode k_L_cell 7 = .ok (.iload_n 1, 1) := by decide +kernel
theorem d_L_cell_8 : decode k_L_cell 8 = .ok (.iaload, 1) := by decide +kernel
theorem d_L_cell_9 : decode k_L_cell 9 = .ok (.goto 4, 3) := by decide +kernel
theorem d_L_cell_12 : decode k_L_cell 12 = .ok (.iconst 0, 1) := by decide +kernel
theorem d_L_cell_13 : decode k_L_cell 13 = .ok (.ireturn, 1) := by decide +kernel
theorem d_L_time_0 : decode k_L_time 0 = .ok (.aload_n 3, 1) := by decide +kernel
theorem d_L_time_1 : decode k_L_time 1 = .ok (.iconst 0, 1) := by decide +kernel
theorem d_L_time_2 : decode k_L_time 2 = .ok (.aload_n 0, 1) := by decide +kernel
theorem d_L_time_3 : decode k_L_time 3 = .ok (.iload_n 1, 1) := by decide +kernel
theorem d_L_time_4 : decode k_L_time 4 = .ok (.iload_n 2, 1) := by decide +kernel
theorem d_L_time_5 : decode k_L_time 5 = .ok (.invokevirtual 7, 3) := by decide +kernel
theorem d_L_time_8 : decode k_L_time 8 = .ok (.i2l, 1) := by decide +kernel
theorem d_L_time_9 : decode k_L_time 9 = .ok (.lastore, 1) := by decide +kernel
theorem d_L_time_10 : decode k_L_time 10 = .ok (.goto 15, 3) := by decide +kernel
theorem d_L_time_13 : decode k_L_time 13 = .ok (.astore 4, 2) := by decide +kernel
theorem d_L_time_15 : decode k_L_time 15 = .ok (.iconst 1, 1) := by decide +kernel
theorem d_L_time_16 : decode k_L_time 16 = .ok (.ireturn, 1) := by decide +kernel
theorem d_L_time_17 : decode k_L_time 17 = .ok (.astore 4, 2) := by decide +kernel
theorem d_L_time_19 : decode k_L_time 19 = .ok (.iconst 2, 1) := by decide +kernel
theorem d_L_time_20 : decode k_L_time 20 = .ok (.ireturn, 1) := by decide +kernel
theorem d_L_time_21 : decode k_L_time 21 = .ok (.astore 4, 2) := by decide +kernel
theorem d_L_time_23 : decode k_L_time 23 = .ok (.iconst 3, 1) := by decide +kernel
theorem d_L_time_24 : decode k_L_time 24 = .ok (.ireturn, 1) := by decide +kernel
theorem d_L_time_25 : decode k_L_time 25 = .ok (.iconst 0, 1) := by decide +kernel
theorem d_L_time_26 : decode k_L_time 26 = .ok (.ireturn, 1) := by decide +kernel
theorem d_L_span_0 : decode k_L_span 0 = .ok (.aload_n 2, 1) := by decide +kernel
theorem d_L_span_1 : decode k_L_span 1 = .ok (.iconst 0, 1) := by decide +kernel
theorem d_L_span_2 : decode k_L_span 2 = .ok (.aload_n 0, 1) := by decide +kernel
theorem d_L_span_3 : decode k_L_span 3 = .ok (.iload_n 1, 1) := by decide +kernel
theorem d_L_span_4 : decode k_L_span 4 = .ok (.invokevirtual 19, 3) := by decide +kernel
theorem d_L_span_7 : decode k_L_span 7 = .ok (.i2l, 1) := by decide +kernel
theorem d_L_span_8 : decode k_L_span 8 = .ok (.lastore, 1) := by decide +kernel
theorem d_L_span_9 : decode k_L_span 9 = .ok (.goto 6, 3) := by decide +kernel
theorem d_L_span_12 : decode k_L_span 12 = .ok (.astore_n 3, 1) := by decide +kernel
theorem d_L_span_13 : decode k_L_span 13 = .ok (.iconst 1, 1) := by decide +kernel
theorem d_L_span_14 : decode k_L_span 14 = .ok (.ireturn, 1) := by decide +kernel
theorem d_L_span_15 : decode k_L_span 15 = .ok (.iconst 0, 1) := by decide +kernel
theorem d_L_span_16 : decode k_L_span 16 = .ok (.ireturn, 1) := by decide +kernel
theorem d_L_ask_0 : decode k_L_ask 0 = .ok (.aload_n 3, 1) := by decide +kernel
theorem d_L_ask_1 : decode k_L_ask 1 = .ok (.iconst 0, 1) := by decide +kernel
theorem d_L_ask_2 : decode k_L_ask 2 = .ok (.aload_n 0, 1) := by decide +kernel
theorem d_L_ask_3 : decode k_L_ask 3 = .ok (.iload_n 1, 1) := by decide +kernel
theorem d_L_ask_4 : decode k_L_ask 4 = .ok (.iload_n 2, 1) := by decide +kernel
theorem d_L_ask_5 : decode k_L_ask 5 = .ok (.invokevirtual 23, 3) := by decide +kernel
theorem d_L_ask_8 : decode k_L_ask 8 = .ok (.i2l, 1) := by decide +kernel
theorem d_L_ask_9 : decode k_L_ask 9 = .ok (.lastore, 1) := by decide +kernel
theorem d_L_ask_10 : decode k_L_ask 10 = .ok (.goto 11, 3) := by decide +kernel
theorem d_L_ask_13 : decode k_L_ask 13 = .ok (.astore 4, 2) := by decide +kernel
theorem d_L_ask_15 : decode k_L_ask 15 = .ok (.iconst 1, 1) := by decide +kernel
theorem d_L_ask_16 : decode k_L_ask 16 = .ok (.ireturn, 1) := by decide +kernel
theorem d_L_ask_17 : decode k_L_ask 17 = .ok (.astore 4, 2) := by decide +kernel
theorem d_L_ask_19 : decode k_L_ask 19 = .ok (.iconst 2, 1) := by decide +kernel
theorem d_L_ask_20 : decode k_L_ask 20 = .ok (.ireturn, 1) := by decide +kernel
theorem d_L_ask_21 : decode k_L_ask 21 = .ok (.iconst 0, 1) := by decide +kernel
theorem d_L_ask_22 : decode k_L_ask 22 = .ok (.ireturn, 1) := by decide +kernel
theorem d_L_run_0 : decode k_L_run 0 = .ok (.aload_n 2, 1) := by decide +kernel
theorem d_L_run_1 : decode k_L_run 1 = .ok (.iconst 0, 1) := by decide +kernel
theorem d_L_run_2 : decode k_L_run 2 = .ok (.aload_n 0, 1) := by decide +kernel
theorem d_L_run_3 : decode k_L_run 3 = .ok (.iload_n 1, 1) := by decide +kernel
theorem d_L_run_4 : decode k_L_run 4 = .ok (.invokevirtual 29, 3) := by decide +kernel
theorem d_L_run_7 : decode k_L_run 7 = .ok (.i2l, 1) := by decide +kernel
theorem d_L_run_8 : decode k_L_run 8 = .ok (.lastore, 1) := by decide +kernel
theorem d_L_run_9 : decode k_L_run 9 = .ok (.goto 6, 3) := by decide +kernel
theorem d_L_run_12 : decode k_L_run 12 = .ok (.astore_n 3, 1) := by decide +kernel
theorem d_L_run_13 : decode k_L_run 13 = .ok (.iconst 1, 1) := by decide +kernel
theorem d_L_run_14 : decode k_L_run 14 = .ok (.ireturn, 1) := by decide +kernel
theorem d_L_run_15 : decode k_L_run 15 = .ok (.iconst 0, 1) := by decide +kernel
theorem d_L_run_16 : decode k_L_run 16 = .ok (.ireturn, 1) := by decide +kernel
theorem d_L_done_0 : decode k_L_done 0 = .ok (.aload_n 2, 1) := by decide +kernel
theorem d_L_done_1 : decode k_L_done 1 = .ok (.iconst 0, 1) := by decide +kernel
theorem d_L_done_2 : decode k_L_done 2 = .ok (.aload_n 0, 1) := by decide +kernel
theorem d_L_done_3 : decode k_L_done 3 = .ok (.iload_n 1, 1) := by decide +kernel
theorem d_L_done_4 : decode k_L_done 4 = .ok (.invokevirtual 32, 3) := by decide +kernel
theorem d_L_done_7 : decode k_L_done 7 = .ok (.i2l, 1) := by decide +kernel
theorem d_L_done_8 : decode k_L_done 8 = .ok (.lastore, 1) := by decide +kernel
theorem d_L_done_9 : decode k_L_done 9 = .ok (.goto 6, 3) := by decide +kernel
theorem d_L_done_12 : decode k_L_done 12 = .ok (.astore_n 3, 1) := by decide +kernel
theorem d_L_done_13 : decode k_L_done 13 = .ok (.iconst 1, 1) := by decide +kernel
theorem d_L_done_14 : decode k_L_done 14 = .ok (.ireturn, 1) := by decide +kernel
theorem d_L_done_15 : decode k_L_done 15 = .ok (.iconst 0, 1) := by decide +kernel
theorem d_L_done_16 : decode k_L_done 16 = .ok (.ireturn, 1) := by decide +kernel
theorem d_L_command_0 : decode k_L_command 0 = .ok (.aload_n 3, 1) := by decide +kernel
theorem d_L_command_1 : decode k_L_command 1 = .ok (.iconst 0, 1) := by decide +kernel
theorem d_L_command_2 : decode k_L_command 2 = .ok (.aload_n 0, 1) := by decide +kernel
theorem d_L_command_3 : decode k_L_command 3 = .ok (.iload_n 1, 1) := by decide +kernel
theorem d_L_command_4 : decode k_L_command 4 = .ok (.iload_n 2, 1) := by decide +kernel
theorem d_L_command_5 : decode k_L_command 5 = .ok (.invokevirtual 35, 3) := by decide +kernel
theorem d_L_command_8 : decode k_L_command 8 = .ok (.i2l, 1) := by decide +kernel
theorem d_L_command_9 : decode k_L_command 9 = .ok (.lastore, 1) := by decide +kernel
theorem d_L_command_10 : decode k_L_command 10 = .ok (.goto 7, 3) := by decide +kernel
theorem d_L_command_13 : decode k_L_command 13 = .ok (.astore 4, 2) := by decide +kernel
theorem d_L_command_15 : decode k_L_command 15 = .ok (.iconst 1, 1) := by decide +kernel
theorem d_L_command_16 : decode k_L_command 16 = .ok (.ireturn, 1) := by decide +kernel
theorem d_L_command_17 : decode k_L_command 17 = .ok (.iconst 0, 1) := by decide +kernel
theorem d_L_command_18 : decode k_L_command 18 = .ok (.ireturn, 1) := by decide +kernel
theorem d_L_open_0 : decode k_L_open 0 = .ok (.aload_n 3, 1) := by decide +kernel
theorem d_L_open_1 : decode k_L_open 1 = .ok (.iconst 0, 1) := by decide +kernel
theorem d_L_open_2 : decode k_L_open 2 = .ok (.aload_n 0, 1) := by decide +kernel
theorem d_L_open_3 : decode k_L_open 3 = .ok (.iload_n 1, 1) := by decide +kernel
theorem d_L_open_4 : decode k_L_open 4 = .ok (.iload_n 2, 1) := by decide +kernel
theorem d_L_open_5 : decode k_L_open 5 = .ok (.invokevirtual 38, 3) := by decide +kernel
theorem d_L_open_8 : decode k_L_open 8 = .ok (.i2l, 1) := by decide +kernel
theorem d_L_open_9 : decode k_L_open 9 = .ok (.lastore, 1) := by decide +kernel
theorem d_L_open_10 : decode k_L_open 10 = .ok (.goto 7, 3) := by decide +kernel
theorem d_L_open_13 : decode k_L_open 13 = .ok (.astore 4, 2) := by decide +kernel
theorem d_L_open_15 : decode k_L_open 15 = .ok (.iconst 1, 1) := by decide +kernel
theorem d_L_open_16 : decode k_L_open 16 = .ok (.ireturn, 1) := by decide +kernel
theorem d_L_open_17 : decode k_L_open 17 = .ok (.iconst 0, 1) := by decide +kernel
theorem d_L_open_18 : decode k_L_open 18 = .ok (.ireturn, 1) := by decide +kernel
theorem d_L_part_0 : decode k_L_part 0 = .ok (.aload_n 3, 1) := by decide +kernel
theorem d_L_part_1 : decode k_L_part 1 = .ok (.iconst 0, 1) := by decide +kernel
theorem d_L_part_2 : decode k_L_part 2 = .ok (.aload_n 0, 1) := by decide +kernel
theorem d_L_part_3 : decode k_L_part 3 = .ok (.iload_n 1, 1) := by decide +kernel
theorem d_L_part_4 : decode k_L_part 4 = .ok (.iload_n 2, 1) := by decide +kernel
theorem d_L_part_5 : decode k_L_part 5 = .ok (.invokevirtual 41, 3) := by decide +kernel
theorem d_L_part_8 : decode k_L_part 8 = .ok (.i2l, 1) := by decide +kernel
theorem d_L_part_9 : decode k_L_part 9 = .ok (.lastore, 1) := by decide +kernel
theorem d_L_part_10 : decode k_L_part 10 = .ok (.goto 7, 3) := by decide +kernel
theorem d_L_part_13 : decode k_L_part 13 = .ok (.astore 4, 2) := by decide +kernel
theorem d_L_part_15 : decode k_L_part 15 = .ok (.iconst 1, 1) := by decide +kernel
theorem d_L_part_16 : decode k_L_part 16 = .ok (.ireturn, 1) := by decide +kernel
theorem d_L_part_17 : decode k_L_part 17 = .ok (.iconst 0, 1) := by decide +kernel
theorem d_L_part_18 : decode k_L_part 18 = .ok (.ireturn, 1) := by decide +kernel
theorem d_L_check_0 : decode k_L_check 0 = .ok (.aload 6, 2) := by decide +kernel
theorem d_L_check_2 : decode k_L_check 2 = .ok (.iconst 0, 1) := by decide +kernel
theorem d_L_check_3 : decode k_L_check 3 = .ok (.aload_n 0, 1) := by decide +kernel
theorem d_L_check_4 : decode k_L_check 4 = .ok (.iload_n 1, 1) := by decide +kernel
theorem d_L_check_5 : decode k_L_check 5 = .ok (.iload_n 2, 1) := by decide +kernel
theorem d_L_check_6 : decode k_L_check 6 = .ok (.iload_n 3, 1) := by decide +kernel
theorem d_L_check_7 : decode k_L_check 7 = .ok (.iload 4, 2) := by decide +kernel
theorem d_L_check_9 : decode k_L_check 9 = .ok (.iload 5, 2) := by decide +kernel
theorem d_L_check_11 : decode k_L_check 11 = .ok (.invokevirtual 44, 3) := by decide +kernel
theorem d_L_check_14 : decode k_L_check 14 = .ok (.i2l, 1) := by decide +kernel
theorem d_L_check_15 : decode k_L_check 15 = .ok (.lastore, 1) := by decide +kernel
theorem d_L_check_16 : decode k_L_check 16 = .ok (.goto 7, 3) := by decide +kernel
theorem d_L_check_19 : decode k_L_check 19 = .ok (.astore 7, 2) := by decide +kernel
theorem d_L_check_21 : decode k_L_check 21 = .ok (.iconst 1, 1) := by decide +kernel
theorem d_L_check_22 : decode k_L_check 22 = .ok (.ireturn, 1) := by decide +kernel
theorem d_L_check_23 : decode k_L_check 23 = .ok (.iconst 0, 1) := by decide +kernel
theorem d_L_check_24 : decode k_L_check 24 = .ok (.ireturn, 1) := by decide +kernel
theorem d_J_floorMod_0 : decode k_J_floorMod 0 = .ok (.iload_n 0, 1) := by decide +kernel
theorem d_J_floorMod_1 : decode k_J_floorMod 1 = .ok (.iload_n 1, 1) := by decide +kernel
theorem d_J_floorMod_2 : decode k_J_floorMod 2 = .ok (.irem, 1) := by decide +kernel
theorem d_J_floorMod_3 : decode k_J_floorMod 3 = .ok (.istore_n 2, 1) := by decide +kernel
theorem d_J_floorMod_4 : decode k_J_floorMod 4 = .ok (.iload_n 0, 1) := by decide +kernel
theorem d_J_floorMod_5 : decode k_J_floorMod 5 = .ok (.iload_n 1, 1) := by decide +kernel
theorem d_J_floorMod_6 : decode k_J_floorMod 6 = .ok (.ixor, 1) := by decide +kernel
theorem d_J_floorMod_7 : decode k_J_floorMod 7 = .ok (.ifCond .ge 11, 3) := by decide +kernel
theorem d_J_floorMod_10 : decode k_J_floorMod 10 = .ok (.iload_n 2, 1) := by decide +kernel
theorem d_J_floorMod_11 : decode k_J_floorMod 11 = .ok (.ifCond .eq 7, 3) := by decide +kernel
theorem d_J_floorMod_14 : decode k_J_floorMod 14 = .ok (.iload_n 2, 1) := by decide +kernel
theorem d_J_floorMod_15 : decode k_J_floorMod 15 = .ok (.iload_n 1, 1) := by decide +kernel
theorem d_J_floorMod_16 : decode k_J_floorMod 16 = .ok (.iadd, 1) := by decide +kernel
theorem d_J_floorMod_17 : decode k_J_floorMod 17 = .ok (.ireturn, 1) := by decide +kernel
theorem d_J_floorMod_18 : decode k_J_floorMod 18 = .ok (.iload_n 2, 1) := by decide +kernel
theorem d_J_floorMod_19 : decode k_J_floorMod 19 = .ok (.ireturn, 1) := by decide +kernel
theorem d_A_fill_0 : decode k_A_fill 0 = .ok (.iconst 0, 1) := by decide +kernel
theorem d_A_fill_1 : decode k_A_fill 1 = .ok (.istore_n 2, 1) := by decide +kernel
theorem d_A_fill_2 : decode k_A_fill 2 = .ok (.aload_n 0, 1) := by decide +kernel
theorem d_A_fill_3 : decode k_A_fill 3 = .ok (.arraylength, 1) := by decide +kernel
theorem d_A_fill_4 : decode k_A_fill 4 = .ok (.istore_n 3, 1) := by decide +kernel
theorem d_A_fill_5 : decode k_A_fill 5 = .ok (.iload_n 2, 1) := by decide +kernel
theorem d_A_fill_6 : decode k_A_fill 6 = .ok (.iload_n 3, 1) := by decide +kernel
theorem d_A_fill_7 : decode k_A_fill 7 = .ok (.if_icmp .ge 13, 3) := by decide +kernel
theorem d_A_fill_10 : decode k_A_fill 10 = .ok (.aload_n 0, 1) := by decide +kernel
theorem d_A_fill_11 : decode k_A_fill 11 = .ok (.iload_n 2, 1) := by decide +kernel
theorem d_A_fill_12 : decode k_A_fill 12 = .ok (.iload_n 1, 1) := by decide +kernel
theorem d_A_fill_13 : decode k_A_fill 13 = .ok (.iastore, 1) := by decide +kernel
theorem d_A_fill_14 : decode k_A_fill 14 = .ok (.iinc 2 1, 3) := by decide +kernel
theorem d_A_fill_17 : decode k_A_fill 17 = .ok (.goto (-12), 3) := by decide +kernel
theorem d_A_fill_20 : decode k_A_fill 20 = .ok (.return_, 1) := by decide +kernel
end
section
/-- the classes of arrays: int[], boolean[], Channel[], Rules[] -/
def tyl (dA : Nat → ClassId) : List (ClassId × FieldType) := [(dA 0, .int), (dA 1, .boolean), (dA 2, .object "BankTimes$Channel"), (dA 3, .object "BankTimes$Rules")]
def Is_R (dA : Nat → ClassId) (b N : Nat) (sh : Shp) (B C : Nat) (r : Nat) : Prop := r < N ∧ sh r = ob 3 [some (b + 1), some (b + (r + 1)), some (b + (r + 2)), some (b + (r + 3)), some (b + (r + 4)), some (b + (r + 5)), some (b + (r + 6)), none, none, none, none] ∧ (1 < N ∧ sh 1 = ia (dA 0) 9) ∧ ((r + 1) < N ∧ sh (r + 1) = ia (dA 0) B) ∧ ((r + 2) < N ∧ sh (r + 2) = ia (dA 0) B) ∧ ((r + 3) < N ∧ sh (r + 3) = ia (dA 0) B) ∧ ((r + 4) < N ∧ sh (r + 4) = ia (dA 0) B) ∧ ((r + 5) < N ∧ sh (r + 5) = ia (dA 0) B) ∧ ((r + 6) < N ∧ sh (r + 6) = ia (dA 0) 4)
def Is_Q (dA : Nat → ClassId) (b N : Nat) (sh : Shp) (B C : Nat) (r : Nat) : Prop := r < N ∧ sh r = ob 2 [some (b + (r + 1)), some (b + (r + 2)), some (b + (r + 3)), some (b + (r + 4)), some (b + (r + 5)), none, none] ∧ ((r + 1) < N ∧ sh (r + 1) = ia (dA 0) 8) ∧ ((r + 2) < N ∧ sh (r + 2) = ia (dA 0) 8) ∧ ((r + 3) < N ∧ sh (r + 3) = ia (dA 0) 8) ∧ ((r + 4) < N ∧ sh (r + 4) = ia (dA 0) 8) ∧ ((r + 5) < N ∧ sh (r + 5) = ia (dA 1) 8)
def Is_C (dA : Nat → ClassId) (b N : Nat) (sh : Shp) (B C : Nat) (r : Nat) : Prop := r < N ∧ sh r = ob 0 [some (b + (r + 1)), some (b + (r + 8)), none, none, none] ∧ Is_R dA b N sh B C (r + 1) ∧ Is_Q dA b N sh B C (r + 8)
def Is_G (dA : Nat → ClassId) (b N : Nat) (sh : Shp) (B C : Nat) (r : Nat) : Prop := r < N ∧ sh r = ob 1 [some (b + (r + 1)), some (b + (r + 2)), none, none, none] ∧ ((r + 1) < N ∧ sh (r + 1) = ia (dA 0) 2560) ∧ ((r + 2) < N ∧ sh (r + 2) = ia (dA 0) 5)
def Is_B (dA : Nat → ClassId) (b N : Nat) (sh : Shp) (B C : Nat) (r : Nat) : Prop := r < N ∧ sh r = ob 4 [none, none, none, none, some (b + 1), some (b + 2), some (b + 3), some (b + (4 + 21 * C)), some (b + (7 + 21 * C)), none, none, none, none, none] ∧ (1 < N ∧ sh 1 = ia (dA 0) 9) ∧ (2 < N ∧ sh 2 = ra (dA 2) C (fun k => some (b + (4 + 21 * k))) ∧ ∀ i : Int32, ixb i C = true → Is_C dA b N sh B C (4 + 21 * i.toNatClampNeg)) ∧ (3 < N ∧ sh 3 = ra (dA 3) C (fun k => some (b + (18 + 21 * k))) ∧ ∀ i : Int32, ixb i C = true → Is_R dA b N sh B C (18 + 21 * i.toNatClampNeg)) ∧ Is_G dA b N sh B C (4 + 21 * C) ∧ ((7 + 21 * C) < N ∧ sh (7 + 21 * C) = ia (dA 0) 512)
def Is_D (dA : Nat → ClassId) (b N : Nat) (sh : Shp) (B C : Nat) (r : Nat) : Prop := r < N ∧ sh r = ob 5 [none, none, none, none, none, none, none, some (b + 1), some (b + 2), some (b + 3), some (b + 4), some (b + 5), some (b + 6), some (b + 7), some (b + 8), some (b + 9), some (b + 10), some (b + 11), some (b + 12), some (b + 13), none, none, none, some (b + 14), some (b + 15), some (b + 16), some (b + 17), none, some (b + 18), some (b + 19), some (b + 20), some (b + 21), some (b + 22), some (b + 23)] ∧ (1 < N ∧ sh 1 = ia (dA 0) 9) ∧ (2 < N ∧ sh 2 = ia (dA 0) 32) ∧ (3 < N ∧ sh 3 = ia (dA 0) 32) ∧ (4 < N ∧ sh 4 = ia (dA 0) 32) ∧ (5 < N ∧ sh 5 = ia (dA 0) 32) ∧ (6 < N ∧ sh 6 = ia (dA 0) 32) ∧ (7 < N ∧ sh 7 = ia (dA 0) 4) ∧ (8 < N ∧ sh 8 = ia (dA 0) 4) ∧ (9 < N ∧ sh 9 = ia (dA 0) 4) ∧ (10 < N ∧ sh 10 = ia (dA 0) 16) ∧ (11 < N ∧ sh 11 = ia (dA 0) 4) ∧ (12 < N ∧ sh 12 = ia (dA 1) 2) ∧ (13 < N ∧ sh 13 = ia (dA 0) 2) ∧ (14 < N ∧ sh 14 = ia (dA 0) 600) ∧ (15 < N ∧ sh 15 = ia (dA 1) 600) ∧ (16 < N ∧ sh 16 = ia (dA 0) 600) ∧ (17 < N ∧ sh 17 = ia (dA 0) 600) ∧ (18 < N ∧ sh 18 = ia (dA 0) 5) ∧ (19 < N ∧ sh 19 = ia (dA 0) 512) ∧ (20 < N ∧ sh 20 = ia (dA 0) 512) ∧ (21 < N ∧ sh 21 = ia (dA 0) 512) ∧ (22 < N ∧ sh 22 = ia (dA 0) 512) ∧ (23 < N ∧ sh 23 = ia (dA 0) 512)
def Is_F (dA : Nat → ClassId) (b N : Nat) (sh : Shp) (B C : Nat) (t r : Nat) : Prop := r < N ∧ sh r = ob 3 [some t, some (b + (r + 1)), some (b + (r + 2)), some (b + (r + 3)), some (b + (r + 4)), some (b + (r + 5)), some (b + (r + 6)), none, none, none, none] ∧ ((r + 1) < N ∧ sh (r + 1) = ia (dA 0) B) ∧ ((r + 2) < N ∧ sh (r + 2) = ia (dA 0) B) ∧ ((r + 3) < N ∧ sh (r + 3) = ia (dA 0) B) ∧ ((r + 4) < N ∧ sh (r + 4) = ia (dA 0) B) ∧ ((r + 5) < N ∧ sh (r + 5) = ia (dA 0) B) ∧ ((r + 6) < N ∧ sh (r + 6) = ia (dA 0) 4)
theorem Is_F_of {dA : Nat → ClassId} {b N : Nat} {sh : Shp} {B C r : Nat} (h : Is_R dA b N sh B C r) : Is_F dA b N sh B C (b + 1) r := ⟨h.1, h.2.1, h.2.2.2⟩
end
section
theorem tk {w : Cond} (i : Nat) (h : lw_tbl[i]? = some w) (hg : (k2_isCode w || goodWord w) = true) : w ∈ tG := tG_at i h hg
theorem i_C : ∀ w ∈ u_ws "BankTimes$Channel" F_C 5, w ∈ tG := fun w h => tG_of ((by decide +kernel : ∀ w ∈ u_ws "BankTimes$Channel" F_C 5, w ∈ lw_tbl) w h) ((by decide +kernel : ∀ w ∈ u_ws "BankTimes$Channel" F_C 5, (k2_isCode w || goodWord w) = true) w h)
theorem i_G : ∀ w ∈ u_ws "BankTimes$Log" F_G 5, w ∈ tG := fun w h => tG_of ((by decide +kernel : ∀ w ∈ u_ws "BankTimes$Log" F_G 5, w ∈ lw_tbl) w h) ((by decide +kernel : ∀ w ∈ u_ws "BankTimes$Log" F_G 5, (k2_isCode w || goodWord w) = true) w h)
theorem i_Q : ∀ w ∈ u_ws "BankTimes$Queue" F_Q 7, w ∈ tG := fun w h => tG_of ((by decide +kernel : ∀ w ∈ u_ws "BankTimes$Queue" F_Q 7, w ∈ lw_tbl) w h) ((by decide +kernel : ∀ w ∈ u_ws "BankTimes$Queue" F_Q 7, (k2_isCode w || goodWord w) = true) w h)
theorem i_R : ∀ w ∈ u_ws "BankTimes$Rules" F_R 11, w ∈ tG := fun w h => tG_of ((by decide +kernel : ∀ w ∈ u_ws "BankTimes$Rules" F_R 11, w ∈ lw_tbl) w h) ((by decide +kernel : ∀ w ∈ u_ws "BankTimes$Rules" F_R 11, (k2_isCode w || goodWord w) = true) w h)
theorem i_B : ∀ w ∈ u_ws "BankTimes" F_B 14, w ∈ tG := fun w h => tG_of ((by decide +kernel : ∀ w ∈ u_ws "BankTimes" F_B 14, w ∈ lw_tbl) w h) ((by decide +kernel : ∀ w ∈ u_ws "BankTimes" F_B 14, (k2_isCode w || goodWord w) = true) w h)
theorem i_D : ∀ w ∈ u_ws "BankTimesModel" F_D 34, w ∈ tG := fun w h => tG_of ((by decide +kernel : ∀ w ∈ u_ws "BankTimesModel" F_D 34, w ∈ lw_tbl) w h) ((by decide +kernel : ∀ w ∈ u_ws "BankTimesModel" F_D 34, (k2_isCode w || goodWord w) = true) w h)
theorem t_0 : (.fieldLink "BankTimes$Rules" 18 "BankTimes$Rules" "activated" "[I" : Cond) ∈ tG := tk 104 (by decide +kernel) (by decide +kernel)
theorem t_1 : (.fieldLink "BankTimes$Rules" 27 "BankTimes$Rules" "closed" "[I" : Cond) ∈ tG := tk 107 (by decide +kernel) (by decide +kernel)
theorem t_2 : (.fieldLink "BankTimes$Rules" 21 "BankTimes$Rules" "read" "[I" : Cond) ∈ tG := tk 105 (by decide +kernel) (by decide +kernel)
theorem t_3 : (.fieldLink "BankTimes$Rules" 42 "BankTimes$Rules" "lastColumn" "I" : Cond) ∈ tG := tk 109 (by decide +kernel) (by decide +kernel)
theorem t_4 : (.fieldLink "BankTimes$Rules" 46 "BankTimes$Rules" "lastWrite" "I" : Cond) ∈ tG := tk 110 (by decide +kernel) (by decide +kernel)
theorem t_5 : (.fieldLink "BankTimes$Rules" 24 "BankTimes$Rules" "written" "[I" : Cond) ∈ tG := tk 106 (by decide +kernel) (by decide +kernel)
theorem t_6 : (.fieldLink "BankTimes$Rules" 30 "BankTimes$Rules" "activates" "[I" : Cond) ∈ tG := tk 108 (by decide +kernel) (by decide +kernel)
theorem t_7 : (.fieldLink "BankTimes$Rules" 49 "BankTimes$Rules" "lastRefresh" "I" : Cond) ∈ tG := tk 111 (by decide +kernel) (by decide +kernel)
theorem t_8 : (.fieldLink "BankTimes$Rules" 9 "BankTimes$Rules" "times" "[I" : Cond) ∈ tG := tk 100 (by decide +kernel) (by decide +kernel)
theorem t_9 : (.methodLink "BankTimes$Rules" 67 y_R_startOf : Cond) ∈ tG := tk 479 (by decide +kernel) (by decide +kernel)
theorem t_10 : (.code y_R_startOf k_R_startOf 5 (some .int) : Cond) ∈ tG := tk 482 (by decide +kernel) (by decide +kernel)
theorem t_11 : (.instanceMethod y_R_startOf : Cond) ∈ tG := tk 481 (by decide +kernel) (by decide +kernel)
theorem t_12 : (.selects "BankTimes$Rules" y_R_startOf y_R_startOf : Cond) ∈ tG := tk 8 (by decide +kernel) (by decide +kernel)
theorem t_13 : (.initialized "BankTimes$Rules" : Cond) ∈ tG := tk 46 (by decide +kernel) (by decide +kernel)
theorem t_14 : (.fieldLink "BankTimes$Rules" 15 "BankTimes$Rules" "openRows" "[I" : Cond) ∈ tG := tk 101 (by decide +kernel) (by decide +kernel)
theorem t_15 : (.methodLink "BankTimes$Rules" 55 y_R_brokenTime : Cond) ∈ tG := tk 475 (by decide +kernel) (by decide +kernel)
theorem t_16 : (.code y_R_brokenTime k_R_brokenTime 6 (some .int) : Cond) ∈ tG := tk 478 (by decide +kernel) (by decide +kernel)
theorem t_17 : (.instanceMethod y_R_brokenTime : Cond) ∈ tG := tk 476 (by decide +kernel) (by decide +kernel)
theorem t_18 : (.selects "BankTimes$Rules" y_R_brokenTime y_R_brokenTime : Cond) ∈ tG := tk 477 (by decide +kernel) (by decide +kernel)
theorem t_19 : (.methodLink "BankTimes$Rules" 63 y_R_anyOpen : Cond) ∈ tG := tk 597 (by decide +kernel) (by decide +kernel)
theorem t_20 : (.code y_R_anyOpen k_R_anyOpen 2 (some .boolean) : Cond) ∈ tG := tk 381 (by decide +kernel) (by decide +kernel)
theorem t_21 : (.instanceMethod y_R_anyOpen : Cond) ∈ tG := tk 379 (by decide +kernel) (by decide +kernel)
theorem t_22 : (.selects "BankTimes$Rules" y_R_anyOpen y_R_anyOpen : Cond) ∈ tG := tk 380 (by decide +kernel) (by decide +kernel)
theorem t_23 : (.fieldLink "BankTimes$Rules" 52 "BankTimes$Rules" "lastCycle" "I" : Cond) ∈ tG := tk 112 (by decide +kernel) (by decide +kernel)
theorem t_24 : (.methodLink "BankTimes$Rules" 59 y_R_fitsBank : Cond) ∈ tG := tk 593 (by decide +kernel) (by decide +kernel)
theorem t_25 : (.code y_R_fitsBank k_R_fitsBank 4 (some .boolean) : Cond) ∈ tG := tk 596 (by decide +kernel) (by decide +kernel)
theorem t_26 : (.instanceMethod y_R_fitsBank : Cond) ∈ tG := tk 595 (by decide +kernel) (by decide +kernel)
theorem t_27 : (.selects "BankTimes$Rules" y_R_fitsBank y_R_fitsBank : Cond) ∈ tG := tk 17 (by decide +kernel) (by decide +kernel)
theorem t_28 : (.methodLink "BankTimes$Rules" 36 y_A_fill : Cond) ∈ tG := tk 97 (by decide +kernel) (by decide +kernel)
theorem t_29 : (.code y_A_fill k_A_fill 4 none : Cond) ∈ tG := tk 99 (by decide +kernel) (by decide +kernel)
theorem t_30 : (.static y_A_fill : Cond) ∈ tG := tk 98 (by decide +kernel) (by decide +kernel)
theorem t_31 : (.initialized "java/util/Arrays" : Cond) ∈ tG := tk 47 (by decide +kernel) (by decide +kernel)
theorem t_32 : (.fieldLink "BankTimes$Queue" 28 "BankTimes$Queue" "size" "I" : Cond) ∈ tG := tk 155 (by decide +kernel) (by decide +kernel)
theorem t_33 : (.fieldLink "BankTimes$Queue" 11 "BankTimes$Queue" "numbers" "[I" : Cond) ∈ tG := tk 143 (by decide +kernel) (by decide +kernel)
theorem t_34 : (.fieldLink "BankTimes$Queue" 15 "BankTimes$Queue" "came" "[I" : Cond) ∈ tG := tk 145 (by decide +kernel) (by decide +kernel)
theorem t_35 : (.fieldLink "BankTimes$Queue" 18 "BankTimes$Queue" "banks" "[I" : Cond) ∈ tG := tk 147 (by decide +kernel) (by decide +kernel)
theorem t_36 : (.fieldLink "BankTimes$Queue" 21 "BankTimes$Queue" "rows" "[I" : Cond) ∈ tG := tk 150 (by decide +kernel) (by decide +kernel)
theorem t_37 : (.fieldLink "BankTimes$Queue" 24 "BankTimes$Queue" "writes" "[Z" : Cond) ∈ tG := tk 153 (by decide +kernel) (by decide +kernel)
theorem t_38 : (.fieldLink "BankTimes$Queue" 32 "BankTimes$Queue" "writeCount" "I" : Cond) ∈ tG := tk 158 (by decide +kernel) (by decide +kernel)
theorem t_39 : (.fieldLink "BankTimes$Log" 26 "BankTimes$Log" "oldest" "I" : Cond) ∈ tG := tk 204 (by decide +kernel) (by decide +kernel)
theorem t_40 : (.fieldLink "BankTimes$Log" 11 "BankTimes$Log" "parts" "[I" : Cond) ∈ tG := tk 201 (by decide +kernel) (by decide +kernel)
theorem t_41 : (.methodLink "BankTimes$Log" 22 y_G_placeOf : Cond) ∈ tG := tk 495 (by decide +kernel) (by decide +kernel)
theorem t_42 : (.code y_G_placeOf k_G_placeOf 2 (some .int) : Cond) ∈ tG := tk 498 (by decide +kernel) (by decide +kernel)
theorem t_43 : (.instanceMethod y_G_placeOf : Cond) ∈ tG := tk 497 (by decide +kernel) (by decide +kernel)
theorem t_44 : (.selects "BankTimes$Log" y_G_placeOf y_G_placeOf : Cond) ∈ tG := tk 10 (by decide +kernel) (by decide +kernel)
theorem t_45 : (.initialized "BankTimes$Log" : Cond) ∈ tG := tk 49 (by decide +kernel) (by decide +kernel)
theorem t_46 : (.fieldLink "BankTimes$Log" 18 "BankTimes$Log" "kept" "I" : Cond) ∈ tG := tk 205 (by decide +kernel) (by decide +kernel)
theorem t_47 : (.fieldLink "BankTimes$Log" 15 "BankTimes$Log" "ofKind" "[I" : Cond) ∈ tG := tk 202 (by decide +kernel) (by decide +kernel)
theorem t_48 : (.fieldLink "BankTimes$Log" 29 "BankTimes$Log" "total" "I" : Cond) ∈ tG := tk 207 (by decide +kernel) (by decide +kernel)
theorem t_49 : (.fieldLink "BankTimes$Channel" 20 "BankTimes$Channel" "rules" "LBankTimes$Rules;" : Cond) ∈ tG := tk 175 (by decide +kernel) (by decide +kernel)
theorem t_50 : (.fieldLink "BankTimes$Channel" 52 "BankTimes$Rules" "openRows" "[I" : Cond) ∈ tG := tk 102 (by decide +kernel) (by decide +kernel)
theorem t_51 : (.fieldLink "BankTimes$Channel" 27 "BankTimes$Channel" "queue" "LBankTimes$Queue;" : Cond) ∈ tG := tk 177 (by decide +kernel) (by decide +kernel)
theorem t_52 : (.fieldLink "BankTimes$Channel" 56 "BankTimes$Queue" "banks" "[I" : Cond) ∈ tG := tk 148 (by decide +kernel) (by decide +kernel)
theorem t_53 : (.fieldLink "BankTimes$Channel" 59 "BankTimes$Queue" "rows" "[I" : Cond) ∈ tG := tk 151 (by decide +kernel) (by decide +kernel)
theorem t_54 : (.fieldLink "BankTimes$Channel" 62 "BankTimes$Queue" "writes" "[Z" : Cond) ∈ tG := tk 154 (by decide +kernel) (by decide +kernel)
theorem t_55 : (.methodLink "BankTimes$Channel" 66 y_C_nextKind : Cond) ∈ tG := tk 508 (by decide +kernel) (by decide +kernel)
theorem t_56 : (.code y_C_nextKind k_C_nextKind 3 (some .int) : Cond) ∈ tG := tk 511 (by decide +kernel) (by decide +kernel)
theorem t_57 : (.instanceMethod y_C_nextKind : Cond) ∈ tG := tk 509 (by decide +kernel) (by decide +kernel)
theorem t_58 : (.selects "BankTimes$Channel" y_C_nextKind y_C_nextKind : Cond) ∈ tG := tk 510 (by decide +kernel) (by decide +kernel)
theorem t_59 : (.initialized "BankTimes$Channel" : Cond) ∈ tG := tk 45 (by decide +kernel) (by decide +kernel)
theorem t_60 : (.methodLink "BankTimes$Channel" 69 y_R_brokenTime : Cond) ∈ tG := tk 512 (by decide +kernel) (by decide +kernel)
theorem t_61 : (.fieldLink "BankTimes$Channel" 34 "BankTimes$Queue" "size" "I" : Cond) ∈ tG := tk 156 (by decide +kernel) (by decide +kernel)
theorem t_62 : (.methodLink "BankTimes$Channel" 73 y_C_isAmong : Cond) ∈ tG := tk 517 (by decide +kernel) (by decide +kernel)
theorem t_63 : (.code y_C_isAmong k_C_isAmong 3 (some .boolean) : Cond) ∈ tG := tk 520 (by decide +kernel) (by decide +kernel)
theorem t_64 : (.instanceMethod y_C_isAmong : Cond) ∈ tG := tk 519 (by decide +kernel) (by decide +kernel)
theorem t_65 : (.selects "BankTimes$Channel" y_C_isAmong y_C_isAmong : Cond) ∈ tG := tk 13 (by decide +kernel) (by decide +kernel)
theorem t_66 : (.methodLink "BankTimes$Channel" 37 y_C_isReady : Cond) ∈ tG := tk 504 (by decide +kernel) (by decide +kernel)
theorem t_67 : (.code y_C_isReady k_C_isReady 3 (some .boolean) : Cond) ∈ tG := tk 507 (by decide +kernel) (by decide +kernel)
theorem t_68 : (.instanceMethod y_C_isReady : Cond) ∈ tG := tk 506 (by decide +kernel) (by decide +kernel)
theorem t_69 : (.selects "BankTimes$Channel" y_C_isReady y_C_isReady : Cond) ∈ tG := tk 11 (by decide +kernel) (by decide +kernel)
theorem t_70 : (.methodLink "BankTimes$Channel" 76 y_C_openRowIsWanted : Cond) ∈ tG := tk 521 (by decide +kernel) (by decide +kernel)
theorem t_71 : (.code y_C_openRowIsWanted k_C_openRowIsWanted 4 (some .boolean) : Cond) ∈ tG := tk 524 (by decide +kernel) (by decide +kernel)
theorem t_72 : (.instanceMethod y_C_openRowIsWanted : Cond) ∈ tG := tk 523 (by decide +kernel) (by decide +kernel)
theorem t_73 : (.selects "BankTimes$Channel" y_C_openRowIsWanted y_C_openRowIsWanted : Cond) ∈ tG := tk 14 (by decide +kernel) (by decide +kernel)
theorem t_74 : (.fieldLink "BankTimes$Channel" 31 "BankTimes$Channel" "bankCount" "I" : Cond) ∈ tG := tk 179 (by decide +kernel) (by decide +kernel)
theorem t_75 : (.fieldLink "BankTimes$Channel" 9 "BankTimes$Channel" "lastBank" "I" : Cond) ∈ tG := tk 181 (by decide +kernel) (by decide +kernel)
theorem t_76 : (.methodLink "BankTimes$Channel" 79 y_Q_oldestOf : Cond) ∈ tG := tk 529 (by decide +kernel) (by decide +kernel)
theorem t_77 : (.code y_Q_oldestOf k_Q_oldestOf 3 (some .int) : Cond) ∈ tG := tk 532 (by decide +kernel) (by decide +kernel)
theorem t_78 : (.instanceMethod y_Q_oldestOf : Cond) ∈ tG := tk 530 (by decide +kernel) (by decide +kernel)
theorem t_79 : (.selects "BankTimes$Queue" y_Q_oldestOf y_Q_oldestOf : Cond) ∈ tG := tk 531 (by decide +kernel) (by decide +kernel)
theorem t_80 : (.initialized "BankTimes$Queue" : Cond) ∈ tG := tk 48 (by decide +kernel) (by decide +kernel)
theorem t_81 : (.methodLink "BankTimes$Channel" 41 y_C_chosenByRows : Cond) ∈ tG := tk 513 (by decide +kernel) (by decide +kernel)
theorem t_82 : (.code y_C_chosenByRows k_C_chosenByRows 6 (some .int) : Cond) ∈ tG := tk 516 (by decide +kernel) (by decide +kernel)
theorem t_83 : (.instanceMethod y_C_chosenByRows : Cond) ∈ tG := tk 515 (by decide +kernel) (by decide +kernel)
theorem t_84 : (.selects "BankTimes$Channel" y_C_chosenByRows y_C_chosenByRows : Cond) ∈ tG := tk 12 (by decide +kernel) (by decide +kernel)
theorem t_85 : (.fieldLink "BankTimes$Channel" 45 "BankTimes$Queue" "writeCount" "I" : Cond) ∈ tG := tk 157 (by decide +kernel) (by decide +kernel)
theorem t_86 : (.methodLink "BankTimes$Channel" 48 y_C_chosenByTurns : Cond) ∈ tG := tk 525 (by decide +kernel) (by decide +kernel)
theorem t_87 : (.code y_C_chosenByTurns k_C_chosenByTurns 4 (some .int) : Cond) ∈ tG := tk 528 (by decide +kernel) (by decide +kernel)
theorem t_88 : (.instanceMethod y_C_chosenByTurns : Cond) ∈ tG := tk 527 (by decide +kernel) (by decide +kernel)
theorem t_89 : (.selects "BankTimes$Channel" y_C_chosenByTurns y_C_chosenByTurns : Cond) ∈ tG := tk 15 (by decide +kernel) (by decide +kernel)
theorem t_90 : (.constant "BankTimes" 192 1048575 : Cond) ∈ tG := tk 417 (by decide +kernel) (by decide +kernel)
theorem t_91 : (.fieldLink "BankTimes" 42 "BankTimes" "channels" "[LBankTimes$Channel;" : Cond) ∈ tG := tk 225 (by decide +kernel) (by decide +kernel)
theorem t_92 : (.fieldLink "BankTimes" 13 "BankTimes" "channelBits" "I" : Cond) ∈ tG := tk 220 (by decide +kernel) (by decide +kernel)
theorem t_93 : (.fieldLink "BankTimes" 22 "BankTimes" "bankCount" "I" : Cond) ∈ tG := tk 222 (by decide +kernel) (by decide +kernel)
theorem t_94 : (.fieldLink "BankTimes" 19 "BankTimes" "bankBits" "I" : Cond) ∈ tG := tk 221 (by decide +kernel) (by decide +kernel)
theorem t_95 : (.fieldLink "BankTimes" 152 "BankTimes$Channel" "rules" "LBankTimes$Rules;" : Cond) ∈ tG := tk 176 (by decide +kernel) (by decide +kernel)
theorem t_96 : (.methodLink "BankTimes" 193 y_R_anyOpen : Cond) ∈ tG := tk 378 (by decide +kernel) (by decide +kernel)
theorem t_97 : (.fieldLink "BankTimes" 196 "BankTimes$Channel" "refreshDue" "Z" : Cond) ∈ tG := tk 180 (by decide +kernel) (by decide +kernel)
theorem t_98 : (.fieldLink "BankTimes" 122 "BankTimes" "cycle" "I" : Cond) ∈ tG := tk 230 (by decide +kernel) (by decide +kernel)
theorem t_99 : (.methodLink "BankTimes" 175 y_R_take : Cond) ∈ tG := tk 487 (by decide +kernel) (by decide +kernel)
theorem t_100 : (.code y_R_take k_R_take 6 none : Cond) ∈ tG := tk 490 (by decide +kernel) (by decide +kernel)
theorem t_101 : (.instanceMethod y_R_take : Cond) ∈ tG := tk 488 (by decide +kernel) (by decide +kernel)
theorem t_102 : (.selects "BankTimes$Rules" y_R_take y_R_take : Cond) ∈ tG := tk 489 (by decide +kernel) (by decide +kernel)
theorem t_103 : (.fieldLink "BankTimes" 59 "BankTimes" "log" "LBankTimes$Log;" : Cond) ∈ tG := tk 227 (by decide +kernel) (by decide +kernel)
theorem t_104 : (.methodLink "BankTimes" 242 y_G_add : Cond) ∈ tG := tk 491 (by decide +kernel) (by decide +kernel)
theorem t_105 : (.code y_G_add k_G_add 7 none : Cond) ∈ tG := tk 494 (by decide +kernel) (by decide +kernel)
theorem t_106 : (.instanceMethod y_G_add : Cond) ∈ tG := tk 492 (by decide +kernel) (by decide +kernel)
theorem t_107 : (.selects "BankTimes$Log" y_G_add y_G_add : Cond) ∈ tG := tk 493 (by decide +kernel) (by decide +kernel)
theorem t_108 : (.methodLink "BankTimes" 217 y_R_brokenTime : Cond) ∈ tG := tk 499 (by decide +kernel) (by decide +kernel)
theorem t_109 : (.methodLink "BankTimes" 214 y_B_give : Cond) ∈ tG := tk 483 (by decide +kernel) (by decide +kernel)
theorem t_110 : (.code y_B_give k_B_give 5 none : Cond) ∈ tG := tk 486 (by decide +kernel) (by decide +kernel)
theorem t_111 : (.instanceMethod y_B_give : Cond) ∈ tG := tk 485 (by decide +kernel) (by decide +kernel)
theorem t_112 : (.selects "BankTimes" y_B_give y_B_give : Cond) ∈ tG := tk 9 (by decide +kernel) (by decide +kernel)
theorem t_113 : (.initialized "BankTimes" : Cond) ∈ tG := tk 43 (by decide +kernel) (by decide +kernel)
theorem t_114 : (.methodLink "BankTimes" 211 y_R_lowestToClose : Cond) ∈ tG := tk 471 (by decide +kernel) (by decide +kernel)
theorem t_115 : (.code y_R_lowestToClose k_R_lowestToClose 3 (some .int) : Cond) ∈ tG := tk 474 (by decide +kernel) (by decide +kernel)
theorem t_116 : (.instanceMethod y_R_lowestToClose : Cond) ∈ tG := tk 472 (by decide +kernel) (by decide +kernel)
theorem t_117 : (.selects "BankTimes$Rules" y_R_lowestToClose y_R_lowestToClose : Cond) ∈ tG := tk 473 (by decide +kernel) (by decide +kernel)
theorem t_118 : (.fieldLink "BankTimes" 156 "BankTimes$Rules" "openRows" "[I" : Cond) ∈ tG := tk 103 (by decide +kernel) (by decide +kernel)
theorem t_119 : (.fieldLink "BankTimes" 108 "BankTimes$Channel" "queue" "LBankTimes$Queue;" : Cond) ∈ tG := tk 178 (by decide +kernel) (by decide +kernel)
theorem t_120 : (.methodLink "BankTimes" 221 y_C_nextKind : Cond) ∈ tG := tk 537 (by decide +kernel) (by decide +kernel)
theorem t_121 : (.fieldLink "BankTimes" 224 "BankTimes$Queue" "banks" "[I" : Cond) ∈ tG := tk 149 (by decide +kernel) (by decide +kernel)
theorem t_122 : (.fieldLink "BankTimes" 227 "BankTimes$Channel" "lastBank" "I" : Cond) ∈ tG := tk 182 (by decide +kernel) (by decide +kernel)
theorem t_123 : (.fieldLink "BankTimes" 230 "BankTimes$Queue" "rows" "[I" : Cond) ∈ tG := tk 152 (by decide +kernel) (by decide +kernel)
theorem t_124 : (.fieldLink "BankTimes" 63 "BankTimes" "doneCycles" "[I" : Cond) ∈ tG := tk 228 (by decide +kernel) (by decide +kernel)
theorem t_125 : (.fieldLink "BankTimes" 233 "BankTimes$Queue" "numbers" "[I" : Cond) ∈ tG := tk 144 (by decide +kernel) (by decide +kernel)
theorem t_126 : (.fieldLink "BankTimes" 189 "BankTimes" "waitedCycles" "I" : Cond) ∈ tG := tk 233 (by decide +kernel) (by decide +kernel)
theorem t_127 : (.fieldLink "BankTimes" 236 "BankTimes$Queue" "came" "[I" : Cond) ∈ tG := tk 146 (by decide +kernel) (by decide +kernel)
theorem t_128 : (.fieldLink "BankTimes" 78 "BankTimes" "doneCount" "I" : Cond) ∈ tG := tk 232 (by decide +kernel) (by decide +kernel)
theorem t_129 : (.methodLink "BankTimes" 239 y_Q_removeAt : Cond) ∈ tG := tk 538 (by decide +kernel) (by decide +kernel)
theorem t_130 : (.code y_Q_removeAt k_Q_removeAt 3 none : Cond) ∈ tG := tk 541 (by decide +kernel) (by decide +kernel)
theorem t_131 : (.instanceMethod y_Q_removeAt : Cond) ∈ tG := tk 539 (by decide +kernel) (by decide +kernel)
theorem t_132 : (.selects "BankTimes$Queue" y_Q_removeAt y_Q_removeAt : Cond) ∈ tG := tk 540 (by decide +kernel) (by decide +kernel)
theorem t_133 : (.fieldLink "BankTimes" 95 "BankTimes" "spanCycles" "I" : Cond) ∈ tG := tk 229 (by decide +kernel) (by decide +kernel)
theorem t_134 : (.fieldLink "BankTimes" 25 "BankTimes" "scheduler" "I" : Cond) ∈ tG := tk 223 (by decide +kernel) (by decide +kernel)
theorem t_135 : (.methodLink "BankTimes" 204 y_C_chosen : Cond) ∈ tG := tk 500 (by decide +kernel) (by decide +kernel)
theorem t_136 : (.code y_C_chosen k_C_chosen 4 (some .int) : Cond) ∈ tG := tk 503 (by decide +kernel) (by decide +kernel)
theorem t_137 : (.instanceMethod y_C_chosen : Cond) ∈ tG := tk 501 (by decide +kernel) (by decide +kernel)
theorem t_138 : (.selects "BankTimes$Channel" y_C_chosen y_C_chosen : Cond) ∈ tG := tk 502 (by decide +kernel) (by decide +kernel)
theorem t_139 : (.methodLink "BankTimes" 207 y_B_serve : Cond) ∈ tG := tk 533 (by decide +kernel) (by decide +kernel)
theorem t_140 : (.code y_B_serve k_B_serve 7 none : Cond) ∈ tG := tk 536 (by decide +kernel) (by decide +kernel)
theorem t_141 : (.instanceMethod y_B_serve : Cond) ∈ tG := tk 535 (by decide +kernel) (by decide +kernel)
theorem t_142 : (.selects "BankTimes" y_B_serve y_B_serve : Cond) ∈ tG := tk 16 (by decide +kernel) (by decide +kernel)
theorem t_143 : (.methodLink "BankTimes" 200 y_B_refresh : Cond) ∈ tG := tk 467 (by decide +kernel) (by decide +kernel)
theorem t_144 : (.code y_B_refresh k_B_refresh 5 none : Cond) ∈ tG := tk 470 (by decide +kernel) (by decide +kernel)
theorem t_145 : (.instanceMethod y_B_refresh : Cond) ∈ tG := tk 469 (by decide +kernel) (by decide +kernel)
theorem t_146 : (.selects "BankTimes" y_B_refresh y_B_refresh : Cond) ∈ tG := tk 7 (by decide +kernel) (by decide +kernel)
theorem t_147 : (.fieldLink "BankTimes" 81 "BankTimes" "askCount" "I" : Cond) ∈ tG := tk 231 (by decide +kernel) (by decide +kernel)
theorem t_148 : (.fieldLink "BankTimes" 182 "BankTimes$Log" "total" "I" : Cond) ∈ tG := tk 208 (by decide +kernel) (by decide +kernel)
theorem t_149 : (.methodLink "BankTimes" 185 y_B_dueRefreshes : Cond) ∈ tG := tk 272 (by decide +kernel) (by decide +kernel)
theorem t_150 : (.code y_B_dueRefreshes k_B_dueRefreshes 3 (some .int) : Cond) ∈ tG := tk 275 (by decide +kernel) (by decide +kernel)
theorem t_151 : (.instanceMethod y_B_dueRefreshes : Cond) ∈ tG := tk 274 (by decide +kernel) (by decide +kernel)
theorem t_152 : (.selects "BankTimes" y_B_dueRefreshes y_B_dueRefreshes : Cond) ∈ tG := tk 0 (by decide +kernel) (by decide +kernel)
theorem t_153 : (.fieldLink "BankTimes" 179 "BankTimes$Log" "ofKind" "[I" : Cond) ∈ tG := tk 203 (by decide +kernel) (by decide +kernel)
theorem t_154 : (.fieldLink "BankTimes" 48 "BankTimes" "checkers" "[LBankTimes$Rules;" : Cond) ∈ tG := tk 226 (by decide +kernel) (by decide +kernel)
theorem t_155 : (.methodLink "BankTimes" 161 y_R_forget : Cond) ∈ tG := tk 267 (by decide +kernel) (by decide +kernel)
theorem t_156 : (.code y_R_forget k_R_forget 1 none : Cond) ∈ tG := tk 96 (by decide +kernel) (by decide +kernel)
theorem t_157 : (.instanceMethod y_R_forget : Cond) ∈ tG := tk 94 (by decide +kernel) (by decide +kernel)
theorem t_158 : (.selects "BankTimes$Rules" y_R_forget y_R_forget : Cond) ∈ tG := tk 95 (by decide +kernel) (by decide +kernel)
theorem t_159 : (.instantiable "java/lang/IndexOutOfBoundsException" 6 : Cond) ∈ tG := tk 290 (by decide +kernel) (by decide +kernel)
theorem t_160 : (.classLink "BankTimes" 66 "java/lang/IndexOutOfBoundsException" : Cond) ∈ tG := tk 289 (by decide +kernel) (by decide +kernel)
theorem t_161 : (.initialized "java/lang/IndexOutOfBoundsException" : Cond) ∈ tG := tk 54 (by decide +kernel) (by decide +kernel)
theorem t_162 : (.fieldLink "BankTimes" 37 "BankTimes" "times" "[I" : Cond) ∈ tG := tk 224 (by decide +kernel) (by decide +kernel)
theorem t_163 : (.instantiable "java/lang/IllegalArgumentException" 6 : Cond) ∈ tG := tk 359 (by decide +kernel) (by decide +kernel)
theorem t_164 : (.classLink "BankTimes" 73 "java/lang/IllegalArgumentException" : Cond) ∈ tG := tk 358 (by decide +kernel) (by decide +kernel)
theorem t_165 : (.initialized "java/lang/IllegalArgumentException" : Cond) ∈ tG := tk 55 (by decide +kernel) (by decide +kernel)
theorem t_166 : (.instantiable "java/lang/IllegalStateException" 6 : Cond) ∈ tG := tk 383 (by decide +kernel) (by decide +kernel)
theorem t_167 : (.classLink "BankTimes" 88 "java/lang/IllegalStateException" : Cond) ∈ tG := tk 382 (by decide +kernel) (by decide +kernel)
theorem t_168 : (.initialized "java/lang/IllegalStateException" : Cond) ∈ tG := tk 56 (by decide +kernel) (by decide +kernel)
theorem t_169 : (.methodLink "BankTimes" 84 y_B_anyRowOpen : Cond) ∈ tG := tk 374 (by decide +kernel) (by decide +kernel)
theorem t_170 : (.code y_B_anyRowOpen k_B_anyRowOpen 2 (some .boolean) : Cond) ∈ tG := tk 377 (by decide +kernel) (by decide +kernel)
theorem t_171 : (.instanceMethod y_B_anyRowOpen : Cond) ∈ tG := tk 376 (by decide +kernel) (by decide +kernel)
theorem t_172 : (.selects "BankTimes" y_B_anyRowOpen y_B_anyRowOpen : Cond) ∈ tG := tk 2 (by decide +kernel) (by decide +kernel)
theorem t_173 : (.methodLink "BankTimes" 98 y_B_isAddress : Cond) ∈ tG := tk 414 (by decide +kernel) (by decide +kernel)
theorem t_174 : (.code y_B_isAddress k_B_isAddress 1 (some .boolean) : Cond) ∈ tG := tk 416 (by decide +kernel) (by decide +kernel)
theorem t_175 : (.static y_B_isAddress : Cond) ∈ tG := tk 415 (by decide +kernel) (by decide +kernel)
theorem t_176 : (.methodLink "BankTimes" 104 y_B_channelOf : Cond) ∈ tG := tk 419 (by decide +kernel) (by decide +kernel)
theorem t_177 : (.code y_B_channelOf k_B_channelOf 2 (some .int) : Cond) ∈ tG := tk 422 (by decide +kernel) (by decide +kernel)
theorem t_178 : (.instanceMethod y_B_channelOf : Cond) ∈ tG := tk 421 (by decide +kernel) (by decide +kernel)
theorem t_179 : (.selects "BankTimes" y_B_channelOf y_B_channelOf : Cond) ∈ tG := tk 3 (by decide +kernel) (by decide +kernel)
theorem t_180 : (.methodLink "BankTimes" 112 y_Q_isFull : Cond) ∈ tG := tk 423 (by decide +kernel) (by decide +kernel)
theorem t_181 : (.code y_Q_isFull k_Q_isFull 1 (some .boolean) : Cond) ∈ tG := tk 426 (by decide +kernel) (by decide +kernel)
theorem t_182 : (.instanceMethod y_Q_isFull : Cond) ∈ tG := tk 424 (by decide +kernel) (by decide +kernel)
theorem t_183 : (.selects "BankTimes$Queue" y_Q_isFull y_Q_isFull : Cond) ∈ tG := tk 425 (by decide +kernel) (by decide +kernel)
theorem t_184 : (.instantiable "java/lang/UnsupportedOperationException" 6 : Cond) ∈ tG := tk 428 (by decide +kernel) (by decide +kernel)
theorem t_185 : (.classLink "BankTimes" 117 "java/lang/UnsupportedOperationException" : Cond) ∈ tG := tk 427 (by decide +kernel) (by decide +kernel)
theorem t_186 : (.initialized "java/lang/UnsupportedOperationException" : Cond) ∈ tG := tk 57 (by decide +kernel) (by decide +kernel)
theorem t_187 : (.methodLink "BankTimes" 125 y_B_bankOf : Cond) ∈ tG := tk 443 (by decide +kernel) (by decide +kernel)
theorem t_188 : (.code y_B_bankOf k_B_bankOf 2 (some .int) : Cond) ∈ tG := tk 446 (by decide +kernel) (by decide +kernel)
theorem t_189 : (.instanceMethod y_B_bankOf : Cond) ∈ tG := tk 445 (by decide +kernel) (by decide +kernel)
theorem t_190 : (.selects "BankTimes" y_B_bankOf y_B_bankOf : Cond) ∈ tG := tk 4 (by decide +kernel) (by decide +kernel)
theorem t_191 : (.methodLink "BankTimes" 128 y_B_rowOf : Cond) ∈ tG := tk 447 (by decide +kernel) (by decide +kernel)
theorem t_192 : (.code y_B_rowOf k_B_rowOf 2 (some .int) : Cond) ∈ tG := tk 450 (by decide +kernel) (by decide +kernel)
theorem t_193 : (.instanceMethod y_B_rowOf : Cond) ∈ tG := tk 449 (by decide +kernel) (by decide +kernel)
theorem t_194 : (.selects "BankTimes" y_B_rowOf y_B_rowOf : Cond) ∈ tG := tk 5 (by decide +kernel) (by decide +kernel)
theorem t_195 : (.methodLink "BankTimes" 131 y_Q_add : Cond) ∈ tG := tk 451 (by decide +kernel) (by decide +kernel)
theorem t_196 : (.code y_Q_add k_Q_add 6 none : Cond) ∈ tG := tk 454 (by decide +kernel) (by decide +kernel)
theorem t_197 : (.instanceMethod y_Q_add : Cond) ∈ tG := tk 452 (by decide +kernel) (by decide +kernel)
theorem t_198 : (.selects "BankTimes$Queue" y_Q_add y_Q_add : Cond) ∈ tG := tk 453 (by decide +kernel) (by decide +kernel)
theorem t_199 : (.methodLink "BankTimes" 137 y_B_step : Cond) ∈ tG := tk 463 (by decide +kernel) (by decide +kernel)
theorem t_200 : (.code y_B_step k_B_step 5 none : Cond) ∈ tG := tk 466 (by decide +kernel) (by decide +kernel)
theorem t_201 : (.instanceMethod y_B_step : Cond) ∈ tG := tk 465 (by decide +kernel) (by decide +kernel)
theorem t_202 : (.selects "BankTimes" y_B_step y_B_step : Cond) ∈ tG := tk 6 (by decide +kernel) (by decide +kernel)
theorem t_203 : (.fieldLink "BankTimes" 142 "BankTimes$Log" "kept" "I" : Cond) ∈ tG := tk 206 (by decide +kernel) (by decide +kernel)
theorem t_204 : (.methodLink "BankTimes" 147 y_G_partOf : Cond) ∈ tG := tk 558 (by decide +kernel) (by decide +kernel)
theorem t_205 : (.code y_G_partOf k_G_partOf 3 (some .int) : Cond) ∈ tG := tk 561 (by decide +kernel) (by decide +kernel)
theorem t_206 : (.instanceMethod y_G_partOf : Cond) ∈ tG := tk 559 (by decide +kernel) (by decide +kernel)
theorem t_207 : (.selects "BankTimes$Log" y_G_partOf y_G_partOf : Cond) ∈ tG := tk 560 (by decide +kernel) (by decide +kernel)
theorem t_208 : (.constant "BankTimes" 166 65535 : Cond) ∈ tG := tk 586 (by decide +kernel) (by decide +kernel)
theorem t_209 : (.methodLink "BankTimes" 171 y_R_brokenRule : Cond) ∈ tG := tk 589 (by decide +kernel) (by decide +kernel)
theorem t_210 : (.code y_R_brokenRule k_R_brokenRule 6 (some .int) : Cond) ∈ tG := tk 592 (by decide +kernel) (by decide +kernel)
theorem t_211 : (.instanceMethod y_R_brokenRule : Cond) ∈ tG := tk 590 (by decide +kernel) (by decide +kernel)
theorem t_212 : (.selects "BankTimes$Rules" y_R_brokenRule y_R_brokenRule : Cond) ∈ tG := tk 591 (by decide +kernel) (by decide +kernel)
theorem t_213 : (.fieldLink "BankTimesModel" 97 "BankTimesModel" "thrown" "I" : Cond) ∈ tG := tk 609 (by decide +kernel) (by decide +kernel)
theorem t_214 : (.fieldLink "BankTimesModel" 28 "BankTimesModel" "anyWrite" "[I" : Cond) ∈ tG := tk 622 (by decide +kernel) (by decide +kernel)
theorem t_215 : (.constant "BankTimesModel" 100 (-100000) : Cond) ∈ tG := tk 608 (by decide +kernel) (by decide +kernel)
theorem t_216 : (.fieldLink "BankTimesModel" 31 "BankTimesModel" "anyUse" "[I" : Cond) ∈ tG := tk 623 (by decide +kernel) (by decide +kernel)
theorem t_217 : (.fieldLink "BankTimesModel" 34 "BankTimesModel" "refreshed" "[I" : Cond) ∈ tG := tk 624 (by decide +kernel) (by decide +kernel)
theorem t_218 : (.fieldLink "BankTimesModel" 40 "BankTimesModel" "lastCheck" "[I" : Cond) ∈ tG := tk 626 (by decide +kernel) (by decide +kernel)
theorem t_219 : (.fieldLink "BankTimesModel" 37 "BankTimesModel" "activates" "[I" : Cond) ∈ tG := tk 625 (by decide +kernel) (by decide +kernel)
theorem t_220 : (.fieldLink "BankTimesModel" 13 "BankTimesModel" "open" "[I" : Cond) ∈ tG := tk 617 (by decide +kernel) (by decide +kernel)
theorem t_221 : (.fieldLink "BankTimesModel" 16 "BankTimesModel" "opened" "[I" : Cond) ∈ tG := tk 618 (by decide +kernel) (by decide +kernel)
theorem t_222 : (.fieldLink "BankTimesModel" 19 "BankTimesModel" "closed" "[I" : Cond) ∈ tG := tk 619 (by decide +kernel) (by decide +kernel)
theorem t_223 : (.fieldLink "BankTimesModel" 22 "BankTimesModel" "read" "[I" : Cond) ∈ tG := tk 620 (by decide +kernel) (by decide +kernel)
theorem t_224 : (.fieldLink "BankTimesModel" 25 "BankTimesModel" "written" "[I" : Cond) ∈ tG := tk 621 (by decide +kernel) (by decide +kernel)
theorem t_225 : (.constant "BankTimesModel" 101 1048575 : Cond) ∈ tG := tk 724 (by decide +kernel) (by decide +kernel)
theorem t_226 : (.methodLink "BankTimesModel" 102 y_D_within : Cond) ∈ tG := tk 725 (by decide +kernel) (by decide +kernel)
theorem t_227 : (.code y_D_within k_D_within 3 (some .boolean) : Cond) ∈ tG := tk 727 (by decide +kernel) (by decide +kernel)
theorem t_228 : (.static y_D_within : Cond) ∈ tG := tk 726 (by decide +kernel) (by decide +kernel)
theorem t_229 : (.initialized "BankTimesModel" : Cond) ∈ tG := tk 50 (by decide +kernel) (by decide +kernel)
theorem t_230 : (.fieldLink "BankTimesModel" 80 "BankTimesModel" "channels" "I" : Cond) ∈ tG := tk 610 (by decide +kernel) (by decide +kernel)
theorem t_231 : (.fieldLink "BankTimesModel" 87 "BankTimesModel" "banks" "I" : Cond) ∈ tG := tk 611 (by decide +kernel) (by decide +kernel)
theorem t_232 : (.fieldLink "BankTimesModel" 84 "BankTimesModel" "bankBits" "I" : Cond) ∈ tG := tk 612 (by decide +kernel) (by decide +kernel)
theorem t_233 : (.methodLink "BankTimesModel" 123 y_D_anyOpen : Cond) ∈ tG := tk 752 (by decide +kernel) (by decide +kernel)
theorem t_234 : (.code y_D_anyOpen k_D_anyOpen 4 (some .boolean) : Cond) ∈ tG := tk 755 (by decide +kernel) (by decide +kernel)
theorem t_235 : (.instanceMethod y_D_anyOpen : Cond) ∈ tG := tk 754 (by decide +kernel) (by decide +kernel)
theorem t_236 : (.selects "BankTimesModel" y_D_anyOpen y_D_anyOpen : Cond) ∈ tG := tk 25 (by decide +kernel) (by decide +kernel)
theorem t_237 : (.methodLink "BankTimesModel" 126 y_D_since : Cond) ∈ tG := tk 776 (by decide +kernel) (by decide +kernel)
theorem t_238 : (.code y_D_since k_D_since 7 (some .int) : Cond) ∈ tG := tk 779 (by decide +kernel) (by decide +kernel)
theorem t_239 : (.instanceMethod y_D_since : Cond) ∈ tG := tk 778 (by decide +kernel) (by decide +kernel)
theorem t_240 : (.selects "BankTimesModel" y_D_since y_D_since : Cond) ∈ tG := tk 28 (by decide +kernel) (by decide +kernel)
theorem t_241 : (.fieldLink "BankTimesModel" 7 "BankTimesModel" "times" "[I" : Cond) ∈ tG := tk 616 (by decide +kernel) (by decide +kernel)
theorem t_242 : (.fieldLink "BankTimesModel" 130 "BankTimesModel" "asks" "I" : Cond) ∈ tG := tk 629 (by decide +kernel) (by decide +kernel)
theorem t_243 : (.fieldLink "BankTimesModel" 59 "BankTimesModel" "done" "[I" : Cond) ∈ tG := tk 635 (by decide +kernel) (by decide +kernel)
theorem t_244 : (.fieldLink "BankTimesModel" 50 "BankTimesModel" "address" "[I" : Cond) ∈ tG := tk 632 (by decide +kernel) (by decide +kernel)
theorem t_245 : (.methodLink "BankTimesModel" 114 y_D_channelOf : Cond) ∈ tG := tk 732 (by decide +kernel) (by decide +kernel)
theorem t_246 : (.code y_D_channelOf k_D_channelOf 2 (some .int) : Cond) ∈ tG := tk 735 (by decide +kernel) (by decide +kernel)
theorem t_247 : (.instanceMethod y_D_channelOf : Cond) ∈ tG := tk 734 (by decide +kernel) (by decide +kernel)
theorem t_248 : (.selects "BankTimesModel" y_D_channelOf y_D_channelOf : Cond) ∈ tG := tk 21 (by decide +kernel) (by decide +kernel)
theorem t_249 : (.methodLink "BankTimesModel" 106 y_D_isAddress : Cond) ∈ tG := tk 720 (by decide +kernel) (by decide +kernel)
theorem t_250 : (.code y_D_isAddress k_D_isAddress 2 (some .boolean) : Cond) ∈ tG := tk 723 (by decide +kernel) (by decide +kernel)
theorem t_251 : (.instanceMethod y_D_isAddress : Cond) ∈ tG := tk 722 (by decide +kernel) (by decide +kernel)
theorem t_252 : (.selects "BankTimesModel" y_D_isAddress y_D_isAddress : Cond) ∈ tG := tk 19 (by decide +kernel) (by decide +kernel)
theorem t_253 : (.methodLink "BankTimesModel" 110 y_D_fail : Cond) ∈ tG := tk 728 (by decide +kernel) (by decide +kernel)
theorem t_254 : (.code y_D_fail k_D_fail 2 (some .int) : Cond) ∈ tG := tk 731 (by decide +kernel) (by decide +kernel)
theorem t_255 : (.instanceMethod y_D_fail : Cond) ∈ tG := tk 730 (by decide +kernel) (by decide +kernel)
theorem t_256 : (.selects "BankTimesModel" y_D_fail y_D_fail : Cond) ∈ tG := tk 20 (by decide +kernel) (by decide +kernel)
theorem t_257 : (.methodLink "BankTimesModel" 120 y_D_rowOf : Cond) ∈ tG := tk 740 (by decide +kernel) (by decide +kernel)
theorem t_258 : (.code y_D_rowOf k_D_rowOf 2 (some .int) : Cond) ∈ tG := tk 743 (by decide +kernel) (by decide +kernel)
theorem t_259 : (.instanceMethod y_D_rowOf : Cond) ∈ tG := tk 742 (by decide +kernel) (by decide +kernel)
theorem t_260 : (.selects "BankTimesModel" y_D_rowOf y_D_rowOf : Cond) ∈ tG := tk 23 (by decide +kernel) (by decide +kernel)
theorem t_261 : (.methodLink "BankTimesModel" 117 y_D_bankOf : Cond) ∈ tG := tk 736 (by decide +kernel) (by decide +kernel)
theorem t_262 : (.code y_D_bankOf k_D_bankOf 2 (some .int) : Cond) ∈ tG := tk 739 (by decide +kernel) (by decide +kernel)
theorem t_263 : (.instanceMethod y_D_bankOf : Cond) ∈ tG := tk 738 (by decide +kernel) (by decide +kernel)
theorem t_264 : (.selects "BankTimesModel" y_D_bankOf y_D_bankOf : Cond) ∈ tG := tk 22 (by decide +kernel) (by decide +kernel)
theorem t_265 : (.methodLink "BankTimesModel" 133 y_D_waiting : Cond) ∈ tG := tk 748 (by decide +kernel) (by decide +kernel)
theorem t_266 : (.code y_D_waiting k_D_waiting 4 (some .int) : Cond) ∈ tG := tk 751 (by decide +kernel) (by decide +kernel)
theorem t_267 : (.instanceMethod y_D_waiting : Cond) ∈ tG := tk 750 (by decide +kernel) (by decide +kernel)
theorem t_268 : (.selects "BankTimesModel" y_D_waiting y_D_waiting : Cond) ∈ tG := tk 24 (by decide +kernel) (by decide +kernel)
theorem t_269 : (.fieldLink "BankTimesModel" 136 "BankTimesModel" "span" "I" : Cond) ∈ tG := tk 615 (by decide +kernel) (by decide +kernel)
theorem t_270 : (.fieldLink "BankTimesModel" 53 "BankTimesModel" "isWrite" "[Z" : Cond) ∈ tG := tk 633 (by decide +kernel) (by decide +kernel)
theorem t_271 : (.fieldLink "BankTimesModel" 56 "BankTimesModel" "came" "[I" : Cond) ∈ tG := tk 634 (by decide +kernel) (by decide +kernel)
theorem t_272 : (.fieldLink "BankTimesModel" 139 "BankTimesModel" "cycle" "I" : Cond) ∈ tG := tk 614 (by decide +kernel) (by decide +kernel)
theorem t_273 : (.fieldLink "BankTimesModel" 142 "BankTimesModel" "commands" "I" : Cond) ∈ tG := tk 636 (by decide +kernel) (by decide +kernel)
theorem t_274 : (.fieldLink "BankTimesModel" 65 "BankTimesModel" "logChannel" "[I" : Cond) ∈ tG := tk 638 (by decide +kernel) (by decide +kernel)
theorem t_275 : (.fieldLink "BankTimesModel" 68 "BankTimesModel" "logCycle" "[I" : Cond) ∈ tG := tk 639 (by decide +kernel) (by decide +kernel)
theorem t_276 : (.fieldLink "BankTimesModel" 71 "BankTimesModel" "logKind" "[I" : Cond) ∈ tG := tk 640 (by decide +kernel) (by decide +kernel)
theorem t_277 : (.fieldLink "BankTimesModel" 74 "BankTimesModel" "logBank" "[I" : Cond) ∈ tG := tk 641 (by decide +kernel) (by decide +kernel)
theorem t_278 : (.fieldLink "BankTimesModel" 77 "BankTimesModel" "logRow" "[I" : Cond) ∈ tG := tk 642 (by decide +kernel) (by decide +kernel)
theorem t_279 : (.fieldLink "BankTimesModel" 62 "BankTimesModel" "kinds" "[I" : Cond) ∈ tG := tk 637 (by decide +kernel) (by decide +kernel)
theorem t_280 : (.methodLink "BankTimesModel" 145 y_D_note : Cond) ∈ tG := tk 784 (by decide +kernel) (by decide +kernel)
theorem t_281 : (.code y_D_note k_D_note 8 none : Cond) ∈ tG := tk 787 (by decide +kernel) (by decide +kernel)
theorem t_282 : (.instanceMethod y_D_note : Cond) ∈ tG := tk 786 (by decide +kernel) (by decide +kernel)
theorem t_283 : (.selects "BankTimesModel" y_D_note y_D_note : Cond) ∈ tG := tk 30 (by decide +kernel) (by decide +kernel)
theorem t_284 : (.methodLink "BankTimesModel" 149 y_D_nextOf : Cond) ∈ tG := tk 808 (by decide +kernel) (by decide +kernel)
theorem t_285 : (.code y_D_nextOf k_D_nextOf 3 (some .int) : Cond) ∈ tG := tk 811 (by decide +kernel) (by decide +kernel)
theorem t_286 : (.instanceMethod y_D_nextOf : Cond) ∈ tG := tk 810 (by decide +kernel) (by decide +kernel)
theorem t_287 : (.selects "BankTimesModel" y_D_nextOf y_D_nextOf : Cond) ∈ tG := tk 36 (by decide +kernel) (by decide +kernel)
theorem t_288 : (.methodLink "BankTimesModel" 152 y_D_broken : Cond) ∈ tG := tk 772 (by decide +kernel) (by decide +kernel)
theorem t_289 : (.code y_D_broken k_D_broken 6 (some .int) : Cond) ∈ tG := tk 775 (by decide +kernel) (by decide +kernel)
theorem t_290 : (.instanceMethod y_D_broken : Cond) ∈ tG := tk 774 (by decide +kernel) (by decide +kernel)
theorem t_291 : (.selects "BankTimesModel" y_D_broken y_D_broken : Cond) ∈ tG := tk 27 (by decide +kernel) (by decide +kernel)
theorem t_292 : (.methodLink "BankTimesModel" 155 y_D_isOf : Cond) ∈ tG := tk 804 (by decide +kernel) (by decide +kernel)
theorem t_293 : (.code y_D_isOf k_D_isOf 3 (some .boolean) : Cond) ∈ tG := tk 807 (by decide +kernel) (by decide +kernel)
theorem t_294 : (.instanceMethod y_D_isOf : Cond) ∈ tG := tk 806 (by decide +kernel) (by decide +kernel)
theorem t_295 : (.selects "BankTimesModel" y_D_isOf y_D_isOf : Cond) ∈ tG := tk 35 (by decide +kernel) (by decide +kernel)
theorem t_296 : (.methodLink "BankTimesModel" 159 y_D_isAmong : Cond) ∈ tG := tk 800 (by decide +kernel) (by decide +kernel)
theorem t_297 : (.code y_D_isAmong k_D_isAmong 4 (some .boolean) : Cond) ∈ tG := tk 803 (by decide +kernel) (by decide +kernel)
theorem t_298 : (.instanceMethod y_D_isAmong : Cond) ∈ tG := tk 802 (by decide +kernel) (by decide +kernel)
theorem t_299 : (.selects "BankTimesModel" y_D_isAmong y_D_isAmong : Cond) ∈ tG := tk 34 (by decide +kernel) (by decide +kernel)
theorem t_300 : (.methodLink "BankTimesModel" 162 y_D_isReady : Cond) ∈ tG := tk 812 (by decide +kernel) (by decide +kernel)
theorem t_301 : (.code y_D_isReady k_D_isReady 2 (some .boolean) : Cond) ∈ tG := tk 815 (by decide +kernel) (by decide +kernel)
theorem t_302 : (.instanceMethod y_D_isReady : Cond) ∈ tG := tk 814 (by decide +kernel) (by decide +kernel)
theorem t_303 : (.selects "BankTimesModel" y_D_isReady y_D_isReady : Cond) ∈ tG := tk 37 (by decide +kernel) (by decide +kernel)
theorem t_304 : (.methodLink "BankTimesModel" 165 y_D_isWanted : Cond) ∈ tG := tk 816 (by decide +kernel) (by decide +kernel)
theorem t_305 : (.code y_D_isWanted k_D_isWanted 6 (some .boolean) : Cond) ∈ tG := tk 819 (by decide +kernel) (by decide +kernel)
theorem t_306 : (.instanceMethod y_D_isWanted : Cond) ∈ tG := tk 818 (by decide +kernel) (by decide +kernel)
theorem t_307 : (.selects "BankTimesModel" y_D_isWanted y_D_isWanted : Cond) ∈ tG := tk 38 (by decide +kernel) (by decide +kernel)
theorem t_308 : (.methodLink "BankTimesModel" 168 y_D_byRows : Cond) ∈ tG := tk 796 (by decide +kernel) (by decide +kernel)
theorem t_309 : (.code y_D_byRows k_D_byRows 4 (some .int) : Cond) ∈ tG := tk 799 (by decide +kernel) (by decide +kernel)
theorem t_310 : (.instanceMethod y_D_byRows : Cond) ∈ tG := tk 798 (by decide +kernel) (by decide +kernel)
theorem t_311 : (.selects "BankTimesModel" y_D_byRows y_D_byRows : Cond) ∈ tG := tk 33 (by decide +kernel) (by decide +kernel)
theorem t_312 : (.fieldLink "BankTimesModel" 47 "BankTimesModel" "lastBank" "[I" : Cond) ∈ tG := tk 628 (by decide +kernel) (by decide +kernel)
theorem t_313 : (.fieldLink "BankTimesModel" 90 "BankTimesModel" "scheduler" "I" : Cond) ∈ tG := tk 613 (by decide +kernel) (by decide +kernel)
theorem t_314 : (.methodLink "BankTimesModel" 175 y_D_byTurns : Cond) ∈ tG := tk 824 (by decide +kernel) (by decide +kernel)
theorem t_315 : (.code y_D_byTurns k_D_byTurns 5 (some .int) : Cond) ∈ tG := tk 827 (by decide +kernel) (by decide +kernel)
theorem t_316 : (.instanceMethod y_D_byTurns : Cond) ∈ tG := tk 826 (by decide +kernel) (by decide +kernel)
theorem t_317 : (.selects "BankTimesModel" y_D_byTurns y_D_byTurns : Cond) ∈ tG := tk 40 (by decide +kernel) (by decide +kernel)
theorem t_318 : (.methodLink "BankTimesModel" 172 y_D_byReads : Cond) ∈ tG := tk 820 (by decide +kernel) (by decide +kernel)
theorem t_319 : (.code y_D_byReads k_D_byReads 5 (some .int) : Cond) ∈ tG := tk 823 (by decide +kernel) (by decide +kernel)
theorem t_320 : (.instanceMethod y_D_byReads : Cond) ∈ tG := tk 822 (by decide +kernel) (by decide +kernel)
theorem t_321 : (.selects "BankTimesModel" y_D_byReads y_D_byReads : Cond) ∈ tG := tk 39 (by decide +kernel) (by decide +kernel)
theorem t_322 : (.methodLink "BankTimesModel" 178 y_D_give : Cond) ∈ tG := tk 780 (by decide +kernel) (by decide +kernel)
theorem t_323 : (.code y_D_give k_D_give 6 none : Cond) ∈ tG := tk 783 (by decide +kernel) (by decide +kernel)
theorem t_324 : (.instanceMethod y_D_give : Cond) ∈ tG := tk 782 (by decide +kernel) (by decide +kernel)
theorem t_325 : (.selects "BankTimesModel" y_D_give y_D_give : Cond) ∈ tG := tk 29 (by decide +kernel) (by decide +kernel)
theorem t_326 : (.fieldLink "BankTimesModel" 43 "BankTimesModel" "due" "[Z" : Cond) ∈ tG := tk 627 (by decide +kernel) (by decide +kernel)
theorem t_327 : (.methodLink "BankTimesModel" 182 y_D_named : Cond) ∈ tG := tk 792 (by decide +kernel) (by decide +kernel)
theorem t_328 : (.code y_D_named k_D_named 3 (some .int) : Cond) ∈ tG := tk 795 (by decide +kernel) (by decide +kernel)
theorem t_329 : (.instanceMethod y_D_named : Cond) ∈ tG := tk 794 (by decide +kernel) (by decide +kernel)
theorem t_330 : (.selects "BankTimesModel" y_D_named y_D_named : Cond) ∈ tG := tk 32 (by decide +kernel) (by decide +kernel)
theorem t_331 : (.fieldLink "BankTimesModel" 185 "BankTimesModel" "doneAsks" "I" : Cond) ∈ tG := tk 630 (by decide +kernel) (by decide +kernel)
theorem t_332 : (.fieldLink "BankTimesModel" 188 "BankTimesModel" "waited" "I" : Cond) ∈ tG := tk 631 (by decide +kernel) (by decide +kernel)
theorem t_333 : (.methodLink "BankTimesModel" 194 y_D_serve : Cond) ∈ tG := tk 788 (by decide +kernel) (by decide +kernel)
theorem t_334 : (.code y_D_serve k_D_serve 5 none : Cond) ∈ tG := tk 791 (by decide +kernel) (by decide +kernel)
theorem t_335 : (.instanceMethod y_D_serve : Cond) ∈ tG := tk 790 (by decide +kernel) (by decide +kernel)
theorem t_336 : (.selects "BankTimesModel" y_D_serve y_D_serve : Cond) ∈ tG := tk 31 (by decide +kernel) (by decide +kernel)
theorem t_337 : (.methodLink "BankTimesModel" 191 y_D_refresh : Cond) ∈ tG := tk 768 (by decide +kernel) (by decide +kernel)
theorem t_338 : (.code y_D_refresh k_D_refresh 3 none : Cond) ∈ tG := tk 771 (by decide +kernel) (by decide +kernel)
theorem t_339 : (.instanceMethod y_D_refresh : Cond) ∈ tG := tk 770 (by decide +kernel) (by decide +kernel)
theorem t_340 : (.selects "BankTimesModel" y_D_refresh y_D_refresh : Cond) ∈ tG := tk 26 (by decide +kernel) (by decide +kernel)
theorem t_341 : (.methodLink "BankTimesModel" 93 y_D_clear : Cond) ∈ tG := tk 604 (by decide +kernel) (by decide +kernel)
theorem t_342 : (.code y_D_clear k_D_clear 3 none : Cond) ∈ tG := tk 607 (by decide +kernel) (by decide +kernel)
theorem t_343 : (.instanceMethod y_D_clear : Cond) ∈ tG := tk 606 (by decide +kernel) (by decide +kernel)
theorem t_344 : (.selects "BankTimesModel" y_D_clear y_D_clear : Cond) ∈ tG := tk 18 (by decide +kernel) (by decide +kernel)
theorem t_345 : (.methodLink "BankTimesModel" 198 y_D_fits : Cond) ∈ tG := tk 849 (by decide +kernel) (by decide +kernel)
theorem t_346 : (.code y_D_fits k_D_fits 6 (some .boolean) : Cond) ∈ tG := tk 852 (by decide +kernel) (by decide +kernel)
theorem t_347 : (.instanceMethod y_D_fits : Cond) ∈ tG := tk 851 (by decide +kernel) (by decide +kernel)
theorem t_348 : (.selects "BankTimesModel" y_D_fits y_D_fits : Cond) ∈ tG := tk 41 (by decide +kernel) (by decide +kernel)
theorem t_349 : (.constant "BankTimesModel" 197 65535 : Cond) ∈ tG := tk 848 (by decide +kernel) (by decide +kernel)
end
section
/-! CONTRACTS THAT MAY END BY A THROW -/
def FrameEndT (first : State) (t : State) (L : List Loc) (k n : Nat) : Prop := first.WarmedH t.vm ∧ first.sameButNew ({ t with vm := first.vm } : State) L k n
def MetT (l : Launch) (y : MethodName) (ws : List Cond) (rm : Room) (Pc : Array Value → State → Prop) (Qc : Array Value → State → Outcome → State → Prop) (mc ms : Nat) (free : Addr → Prop) : Prop :=
  MetFree l y (headSpec ws rm) Pc (fun _ _ _ _ _ => True) (fun a st o t => Qc a st o t ∧ ∃ L, FrameEndT st t L mc ms ∧ ∀ q ∈ L, free q.base)
def MQT (below : List Frame) (Qc : Array Value → State → Outcome → State → Prop) (a : Array Value) (s : State) (mc ms : Nat) (free : Addr → Prop) : State → Prop := fun t =>
  ∃ o, t.status = .running ∧ Ended t below o ∧ Qc a s o t ∧ ∃ L, FrameEndT s t L mc ms ∧ ∀ q ∈ L, free q.base
/-- the names of what is thrown, by number from 1 on; 0: it returned -/
def xn (k : Nat) : String := match k with
  | 1 => "java/lang/IndexOutOfBoundsException"
  | 2 => "java/lang/IllegalArgumentException"
  | 3 => "java/lang/IllegalStateException"
  | _ => "java/lang/UnsupportedOperationException"
def Qwt (D : va_G) (cl : List vw_C) (b N : Nat) (sh : Shp) (k : Nat) (v : Int32) (M' : Mm) (sz : Nat) : Array Value → State → Outcome → State → Prop := fun _ st oc t =>
  ((k = 0 ∧ oc = .returned (some (.int v))) ∨ (k ≠ 0 ∧ ∃ (a : Nat) (ce : Cell), oc = .threw a ∧ t.heap[a]? = some ce ∧ ce.vm = .none ∧ st.vm.findClass (xn k) = some ce.cls)) ∧ va_P D cl (wd b N sh M') t.heap ∧ va_F (reg b N sz) st t
theorem oe3 {α β γ : Type} {a c : α} {b d : β} {x y : γ} (h : some (a, b, x) = some (c, d, y)) : a = c ∧ b = d ∧ x = y := by
  have h1 := Option.some.inj h
  exact ⟨congrArg (fun q => q.1) h1, congrArg (fun q => q.2.1) h1, congrArg (fun q => q.2.2) h1⟩
/-- what holds inside a method that throws: no handlers of its own, no stack traces -/
def Cxt (p : Program) (l : Launch) (s : State) (m : MethodId) (args : Array Value) (meth : Method) (c : Code) (D : va_G) (cl : List vw_C) (tys : List (ClassId × FieldType)) (own : String) (cc : ByteArray) (nL : Nat) (ret : Option FieldType) : Prop :=
  Cx p s m args meth c D cl tys own cc nL ret ∧ c.exceptionTable.isEmpty = true ∧ l.stackTraces = false
/-- Throwable's two statics hold a reference or null; words that only the wider law carries; the texts of the exceptions are there -/
def tX : List Cond := lw_tbl.filter (fun w => w.onTables && w.keepsFace)
def xstrs : List (Nat × String) := [(68, "there is no such time"), (75, "a time is 1 .. 100 cycles"), (90, "an ask waits or a row is open"), (93, "a span is 0 or 50 .. 10000 cycles"), (102, "an address is 0 .. 1048575"), (119, "the channel's queue is full"), (135, "a run is 1 .. 1000 cycles"), (140, "there is no such ask"), (145, "there is no such command or part of it"), (150, "there is no such channel or bank"), (159, "an address has the parts 0 .. 3"), (164, "there is no such channel or kind"), (167, "there is no such bank, cycle or row"), (169, "bank and row of a REFRESH are 0")]
def ThS (U : State) : Prop := va_Zq "java/lang/Throwable" "UNASSIGNED_STACK" Bundle.steD (fun _ => False) U U.heap ∧ va_Zq "java/lang/Throwable" "SUPPRESSED_SENTINEL" Bundle.listD (fun _ => False) U U.heap ∧ (∀ w ∈ tX, w.before #[] U = true) ∧ (((Cond.laysStatic "java/lang/Throwable" "UNASSIGNED_STACK" Bundle.steD).before #[] U = true ∧ (Cond.laysStatic "java/lang/Throwable" "SUPPRESSED_SENTINEL" Bundle.listD).before #[] U = true)) ∧ ∀ q ∈ xstrs, ∃ a, vk_R "BankTimes" q.1 q.2 a U
theorem zq_word {C n d : String} {U : State} {A : Nat → Prop} (h : va_Zq C n d A U U.heap) (args : Array Value) : (Cond.isRef (.static C n d)).before args U = true := by
  rcases h with ⟨cf, kf, fi, f, a, cell, h1, h2, h3, h4, h5, h6, h7, h8⟩ | ⟨t, cf, kf, fi, f, a, cell, h1, h2, h3, h4, h5, h6, h7, h8⟩
  · have he : (Term.static C n d).eval args U none [] U = cell.slots[f.slot]? := by simp [Term.eval, State.fieldNamed?, h1, h2, h4, h5, h6]
    simp [Cond.before, Cond.holds, Cond.value, he, h7]
  · have he : (Term.static C n d).eval args U none [] U = cell.slots[f.slot]? := by simp [Term.eval, State.fieldNamed?, h1, h2, h4, h5, h6]
    simp [Cond.before, Cond.holds, Cond.value, he, h7]
theorem tX_on {w : Cond} (h : w ∈ tX) : w.onTables = true ∧ w.keepsFace = true := by
  have h1 := (List.mem_filter.mp h).2
  simpa using h1
theorem ls_moved {O n d : String} {A A' : Array Value} {u U : State} (hvm : u.vm.Alike U.vm) (hq : ∀ a : Nat, a < u.heap.size → U.heap[a]? = u.heap[a]?) (h : (Cond.laysStatic O n d).before A u = true) : (Cond.laysStatic O n d).before A' U = true := by
  have h1 := Cond.laysStatic_setVm hvm h
  obtain ⟨c, k, i, f, a, cell, hc, hi, hst, ha, hcell, hs, hcls, hlt, hty⟩ := Cond.laysStatic_spec h1
  have hcell' : u.heap[a]? = some cell := hcell
  exact Cond.laysStatic_of (s := U) hc hi hst ha (by rw [hq a (Array.getElem?_eq_some_iff.mp hcell').1]; exact hcell') hs hcls hlt hty
theorem ThS.calling {U : State} {g : JFrame} {mk : MethodId} {a : Array Value} (h : ThS U) : ThS (U.calling g mk a) :=
  ⟨va_Zq.moved (u := U) (U := U.calling g mk a) (Vm.Alike.refl U.vm) h.1, va_Zq.moved (u := U) (U := U.calling g mk a) (Vm.Alike.refl U.vm) h.2.1, fun w hw => va_tabs (tX_on hw).1 (by rfl) (h.2.2.1 w hw), ⟨ls_moved (u := U) (U := U.calling g mk a) (Vm.Alike.refl U.vm) (fun _ _ => rfl) h.2.2.2.1.1, ls_moved (u := U) (U := U.calling g mk a) (Vm.Alike.refl U.vm) (fun _ _ => rfl) h.2.2.2.1.2⟩, fun q hq => by
    obtain ⟨a1, h1⟩ := h.2.2.2.2 q hq
    exact ⟨a1, vk_R.same (by rfl) h1⟩⟩
/-- .. and they still do, later in the run, where the old cells are as they were -/
theorem ThS.later {s U : State} (hW : s.WarmedH U.vm) (hq : ∀ a : Nat, a < s.heap.size → U.heap[a]? = s.heap[a]?) (h : ThS s) : ThS U :=
  ⟨(va_Zq.moved hW.alike h.1).kept (fun a h1 _ => hq a h1), (va_Zq.moved hW.alike h.2.1).kept (fun a h1 _ => hq a h1), fun w hw => va_tabs (tX_on hw).1 (by rfl) (Cond.before_shiftedFace (State.Shifted.of_warmed hW) _ (tX_on hw).2 (h.2.2.1 w hw)), ⟨ls_moved hW.alike hq h.2.2.2.1.1, ls_moved hW.alike hq h.2.2.2.1.2⟩, fun q hq => by
    obtain ⟨a1, h1⟩ := h.2.2.2.2 q hq
    exact ⟨a1, h1.warm hW⟩⟩
def PwT (D : va_G) (cl : List vw_C) (tys : List (ClassId × FieldType)) (b N : Nat) (sh : Shp) (av : List Value) (M : Mm) (sz : Nat) : Array Value → State → Prop := va_Pc av (fun U => U.heap.size = sz ∧ ThS U ∧ va_P D cl (wd b N sh M) U.heap ∧ va_K D cl tys U)
theorem PwT_blind {D : va_G} {cl : List vw_C} {tys : List (ClassId × FieldType)} {b N : Nat} {sh : Shp} {av : List Value} {M : Mm} {sz : Nat} : FrameBlind (PwT D cl tys b N sh av M sz) := by
  intro a U g mk q
  obtain ⟨q0, q1, q2, qP, qK⟩ := q
  exact ⟨q0, q1, q2.calling, qP, va_K.moved (u := U) (U := U.calling g mk a) (Vm.Alike.refl U.vm) qK⟩
theorem cls_of {s : State} {args : Array Value} {C : String} {n : Nat} (h : (Cond.instantiable C n).before args s = true) : ∃ cC, s.vm.findClass C = some cC := by
  obtain ⟨cC, kC, hfc, -⟩ := Cond.instantiable_spec h
  exact ⟨cC, hfc⟩
theorem mk_metT {l : Launch} {y : MethodName} {cc : ByteArray} {nL : Nat} {ret : Option FieldType} {rm : Room} {D : va_G} {cl : List vw_C} {tys : List (ClassId × FieldType)} {b N : Nat} {sh : Shp} {av : List Value} {M : Mm} {sz mc ms : Nat} {Qc : Array Value → State → Outcome → State → Prop} {free : Addr → Prop} (hy : plainName y.cls = true) (hav : (lg_sl av).length ≤ nL) (hst : l.stackTraces = false)
    (hblk : ∀ (p : Program) (e : Env) (s : State) (m : MethodId) (below : List Frame) (meth : Method) (c : Code) (ls : Array Slot), Cxt p l s m av.toArray meth c D cl tys y.cls cc nL ret → s.heap.size = sz → ThS s → va_P D cl (wd b N sh M) s.heap → va_S (reg b N s.heap.size) s.heap s.heap [] → lv_has ls nL (lv_args 0 av) → W p l e rm s m av.toArray below meth c s.heap [] 0 0 (MQT below Qc av.toArray s mc ms free) (F0 m 0 ls [])) :
    MetT l y (wm y cc nL ret) rm (PwT D cl tys b N sh av M sz) Qc mc ms free := by
  refine MetFree.of_bodyS (code := cc) (maxLocals := nL) (ret := ret) hy ?_ ?_
  · intro args s m h hn
    obtain ⟨meth, c, h1, h2, h3, h4, h5, h6, -, -⟩ := Cond.code_spec hn (atoms_spec (ws := wm y cc nL ret) h _ List.mem_cons_self)
    exact ⟨meth, c, h1, h2, h3, h4, h5, h6⟩
  · intro p e s m args below meth c s₁ B hml hv _
    obtain ⟨rfl, hsz, hTS, hP, hK⟩ := hv
    have hts := atoms_spec (ws := wm y cc nL ret) B.pre
    have hh0 : s₁.heap = s.heap := by rw [B.state]; rfl
    have key := hblk p e s m below meth c _ ⟨⟨B.exec, B.bytes, hml, B.returns, findClass_of_methodNamed B.named, fun w h => hts w (List.mem_cons_of_mem _ h), B.notSynchronized, hK⟩, B.noHandlers (hts _ List.mem_cons_self), hst⟩ hsz hTS hP va_S.rf (lv_entry av hav)
    rw [← lg_entry_eq] at key
    obtain ⟨t, a1, o, b1, b2, b3⟩ := key s₁ hh0 (Stand.of_body B)
    exact ⟨t, o, a1, b1, b2, b3⟩
section TW
variable {p : Program} {l : Launch} {e : Env} {R : Room} {s : State} {m : MethodId} {args : Array Value} {below : List Frame} {meth : Method} {c : Code} {H : Heap} {locs : List Loc} {cells slots mc ms : Nat} {Q : State → Prop}
variable {cc : ByteArray} {pc : Nat} {ls : Array Slot} {rest st0 : List Value} {D : va_G} {cl : List vw_C} {tys : List (ClassId × FieldType)} {b N : Nat} {sh : Shp} {M M' : Mm}
theorem W_mono {Q Q' : State → Prop} {g : JFrame} (h : ∀ t, Q t → Q' t) (k : W p l e R s m args below meth c H locs cells slots Q g) : W p l e R s m args below meth c H locs cells slots Q' g := fun T hT X => by
  obtain ⟨t, a, b⟩ := k T hT X
  exact ⟨t, a, h t b⟩
theorem wd_iretT {rv : Int32} (hx : p.tables.exec = Jvm.exec) (hb : c.code = cc) (hr : meth.sig.returnType = some .int) (hlk : meth.locks = false) (hP : va_P D cl (wd b N sh M) H) (hS : va_S (reg b N s.heap.size) s.heap H locs) (h1 : cells ≤ mc) (h2 : slots ≤ ms) (hdg : decode cc pc = .ok (.ireturn, 1)) :
    W p l e R s m args below meth c H locs cells slots (MQT below (Qwt D cl b N sh 0 rv M s.heap.size) args s mc ms (reg b N s.heap.size)) (F0 m pc ls [.int rv]) := by
  refine W.widen (k := mc) (n := ms) h1 h2 ?_
  refine W_mono ?_ (W.iret (Qc := Qwt D cl b N sh 0 rv M s.heap.size) (free := reg b N s.heap.size) (v := rv) hx hb hr (fun t ht _ => ⟨Or.inl ⟨rfl, rfl⟩, by rw [ht]; exact hP, hS.F ht⟩) hS.2.2 hdg hlk)
  intro t ht
  obtain ⟨o, q1, q2, q3, L, q4, q5⟩ := ht
  exact ⟨o, q1, q2, q3, L, ⟨q4.2.1, q4.2.2⟩, q5⟩
/-- nothing old is written: old cells are as they were -/
theorem same_heap {u : State} {k n : Nat} (h : s.sameButNew u [] k n) : ∀ q : Nat, q < s.heap.size → u.heap[q]? = s.heap[q]? := by
  intro q hq
  obtain ⟨c0, hc0⟩ : ∃ c0, s.heap[q]? = some c0 := ⟨_, Array.getElem?_eq_getElem hq⟩
  obtain ⟨c', h1, h2, h3, h4⟩ := h.2.2.2.2.2 q c0 hc0
  rw [h1, hc0, h2]
  have : c'.slots = c0.slots := by
    apply Array.ext_getElem?
    intro i
    exact h4 i (by simp)
  rw [this]
/-- THROW NEW X("..") in a method that has written nothing -/
theorem wd_throw (k : Nat) (hk : k ≠ 0) {v : Int32} {own tx : String} {i1 i2 i3 qs : Nat} {names : List String} {cC : ClassId} (hx : p.tables.exec = Jvm.exec) (hb : c.code = cc) (hlk : meth.locks = false) (hml : c.maxLocals = ls.size) (hno : c.exceptionTable.isEmpty = true) (hst : l.stackTraces = false) (hown : s.vm.findClass own = some m.cls)
    (hcl : (Cond.classLink own i1 (xn k)).before args s = true) (hins : (Cond.instantiable (xn k) 6).before args s = true) (hini : (Cond.initialized (xn k)).before args s = true) (hfc : s.vm.findClass (xn k) = some cC) (hstr : vk_R own i2 tx qs s)
    (hfit : Bundle.fit (xn k) = true) (hnames : ∀ n ∈ names, Bundle.fit n = true) (hat : ∀ a ∈ Bundle.ownAtoms own i3 (xn k) names, a.before args s = true)
    (hP : va_P D cl (wd b N sh M) s.heap) (hR1 : 1 ≤ R.cells) (hR2 : 6 ≤ R.slots) (hR3 : names.length + 3 < R.frames) (hR4 : 13 * (names.length + 1) + 44 ≤ R.locals)
    (d0 : decode cc pc = .ok (.new i1, 3)) (d3 : decode cc (pc + 3) = .ok (.dup, 1)) (d4 : decode cc (pc + 4) = .ok (.ldc i2, 2)) (d6 : decode cc (pc + 6) = .ok (.invokespecial i3, 3)) (d9 : decode cc (pc + 9) = .ok (.athrow, 1)) :
    W p l e R s m args below meth c s.heap [] 0 0 (MQT below (Qwt D cl b N sh k v M s.heap.size) args s 1 6 (reg b N s.heap.size)) (F0 m pc ls []) := by
  refine W.newcK hx hb hown hcl hins hini rfl d0 (by omega) (by omega) hfc rfl (fun H1 kC hkC e1 z1 o1 => ?_)
  refine lv_dup hx hb d3 rfl ?_
  refine va_ldcS hx hb hown hstr d4 ?_
  intro T hT X
  obtain ⟨U, st, hrun, hend, hW, hsame, ce, hce, hO⟩ := X.ctorThrowS hx (by rw [X.admits.platform]; exact hst) (own := own) (cls := xn k) (names := names) (ic := i3) hown hfit hnames hat (fun x h => by cases h) hfc hkC (by rw [hT]; exact e1) (Nat.le_refl _) (msg := .ref qs) rfl (g := F0 m (pc + 6) ls [.ref qs, .ref s.heap.size, .ref s.heap.size]) rfl (by rw [hml]) rfl rfl rfl (by rw [hb]; exact d6) (by rw [hb]; exact d9) (fun x h => by
    have h0 : c.exceptionTable = #[] := by simpa using hno
    rw [h0] at h
    cases h) hR3 (by show 2 * 0 + _ + _ ≤ _; simp [Value.category]; omega) hlk
  have hsh := same_heap hsame
  refine ⟨U, st, .threw s.heap.size, hrun, hend, ⟨Or.inr ⟨hk, s.heap.size, ce, rfl, hce, hO.vm, hO.cls⟩, ?_, ?_, ?_⟩, [], ⟨hW, hsame⟩, fun q h => by cases h⟩
  · exact hP.kept fun j q hq => hsh q.1 ((hP j q hq).lt)
  · exact hsame.2.1
  · exact fun q h1 _ => hsh q h1
end TW
end
section
theorem own_B_1 {s : State} {args : Array Value} (hTS : ThS s) : ∀ a ∈ Bundle.ownAtoms "BankTimes" 70 (xn 1) ["java/lang/RuntimeException", "java/lang/Exception"], a.before args s = true := by
  intro a ha
  rcases (by decide +kernel : ∀ a ∈ Bundle.ownAtoms "BankTimes" 70 (xn 1) ["java/lang/RuntimeException", "java/lang/Exception"], (decide (a ∈ lw_tbl) && (a.onTables && a.keepsFace)) = true ∨ a = .laysStatic "java/lang/Throwable" "UNASSIGNED_STACK" Bundle.steD ∨ a = .laysStatic "java/lang/Throwable" "SUPPRESSED_SENTINEL" Bundle.listD ∨ a = .isRef (.static "java/lang/Throwable" "UNASSIGNED_STACK" Bundle.steD) ∨ a = .isRef (.static "java/lang/Throwable" "SUPPRESSED_SENTINEL" Bundle.listD)) a ha with h | rfl | rfl | rfl | rfl
  · have h1 := Bool.and_eq_true_iff.mp h
    have h2 : a ∈ tX := List.mem_filter.mpr ⟨of_decide_eq_true h1.1, h1.2⟩
    exact va_any (tX_on h2).1 (hTS.2.2.1 a h2)
  · exact ls_moved (Vm.Alike.refl _) (fun _ _ => rfl) hTS.2.2.2.1.1
  · exact ls_moved (Vm.Alike.refl _) (fun _ _ => rfl) hTS.2.2.2.1.2
  · exact zq_word hTS.1 args
  · exact zq_word hTS.2.1 args
theorem own_B_2 {s : State} {args : Array Value} (hTS : ThS s) : ∀ a ∈ Bundle.ownAtoms "BankTimes" 77 (xn 2) ["java/lang/RuntimeException", "java/lang/Exception"], a.before args s = true := by
  intro a ha
  rcases (by decide +kernel : ∀ a ∈ Bundle.ownAtoms "BankTimes" 77 (xn 2) ["java/lang/RuntimeException", "java/lang/Exception"], (decide (a ∈ lw_tbl) && (a.onTables && a.keepsFace)) = true ∨ a = .laysStatic "java/lang/Throwable" "UNASSIGNED_STACK" Bundle.steD ∨ a = .laysStatic "java/lang/Throwable" "SUPPRESSED_SENTINEL" Bundle.listD ∨ a = .isRef (.static "java/lang/Throwable" "UNASSIGNED_STACK" Bundle.steD) ∨ a = .isRef (.static "java/lang/Throwable" "SUPPRESSED_SENTINEL" Bundle.listD)) a ha with h | rfl | rfl | rfl | rfl
  · have h1 := Bool.and_eq_true_iff.mp h
    have h2 : a ∈ tX := List.mem_filter.mpr ⟨of_decide_eq_true h1.1, h1.2⟩
    exact va_any (tX_on h2).1 (hTS.2.2.1 a h2)
  · exact ls_moved (Vm.Alike.refl _) (fun _ _ => rfl) hTS.2.2.2.1.1
  · exact ls_moved (Vm.Alike.refl _) (fun _ _ => rfl) hTS.2.2.2.1.2
  · exact zq_word hTS.1 args
  · exact zq_word hTS.2.1 args
theorem own_B_3 {s : State} {args : Array Value} (hTS : ThS s) : ∀ a ∈ Bundle.ownAtoms "BankTimes" 92 (xn 3) ["java/lang/RuntimeException", "java/lang/Exception"], a.before args s = true := by
  intro a ha
  rcases (by decide +kernel : ∀ a ∈ Bundle.ownAtoms "BankTimes" 92 (xn 3) ["java/lang/RuntimeException", "java/lang/Exception"], (decide (a ∈ lw_tbl) && (a.onTables && a.keepsFace)) = true ∨ a = .laysStatic "java/lang/Throwable" "UNASSIGNED_STACK" Bundle.steD ∨ a = .laysStatic "java/lang/Throwable" "SUPPRESSED_SENTINEL" Bundle.listD ∨ a = .isRef (.static "java/lang/Throwable" "UNASSIGNED_STACK" Bundle.steD) ∨ a = .isRef (.static "java/lang/Throwable" "SUPPRESSED_SENTINEL" Bundle.listD)) a ha with h | rfl | rfl | rfl | rfl
  · have h1 := Bool.and_eq_true_iff.mp h
    have h2 : a ∈ tX := List.mem_filter.mpr ⟨of_decide_eq_true h1.1, h1.2⟩
    exact va_any (tX_on h2).1 (hTS.2.2.1 a h2)
  · exact ls_moved (Vm.Alike.refl _) (fun _ _ => rfl) hTS.2.2.2.1.1
  · exact ls_moved (Vm.Alike.refl _) (fun _ _ => rfl) hTS.2.2.2.1.2
  · exact zq_word hTS.1 args
  · exact zq_word hTS.2.1 args
theorem own_B_4 {s : State} {args : Array Value} (hTS : ThS s) : ∀ a ∈ Bundle.ownAtoms "BankTimes" 121 (xn 4) ["java/lang/RuntimeException", "java/lang/Exception"], a.before args s = true := by
  intro a ha
  rcases (by decide +kernel : ∀ a ∈ Bundle.ownAtoms "BankTimes" 121 (xn 4) ["java/lang/RuntimeException", "java/lang/Exception"], (decide (a ∈ lw_tbl) && (a.onTables && a.keepsFace)) = true ∨ a = .laysStatic "java/lang/Throwable" "UNASSIGNED_STACK" Bundle.steD ∨ a = .laysStatic "java/lang/Throwable" "SUPPRESSED_SENTINEL" Bundle.listD ∨ a = .isRef (.static "java/lang/Throwable" "UNASSIGNED_STACK" Bundle.steD) ∨ a = .isRef (.static "java/lang/Throwable" "SUPPRESSED_SENTINEL" Bundle.listD)) a ha with h | rfl | rfl | rfl | rfl
  · have h1 := Bool.and_eq_true_iff.mp h
    have h2 : a ∈ tX := List.mem_filter.mpr ⟨of_decide_eq_true h1.1, h1.2⟩
    exact va_any (tX_on h2).1 (hTS.2.2.1 a h2)
  · exact ls_moved (Vm.Alike.refl _) (fun _ _ => rfl) hTS.2.2.2.1.1
  · exact ls_moved (Vm.Alike.refl _) (fun _ _ => rfl) hTS.2.2.2.1.2
  · exact zq_word hTS.1 args
  · exact zq_word hTS.2.1 args
end
section
/-! A THROW THAT IS CAUGHT: the catch types may be resolved or not -/
section CT
variable {e : Env} {S s : State} {f : JFrame} {a : Addr} {args : Array Value}
theorem go_cold {x : ExceptionTableEntry} {t : List ExceptionTableEntry} {c : ClassId} {vm' : Vm} {Q : Handler → Pre} {E : CtlPost} {d : Bool} {acts : List Action}
    (hx : covers x f.pc = true) (h0 : x.catchType ≠ 0) (hg : (Jvm.resolveClass f.method.cls x.catchType).Gives e.toSetting S.vm (.ok c) vm') (hr : vm'.classReady f.method.cls x.catchType c) (hsz : vm'.classes.size ≤ S.vm.classes.size) :
    wp (findHandler.go f a (x :: t)) Q E e d acts S ↔ wp (findHandler.go f a (x :: t)) Q E e d acts (S.setVm vm') := by
  obtain ⟨ha, ht⟩ := hg.op (op := VmOp.resolveClass f.method.cls x.catchType) rfl
  obtain ⟨k, hkd, hres⟩ := hr
  have hm := resolveClass_memo e hkd hres
  simp only [covers] at hx
  simp [findHandler.go, hx, h0, ha, ht, hsz, hm, VmOp.dirties, VmOp.acts]
  exact Iff.rfl
/-- an entry, resolved or not: it takes the exception if its class can be assigned to the entry's; else the search goes on -/
theorem cat_entry {own Cn : String} {cN : ClassId} {ce : Cell} {x : ExceptionTableEntry} (hW : s.WarmedH S.vm) (hpl : e.platform.magicAccessors = ({} : Platform).magicAccessors) (hown : s.vm.findClass own = some f.method.cls)
    (hlink : (Cond.classLink own x.catchType Cn).before args s = true) (hx : covers x f.pc = true) (h0 : x.catchType ≠ 0) (hc : s.vm.findClass Cn = some cN) (hcell : S.heap[a]? = some ce) (hce : ce.vm = .none) (hk : ∃ k, s.vm.classes[ce.cls]? = some k) :
    ∃ vm', s.WarmedH vm' ∧ ∀ (t : List ExceptionTableEntry) (Q : Handler → Pre) (E : CtlPost) (d : Bool) (acts : List Action), wp (findHandler.go f a (x :: t)) Q E e d acts S ↔
      if s.vm.assignable ce.cls cN = true then Q (.found x.handlerPc) d acts (S.setVm vm') else wp (findHandler.go f a t) Q E e d acts (S.setVm vm') := by
  obtain ⟨cc, hfcc, hcl⟩ := Cond.classLink_spec hown hlink e.platform hpl
  cases hc.symm.trans hfcc
  obtain ⟨hg₁, hwarm₁, hready₁⟩ := State.classEntry (e := e) hW hcl
  have hsz : (S.vm.noted f.method.cls x.catchType (.cls cN)).classes.size ≤ S.vm.classes.size := by
    simp [Vm.size_noted]
  generalize S.vm.noted f.method.cls x.catchType (.cls cN) = vm₁ at hg₁ hwarm₁ hready₁ hsz
  have hal : s.vm.Alike vm₁ := hwarm₁.alike
  refine ⟨vm₁, hwarm₁, fun t Q E d acts => ?_⟩
  obtain ⟨kC, hkC, -⟩ := Vm.findClass_spec hc
  obtain ⟨k1, hk1⟩ := hk
  obtain ⟨kC', hkC', -⟩ := hal.2.2 _ _ hkC
  obtain ⟨k1', hk1', -⟩ := hal.2.2 _ _ hk1
  rw [go_cold hx h0 hg₁ hready₁ hsz, W.findHandler_go_class (s := S.setVm vm₁) hx h0 hready₁ hcell (fun k h => by rw [hce] at h; cases h) ⟨k1', hk1'⟩ ⟨kC', hkC'⟩]
  rw [show (S.setVm vm₁).vm.assignable ce.cls cN = s.vm.assignable ce.cls cN from hal.assignable ..]
theorem caughtTo {tb : Tables} [Ours tb] {T target : State} {g : JFrame} {c : Code} {below : List Frame} (h : At T g.method c below) {pc : Nat} {vm' : Vm}
    (hfind : ∀ (Q : Handler → Pre) (E : CtlPost) (d : Bool) (acts : List Action), wp (findHandler g a) Q E e d acts ((T.setTop g).pushFrame (.throwing a)) ↔ Q (.found pc) d acts (((T.setTop g).pushFrame (.throwing a)).setVm vm'))
    (hrest : Steps tb e below ((T.setVm vm').setTop { g with pc := pc, stack := [.ref a] }) target) :
    Steps tb e below ((T.setTop g).pushFrame (.throwing a)) target := by
  obtain ⟨hgo, hw⟩ := h.throwing a
  refine Steps.head hgo hw ?_
  obtain ⟨g₀, hg⟩ := Option.isSome_iff_exists.mp h.top
  obtain ⟨r, hr⟩ := State.topJava?_eq_some.mp hg
  have key : (stepThrowing e ((T.setTop g).pushFrame (.throwing a)) a (.java g :: T.frames.tail)).Is ((((T.setTop g).pushFrame (.throwing a)).setVm vm').setFrames (.java { g with pc := pc, stack := [.ref a] } :: T.frames.tail)) [] := by
    simp only [stepThrowing, searchFrame, vmDo]
    generalize hq : Sem.go _ e false [] ((T.setTop g).pushFrame (.throwing a)) = res
    obtain ⟨as, rfl, ha⟩ := Sem.eq_ok_of hq (a := Handler.found pc) (s' := ((T.setTop g).pushFrame (.throwing a)).setVm vm') (acts' := []) (by simp [hfind _ _ _ _])
    exact ⟨rfl, ha⟩
  rw [stepThread_throwing (frames_entered h.top _), key.1]
  have hr' : (T.setVm vm').frames = .java g₀ :: r := hr
  rw [State.setTop_of_frames _ hr'] at hrest
  have e2 : ((T.setTop g).pushFrame (.throwing a)).setFrames (.java { g with pc := pc, stack := [.ref a] } :: r) = T.setFrames (.java { g with pc := pc, stack := [.ref a] } :: r) := by
    rw [State.pushFrame, State.setFrames_setFrames, State.setTop_of_frames _ hr, State.setFrames_setFrames]
  have e1 : (((T.setTop g).pushFrame (.throwing a)).setVm vm').setFrames (.java { g with pc := pc, stack := [.ref a] } :: T.frames.tail) = (T.setVm vm').setFrames (.java { g with pc := pc, stack := [.ref a] } :: r) := by
    rw [hr]
    exact congrArg (fun z : State => z.setVm vm') e2
  rw [e1]
  exact hrest
end CT
end
section
/-! CALLS OF METHODS THAT MAY THROW -/
section CVT
variable {p : Program} {l : Launch} {e : Env} {R : Room} {s : State} {m : MethodId} {args : Array Value} {below : List Frame} {meth : Method} {c : Code} {H : Heap} {locs : List Loc} {cells slots : Nat} {Q : State → Prop}
variable {y : MethodName} {bytes cc : ByteArray} {maxL nL mc ms n index : Nat} {ret : Option FieldType} {ws : List Cond} {rm : Room} {Pc : Array Value → State → Prop} {Qc : Array Value → State → Outcome → State → Prop} {free : Addr → Prop} {own C : String} {b : Addr} {argsL rest : List Value} {g : JFrame} {T : State}
theorem callVT (X : Stand p l e R s m args below meth c T locs cells slots) (hexec : p.tables.exec = Jvm.exec) (hown : s.vm.findClass own = some m.cls) (hM : MetT l y ws rm Pc Qc mc ms free) (cw : CallW R s args own C index y bytes maxL ret ws rm mc ms n)
    {cellB : Cell} (hcell : T.heap[b]? = some cellB) (hobj : cellB.vm.isStatics = false) (hcls : s.vm.findClass C = some cellB.cls)
    (hg : g.method = m) (hsize : g.locals.size = c.maxLocals) (hn : argsL.length = n) (hstack : g.stack = argsL.reverse ++ .ref b :: rest) (hW : 2 * g.monitorRoom + (rest.map fun v => v.category).sum ≤ 8) (hdg : decode c.code g.pc = .ok (.invokevirtual index, 3))
    (hpre : ∀ vm₁, s.WarmedH vm₁ → ∀ (g' : JFrame) (mk : MethodId), Pc (Value.ref b :: argsL).toArray ((T.setVm vm₁).calling g' mk (Value.ref b :: argsL).toArray)) (hf : cells + mc ≤ R.cells ∧ slots + ms ≤ R.slots) :
    ∃ (o : Outcome) (T' st₀ t : State) (L : List Loc), Stand p l e R s m args below meth c T' (locs ++ L) (cells + mc) (slots + ms) ∧ (∀ q ∈ L, free q.base) ∧ st₀.heap = T.heap ∧ s.WarmedH st₀.vm ∧ T'.heap = t.heap ∧ Qc (Value.ref b :: argsL).toArray st₀ o t ∧
      ((∃ v, o = .returned v ∧ ∀ target, Steps p.tables e below (T'.setTop { g with pc := g.pc + 3, stack := v.toList ++ rest }) target → Steps p.tables e below (T.setTop g) target) ∨
       (∃ a, o = .threw a ∧ ∀ target, Steps p.tables e below ((T'.setTop { g with stack := rest }).pushFrame (.throwing a)) target → Steps p.tables e below (T.setTop g) target)) := by
  obtain ⟨⟨hrc, hrs, hframes, hlocals, hws, hcodeW, hcode, hinit, hy, hlen, hlink⟩, hinst, hsel⟩ := cw
  obtain ⟨mk, methM, hnamed, hmethM, hstM, habM⟩ := Cond.instanceMethod_spec hinst
  obtain ⟨methM', cM, hmethM', -, -, -, -, -, -, hsigM⟩ := Cond.code_spec hnamed hcode
  cases hmethM.symm.trans hmethM'
  obtain ⟨c2, r2, m2, q1, q2, q3, q4, kP, hkP, hkPi⟩ := Cond.selects_spec hsel
  cases hcls.symm.trans q1
  cases (State.methodFound?_of_named hnamed hy).symm.trans q2
  cases hnamed.symm.trans q3
  have hselP : selectMethod e.platform s.vm cellB.cls mk = .method mk := by rw [Launch.admits_selectMethod X.admits]; exact q4
  obtain ⟨vm₁, X₁, hstep₁⟩ := X.invokevirtual hexec hown hlink hnamed hmethM hstM hkP hkPi hy (a := b) (cell := cellB) hcell
    (fun z h => by rw [h] at hobj; cases hobj) hselP hmethM habM hkP hkPi (g := g) hg (argsL := argsL) (rest := rest) (hn.trans (hlen _ hsigM)) hstack hdg
  have hn1 : (T.setVm vm₁).methodNamed? y = some mk := X₁.named hnamed
  have hc1 : (Cond.code y bytes maxL ret).before (Value.ref b :: argsL).toArray (T.setVm vm₁) = true := hws _ hcodeW _ _ X₁.warmed
  obtain ⟨methY, cY, hmY, hcY, -, hlY, -⟩ := Cond.code_spec hn1 hc1
  obtain ⟨kY, hkY, -⟩ := className_of_methodNamed hn1
  have hinitY : kY.init = .initialized := Cond.initialized_spec (findClass_of_methodNamed hn1) hkY (word_at (a' := (Value.ref b :: argsL).toArray) (U := T.setVm vm₁) X₁.warmed (Or.inl (by first | rfl | simp [Cond.onTables, Cond.keeps, Cond.steady])) hinit)
  obtain ⟨g1, hg1⟩ : ∃ g1 : JFrame, g1 = { g with stack := rest } := ⟨_, rfl⟩
  have hg1m : g1.method = m := by rw [hg1]; exact hg
  have hsize1 : g1.locals.size = c.maxLocals := by rw [hg1]; exact hsize
  have hdg1 : decode c.code g1.pc = .ok (.invokevirtual index, 3) := by rw [hg1]; exact hdg
  have hW1 : 2 * g1.monitorRoom + (g1.stack.map fun v => v.category).sum ≤ 8 := by rw [hg1]; exact hW
  have h : At (T.setVm vm₁) g1.method c below := by rw [hg1m]; exact X₁.here
  have hroom := X₁.room_calling (g := g1) (m' := mk) (args' := (Value.ref b :: argsL).toArray) (R' := (headSpec ws rm).room) hsize1 hmY hcY (show rm.frames + 1 ≤ R.frames from hframes) (by rw [hlY]; show _ + _ + rm.locals ≤ _; omega) (show cells + rm.cells ≤ R.cells by rw [hrc]; exact hf.1) (show slots + rm.slots ≤ R.slots by rw [hrs]; exact hf.2)
  have happ : (headSpec ws rm).appliesLoose y e.platform ((T.setVm vm₁).calling g1 mk (Value.ref b :: argsL).toArray) = true :=
    Spec.appliesLoose_calling (g := g1) h hdg1 hn1 hkY hinitY hroom (atoms_intro fun w hw => hws w hw _ _ X₁.warmed)
  obtain ⟨mid, hmid⟩ := h.above
  have hfr : ((T.setVm vm₁).setTop g1).frames = (.java g1 :: mid) ++ below := by rw [State.frames_setTop' g1 h.top, hmid]; rfl
  obtain ⟨o, s₂, hsteps, -, hend, hq, L, ⟨hWt, hsame⟩, hL⟩ := Steps.callFree hM p X.admits X.cas X.clock (acts := []) hfr happ (hpre vm₁ X₁.warmed g1 mk) trivial
  rw [State.frames_setTop' g1 h.top, X₁.tail] at hend
  cases o with
  | returned v =>
    obtain ⟨T', X', -, -, ht⟩ := X₁.outOf (g := g1) hg1m hdg1 (mk := mk) (a := (Value.ref b :: argsL).toArray) hend hWt hsame
    refine ⟨.returned v, T', (T.setVm vm₁).calling g1 mk (Value.ref b :: argsL).toArray, s₂, L, X', hL, rfl, X₁.warmed, by rw [ht]; exact (State.heap_setTop _ _).symm, hq, Or.inl ⟨v, rfl, fun target hrest => hstep₁ _ fun acts => ?_⟩⟩
    rw [← hg1, doInvoke_state]
    refine hsteps.trans ?_
    rw [ht, hg1]
    exact hrest
  | threw a =>
    obtain ⟨T', X', -, -, ht⟩ := X₁.outOfThrown (g := g1) hg1m (mk := mk) (a := (Value.ref b :: argsL).toArray) hend hWt hsame
    refine ⟨.threw a, T', (T.setVm vm₁).calling g1 mk (Value.ref b :: argsL).toArray, s₂, L, X', hL, rfl, X₁.warmed, by rw [ht]; exact (Stand.throwing_heap _ _ _).symm, hq, Or.inr ⟨a, rfl, fun target hrest => hstep₁ _ fun acts => ?_⟩⟩
    rw [← hg1, doInvoke_state]
    refine hsteps.trans ?_
    rw [ht, hg1]
    exact hrest
end CVT
end
section
/-! THE LAW'S HELPERS: a call of the class in a try; what is thrown is caught by its class -/
def ncp : List (String × String) := [("java/lang/IllegalArgumentException", "java/lang/IndexOutOfBoundsException"), ("java/lang/IllegalStateException", "java/lang/IndexOutOfBoundsException"), ("java/lang/UnsupportedOperationException", "java/lang/IndexOutOfBoundsException"), ("java/lang/IndexOutOfBoundsException", "java/lang/IllegalArgumentException"), ("java/lang/IllegalStateException", "java/lang/IllegalArgumentException"), ("java/lang/UnsupportedOperationException", "java/lang/IllegalArgumentException"), ("java/lang/IndexOutOfBoundsException", "java/lang/IllegalStateException"), ("java/lang/IllegalArgumentException", "java/lang/IllegalStateException"), ("java/lang/UnsupportedOperationException", "java/lang/IllegalStateException"), ("java/lang/IndexOutOfBoundsException", "java/lang/UnsupportedOperationException"), ("java/lang/IllegalArgumentException", "java/lang/UnsupportedOperationException"), ("java/lang/IllegalStateException", "java/lang/UnsupportedOperationException")]
/-- what a helper's start says beside the cells: which exceptions are not each other's -/
def NoC (U : State) : Prop := ∀ q ∈ ncp, ∃ a b, U.vm.findClass q.1 = some a ∧ U.vm.findClass q.2 = some b ∧ U.vm.assignable a b = false
def HlS (U : State) : Prop := ThS U ∧ NoC U
theorem NoC.moved {u U : State} (hvm : u.vm.Alike U.vm) (h : NoC u) : NoC U := fun q hq => by
  obtain ⟨a, b, h1, h2, h3⟩ := h q hq
  exact ⟨a, b, by rw [hvm.findClass]; exact h1, by rw [hvm.findClass]; exact h2, by rw [hvm.assignable]; exact h3⟩
theorem HlS.calling {U : State} {g : JFrame} {mk : MethodId} {a : Array Value} (h : HlS U) : HlS (U.calling g mk a) := ⟨h.1.calling, NoC.moved (u := U) (U := U.calling g mk a) (Vm.Alike.refl U.vm) h.2⟩
theorem HlS.later {s U : State} (hW : s.WarmedH U.vm) (hq : ∀ a : Nat, a < s.heap.size → U.heap[a]? = s.heap[a]?) (h : HlS s) : HlS U := ⟨h.1.later hW hq, h.2.moved hW.alike⟩
theorem nocast {s : State} {A B : String} {a b : ClassId} {args : Array Value} (h : (Cond.not (.castable A B)).before args s = true) (ha : s.vm.findClass A = some a) (hb : s.vm.findClass B = some b) : s.vm.assignable a b = false := by
  cases hv : s.vm.assignable a b with
  | false => rfl
  | true => simp [Cond.before, Cond.holds, Cond.value, ha, hb, hv] at h
def wmW (y : MethodName) (bytes : ByteArray) (maxL : Nat) (ret : Option FieldType) (hh : List (Nat × Nat × Nat × Nat)) : List Cond := Cond.codeWith y bytes maxL ret hh :: tG
def exT (c : Code) (hh : List (Nat × Nat × Nat × Nat)) : Prop := c.exceptionTable.toList.map (fun h => (h.startPc, h.endPc, h.handlerPc, h.catchType)) = hh
/-- the start of a helper: the class's cells, and the long that takes the answer -/
def PwH (D : va_G) (cl : List vw_C) (tys : List (ClassId × FieldType)) (b N : Nat) (sh : Shp) (cJ : ClassId) (o : Nat) (f : Nat → Int64) (av : List Value) (M : Mm) (sz : Nat) : Array Value → State → Prop := va_Pc av (fun U => U.heap.size = sz ∧ HlS U ∧ va_P D cl (wd b N sh M) U.heap ∧ va_P D cl [(o, .inl (cJ, 1, .inr (.inl f)))] U.heap ∧ va_K D cl tys U)
def regH (b N o sz : Nat) : Nat → Prop := fun q => reg b N sz q ∨ q = o
def QwH (D : va_G) (cl : List vw_C) (b N : Nat) (sh : Shp) (cJ : ClassId) (o : Nat) (rv : Int32) (f' : Nat → Int64) (M' : Mm) (sz : Nat) : Array Value → State → Outcome → State → Prop := fun _ st oc t => oc = .returned (some (.int rv)) ∧ va_P D cl (wd b N sh M') t.heap ∧ va_P D cl [(o, .inl (cJ, 1, .inr (.inl f')))] t.heap ∧ va_F (regH b N o sz) st t
theorem mk_metW {l : Launch} {y : MethodName} {cc : ByteArray} {nL : Nat} {ret : Option FieldType} {hh : List (Nat × Nat × Nat × Nat)} {rm : Room} {D : va_G} {cl : List vw_C} {tys : List (ClassId × FieldType)} {b N : Nat} {sh : Shp} {cJ : ClassId} {o : Nat} {f : Nat → Int64} {av : List Value} {M : Mm} {sz mc ms : Nat} {Qc : Array Value → State → Outcome → State → Prop} {free : Addr → Prop} (hy : plainName y.cls = true) (hav : (lg_sl av).length ≤ nL)
    (hblk : ∀ (p : Program) (e : Env) (s : State) (m : MethodId) (below : List Frame) (meth : Method) (c : Code) (ls : Array Slot), Cx p s m av.toArray meth c D cl tys y.cls cc nL ret → exT c hh → s.heap.size = sz → HlS s → va_P D cl (wd b N sh M) s.heap → va_P D cl [(o, .inl (cJ, 1, .inr (.inl f)))] s.heap → lv_has ls nL (lv_args 0 av) → W p l e rm s m av.toArray below meth c s.heap [] 0 0 (MQ below Qc av.toArray s mc ms free) (F0 m 0 ls [])) :
    Met l y (wmW y cc nL ret hh) rm (PwH D cl tys b N sh cJ o f av M sz) Qc mc ms free := by
  refine va_MetW (cc := cc) (maxL := nL) (ret := ret) (hh := hh) hy rfl ?_
  intro p e s m args below meth c s₁ B hml hv
  obtain ⟨rfl, hsz, hHl, hP, hPo, hK⟩ := hv
  have hts := atoms_spec (ws := wmW y cc nL ret hh) B.pre
  obtain ⟨m9, meth9, c9, hn9, h1, h2, -, -, hex, -⟩ := Cond.codeWith_spec (hts _ List.mem_cons_self)
  cases B.named.symm.trans hn9
  cases B.method.symm.trans h1
  cases (Stand.of_body B).code.symm.trans h2
  rw [lg_entry_eq]
  exact hblk p e s m below meth c _ ⟨B.exec, B.bytes, hml, B.returns, findClass_of_methodNamed B.named, fun w h => hts w (List.mem_cons_of_mem _ h), B.notSynchronized, hK⟩ hex hsz hHl hP hPo (lv_entry av hav)
section HL
variable {p : Program} {l : Launch} {e : Env} {R : Room} {s : State} {m : MethodId} {args : Array Value} {below : List Frame} {meth : Method} {c : Code} {H : Heap} {locs : List Loc} {cells slots : Nat} {Q : State → Prop}
variable {cc : ByteArray} {pc : Nat} {ls : Array Slot} {rest st0 : List Value} {D : va_G} {cl : List vw_C} {tys : List (ClassId × FieldType)} {b N : Nat} {sh : Shp} {M M' : Mm} {A : Nat → Prop}
def WTh (p : Program) (l : Launch) (e : Env) (R : Room) (s : State) (m : MethodId) (args : Array Value) (below : List Frame) (meth : Method) (c : Code) (H : Heap) (locs : List Loc) (cells slots : Nat) (Q : State → Prop) (g : JFrame) (a : Addr) : Prop :=
  ∀ T : State, T.heap = H → Stand p l e R s m args below meth c T locs cells slots → ∃ t, Steps p.tables e below ((T.setTop g).pushFrame (.throwing a)) t ∧ Q t
variable {y : MethodName} {bytes : ByteArray} {maxL nL n index mc ms : Nat} {ret : Option FieldType} {ws : List Cond} {rm : Room} {Ts : List Cond} {own C : String} {As : List Value}
theorem wd_cvt {k : Nat} {v : Int32} (S : CallFix p m c cc nL s args Ts own) (hK : va_K D cl tys s) (hP : va_P D cl (wd b N sh M) s.heap) (hTS : ThS s) (r : Nat) (hr : r < N) {ci : Nat} {L : List (Option Nat)} {T : u_T} {Nf : Nat} (hs : sh r = ob ci L) (hc : cl[ci]? = some (C, T, Nf))
    (hM : MetT l y ws rm (PwT D cl tys b N sh (.ref (b + r) :: As) M s.heap.size) (Qwt D cl b N sh k v M' s.heap.size) mc ms (reg b N s.heap.size)) (cw : CallW R s args own C index y bytes maxL ret ws rm mc ms n) (hn : As.length = n) (hsize : ls.size = nL) (hst : st0 = As.reverse ++ .ref (b + r) :: rest) (hroom : (rest.map fun v => v.category).sum ≤ 8) (hdg : decode cc pc = .ok (.invokevirtual index, 3)) (hf : 0 + mc ≤ R.cells ∧ 0 + ms ≤ R.slots)
    (kr : k = 0 → ∀ (H1 : Heap) (locs1 : List Loc), va_P D cl (wd b N sh M') H1 → va_S (reg b N s.heap.size) s.heap H1 locs1 → W p l e R s m args below meth c H1 locs1 (0 + mc) (0 + ms) Q (F0 m (pc + 3) ls (.int v :: rest)))
    (kt : k ≠ 0 → ∀ (H1 : Heap) (locs1 : List Loc) (a : Nat) (ce : Cell), va_P D cl (wd b N sh M') H1 → va_S (reg b N s.heap.size) s.heap H1 locs1 → H1[a]? = some ce → ce.vm = .none → s.vm.findClass (xn k) = some ce.cls → WTh p l e R s m args below meth c H1 locs1 (0 + mc) (0 + ms) Q (F0 m pc ls rest) a) :
    W p l e R s m args below meth c s.heap [] 0 0 Q (F0 m pc ls st0) := by
  obtain ⟨hx, hb, hml, ho, -⟩ := S
  intro T0 hT X
  obtain ⟨cellB, hcB, hoB, hclB⟩ := va_recv hK hP hc (show (wd b N sh M)[r]? = some (b + r, .inr (ci, fl L (M r))) by rw [wd_at hr, hs]; rfl)
  obtain ⟨o, T', st₀, t, L0, X', hL, e0, hW0, e1, ⟨ho2, hP', hF⟩, hgo⟩ := callVT X hx ho hM cw (b := b + r) (by rw [hT]; exact hcB) hoB hclB (g := F0 m pc ls st0) rfl (hsize.trans hml.symm) (argsL := As) (rest := rest) hn hst (lv_room hroom) (by rw [hb]; exact hdg)
    (fun vm₁ hW₁ g' mk => PwT_blind _ _ _ _ ⟨rfl, by show T0.heap.size = _; rw [hT], ThS.later hW₁ (fun a _ => by show T0.heap[a]? = _; rw [hT]) hTS, by show va_P D cl _ T0.heap; rw [hT]; exact hP, va_K.moved hW₁.alike hK⟩) hf
  rw [hT] at e0
  have hS1 : va_S (reg b N s.heap.size) s.heap T'.heap ([] ++ L0) := ⟨by rw [e1, ← e0]; exact hF.1, fun q h1 h2 => by rw [e1, ← e0]; exact hF.2 q (by rw [e0]; exact h1) h2, fun q hq => hL q hq⟩
  rw [← e1] at hP'
  rcases ho2 with ⟨hk, rfl⟩ | ⟨hk, a, ce, rfl, hce, hcv, hcc⟩
  · rcases hgo with ⟨v', hv', hgo⟩ | ⟨a', ha', -⟩
    · cases hv'
      obtain ⟨t2, a1, b1⟩ := kr hk T'.heap _ hP' hS1 T' rfl X'
      exact ⟨t2, hgo t2 a1, b1⟩
    · cases ha'
  · rcases hgo with ⟨v', hv', -⟩ | ⟨a', ha', hgo⟩
    · cases hv'
    · cases ha'
      obtain ⟨t2, a1, b1⟩ := kt hk T'.heap _ a ce hP' hS1 (by rw [e1]; exact hce) hcv (by rw [← hW0.alike.findClass]; exact hcc) T' rfl X'
      exact ⟨t2, hgo t2 a1, b1⟩
/-- the answer into the long -/
theorem wl_last {o : Nat} {f : Nat → Int64} {cA : ClassId} (hx : p.tables.exec = Jvm.exec) (hb : c.code = cc) (hK : va_K D cl tys s) (t0 : Nat) (hPo : va_P D cl [(o, .inl (cA, 1, .inr (.inl f)))] H) (hS : va_S A s.heap H locs) (hA : A o) (ht : tys[t0]? = some (cA, .long)) {x : Int64} (hdg : decode cc pc = .ok (.lastore, 1))
    (kk : ∀ (H1 : Heap) (locs1 : List Loc), va_P D cl [(o, .inl (cA, 1, .inr (.inl (vp_updL f 0 x))))] H1 → (∀ q : Nat, q ≠ o → H1[q]? = H[q]?) → va_S A s.heap H1 locs1 → W p l e R s m args below meth c H1 locs1 cells slots Q (F0 m (pc + 1) ls rest)) : W p l e R s m args below meth c H locs cells slots Q (F0 m pc ls (.long x :: .int 0 :: .ref o :: rest)) := by
  have hcell : H[o]? = some (vp_cell cA (1, .inr (.inl f))) := hPo 0 _ rfl
  have hin : vp_in 0 1 := vp_in_nI (n := 0) (by decide) (by decide)
  refine W.last hx hb hcell ((hK.2 t0 _ ht).1 1 (fun j => .long (f j))) (fun q => by cases q) (by show ¬ ((0 : Int32) < 0 ∨ (arrV _ _ _).slots.size ≤ _); rw [arrV_size]; exact hin) rfl rfl hdg fun H1 e1 z oq => ?_
  refine kk H1 _ ?_ oq (hS.put z oq hA)
  intro k q hk
  match k, hk with
  | 0, hk =>
    cases hk
    show H1[o]? = some (vp_cell _ _)
    rw [e1, vp_cell_l, vp_cell_l, arrV_store]
    congr 2
    funext q
    by_cases hq : q = (0 : Int32).toNatClampNeg
    · subst hq
      simp [updV, vp_updL]
    · have hq0 : q ≠ 0 := hq
      simp [updV, vp_updL, hq0]
  | k + 1, hk => simp at hk
/-- a throw goes to the handler: the entries ahead don't take it, this one does -/
theorem wd_caught {k : Nat} {a : Nat} {ce : Cell} {hh : List (Nat × Nat × Nat × Nat)} (i : Nat) (nms : List String) (hx : p.tables.exec = Jvm.exec) (hown : s.vm.findClass own = some m.cls) (hex : exT c hh) (hce : H[a]? = some ce) (hcv : ce.vm = .none) (hcc : s.vm.findClass (xn k) = some ce.cls)
    (hcov : ∀ h ∈ hh, h.1 ≤ pc ∧ pc < h.2.1 ∧ h.2.2.2 ≠ 0) (hlk : ∀ j, j ≤ i → ∀ h, hh[j]? = some h → ∃ nm cN, nms[j]? = some nm ∧ (Cond.classLink own h.2.2.2 nm).before args s = true ∧ s.vm.findClass nm = some cN ∧ s.vm.assignable ce.cls cN = decide (j = i)) {st ct hp en : Nat} (hi : hh[i]? = some (st, en, hp, ct))
    (kk : W p l e R s m args below meth c H locs cells slots Q (F0 m hp ls [.ref a])) : WTh p l e R s m args below meth c H locs cells slots Q (F0 m pc ls rest) a := by
  intro T hT X
  have hpl : e.platform.magicAccessors = ({} : Platform).magicAccessors := by rw [X.admits.platform]
  obtain ⟨kcl, hkcl, -⟩ := Vm.findClass_spec hcc
  have key : ∀ (n j : Nat) (xs : List ExceptionTableEntry) (S : State), j + n = i → s.WarmedH S.vm → S.heap[a]? = some ce → xs.map (fun h => (h.startPc, h.endPc, h.handlerPc, h.catchType)) = hh.drop j → ∃ vm', s.WarmedH vm' ∧ ∀ (Q : Handler → Pre) (E : CtlPost) (d : Bool) (acts : List Action), wp (findHandler.go (F0 m pc ls rest) a xs) Q E e d acts S ↔ Q (.found hp) d acts (S.setVm vm') := by
    intro n
    induction n with
    | zero =>
      intro j xs S hj hWS hS hxs
      obtain rfl : j = i := by omega
      have hlt : j < hh.length := (List.getElem?_eq_some_iff.mp hi).1
      rw [List.drop_eq_getElem_cons hlt, (List.getElem?_eq_some_iff.mp hi).2] at hxs
      cases xs with
      | nil => simp at hxs
      | cons x t =>
        simp only [List.map_cons, List.cons.injEq] at hxs
        obtain ⟨hxe, -⟩ := hxs
        obtain ⟨nm, cN, -, hlink, hcN, has⟩ := hlk j (Nat.le_refl _) _ hi
        have hst : x.startPc = st := congrArg (fun z : Nat × Nat × Nat × Nat => z.1) hxe
        have hen : x.endPc = en := congrArg (fun z : Nat × Nat × Nat × Nat => z.2.1) hxe
        have hhp : x.handlerPc = hp := congrArg (fun z : Nat × Nat × Nat × Nat => z.2.2.1) hxe
        have hct : x.catchType = ct := congrArg (fun z : Nat × Nat × Nat × Nat => z.2.2.2) hxe
        have hcv1 := hcov _ (List.mem_of_getElem? hi)
        obtain ⟨vm', hW', hgo⟩ := cat_entry (e := e) (f := F0 m pc ls rest) (x := x) hWS hpl hown (by rw [hct]; exact hlink) (by simp only [covers, hst, hen]; simp; exact ⟨hcv1.1, hcv1.2.1⟩) (by rw [hct]; exact hcv1.2.2) hcN hS hcv ⟨kcl, hkcl⟩
        refine ⟨vm', hW', fun Q E d acts => ?_⟩
        rw [hgo, if_pos (by rw [has]; simp), hhp]
    | succ n ih =>
      intro j xs S hj hWS hS hxs
      have hlt : j < hh.length := by have := (List.getElem?_eq_some_iff.mp hi).1; omega
      rw [List.drop_eq_getElem_cons hlt] at hxs
      cases xs with
      | nil => cases hxs
      | cons x t =>
        simp only [List.map_cons, List.cons.injEq] at hxs
        obtain ⟨hxe, hxt⟩ := hxs
        have hgj : hh[j]? = some hh[j] := List.getElem?_eq_getElem hlt
        obtain ⟨nm, cN, -, hlink, hcN, has⟩ := hlk j (by omega) _ hgj
        have hst : x.startPc = hh[j].1 := congrArg (fun z : Nat × Nat × Nat × Nat => z.1) hxe
        have hen : x.endPc = hh[j].2.1 := congrArg (fun z : Nat × Nat × Nat × Nat => z.2.1) hxe
        have hct : x.catchType = hh[j].2.2.2 := congrArg (fun z : Nat × Nat × Nat × Nat => z.2.2.2) hxe
        have hcv1 := hcov _ (List.mem_of_getElem? hgj)
        obtain ⟨vm1, hW1, hgo⟩ := cat_entry (e := e) (f := F0 m pc ls rest) (x := x) hWS hpl hown (by rw [hct]; exact hlink) (by simp only [covers, hst, hen]; simp; exact ⟨hcv1.1, hcv1.2.1⟩) (by rw [hct]; exact hcv1.2.2) hcN hS hcv ⟨kcl, hkcl⟩
        obtain ⟨vm2, hW2, hgo2⟩ := ih (j + 1) t (S.setVm vm1) (by omega) hW1 hS hxt
        refine ⟨vm2, hW2, fun Q E d acts => ?_⟩
        rw [hgo, if_neg (by rw [has]; simp; omega), hgo2]
        exact Iff.rfl
  have hvm0 : ((T.setTop (F0 m pc ls rest)).pushFrame (.throwing a)).vm = T.vm := Stand.throwing_vm _ _ _
  have hhp0 : ((T.setTop (F0 m pc ls rest)).pushFrame (.throwing a)).heap = T.heap := Stand.throwing_heap _ _ _
  obtain ⟨vm', hW', hgo⟩ := key i 0 c.exceptionTable.toList ((T.setTop (F0 m pc ls rest)).pushFrame (.throwing a)) (by omega) (by rw [hvm0]; exact X.warmed) (by rw [hhp0, hT]; exact hce) (by rw [List.drop_zero]; exact hex)
  obtain ⟨t, a1, b1⟩ := kk (T.setVm vm') hT (X.noted hW')
  refine ⟨t, caughtTo (c := c) (by exact X.here) (pc := hp) (vm' := vm') ?_ a1, b1⟩
  intro Q E d acts
  rw [W.findHandler_eq (meth := meth) (code := c) (by rw [hvm0]; exact X.method') X.code]
  exact hgo Q E d acts
end HL
end
