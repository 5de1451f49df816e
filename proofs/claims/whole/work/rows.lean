section
-- ===== PART A: goes FIRST, ahead of the names: the tables' words, and 'selects' of the private methods out of them =====
/-- a private method of a class that the tables say can be made, by its rows of tables_1 -/
def lw_okq (q : MethodName × Nat) : Prop := (q.1.cls ≠ "java/lang/invoke/MethodHandle" ∧ q.1.cls ≠ "java/lang/invoke/VarHandle") ∧ Cond.instantiable q.1.cls q.2 ∈ tables_1 ∧ Cond.privateMethod q.1 ∈ tables_1 ∧ Cond.instanceMethod q.1 ∈ tables_1
theorem lw_p0 : lw_okq (⟨"BankTimes", "dueRefreshes", "()I"⟩, 14) := ⟨⟨by decide +kernel, by decide +kernel⟩, List.mem_of_getElem? (i := 17) (by decide +kernel), List.mem_of_getElem? (i := 231) (by decide +kernel), List.mem_of_getElem? (i := 232) (by decide +kernel)⟩
theorem lw_p1 : lw_okq (⟨"java/lang/Throwable", "fillInStackTrace", "(I)Ljava/lang/Throwable;"⟩, 6) := ⟨⟨by decide +kernel, by decide +kernel⟩, List.mem_of_getElem? (i := 287) (by decide +kernel), List.mem_of_getElem? (i := 285) (by decide +kernel), List.mem_of_getElem? (i := 286) (by decide +kernel)⟩
theorem lw_p2 : lw_okq (⟨"BankTimes", "anyRowOpen", "()Z"⟩, 14) := ⟨⟨by decide +kernel, by decide +kernel⟩, List.mem_of_getElem? (i := 17) (by decide +kernel), List.mem_of_getElem? (i := 333) (by decide +kernel), List.mem_of_getElem? (i := 334) (by decide +kernel)⟩
theorem lw_p3 : lw_okq (⟨"BankTimes", "channelOf", "(I)I"⟩, 14) := ⟨⟨by decide +kernel, by decide +kernel⟩, List.mem_of_getElem? (i := 17) (by decide +kernel), List.mem_of_getElem? (i := 378) (by decide +kernel), List.mem_of_getElem? (i := 379) (by decide +kernel)⟩
theorem lw_p4 : lw_okq (⟨"BankTimes", "bankOf", "(I)I"⟩, 14) := ⟨⟨by decide +kernel, by decide +kernel⟩, List.mem_of_getElem? (i := 17) (by decide +kernel), List.mem_of_getElem? (i := 402) (by decide +kernel), List.mem_of_getElem? (i := 403) (by decide +kernel)⟩
theorem lw_p5 : lw_okq (⟨"BankTimes", "rowOf", "(I)I"⟩, 14) := ⟨⟨by decide +kernel, by decide +kernel⟩, List.mem_of_getElem? (i := 17) (by decide +kernel), List.mem_of_getElem? (i := 406) (by decide +kernel), List.mem_of_getElem? (i := 407) (by decide +kernel)⟩
theorem lw_p6 : lw_okq (⟨"BankTimes", "step", "()V"⟩, 14) := ⟨⟨by decide +kernel, by decide +kernel⟩, List.mem_of_getElem? (i := 17) (by decide +kernel), List.mem_of_getElem? (i := 422) (by decide +kernel), List.mem_of_getElem? (i := 423) (by decide +kernel)⟩
theorem lw_p7 : lw_okq (⟨"BankTimes", "refresh", "(I)V"⟩, 14) := ⟨⟨by decide +kernel, by decide +kernel⟩, List.mem_of_getElem? (i := 17) (by decide +kernel), List.mem_of_getElem? (i := 426) (by decide +kernel), List.mem_of_getElem? (i := 427) (by decide +kernel)⟩
theorem lw_p8 : lw_okq (⟨"BankTimes$Rules", "startOf", "(III)I"⟩, 11) := ⟨⟨by decide +kernel, by decide +kernel⟩, List.mem_of_getElem? (i := 46) (by decide +kernel), List.mem_of_getElem? (i := 438) (by decide +kernel), List.mem_of_getElem? (i := 439) (by decide +kernel)⟩
theorem lw_p9 : lw_okq (⟨"BankTimes", "give", "(IIII)V"⟩, 14) := ⟨⟨by decide +kernel, by decide +kernel⟩, List.mem_of_getElem? (i := 17) (by decide +kernel), List.mem_of_getElem? (i := 442) (by decide +kernel), List.mem_of_getElem? (i := 443) (by decide +kernel)⟩
theorem lw_p10 : lw_okq (⟨"BankTimes$Log", "placeOf", "(I)I"⟩, 5) := ⟨⟨by decide +kernel, by decide +kernel⟩, List.mem_of_getElem? (i := 154) (by decide +kernel), List.mem_of_getElem? (i := 454) (by decide +kernel), List.mem_of_getElem? (i := 455) (by decide +kernel)⟩
theorem lw_p11 : lw_okq (⟨"BankTimes$Channel", "isReady", "(II)Z"⟩, 5) := ⟨⟨by decide +kernel, by decide +kernel⟩, List.mem_of_getElem? (i := 40) (by decide +kernel), List.mem_of_getElem? (i := 463) (by decide +kernel), List.mem_of_getElem? (i := 464) (by decide +kernel)⟩
theorem lw_p12 : lw_okq (⟨"BankTimes$Channel", "chosenByRows", "(II)I"⟩, 5) := ⟨⟨by decide +kernel, by decide +kernel⟩, List.mem_of_getElem? (i := 40) (by decide +kernel), List.mem_of_getElem? (i := 472) (by decide +kernel), List.mem_of_getElem? (i := 473) (by decide +kernel)⟩
theorem lw_p13 : lw_okq (⟨"BankTimes$Channel", "isAmong", "(II)Z"⟩, 5) := ⟨⟨by decide +kernel, by decide +kernel⟩, List.mem_of_getElem? (i := 40) (by decide +kernel), List.mem_of_getElem? (i := 476) (by decide +kernel), List.mem_of_getElem? (i := 477) (by decide +kernel)⟩
theorem lw_p14 : lw_okq (⟨"BankTimes$Channel", "openRowIsWanted", "(II)Z"⟩, 5) := ⟨⟨by decide +kernel, by decide +kernel⟩, List.mem_of_getElem? (i := 40) (by decide +kernel), List.mem_of_getElem? (i := 480) (by decide +kernel), List.mem_of_getElem? (i := 481) (by decide +kernel)⟩
theorem lw_p15 : lw_okq (⟨"BankTimes$Channel", "chosenByTurns", "(I)I"⟩, 5) := ⟨⟨by decide +kernel, by decide +kernel⟩, List.mem_of_getElem? (i := 40) (by decide +kernel), List.mem_of_getElem? (i := 484) (by decide +kernel), List.mem_of_getElem? (i := 485) (by decide +kernel)⟩
def lw_privs_1 : List (MethodName × Nat) := [(⟨"BankTimes", "dueRefreshes", "()I"⟩, 14), (⟨"java/lang/Throwable", "fillInStackTrace", "(I)Ljava/lang/Throwable;"⟩, 6), (⟨"BankTimes", "anyRowOpen", "()Z"⟩, 14), (⟨"BankTimes", "channelOf", "(I)I"⟩, 14), (⟨"BankTimes", "bankOf", "(I)I"⟩, 14), (⟨"BankTimes", "rowOf", "(I)I"⟩, 14), (⟨"BankTimes", "step", "()V"⟩, 14), (⟨"BankTimes", "refresh", "(I)V"⟩, 14), (⟨"BankTimes$Rules", "startOf", "(III)I"⟩, 11), (⟨"BankTimes", "give", "(IIII)V"⟩, 14), (⟨"BankTimes$Log", "placeOf", "(I)I"⟩, 5), (⟨"BankTimes$Channel", "isReady", "(II)Z"⟩, 5), (⟨"BankTimes$Channel", "chosenByRows", "(II)I"⟩, 5), (⟨"BankTimes$Channel", "isAmong", "(II)Z"⟩, 5), (⟨"BankTimes$Channel", "openRowIsWanted", "(II)Z"⟩, 5), (⟨"BankTimes$Channel", "chosenByTurns", "(I)I"⟩, 5)]
theorem lw_r1 : ∀ q ∈ lw_privs_1, lw_okq q := List.forall_mem_cons.mpr ⟨lw_p0, List.forall_mem_cons.mpr ⟨lw_p1, List.forall_mem_cons.mpr ⟨lw_p2, List.forall_mem_cons.mpr ⟨lw_p3, List.forall_mem_cons.mpr ⟨lw_p4, List.forall_mem_cons.mpr ⟨lw_p5, List.forall_mem_cons.mpr ⟨lw_p6, List.forall_mem_cons.mpr ⟨lw_p7, List.forall_mem_cons.mpr ⟨lw_p8, List.forall_mem_cons.mpr ⟨lw_p9, List.forall_mem_cons.mpr ⟨lw_p10, List.forall_mem_cons.mpr ⟨lw_p11, List.forall_mem_cons.mpr ⟨lw_p12, List.forall_mem_cons.mpr ⟨lw_p13, List.forall_mem_cons.mpr ⟨lw_p14, List.forall_mem_cons.mpr ⟨lw_p15, fun _ h => absurd h List.not_mem_nil⟩⟩⟩⟩⟩⟩⟩⟩⟩⟩⟩⟩⟩⟩⟩⟩
theorem lw_p16 : lw_okq (⟨"BankTimes", "serve", "(II)V"⟩, 14) := ⟨⟨by decide +kernel, by decide +kernel⟩, List.mem_of_getElem? (i := 17) (by decide +kernel), List.mem_of_getElem? (i := 492) (by decide +kernel), List.mem_of_getElem? (i := 493) (by decide +kernel)⟩
theorem lw_p17 : lw_okq (⟨"BankTimes$Rules", "fitsBank", "(III)Z"⟩, 11) := ⟨⟨by decide +kernel, by decide +kernel⟩, List.mem_of_getElem? (i := 46) (by decide +kernel), List.mem_of_getElem? (i := 552) (by decide +kernel), List.mem_of_getElem? (i := 553) (by decide +kernel)⟩
theorem lw_p18 : lw_okq (⟨"BankTimesModel", "clear", "(I)V"⟩, 34) := ⟨⟨by decide +kernel, by decide +kernel⟩, List.mem_of_getElem? (i := 557) (by decide +kernel), List.mem_of_getElem? (i := 563) (by decide +kernel), List.mem_of_getElem? (i := 564) (by decide +kernel)⟩
theorem lw_p19 : lw_okq (⟨"BankTimesModel", "isAddress", "(I)Z"⟩, 34) := ⟨⟨by decide +kernel, by decide +kernel⟩, List.mem_of_getElem? (i := 557) (by decide +kernel), List.mem_of_getElem? (i := 679) (by decide +kernel), List.mem_of_getElem? (i := 680) (by decide +kernel)⟩
theorem lw_p20 : lw_okq (⟨"BankTimesModel", "fail", "(I)I"⟩, 34) := ⟨⟨by decide +kernel, by decide +kernel⟩, List.mem_of_getElem? (i := 557) (by decide +kernel), List.mem_of_getElem? (i := 687) (by decide +kernel), List.mem_of_getElem? (i := 688) (by decide +kernel)⟩
theorem lw_p21 : lw_okq (⟨"BankTimesModel", "channelOf", "(I)I"⟩, 34) := ⟨⟨by decide +kernel, by decide +kernel⟩, List.mem_of_getElem? (i := 557) (by decide +kernel), List.mem_of_getElem? (i := 691) (by decide +kernel), List.mem_of_getElem? (i := 692) (by decide +kernel)⟩
theorem lw_p22 : lw_okq (⟨"BankTimesModel", "bankOf", "(I)I"⟩, 34) := ⟨⟨by decide +kernel, by decide +kernel⟩, List.mem_of_getElem? (i := 557) (by decide +kernel), List.mem_of_getElem? (i := 695) (by decide +kernel), List.mem_of_getElem? (i := 696) (by decide +kernel)⟩
theorem lw_p23 : lw_okq (⟨"BankTimesModel", "rowOf", "(I)I"⟩, 34) := ⟨⟨by decide +kernel, by decide +kernel⟩, List.mem_of_getElem? (i := 557) (by decide +kernel), List.mem_of_getElem? (i := 699) (by decide +kernel), List.mem_of_getElem? (i := 700) (by decide +kernel)⟩
theorem lw_p24 : lw_okq (⟨"BankTimesModel", "waiting", "(I)I"⟩, 34) := ⟨⟨by decide +kernel, by decide +kernel⟩, List.mem_of_getElem? (i := 557) (by decide +kernel), List.mem_of_getElem? (i := 707) (by decide +kernel), List.mem_of_getElem? (i := 708) (by decide +kernel)⟩
theorem lw_p25 : lw_okq (⟨"BankTimesModel", "anyOpen", "(I)Z"⟩, 34) := ⟨⟨by decide +kernel, by decide +kernel⟩, List.mem_of_getElem? (i := 557) (by decide +kernel), List.mem_of_getElem? (i := 711) (by decide +kernel), List.mem_of_getElem? (i := 712) (by decide +kernel)⟩
theorem lw_p26 : lw_okq (⟨"BankTimesModel", "refresh", "(I)V"⟩, 34) := ⟨⟨by decide +kernel, by decide +kernel⟩, List.mem_of_getElem? (i := 557) (by decide +kernel), List.mem_of_getElem? (i := 727) (by decide +kernel), List.mem_of_getElem? (i := 728) (by decide +kernel)⟩
theorem lw_p27 : lw_okq (⟨"BankTimesModel", "broken", "(IIII)I"⟩, 34) := ⟨⟨by decide +kernel, by decide +kernel⟩, List.mem_of_getElem? (i := 557) (by decide +kernel), List.mem_of_getElem? (i := 731) (by decide +kernel), List.mem_of_getElem? (i := 732) (by decide +kernel)⟩
theorem lw_p28 : lw_okq (⟨"BankTimesModel", "since", "(IIII)I"⟩, 34) := ⟨⟨by decide +kernel, by decide +kernel⟩, List.mem_of_getElem? (i := 557) (by decide +kernel), List.mem_of_getElem? (i := 735) (by decide +kernel), List.mem_of_getElem? (i := 736) (by decide +kernel)⟩
theorem lw_p29 : lw_okq (⟨"BankTimesModel", "give", "(IIII)V"⟩, 34) := ⟨⟨by decide +kernel, by decide +kernel⟩, List.mem_of_getElem? (i := 557) (by decide +kernel), List.mem_of_getElem? (i := 739) (by decide +kernel), List.mem_of_getElem? (i := 740) (by decide +kernel)⟩
theorem lw_p30 : lw_okq (⟨"BankTimesModel", "note", "(IIIII)V"⟩, 34) := ⟨⟨by decide +kernel, by decide +kernel⟩, List.mem_of_getElem? (i := 557) (by decide +kernel), List.mem_of_getElem? (i := 743) (by decide +kernel), List.mem_of_getElem? (i := 744) (by decide +kernel)⟩
theorem lw_p31 : lw_okq (⟨"BankTimesModel", "serve", "(I)V"⟩, 34) := ⟨⟨by decide +kernel, by decide +kernel⟩, List.mem_of_getElem? (i := 557) (by decide +kernel), List.mem_of_getElem? (i := 747) (by decide +kernel), List.mem_of_getElem? (i := 748) (by decide +kernel)⟩
def lw_privs_2 : List (MethodName × Nat) := [(⟨"BankTimes", "serve", "(II)V"⟩, 14), (⟨"BankTimes$Rules", "fitsBank", "(III)Z"⟩, 11), (⟨"BankTimesModel", "clear", "(I)V"⟩, 34), (⟨"BankTimesModel", "isAddress", "(I)Z"⟩, 34), (⟨"BankTimesModel", "fail", "(I)I"⟩, 34), (⟨"BankTimesModel", "channelOf", "(I)I"⟩, 34), (⟨"BankTimesModel", "bankOf", "(I)I"⟩, 34), (⟨"BankTimesModel", "rowOf", "(I)I"⟩, 34), (⟨"BankTimesModel", "waiting", "(I)I"⟩, 34), (⟨"BankTimesModel", "anyOpen", "(I)Z"⟩, 34), (⟨"BankTimesModel", "refresh", "(I)V"⟩, 34), (⟨"BankTimesModel", "broken", "(IIII)I"⟩, 34), (⟨"BankTimesModel", "since", "(IIII)I"⟩, 34), (⟨"BankTimesModel", "give", "(IIII)V"⟩, 34), (⟨"BankTimesModel", "note", "(IIIII)V"⟩, 34), (⟨"BankTimesModel", "serve", "(I)V"⟩, 34)]
theorem lw_r2 : ∀ q ∈ lw_privs_2, lw_okq q := List.forall_mem_cons.mpr ⟨lw_p16, List.forall_mem_cons.mpr ⟨lw_p17, List.forall_mem_cons.mpr ⟨lw_p18, List.forall_mem_cons.mpr ⟨lw_p19, List.forall_mem_cons.mpr ⟨lw_p20, List.forall_mem_cons.mpr ⟨lw_p21, List.forall_mem_cons.mpr ⟨lw_p22, List.forall_mem_cons.mpr ⟨lw_p23, List.forall_mem_cons.mpr ⟨lw_p24, List.forall_mem_cons.mpr ⟨lw_p25, List.forall_mem_cons.mpr ⟨lw_p26, List.forall_mem_cons.mpr ⟨lw_p27, List.forall_mem_cons.mpr ⟨lw_p28, List.forall_mem_cons.mpr ⟨lw_p29, List.forall_mem_cons.mpr ⟨lw_p30, List.forall_mem_cons.mpr ⟨lw_p31, fun _ h => absurd h List.not_mem_nil⟩⟩⟩⟩⟩⟩⟩⟩⟩⟩⟩⟩⟩⟩⟩⟩
theorem lw_p32 : lw_okq (⟨"BankTimesModel", "named", "(I)I"⟩, 34) := ⟨⟨by decide +kernel, by decide +kernel⟩, List.mem_of_getElem? (i := 557) (by decide +kernel), List.mem_of_getElem? (i := 751) (by decide +kernel), List.mem_of_getElem? (i := 752) (by decide +kernel)⟩
theorem lw_p33 : lw_okq (⟨"BankTimesModel", "byRows", "(II)I"⟩, 34) := ⟨⟨by decide +kernel, by decide +kernel⟩, List.mem_of_getElem? (i := 557) (by decide +kernel), List.mem_of_getElem? (i := 755) (by decide +kernel), List.mem_of_getElem? (i := 756) (by decide +kernel)⟩
theorem lw_p34 : lw_okq (⟨"BankTimesModel", "isAmong", "(III)Z"⟩, 34) := ⟨⟨by decide +kernel, by decide +kernel⟩, List.mem_of_getElem? (i := 557) (by decide +kernel), List.mem_of_getElem? (i := 759) (by decide +kernel), List.mem_of_getElem? (i := 760) (by decide +kernel)⟩
theorem lw_p35 : lw_okq (⟨"BankTimesModel", "isOf", "(II)Z"⟩, 34) := ⟨⟨by decide +kernel, by decide +kernel⟩, List.mem_of_getElem? (i := 557) (by decide +kernel), List.mem_of_getElem? (i := 763) (by decide +kernel), List.mem_of_getElem? (i := 764) (by decide +kernel)⟩
theorem lw_p36 : lw_okq (⟨"BankTimesModel", "nextOf", "(I)I"⟩, 34) := ⟨⟨by decide +kernel, by decide +kernel⟩, List.mem_of_getElem? (i := 557) (by decide +kernel), List.mem_of_getElem? (i := 767) (by decide +kernel), List.mem_of_getElem? (i := 768) (by decide +kernel)⟩
theorem lw_p37 : lw_okq (⟨"BankTimesModel", "isReady", "(I)Z"⟩, 34) := ⟨⟨by decide +kernel, by decide +kernel⟩, List.mem_of_getElem? (i := 557) (by decide +kernel), List.mem_of_getElem? (i := 771) (by decide +kernel), List.mem_of_getElem? (i := 772) (by decide +kernel)⟩
theorem lw_p38 : lw_okq (⟨"BankTimesModel", "isWanted", "(III)Z"⟩, 34) := ⟨⟨by decide +kernel, by decide +kernel⟩, List.mem_of_getElem? (i := 557) (by decide +kernel), List.mem_of_getElem? (i := 775) (by decide +kernel), List.mem_of_getElem? (i := 776) (by decide +kernel)⟩
theorem lw_p39 : lw_okq (⟨"BankTimesModel", "byReads", "(I)I"⟩, 34) := ⟨⟨by decide +kernel, by decide +kernel⟩, List.mem_of_getElem? (i := 557) (by decide +kernel), List.mem_of_getElem? (i := 779) (by decide +kernel), List.mem_of_getElem? (i := 780) (by decide +kernel)⟩
theorem lw_p40 : lw_okq (⟨"BankTimesModel", "byTurns", "(I)I"⟩, 34) := ⟨⟨by decide +kernel, by decide +kernel⟩, List.mem_of_getElem? (i := 557) (by decide +kernel), List.mem_of_getElem? (i := 783) (by decide +kernel), List.mem_of_getElem? (i := 784) (by decide +kernel)⟩
theorem lw_p41 : lw_okq (⟨"BankTimesModel", "fits", "(IIII)Z"⟩, 34) := ⟨⟨by decide +kernel, by decide +kernel⟩, List.mem_of_getElem? (i := 557) (by decide +kernel), List.mem_of_getElem? (i := 808) (by decide +kernel), List.mem_of_getElem? (i := 809) (by decide +kernel)⟩
def lw_privs_3 : List (MethodName × Nat) := [(⟨"BankTimesModel", "named", "(I)I"⟩, 34), (⟨"BankTimesModel", "byRows", "(II)I"⟩, 34), (⟨"BankTimesModel", "isAmong", "(III)Z"⟩, 34), (⟨"BankTimesModel", "isOf", "(II)Z"⟩, 34), (⟨"BankTimesModel", "nextOf", "(I)I"⟩, 34), (⟨"BankTimesModel", "isReady", "(I)Z"⟩, 34), (⟨"BankTimesModel", "isWanted", "(III)Z"⟩, 34), (⟨"BankTimesModel", "byReads", "(I)I"⟩, 34), (⟨"BankTimesModel", "byTurns", "(I)I"⟩, 34), (⟨"BankTimesModel", "fits", "(IIII)Z"⟩, 34)]
theorem lw_r3 : ∀ q ∈ lw_privs_3, lw_okq q := List.forall_mem_cons.mpr ⟨lw_p32, List.forall_mem_cons.mpr ⟨lw_p33, List.forall_mem_cons.mpr ⟨lw_p34, List.forall_mem_cons.mpr ⟨lw_p35, List.forall_mem_cons.mpr ⟨lw_p36, List.forall_mem_cons.mpr ⟨lw_p37, List.forall_mem_cons.mpr ⟨lw_p38, List.forall_mem_cons.mpr ⟨lw_p39, List.forall_mem_cons.mpr ⟨lw_p40, List.forall_mem_cons.mpr ⟨lw_p41, fun _ h => absurd h List.not_mem_nil⟩⟩⟩⟩⟩⟩⟩⟩⟩⟩
def lw_privs : List (MethodName × Nat) := lw_privs_1 ++ (lw_privs_2 ++ (lw_privs_3))
def lw_tbl : List Cond := k2_sels lw_privs ++ tables_1
theorem lw_privs_ok : ∀ q ∈ lw_privs, lw_okq q := by
  show ∀ q ∈ lw_privs_1 ++ (lw_privs_2 ++ (lw_privs_3)), lw_okq q
  exact List.forall_mem_append.mpr ⟨lw_r1, List.forall_mem_append.mpr ⟨lw_r2, lw_r3⟩⟩
end
section
def F_C : u_T := fun k => match k with
  | 0 => ("BankTimes$Channel", "rules", "LBankTimes$Rules;", true)
  | 1 => ("BankTimes$Channel", "queue", "LBankTimes$Queue;", true)
  | 2 => ("BankTimes$Channel", "bankCount", "I", true)
  | 3 => ("BankTimes$Channel", "refreshDue", "Z", false)
  | _ => ("BankTimes$Channel", "lastBank", "I", false)
def ty_C : Nat → FieldType := fun k => match k with
  | 0 => .object "BankTimes$Rules"
  | 1 => .object "BankTimes$Queue"
  | 2 => .int
  | 3 => .boolean
  | _ => .int
theorem nm_C : ∀ a, a < 5 → ∀ b, b < 5 → a ≠ b → (F_C a).2.1 ≠ (F_C b).2.1 := by decide +kernel
theorem tyok_C : ∀ k, k < 5 → parseFieldDescriptor (F_C k).2.2.1 = some (ty_C k) := by decide +kernel
def F_G : u_T := fun k => match k with
  | 0 => ("BankTimes$Log", "parts", "[I", true)
  | 1 => ("BankTimes$Log", "ofKind", "[I", true)
  | 2 => ("BankTimes$Log", "oldest", "I", false)
  | 3 => ("BankTimes$Log", "kept", "I", false)
  | _ => ("BankTimes$Log", "total", "I", false)
def ty_G : Nat → FieldType := fun k => match k with
  | 0 => .array .int
  | 1 => .array .int
  | 2 => .int
  | 3 => .int
  | _ => .int
theorem nm_G : ∀ a, a < 5 → ∀ b, b < 5 → a ≠ b → (F_G a).2.1 ≠ (F_G b).2.1 := by decide +kernel
theorem tyok_G : ∀ k, k < 5 → parseFieldDescriptor (F_G k).2.2.1 = some (ty_G k) := by decide +kernel
def F_Q : u_T := fun k => match k with
  | 0 => ("BankTimes$Queue", "numbers", "[I", true)
  | 1 => ("BankTimes$Queue", "came", "[I", true)
  | 2 => ("BankTimes$Queue", "banks", "[I", true)
  | 3 => ("BankTimes$Queue", "rows", "[I", true)
  | 4 => ("BankTimes$Queue", "writes", "[Z", true)
  | 5 => ("BankTimes$Queue", "size", "I", false)
  | _ => ("BankTimes$Queue", "writeCount", "I", false)
def ty_Q : Nat → FieldType := fun k => match k with
  | 0 => .array .int
  | 1 => .array .int
  | 2 => .array .int
  | 3 => .array .int
  | 4 => .array .boolean
  | 5 => .int
  | _ => .int
theorem nm_Q : ∀ a, a < 7 → ∀ b, b < 7 → a ≠ b → (F_Q a).2.1 ≠ (F_Q b).2.1 := by decide +kernel
theorem tyok_Q : ∀ k, k < 7 → parseFieldDescriptor (F_Q k).2.2.1 = some (ty_Q k) := by decide +kernel
def F_R : u_T := fun k => match k with
  | 0 => ("BankTimes$Rules", "times", "[I", true)
  | 1 => ("BankTimes$Rules", "openRows", "[I", true)
  | 2 => ("BankTimes$Rules", "activated", "[I", true)
  | 3 => ("BankTimes$Rules", "read", "[I", true)
  | 4 => ("BankTimes$Rules", "written", "[I", true)
  | 5 => ("BankTimes$Rules", "closed", "[I", true)
  | 6 => ("BankTimes$Rules", "activates", "[I", true)
  | 7 => ("BankTimes$Rules", "lastColumn", "I", false)
  | 8 => ("BankTimes$Rules", "lastWrite", "I", false)
  | 9 => ("BankTimes$Rules", "lastRefresh", "I", false)
  | _ => ("BankTimes$Rules", "lastCycle", "I", false)
def ty_R : Nat → FieldType := fun k => match k with
  | 0 => .array .int
  | 1 => .array .int
  | 2 => .array .int
  | 3 => .array .int
  | 4 => .array .int
  | 5 => .array .int
  | 6 => .array .int
  | 7 => .int
  | 8 => .int
  | 9 => .int
  | _ => .int
theorem nm_R : ∀ a, a < 11 → ∀ b, b < 11 → a ≠ b → (F_R a).2.1 ≠ (F_R b).2.1 := by decide +kernel
theorem tyok_R : ∀ k, k < 11 → parseFieldDescriptor (F_R k).2.2.1 = some (ty_R k) := by decide +kernel
def F_B : u_T := fun k => match k with
  | 0 => ("BankTimes", "channelBits", "I", true)
  | 1 => ("BankTimes", "bankBits", "I", true)
  | 2 => ("BankTimes", "bankCount", "I", true)
  | 3 => ("BankTimes", "scheduler", "I", true)
  | 4 => ("BankTimes", "times", "[I", true)
  | 5 => ("BankTimes", "channels", "[LBankTimes$Channel;", true)
  | 6 => ("BankTimes", "checkers", "[LBankTimes$Rules;", true)
  | 7 => ("BankTimes", "log", "LBankTimes$Log;", true)
  | 8 => ("BankTimes", "doneCycles", "[I", true)
  | 9 => ("BankTimes", "spanCycles", "I", false)
  | 10 => ("BankTimes", "cycle", "I", false)
  | 11 => ("BankTimes", "askCount", "I", false)
  | 12 => ("BankTimes", "doneCount", "I", false)
  | _ => ("BankTimes", "waitedCycles", "I", false)
def ty_B : Nat → FieldType := fun k => match k with
  | 0 => .int
  | 1 => .int
  | 2 => .int
  | 3 => .int
  | 4 => .array .int
  | 5 => .array (.object "BankTimes$Channel")
  | 6 => .array (.object "BankTimes$Rules")
  | 7 => .object "BankTimes$Log"
  | 8 => .array .int
  | 9 => .int
  | 10 => .int
  | 11 => .int
  | 12 => .int
  | _ => .int
theorem nm_B : ∀ a, a < 14 → ∀ b, b < 14 → a ≠ b → (F_B a).2.1 ≠ (F_B b).2.1 := by decide +kernel
theorem tyok_B : ∀ k, k < 14 → parseFieldDescriptor (F_B k).2.2.1 = some (ty_B k) := by decide +kernel
def F_D : u_T := fun k => match k with
  | 0 => ("BankTimesModel", "thrown", "I", false)
  | 1 => ("BankTimesModel", "channels", "I", true)
  | 2 => ("BankTimesModel", "banks", "I", true)
  | 3 => ("BankTimesModel", "bankBits", "I", true)
  | 4 => ("BankTimesModel", "scheduler", "I", true)
  | 5 => ("BankTimesModel", "cycle", "I", false)
  | 6 => ("BankTimesModel", "span", "I", false)
  | 7 => ("BankTimesModel", "times", "[I", true)
  | 8 => ("BankTimesModel", "open", "[I", true)
  | 9 => ("BankTimesModel", "opened", "[I", true)
  | 10 => ("BankTimesModel", "closed", "[I", true)
  | 11 => ("BankTimesModel", "read", "[I", true)
  | 12 => ("BankTimesModel", "written", "[I", true)
  | 13 => ("BankTimesModel", "anyWrite", "[I", true)
  | 14 => ("BankTimesModel", "anyUse", "[I", true)
  | 15 => ("BankTimesModel", "refreshed", "[I", true)
  | 16 => ("BankTimesModel", "activates", "[I", true)
  | 17 => ("BankTimesModel", "lastCheck", "[I", true)
  | 18 => ("BankTimesModel", "due", "[Z", true)
  | 19 => ("BankTimesModel", "lastBank", "[I", true)
  | 20 => ("BankTimesModel", "asks", "I", false)
  | 21 => ("BankTimesModel", "doneAsks", "I", false)
  | 22 => ("BankTimesModel", "waited", "I", false)
  | 23 => ("BankTimesModel", "address", "[I", true)
  | 24 => ("BankTimesModel", "isWrite", "[Z", true)
  | 25 => ("BankTimesModel", "came", "[I", true)
  | 26 => ("BankTimesModel", "done", "[I", true)
  | 27 => ("BankTimesModel", "commands", "I", false)
  | 28 => ("BankTimesModel", "kinds", "[I", true)
  | 29 => ("BankTimesModel", "logChannel", "[I", true)
  | 30 => ("BankTimesModel", "logCycle", "[I", true)
  | 31 => ("BankTimesModel", "logKind", "[I", true)
  | 32 => ("BankTimesModel", "logBank", "[I", true)
  | _ => ("BankTimesModel", "logRow", "[I", true)
def ty_D : Nat → FieldType := fun k => match k with
  | 0 => .int
  | 1 => .int
  | 2 => .int
  | 3 => .int
  | 4 => .int
  | 5 => .int
  | 6 => .int
  | 7 => .array .int
  | 8 => .array .int
  | 9 => .array .int
  | 10 => .array .int
  | 11 => .array .int
  | 12 => .array .int
  | 13 => .array .int
  | 14 => .array .int
  | 15 => .array .int
  | 16 => .array .int
  | 17 => .array .int
  | 18 => .array .boolean
  | 19 => .array .int
  | 20 => .int
  | 21 => .int
  | 22 => .int
  | 23 => .array .int
  | 24 => .array .boolean
  | 25 => .array .int
  | 26 => .array .int
  | 27 => .int
  | 28 => .array .int
  | 29 => .array .int
  | 30 => .array .int
  | 31 => .array .int
  | 32 => .array .int
  | _ => .array .int
theorem nm_D : ∀ a, a < 34 → ∀ b, b < 34 → a ≠ b → (F_D a).2.1 ≠ (F_D b).2.1 := by decide +kernel
theorem tyok_D : ∀ k, k < 34 → parseFieldDescriptor (F_D k).2.2.1 = some (ty_D k) := by decide +kernel
abbrev cls6 : List vw_C := [("BankTimes$Channel", F_C, 5), ("BankTimes$Log", F_G, 5), ("BankTimes$Queue", F_Q, 7), ("BankTimes$Rules", F_R, 11), ("BankTimes", F_B, 14), ("BankTimesModel", F_D, 34)]
abbrev k_B_init : ByteArray := prog_1_method_1_code
def y_B_init : MethodName := ⟨"BankTimes", "<init>", "(III)V"⟩
abbrev k_B_time : ByteArray := prog_1_method_2_code
def y_B_time : MethodName := ⟨"BankTimes", "time", "(II)I"⟩
abbrev k_B_span : ByteArray := prog_1_method_3_code
def y_B_span : MethodName := ⟨"BankTimes", "span", "(I)I"⟩
abbrev k_B_ask : ByteArray := prog_1_method_4_code
def y_B_ask : MethodName := ⟨"BankTimes", "ask", "(IZ)I"⟩
abbrev k_B_run : ByteArray := prog_1_method_5_code
def y_B_run : MethodName := ⟨"BankTimes", "run", "(I)I"⟩
abbrev k_B_done : ByteArray := prog_1_method_6_code
def y_B_done : MethodName := ⟨"BankTimes", "done", "(I)I"⟩
abbrev k_B_command : ByteArray := prog_1_method_7_code
def y_B_command : MethodName := ⟨"BankTimes", "command", "(II)I"⟩
abbrev k_B_open : ByteArray := prog_1_method_8_code
def y_B_open : MethodName := ⟨"BankTimes", "open", "(II)I"⟩
abbrev k_B_part : ByteArray := prog_1_method_9_code
def y_B_part : MethodName := ⟨"BankTimes", "part", "(II)I"⟩
abbrev k_B_begin : ByteArray := prog_1_method_10_code
def y_B_begin : MethodName := ⟨"BankTimes", "begin", "()V"⟩
abbrev k_B_check : ByteArray := prog_1_method_11_code
def y_B_check : MethodName := ⟨"BankTimes", "check", "(IIIII)I"⟩
abbrev k_B_count : ByteArray := prog_1_method_12_code
def y_B_count : MethodName := ⟨"BankTimes", "count", "(I)I"⟩
abbrev k_B_isAddress : ByteArray := prog_1_method_13_code
def y_B_isAddress : MethodName := ⟨"BankTimes", "isAddress", "(I)Z"⟩
abbrev k_B_channelOf : ByteArray := prog_1_method_14_code
def y_B_channelOf : MethodName := ⟨"BankTimes", "channelOf", "(I)I"⟩
abbrev k_B_bankOf : ByteArray := prog_1_method_15_code
def y_B_bankOf : MethodName := ⟨"BankTimes", "bankOf", "(I)I"⟩
abbrev k_B_rowOf : ByteArray := prog_1_method_16_code
def y_B_rowOf : MethodName := ⟨"BankTimes", "rowOf", "(I)I"⟩
abbrev k_B_anyRowOpen : ByteArray := prog_1_method_17_code
def y_B_anyRowOpen : MethodName := ⟨"BankTimes", "anyRowOpen", "()Z"⟩
abbrev k_B_dueRefreshes : ByteArray := prog_1_method_18_code
def y_B_dueRefreshes : MethodName := ⟨"BankTimes", "dueRefreshes", "()I"⟩
abbrev k_B_step : ByteArray := prog_1_method_19_code
def y_B_step : MethodName := ⟨"BankTimes", "step", "()V"⟩
abbrev k_B_refresh : ByteArray := prog_1_method_20_code
def y_B_refresh : MethodName := ⟨"BankTimes", "refresh", "(I)V"⟩
abbrev k_B_serve : ByteArray := prog_1_method_21_code
def y_B_serve : MethodName := ⟨"BankTimes", "serve", "(II)V"⟩
abbrev k_B_give : ByteArray := prog_1_method_22_code
def y_B_give : MethodName := ⟨"BankTimes", "give", "(IIII)V"⟩
abbrev k_D_init : ByteArray := prog_7_method_1_code
def y_D_init : MethodName := ⟨"BankTimesModel", "<init>", "(III)V"⟩
abbrev k_D_thrown : ByteArray := prog_7_method_2_code
def y_D_thrown : MethodName := ⟨"BankTimesModel", "thrown", "()I"⟩
abbrev k_D_fail : ByteArray := prog_7_method_3_code
def y_D_fail : MethodName := ⟨"BankTimesModel", "fail", "(I)I"⟩
abbrev k_D_within : ByteArray := prog_7_method_4_code
def y_D_within : MethodName := ⟨"BankTimesModel", "within", "(III)Z"⟩
abbrev k_D_clear : ByteArray := prog_7_method_5_code
def y_D_clear : MethodName := ⟨"BankTimesModel", "clear", "(I)V"⟩
abbrev k_D_isAddress : ByteArray := prog_7_method_6_code
def y_D_isAddress : MethodName := ⟨"BankTimesModel", "isAddress", "(I)Z"⟩
abbrev k_D_channelOf : ByteArray := prog_7_method_7_code
def y_D_channelOf : MethodName := ⟨"BankTimesModel", "channelOf", "(I)I"⟩
abbrev k_D_bankOf : ByteArray := prog_7_method_8_code
def y_D_bankOf : MethodName := ⟨"BankTimesModel", "bankOf", "(I)I"⟩
abbrev k_D_rowOf : ByteArray := prog_7_method_9_code
def y_D_rowOf : MethodName := ⟨"BankTimesModel", "rowOf", "(I)I"⟩
abbrev k_D_part : ByteArray := prog_7_method_10_code
def y_D_part : MethodName := ⟨"BankTimesModel", "part", "(II)I"⟩
abbrev k_D_anyOpen : ByteArray := prog_7_method_11_code
def y_D_anyOpen : MethodName := ⟨"BankTimesModel", "anyOpen", "(I)Z"⟩
abbrev k_D_fits : ByteArray := prog_7_method_12_code
def y_D_fits : MethodName := ⟨"BankTimesModel", "fits", "(IIII)Z"⟩
abbrev k_D_since : ByteArray := prog_7_method_13_code
def y_D_since : MethodName := ⟨"BankTimesModel", "since", "(IIII)I"⟩
abbrev k_D_broken : ByteArray := prog_7_method_14_code
def y_D_broken : MethodName := ⟨"BankTimesModel", "broken", "(IIII)I"⟩
abbrev k_D_note : ByteArray := prog_7_method_15_code
def y_D_note : MethodName := ⟨"BankTimesModel", "note", "(IIIII)V"⟩
abbrev k_D_waiting : ByteArray := prog_7_method_16_code
def y_D_waiting : MethodName := ⟨"BankTimesModel", "waiting", "(I)I"⟩
abbrev k_D_time : ByteArray := prog_7_method_17_code
def y_D_time : MethodName := ⟨"BankTimesModel", "time", "(II)I"⟩
abbrev k_D_span : ByteArray := prog_7_method_18_code
def y_D_span : MethodName := ⟨"BankTimesModel", "span", "(I)I"⟩
abbrev k_D_ask : ByteArray := prog_7_method_19_code
def y_D_ask : MethodName := ⟨"BankTimesModel", "ask", "(IZ)I"⟩
abbrev k_D_give : ByteArray := prog_7_method_20_code
def y_D_give : MethodName := ⟨"BankTimesModel", "give", "(IIII)V"⟩
abbrev k_D_nextOf : ByteArray := prog_7_method_21_code
def y_D_nextOf : MethodName := ⟨"BankTimesModel", "nextOf", "(I)I"⟩
abbrev k_D_isReady : ByteArray := prog_7_method_22_code
def y_D_isReady : MethodName := ⟨"BankTimesModel", "isReady", "(I)Z"⟩
abbrev k_D_isOf : ByteArray := prog_7_method_23_code
def y_D_isOf : MethodName := ⟨"BankTimesModel", "isOf", "(II)Z"⟩
abbrev k_D_isAmong : ByteArray := prog_7_method_24_code
def y_D_isAmong : MethodName := ⟨"BankTimesModel", "isAmong", "(III)Z"⟩
abbrev k_D_isWanted : ByteArray := prog_7_method_25_code
def y_D_isWanted : MethodName := ⟨"BankTimesModel", "isWanted", "(III)Z"⟩
abbrev k_D_byRows : ByteArray := prog_7_method_26_code
def y_D_byRows : MethodName := ⟨"BankTimesModel", "byRows", "(II)I"⟩
abbrev k_D_byReads : ByteArray := prog_7_method_27_code
def y_D_byReads : MethodName := ⟨"BankTimesModel", "byReads", "(I)I"⟩
abbrev k_D_byTurns : ByteArray := prog_7_method_28_code
def y_D_byTurns : MethodName := ⟨"BankTimesModel", "byTurns", "(I)I"⟩
abbrev k_D_named : ByteArray := prog_7_method_29_code
def y_D_named : MethodName := ⟨"BankTimesModel", "named", "(I)I"⟩
abbrev k_D_refresh : ByteArray := prog_7_method_30_code
def y_D_refresh : MethodName := ⟨"BankTimesModel", "refresh", "(I)V"⟩
abbrev k_D_serve : ByteArray := prog_7_method_31_code
def y_D_serve : MethodName := ⟨"BankTimesModel", "serve", "(I)V"⟩
abbrev k_D_run : ByteArray := prog_7_method_32_code
def y_D_run : MethodName := ⟨"BankTimesModel", "run", "(I)I"⟩
abbrev k_D_done : ByteArray := prog_7_method_33_code
def y_D_done : MethodName := ⟨"BankTimesModel", "done", "(I)I"⟩
abbrev k_D_command : ByteArray := prog_7_method_34_code
def y_D_command : MethodName := ⟨"BankTimesModel", "command", "(II)I"⟩
abbrev k_D_open : ByteArray := prog_7_method_35_code
def y_D_open : MethodName := ⟨"BankTimesModel", "open", "(II)I"⟩
abbrev k_D_begin : ByteArray := prog_7_method_36_code
def y_D_begin : MethodName := ⟨"BankTimesModel", "begin", "()V"⟩
abbrev k_D_check : ByteArray := prog_7_method_37_code
def y_D_check : MethodName := ⟨"BankTimesModel", "check", "(IIIII)I"⟩
abbrev k_D_count : ByteArray := prog_7_method_38_code
def y_D_count : MethodName := ⟨"BankTimesModel", "count", "(I)I"⟩
abbrev k_C_init : ByteArray := prog_2_method_1_code
def y_C_init : MethodName := ⟨"BankTimes$Channel", "<init>", "(I[I)V"⟩
abbrev k_C_chosen : ByteArray := prog_2_method_2_code
def y_C_chosen : MethodName := ⟨"BankTimes$Channel", "chosen", "(II)I"⟩
abbrev k_C_nextKind : ByteArray := prog_2_method_3_code
def y_C_nextKind : MethodName := ⟨"BankTimes$Channel", "nextKind", "(I)I"⟩
abbrev k_C_isReady : ByteArray := prog_2_method_4_code
def y_C_isReady : MethodName := ⟨"BankTimes$Channel", "isReady", "(II)Z"⟩
abbrev k_C_chosenByRows : ByteArray := prog_2_method_5_code
def y_C_chosenByRows : MethodName := ⟨"BankTimes$Channel", "chosenByRows", "(II)I"⟩
abbrev k_C_isAmong : ByteArray := prog_2_method_6_code
def y_C_isAmong : MethodName := ⟨"BankTimes$Channel", "isAmong", "(II)Z"⟩
abbrev k_C_openRowIsWanted : ByteArray := prog_2_method_7_code
def y_C_openRowIsWanted : MethodName := ⟨"BankTimes$Channel", "openRowIsWanted", "(II)Z"⟩
abbrev k_C_chosenByTurns : ByteArray := prog_2_method_8_code
def y_C_chosenByTurns : MethodName := ⟨"BankTimes$Channel", "chosenByTurns", "(I)I"⟩
abbrev k_G_init : ByteArray := prog_3_method_1_code
def y_G_init : MethodName := ⟨"BankTimes$Log", "<init>", "()V"⟩
abbrev k_G_add : ByteArray := prog_3_method_2_code
def y_G_add : MethodName := ⟨"BankTimes$Log", "add", "(IIIII)V"⟩
abbrev k_G_partOf : ByteArray := prog_3_method_3_code
def y_G_partOf : MethodName := ⟨"BankTimes$Log", "partOf", "(II)I"⟩
abbrev k_G_placeOf : ByteArray := prog_3_method_4_code
def y_G_placeOf : MethodName := ⟨"BankTimes$Log", "placeOf", "(I)I"⟩
abbrev k_Q_init : ByteArray := prog_4_method_1_code
def y_Q_init : MethodName := ⟨"BankTimes$Queue", "<init>", "()V"⟩
abbrev k_Q_isFull : ByteArray := prog_4_method_2_code
def y_Q_isFull : MethodName := ⟨"BankTimes$Queue", "isFull", "()Z"⟩
abbrev k_Q_add : ByteArray := prog_4_method_3_code
def y_Q_add : MethodName := ⟨"BankTimes$Queue", "add", "(IIIIZ)V"⟩
abbrev k_Q_removeAt : ByteArray := prog_4_method_4_code
def y_Q_removeAt : MethodName := ⟨"BankTimes$Queue", "removeAt", "(I)V"⟩
abbrev k_Q_oldestOf : ByteArray := prog_4_method_5_code
def y_Q_oldestOf : MethodName := ⟨"BankTimes$Queue", "oldestOf", "(I)I"⟩
abbrev k_R_init : ByteArray := prog_5_method_1_code
def y_R_init : MethodName := ⟨"BankTimes$Rules", "<init>", "(I[I)V"⟩
abbrev k_R_forget : ByteArray := prog_5_method_2_code
def y_R_forget : MethodName := ⟨"BankTimes$Rules", "forget", "()V"⟩
abbrev k_R_anyOpen : ByteArray := prog_5_method_3_code
def y_R_anyOpen : MethodName := ⟨"BankTimes$Rules", "anyOpen", "()Z"⟩
abbrev k_R_lowestToClose : ByteArray := prog_5_method_4_code
def y_R_lowestToClose : MethodName := ⟨"BankTimes$Rules", "lowestToClose", "(I)I"⟩
abbrev k_R_brokenRule : ByteArray := prog_5_method_5_code
def y_R_brokenRule : MethodName := ⟨"BankTimes$Rules", "brokenRule", "(IIII)I"⟩
abbrev k_R_fitsBank : ByteArray := prog_5_method_6_code
def y_R_fitsBank : MethodName := ⟨"BankTimes$Rules", "fitsBank", "(III)Z"⟩
abbrev k_R_brokenTime : ByteArray := prog_5_method_7_code
def y_R_brokenTime : MethodName := ⟨"BankTimes$Rules", "brokenTime", "(III)I"⟩
abbrev k_R_startOf : ByteArray := prog_5_method_8_code
def y_R_startOf : MethodName := ⟨"BankTimes$Rules", "startOf", "(III)I"⟩
abbrev k_R_take : ByteArray := prog_5_method_9_code
def y_R_take : MethodName := ⟨"BankTimes$Rules", "take", "(IIII)V"⟩
abbrev k_L_cell : ByteArray := method_2_code
def y_L_cell : MethodName := ⟨"BankTimesLaw", "cell", "([II)I"⟩
abbrev k_L_time : ByteArray := method_3_code
def y_L_time : MethodName := ⟨"BankTimesLaw", "time", "(LBankTimes;II[J)I"⟩
abbrev k_L_span : ByteArray := method_4_code
def y_L_span : MethodName := ⟨"BankTimesLaw", "span", "(LBankTimes;I[J)I"⟩
abbrev k_L_ask : ByteArray := method_5_code
def y_L_ask : MethodName := ⟨"BankTimesLaw", "ask", "(LBankTimes;IZ[J)I"⟩
abbrev k_L_run : ByteArray := method_6_code
def y_L_run : MethodName := ⟨"BankTimesLaw", "run", "(LBankTimes;I[J)I"⟩
abbrev k_L_done : ByteArray := method_7_code
def y_L_done : MethodName := ⟨"BankTimesLaw", "done", "(LBankTimes;I[J)I"⟩
abbrev k_L_command : ByteArray := method_8_code
def y_L_command : MethodName := ⟨"BankTimesLaw", "command", "(LBankTimes;II[J)I"⟩
abbrev k_L_open : ByteArray := method_9_code
def y_L_open : MethodName := ⟨"BankTimesLaw", "open", "(LBankTimes;II[J)I"⟩
abbrev k_L_part : ByteArray := method_10_code
def y_L_part : MethodName := ⟨"BankTimesLaw", "part", "(LBankTimes;II[J)I"⟩
abbrev k_L_check : ByteArray := method_11_code
def y_L_check : MethodName := ⟨"BankTimesLaw", "check", "(LBankTimes;IIIII[J)I"⟩
abbrev k_J_floorMod : ByteArray := prog_13_method_50_code
def y_J_floorMod : MethodName := ⟨"java/lang/Math", "floorMod", "(II)I"⟩
abbrev k_A_fill : ByteArray := prog_18_method_103_code
def y_A_fill : MethodName := ⟨"java/util/Arrays", "fill", "([II)V"⟩
end
section
/-! OWN KIT: the cells of a system lie side by side from an address b on; their numbers are one memory M : role → place → Int32; what never changes (classes, references, lengths) is the shape sh -/
abbrev Mm : Type := Nat → Nat → Int32
abbrev Shp : Type := Nat → (Nat → Int32) → va_E
def up2 (M : Mm) (r k : Nat) (v : Int32) : Mm := fun q => if q = r then upd (M r) k v else M q
theorem up2_at (M : Mm) (r k : Nat) (v : Int32) : up2 M r k v r = upd (M r) k v := if_pos rfl
theorem up2_ne {M : Mm} {r k q : Nat} {v : Int32} (h : q ≠ r) : up2 M r k v q = M q := if_neg h
def wd (b N : Nat) (sh : Shp) (M : Mm) : va_W := (List.range N).map (fun r => (b + r, sh r (M r)))
theorem wd_len (b N : Nat) (sh : Shp) (M : Mm) : (wd b N sh M).length = N := by simp [wd]
theorem wd_at {b N r : Nat} {sh : Shp} {M : Mm} (h : r < N) : (wd b N sh M)[r]? = some (b + r, sh r (M r)) := by simp [wd, h]
theorem wd_in {b N k : Nat} {sh : Shp} {M : Mm} {q : Nat × va_E} (h : (wd b N sh M)[k]? = some q) : k < N ∧ q = (b + k, sh k (M k)) := by
  have hk : k < N := by
    have h1 := (List.getElem?_eq_some_iff.mp h).1
    rw [wd_len] at h1
    exact h1
  rw [wd_at hk] at h
  exact ⟨hk, (Option.some.inj h).symm⟩
theorem wd_set {b N r : Nat} {sh : Shp} {M M' : Mm} {x : va_E} (hr : r < N) (hx : sh r (M' r) = x) (ho : ∀ q, q ≠ r → M' q = M q) : (wd b N sh M).set r (b + r, x) = wd b N sh M' := by
  apply List.ext_getElem?
  intro i
  rw [List.getElem?_set]
  by_cases h : r = i
  · subst h
    rw [if_pos rfl, if_pos (by rw [wd_len]; exact hr), wd_at hr, hx]
  · rw [if_neg h]
    by_cases hi : i < N
    · rw [wd_at hi, wd_at hi, ho i (Ne.symm h)]
    · rw [List.getElem?_eq_none (by rw [wd_len]; omega), List.getElem?_eq_none (by rw [wd_len]; omega)]
theorem wd_D {b N : Nat} {sh : Shp} {M : Mm} {A : Nat → Prop} (hA : ∀ r, r < N → A (b + r)) : va_D A (wd b N sh M) := by
  refine ⟨fun i j x y hi hj hxy => ?_, fun k q hk => ?_⟩
  · obtain ⟨h1, rfl⟩ := wd_in hi
    obtain ⟨h2, rfl⟩ := wd_in hj
    dsimp only at hxy
    omega
  · obtain ⟨h1, rfl⟩ := wd_in hk
    exact hA k h1
/-- the places that a method of a system may write: its cells, and what is new -/
def reg (b N sz : Nat) : Nat → Prop := fun q => (b ≤ q ∧ q < b + N) ∨ sz ≤ q
theorem reg_in {b N sz r : Nat} (h : r < N) : reg b N sz (b + r) := Or.inl ⟨Nat.le_add_right _ _, Nat.add_lt_add_left h _⟩
theorem reg_D {b N sz : Nat} {sh : Shp} {M : Mm} : va_D (reg b N sz) (wd b N sh M) := wd_D fun _ h => reg_in h
theorem reg_mono {b N sz sz' : Nat} (h : sz ≤ sz') : ∀ q, reg b N sz' q → reg b N sz q := fun q hq => hq.elim Or.inl (fun h' => Or.inr (Nat.le_trans h h'))
/-- a system's cells stay where nothing of them was written -/
theorem wd_kept {D : va_G} {cl : List vw_C} {b N b' N' : Nat} {sh : Shp} {M : Mm} {H H1 : Heap} {sz : Nat} (hP : va_P D cl (wd b N sh M) H) (hsz : sz = H.size) (hap : b + N ≤ b' ∨ b' + N' ≤ b) (hk : ∀ q : Nat, q < H.size → ¬ reg b' N' sz q → H1[q]? = H[q]?) : va_P D cl (wd b N sh M) H1 := by
  refine hP.kept fun k q hq => ?_
  have hl := (hP k q hq).lt
  obtain ⟨h1, rfl⟩ := wd_in hq
  dsimp only at hl ⊢
  refine hk _ hl ?_
  rintro (⟨a, c⟩ | a) <;> omega
/-- an object: fields that are references stay (some), the others are numbers of the memory (none) -/
def fl (L : List (Option Nat)) (m : Nat → Int32) : List Value := L.mapIdx (fun k o => match o with | some q => Value.ref q | none => Value.int (m k))
theorem fl_i {L : List (Option Nat)} {m : Nat → Int32} {k : Nat} (h : L[k]? = some none) : (fl L m)[k]? = some (.int (m k)) := by simp [fl, List.getElem?_mapIdx, h]
theorem fl_r {L : List (Option Nat)} {m : Nat → Int32} {k q : Nat} (h : L[k]? = some (some q)) : (fl L m)[k]? = some (.ref q) := by simp [fl, List.getElem?_mapIdx, h]
theorem fl_len (L : List (Option Nat)) (m : Nat → Int32) : (fl L m).length = L.length := by simp [fl]
theorem fl_set {L : List (Option Nat)} {m : Nat → Int32} {k : Nat} {v : Int32} (h : L[k]? = some none) : (fl L m).set k (.int v) = fl L (upd m k v) := by
  have hk : k < L.length := (List.getElem?_eq_some_iff.mp h).1
  apply List.ext_getElem?
  intro i
  rw [List.getElem?_set]
  by_cases hi : k = i
  · subst hi
    rw [if_pos rfl, if_pos (by rw [fl_len]; exact hk), fl_i h, pk_us]
  · rw [if_neg hi]
    simp only [fl, List.getElem?_mapIdx]
    cases hL : L[i]? with
    | none => rfl
    | some o =>
      cases o with
      | none => simp [pk_un (Ne.symm hi)]
      | some q => rfl
def ob (ci : Nat) (L : List (Option Nat)) : (Nat → Int32) → va_E := fun m => .inr (ci, fl L m)
def ia (cA : ClassId) (n : Nat) : (Nat → Int32) → va_E := fun m => .inl (cA, n, .inl m)
def ra (cA : ClassId) (n : Nat) (g : Nat → Option Nat) : (Nat → Int32) → va_E := fun _ => .inl (cA, n, .inr (.inr (.inr (.inr g))))
/-- an index in an array of n places -/
def ixb (i : Int32) (n : Nat) : Bool := decide (¬ (i < 0 ∨ n ≤ i.toNatClampNeg))
theorem ixb_in {i : Int32} {n : Nat} (h : ixb i n = true) : vp_in i n := of_decide_eq_true (p := ¬ (i < 0 ∨ n ≤ i.toNatClampNeg)) h
theorem ixb_of {i : Int32} {n : Nat} (h : vp_in i n) : ixb i n = true := decide_eq_true (p := ¬ (i < 0 ∨ n ≤ i.toNatClampNeg)) h
theorem ixb_lt {i : Int32} {n : Nat} (h : ixb i n = true) : i.toNatClampNeg < n := Nat.not_le.mp fun q => ixb_in h (Or.inr q)
/-- a name for a value, in a program -/
def bnd {α β : Type} (a : α) (f : α → β) : β := f a
theorem ln {α β : Type} {a : α} {f : α → Option β} {y : β} (h : bnd a f = some y) : ∃ x, x = a ∧ f x = some y := ⟨a, rfl, h⟩
theorem og {c : Prop} [Decidable c] {α : Type} {x : Option α} {y : α} (h : (if c then x else none) = some y) : c ∧ x = some y := by
  by_cases hc : c
  · rw [if_pos hc] at h
    exact ⟨hc, h⟩
  · rw [if_neg hc] at h
    cases h
theorem ogt {c : Prop} [Decidable c] {α : Type} {x z : Option α} {y : α} (hc : c) (h : (if c then x else z) = some y) : x = some y := by rw [if_pos hc] at h; exact h
theorem ogf {c : Prop} [Decidable c] {α : Type} {x z : Option α} {y : α} (hc : ¬ c) (h : (if c then x else z) = some y) : z = some y := by rw [if_neg hc] at h; exact h
theorem obd {α β : Type} {x : Option α} {f : α → Option β} {y : β} (h : x.bind f = some y) : ∃ a, x = some a ∧ f a = some y := Option.bind_eq_some_iff.mp h
theorem oe {α : Type} {a c : α} (h : some a = some c) : a = c := Option.some.inj h
theorem oe2 {α β : Type} {a c : α} {b d : β} (h : some (a, b) = some (c, d)) : a = c ∧ b = d := by
  have h1 := Option.some.inj h
  exact ⟨congrArg Prod.fst h1, congrArg Prod.snd h1⟩
/-- a method's start and its ends, by the memory -/
def Pw (D : va_G) (cl : List vw_C) (tys : List (ClassId × FieldType)) (b N : Nat) (sh : Shp) (av : List Value) (M : Mm) (sz : Nat) : Array Value → State → Prop := va_Pc av (fun U => U.heap.size = sz ∧ va_P D cl (wd b N sh M) U.heap ∧ va_K D cl tys U)
def Qwi (D : va_G) (cl : List vw_C) (b N : Nat) (sh : Shp) (rv : Int32) (M' : Mm) (sz : Nat) : Array Value → State → Outcome → State → Prop := va_Qi (fun r' (_ : Unit) => r' = rv) (fun _ t => va_P D cl (wd b N sh M') t.heap) (reg b N sz)
def Qwv (D : va_G) (cl : List vw_C) (b N : Nat) (sh : Shp) (M' : Mm) (sz : Nat) : Array Value → State → Outcome → State → Prop := va_Qv (fun (_ : Unit) => True) (fun _ t => va_P D cl (wd b N sh M') t.heap) (reg b N sz)
theorem Pw_blind {D : va_G} {cl : List vw_C} {tys : List (ClassId × FieldType)} {b N : Nat} {sh : Shp} {av : List Value} {M : Mm} {sz : Nat} : FrameBlind (Pw D cl tys b N sh av M sz) := by
  intro a U g mk q
  obtain ⟨q0, q1, qP, qK⟩ := q
  exact ⟨q0, q1, qP, va_K.moved (u := U) (U := U.calling g mk a) (Vm.Alike.refl U.vm) qK⟩
section KW
variable {p : Program} {l : Launch} {e : Env} {R : Room} {s : State} {m : MethodId} {args : Array Value} {below : List Frame} {meth : Method} {c : Code} {H : Heap} {locs : List Loc} {cells slots : Nat} {Q : State → Prop}
variable {cc : ByteArray} {pc : Nat} {ls : Array Slot} {rest st0 : List Value} {D : va_G} {cl : List vw_C} {tys : List (ClassId × FieldType)} {b N : Nat} {sh : Shp} {M M' : Mm}
/-- another name for the number on top -/
theorem lv_nm {x y : Int32} (h : y = x) (k : W p l e R s m args below meth c H locs cells slots Q (F0 m pc ls (.int y :: rest))) : W p l e R s m args below meth c H locs cells slots Q (F0 m pc ls (.int x :: rest)) := h ▸ k
theorem wd_geti (hx : p.tables.exec = Jvm.exec) (hb : c.code = cc) {own C : String} {T : u_T} {Nf ci index : Nat} {Ts : List Cond} (hts : ∀ w ∈ Ts, w.before args s = true) (hin : ∀ w ∈ u_ws C T Nf, w ∈ Ts) (hown : s.vm.findClass own = some m.cls) (hK : va_K D cl tys s) (hP : va_P D cl (wd b N sh M) H) {L : List (Option Nat)} (r : Nat) (hr : r < N) (hs : sh r = ob ci L) (hc : cl[ci]? = some (C, T, Nf)) (k : Nat) (hk : k < Nf) (hlink : Cond.fieldLink own index (T k).1 (T k).2.1 (T k).2.2.1 ∈ Ts) (hl : L[k]? = some none) (hdg : decode cc pc = .ok (.getfield index, 3))
    (kk : W p l e R s m args below meth c H locs cells slots Q (F0 m (pc + 3) ls (.int (M r k) :: rest))) : W p l e R s m args below meth c H locs cells slots Q (F0 m pc ls (.ref (b + r) :: rest)) :=
  va_get (ci := ci) (fs := fl L (M r)) hx hb hts hin hown hK hP r (by rw [wd_at hr, hs]; rfl) hc k hk (hts _ hlink) (fun _ h => h) (fl_i hl) hdg kk
theorem wd_getr (hx : p.tables.exec = Jvm.exec) (hb : c.code = cc) {own C : String} {T : u_T} {Nf ci index : Nat} {Ts : List Cond} (hts : ∀ w ∈ Ts, w.before args s = true) (hin : ∀ w ∈ u_ws C T Nf, w ∈ Ts) (hown : s.vm.findClass own = some m.cls) (hK : va_K D cl tys s) (hP : va_P D cl (wd b N sh M) H) {L : List (Option Nat)} {q : Nat} (r : Nat) (hr : r < N) (hs : sh r = ob ci L) (hc : cl[ci]? = some (C, T, Nf)) (k : Nat) (hk : k < Nf) (hlink : Cond.fieldLink own index (T k).1 (T k).2.1 (T k).2.2.1 ∈ Ts) (hl : L[k]? = some (some q)) (hdg : decode cc pc = .ok (.getfield index, 3))
    (kk : W p l e R s m args below meth c H locs cells slots Q (F0 m (pc + 3) ls (.ref q :: rest))) : W p l e R s m args below meth c H locs cells slots Q (F0 m pc ls (.ref (b + r) :: rest)) :=
  va_get (ci := ci) (fs := fl L (M r)) hx hb hts hin hown hK hP r (by rw [wd_at hr, hs]; rfl) hc k hk (hts _ hlink) (fun _ h => h) (fl_r hl) hdg kk
theorem wd_puti (hx : p.tables.exec = Jvm.exec) (hb : c.code = cc) {own C : String} {T : u_T} {Nf ci index : Nat} {Ts : List Cond} (hts : ∀ w ∈ Ts, w.before args s = true) (hin : ∀ w ∈ u_ws C T Nf, w ∈ Ts) (ty0 : Nat → FieldType) (hty : ∀ k, k < Nf → parseFieldDescriptor (T k).2.2.1 = some (ty0 k)) (hnm : ∀ a, a < Nf → ∀ b, b < Nf → a ≠ b → (T a).2.1 ≠ (T b).2.1) (hown : s.vm.findClass own = some m.cls) (hK : va_K D cl tys s) (hP : va_P D cl (wd b N sh M) H) (hS : va_S (reg b N s.heap.size) s.heap H locs) {L : List (Option Nat)} (r : Nat) (hr : r < N) (hs : sh r = ob ci L) (hc : cl[ci]? = some (C, T, Nf)) (k : Nat) (hk : k < Nf) (hlink : Cond.fieldLink own index (T k).1 (T k).2.1 (T k).2.2.1 ∈ Ts) (hl : L[k]? = some none) (hfin : (T k).2.2.2 = false) {ty : FieldType} {v : Int32} (hd : parseFieldDescriptor (T k).2.2.1 = some ty) (hn : narrow ty (.int v) = .int v) (hfit : fits ty (.int v) = true) (hdg : decode cc pc = .ok (.putfield index, 3))
    (kk : ∀ (H1 : Heap) (locs1 : List Loc), va_P D cl (wd b N sh (up2 M r k v)) H1 → va_S (reg b N s.heap.size) s.heap H1 locs1 → W p l e R s m args below meth c H1 locs1 cells slots Q (F0 m (pc + 3) ls rest)) : W p l e R s m args below meth c H locs cells slots Q (F0 m pc ls (.int v :: .ref (b + r) :: rest)) := by
  have hk2 : k < L.length := (List.getElem?_eq_some_iff.mp hl).1
  refine va_put (ci := ci) (fs := fl L (M r)) hx hb hts hin ty0 hty hnm hown hK hP reg_D hS r (by rw [wd_at hr, hs]; rfl) hc k hk (hts _ hlink) (fun _ h => h) hfin hd hn hfit (by rw [fl_len]; exact hk2) hdg (fun H1 locs1 hP1 _ hS1 => ?_)
  rw [wd_set (M' := up2 M r k v) hr (by rw [hs, up2_at]; show Sum.inr (ci, fl L (upd (M r) k v)) = _; rw [← fl_set hl]) (fun q hq => up2_ne hq)] at hP1
  exact kk H1 locs1 hP1 hS1
theorem wd_iald (hx : p.tables.exec = Jvm.exec) (hb : c.code = cc) (hK : va_K D cl tys s) (hP : va_P D cl (wd b N sh M) H) (r t0 : Nat) (hr : r < N) {cA : ClassId} {n : Nat} (hs : sh r = ia cA n) (ht : tys[t0]? = some (cA, .int)) {i : Int32} (hin : ixb i n = true) (hdg : decode cc pc = .ok (.iaload, 1))
    (kk : W p l e R s m args below meth c H locs cells slots Q (F0 m (pc + 1) ls (.int (M r i.toNatClampNeg) :: rest))) : W p l e R s m args below meth c H locs cells slots Q (F0 m pc ls (.int i :: .ref (b + r) :: rest)) :=
  va_iald hx hb hK hP r t0 (f := M r) (by rw [wd_at hr, hs]; rfl) ht (ixb_in hin) hdg kk
theorem wd_zald (hx : p.tables.exec = Jvm.exec) (hb : c.code = cc) (hK : va_K D cl tys s) (hP : va_P D cl (wd b N sh M) H) (r t0 : Nat) (hr : r < N) {cA : ClassId} {n : Nat} (hs : sh r = ia cA n) (ht : tys[t0]? = some (cA, .boolean)) {i : Int32} (hin : ixb i n = true) (hdg : decode cc pc = .ok (.baload, 1))
    (kk : W p l e R s m args below meth c H locs cells slots Q (F0 m (pc + 1) ls (.int (M r i.toNatClampNeg) :: rest))) : W p l e R s m args below meth c H locs cells slots Q (F0 m pc ls (.int i :: .ref (b + r) :: rest)) :=
  va_zald hx hb hK hP r t0 (f := M r) (by rw [wd_at hr, hs]; rfl) ht (ixb_in hin) hdg kk
theorem wd_aald (hx : p.tables.exec = Jvm.exec) (hb : c.code = cc) (hK : va_K D cl tys s) (hP : va_P D cl (wd b N sh M) H) (r t0 : Nat) (hr : r < N) {cA : ClassId} {C : String} {n q : Nat} {g : Nat → Option Nat} (hs : sh r = ra cA n g) (ht : tys[t0]? = some (cA, .object C)) {i : Int32} (hin : ixb i n = true) (hg : g i.toNatClampNeg = some q) (hdg : decode cc pc = .ok (.aaload, 1))
    (kk : W p l e R s m args below meth c H locs cells slots Q (F0 m (pc + 1) ls (.ref q :: rest))) : W p l e R s m args below meth c H locs cells slots Q (F0 m pc ls (.int i :: .ref (b + r) :: rest)) := by
  refine va_aldq hx hb hK hP r t0 (f := g) (by rw [wd_at hr, hs]; rfl) ht (ixb_in hin) hdg ?_
  rw [hg]
  exact kk
theorem wd_alen (hx : p.tables.exec = Jvm.exec) (hb : c.code = cc) (hK : va_K D cl tys s) (hP : va_P D cl (wd b N sh M) H) (r t0 : Nat) (hr : r < N) {cA : ClassId} {n : Nat} (hs : sh r = ia cA n) {ty : FieldType} (ht : tys[t0]? = some (cA, ty)) (hdg : decode cc pc = .ok (.arraylength, 1))
    (kk : W p l e R s m args below meth c H locs cells slots Q (F0 m (pc + 1) ls (.int (nI n) :: rest))) : W p l e R s m args below meth c H locs cells slots Q (F0 m pc ls (.ref (b + r) :: rest)) :=
  va_alen hx hb hK hP r t0 (x := (n, .inl (M r))) (by rw [wd_at hr, hs]; rfl) ht (v := nI n) rfl hdg kk
theorem wd_ralen (hx : p.tables.exec = Jvm.exec) (hb : c.code = cc) (hK : va_K D cl tys s) (hP : va_P D cl (wd b N sh M) H) (r t0 : Nat) (hr : r < N) {cA : ClassId} {n : Nat} {g : Nat → Option Nat} (hs : sh r = ra cA n g) {ty : FieldType} (ht : tys[t0]? = some (cA, ty)) (hdg : decode cc pc = .ok (.arraylength, 1))
    (kk : W p l e R s m args below meth c H locs cells slots Q (F0 m (pc + 1) ls (.int (nI n) :: rest))) : W p l e R s m args below meth c H locs cells slots Q (F0 m pc ls (.ref (b + r) :: rest)) :=
  va_alen hx hb hK hP r t0 (x := (n, .inr (.inr (.inr (.inr g))))) (by rw [wd_at hr, hs]; rfl) ht (v := nI n) rfl hdg kk
theorem wd_iast (hx : p.tables.exec = Jvm.exec) (hb : c.code = cc) (hK : va_K D cl tys s) (hP : va_P D cl (wd b N sh M) H) (hS : va_S (reg b N s.heap.size) s.heap H locs) (r t0 : Nat) (hr : r < N) {cA : ClassId} {n : Nat} (hs : sh r = ia cA n) (ht : tys[t0]? = some (cA, .int)) {i v : Int32} (hin : ixb i n = true) (hdg : decode cc pc = .ok (.iastore, 1))
    (kk : ∀ (H1 : Heap) (locs1 : List Loc), va_P D cl (wd b N sh (up2 M r i.toNatClampNeg v)) H1 → va_S (reg b N s.heap.size) s.heap H1 locs1 → W p l e R s m args below meth c H1 locs1 cells slots Q (F0 m (pc + 1) ls rest)) : W p l e R s m args below meth c H locs cells slots Q (F0 m pc ls (.int v :: .int i :: .ref (b + r) :: rest)) := by
  refine va_iast hx hb hK hP reg_D hS r t0 (f := M r) (by rw [wd_at hr, hs]; rfl) ht (ixb_in hin) hdg (fun H1 locs1 hP1 _ hS1 => ?_)
  rw [wd_set (M' := up2 M r i.toNatClampNeg v) hr (by rw [hs, up2_at]; rfl) (fun q hq => up2_ne hq)] at hP1
  exact kk H1 locs1 hP1 hS1
theorem wd_zast (hx : p.tables.exec = Jvm.exec) (hb : c.code = cc) (hK : va_K D cl tys s) (hP : va_P D cl (wd b N sh M) H) (hS : va_S (reg b N s.heap.size) s.heap H locs) (r t0 : Nat) (hr : r < N) {cA : ClassId} {n : Nat} (hs : sh r = ia cA n) (ht : tys[t0]? = some (cA, .boolean)) {i v : Int32} (hv : vp_nar .boolean v = v) (hin : ixb i n = true) (hdg : decode cc pc = .ok (.bastore, 1))
    (kk : ∀ (H1 : Heap) (locs1 : List Loc), va_P D cl (wd b N sh (up2 M r i.toNatClampNeg v)) H1 → va_S (reg b N s.heap.size) s.heap H1 locs1 → W p l e R s m args below meth c H1 locs1 cells slots Q (F0 m (pc + 1) ls rest)) : W p l e R s m args below meth c H locs cells slots Q (F0 m pc ls (.int v :: .int i :: .ref (b + r) :: rest)) := by
  refine va_zast hx hb hK hP reg_D hS r t0 (f := M r) (by rw [wd_at hr, hs]; rfl) ht (ixb_in hin) hdg (fun H1 locs1 hP1 _ hS1 => ?_)
  rw [hv, wd_set (M' := up2 M r i.toNatClampNeg v) hr (by rw [hs, up2_at]; rfl) (fun q hq => up2_ne hq)] at hP1
  exact kk H1 locs1 hP1 hS1
theorem wd_iret {rv : Int32} (hx : p.tables.exec = Jvm.exec) (hb : c.code = cc) (hr : meth.sig.returnType = some .int) (hlk : meth.locks = false) (hP : va_P D cl (wd b N sh M) H) (hS : va_S (reg b N s.heap.size) s.heap H locs) (hdg : decode cc pc = .ok (.ireturn, 1)) :
    W p l e R s m args below meth c H locs cells slots (MQ below (Qwi D cl b N sh rv M s.heap.size) args s cells slots (reg b N s.heap.size)) (F0 m pc ls [.int rv]) :=
  W.iret (v := rv) hx hb hr (fun t ht _ => ⟨⟨rv, (), rfl, rfl, show va_P D cl (wd b N sh M) t.heap by rw [ht]; exact hP⟩, hS.F ht⟩) hS.2.2 hdg hlk
theorem wd_zret {rv : Int32} (hx : p.tables.exec = Jvm.exec) (hb : c.code = cc) (hr : meth.sig.returnType = some .boolean) (hn : narrow .boolean (.int rv) = .int rv) (hlk : meth.locks = false) (hP : va_P D cl (wd b N sh M) H) (hS : va_S (reg b N s.heap.size) s.heap H locs) (hdg : decode cc pc = .ok (.ireturn, 1)) :
    W p l e R s m args below meth c H locs cells slots (MQ below (Qwi D cl b N sh rv M s.heap.size) args s cells slots (reg b N s.heap.size)) (F0 m pc ls [.int rv]) :=
  W.zret (v := rv) hx hb hr hn (fun t ht _ => ⟨⟨rv, (), rfl, rfl, show va_P D cl (wd b N sh M) t.heap by rw [ht]; exact hP⟩, hS.F ht⟩) hS.2.2 hdg hlk
theorem wd_vret (hx : p.tables.exec = Jvm.exec) (hb : c.code = cc) (hr : meth.sig.returnType = none) (hlk : meth.locks = false) (hP : va_P D cl (wd b N sh M) H) (hS : va_S (reg b N s.heap.size) s.heap H locs) (hdg : decode cc pc = .ok (.return_, 1)) :
    W p l e R s m args below meth c H locs cells slots (MQ below (Qwv D cl b N sh M s.heap.size) args s cells slots (reg b N s.heap.size)) (F0 m pc ls []) :=
  W.vret hx hb hr (fun t ht _ => ⟨⟨(), rfl, trivial, show va_P D cl (wd b N sh M) t.heap by rw [ht]; exact hP⟩, hS.F ht⟩) hS.2.2 hdg hlk
variable {y : MethodName} {bytes : ByteArray} {maxL nL n index mc ms : Nat} {ret : Option FieldType} {ws : List Cond} {rm : Room} {Ts : List Cond} {own C : String} {As : List Value}
theorem wd_cvi {rv : Int32} (S : CallFix p m c cc nL s args Ts own) (hK : va_K D cl tys s) (hP : va_P D cl (wd b N sh M) H) (hS : va_S (reg b N s.heap.size) s.heap H locs) (r : Nat) (hr : r < N) {ci : Nat} {L : List (Option Nat)} {T : u_T} {Nf : Nat} (hs : sh r = ob ci L) (hc : cl[ci]? = some (C, T, Nf))
    (hM : Met l y ws rm (Pw D cl tys b N sh (.ref (b + r) :: As) M H.size) (Qwi D cl b N sh rv M' H.size) mc ms (reg b N H.size)) (cw : CallW R s args own C index y bytes maxL ret ws rm mc ms n) (hn : As.length = n) (hsize : ls.size = nL) (hst : st0 = As.reverse ++ .ref (b + r) :: rest) (hroom : (rest.map fun v => v.category).sum ≤ 8) (hdg : decode cc pc = .ok (.invokevirtual index, 3)) (hf : cells + mc ≤ R.cells ∧ slots + ms ≤ R.slots)
    (kk : ∀ (H1 : Heap) (locs1 : List Loc), va_P D cl (wd b N sh M') H1 → va_S (reg b N s.heap.size) s.heap H1 locs1 → W p l e R s m args below meth c H1 locs1 (cells + mc) (slots + ms) Q (F0 m (pc + 3) ls (.int rv :: rest))) : W p l e R s m args below meth c H locs cells slots Q (F0 m pc ls st0) := by
  refine va_calli (va_runV (As := As) (rest := rest) (b := b + r) S hM cw ⟨Pw_blind, va_recv hK hP hc (show (wd b N sh M)[r]? = some (b + r, .inr (ci, fl L (M r))) by rw [wd_at hr, hs]; rfl), fun U hU hW => ⟨rfl, by rw [hU], by rw [hU]; exact hP, va_K.moved hW.alike hK⟩⟩ rfl hn hsize hst (lv_room hroom) hdg hf) hS (fun q _ h => reg_mono hS.1 q h) (fun q h => reg_mono hS.1 q h) (fun r1 u t H1 locs1 ht hvm hw hB hz1 hk1 hS1 => ?_)
  have hw : r1 = rv := hw
  have hB : va_P D cl (wd b N sh M') t.heap := hB
  subst hw
  rw [ht] at hB
  exact kk H1 locs1 hB hS1
theorem wd_cvv (S : CallFix p m c cc nL s args Ts own) (hK : va_K D cl tys s) (hP : va_P D cl (wd b N sh M) H) (hS : va_S (reg b N s.heap.size) s.heap H locs) (r : Nat) (hr : r < N) {ci : Nat} {L : List (Option Nat)} {T : u_T} {Nf : Nat} (hs : sh r = ob ci L) (hc : cl[ci]? = some (C, T, Nf))
    (hM : Met l y ws rm (Pw D cl tys b N sh (.ref (b + r) :: As) M H.size) (Qwv D cl b N sh M' H.size) mc ms (reg b N H.size)) (cw : CallW R s args own C index y bytes maxL ret ws rm mc ms n) (hn : As.length = n) (hsize : ls.size = nL) (hst : st0 = As.reverse ++ .ref (b + r) :: rest) (hroom : (rest.map fun v => v.category).sum ≤ 8) (hdg : decode cc pc = .ok (.invokevirtual index, 3)) (hf : cells + mc ≤ R.cells ∧ slots + ms ≤ R.slots)
    (kk : ∀ (H1 : Heap) (locs1 : List Loc), va_P D cl (wd b N sh M') H1 → va_S (reg b N s.heap.size) s.heap H1 locs1 → W p l e R s m args below meth c H1 locs1 (cells + mc) (slots + ms) Q (F0 m (pc + 3) ls rest)) : W p l e R s m args below meth c H locs cells slots Q (F0 m pc ls st0) := by
  refine va_callv (va_runV (As := As) (rest := rest) (b := b + r) S hM cw ⟨Pw_blind, va_recv hK hP hc (show (wd b N sh M)[r]? = some (b + r, .inr (ci, fl L (M r))) by rw [wd_at hr, hs]; rfl), fun U hU hW => ⟨rfl, by rw [hU], by rw [hU]; exact hP, va_K.moved hW.alike hK⟩⟩ rfl hn hsize hst (lv_room hroom) hdg hf) hS (fun q _ h => reg_mono hS.1 q h) (fun q h => reg_mono hS.1 q h) (fun u t H1 locs1 ht hvm hw hB hz1 hk1 hS1 => ?_)
  have hB : va_P D cl (wd b N sh M') t.heap := hB
  rw [ht] at hB
  exact kk H1 locs1 hB hS1
theorem wd_csi {rv : Int32} (S : CallFix p m c cc nL s args Ts own) (hK : va_K D cl tys s) (hP : va_P D cl (wd b N sh M) H) (hS : va_S (reg b N s.heap.size) s.heap H locs)
    (hM : Met l y ws rm (Pw D cl tys b N sh As M H.size) (Qwi D cl b N sh rv M' H.size) mc ms (reg b N H.size)) (cw : CallB R s args own index y bytes maxL ret ws rm mc ms n ∧ (Cond.static y).before args s = true) (hn : As.length = n) (hsize : ls.size = nL) (hst : st0 = As.reverse ++ rest) (hroom : (rest.map fun v => v.category).sum ≤ 8) (hdg : decode cc pc = .ok (.invokestatic index, 3)) (hf : cells + mc ≤ R.cells ∧ slots + ms ≤ R.slots)
    (kk : ∀ (H1 : Heap) (locs1 : List Loc), va_P D cl (wd b N sh M') H1 → va_S (reg b N s.heap.size) s.heap H1 locs1 → W p l e R s m args below meth c H1 locs1 (cells + mc) (slots + ms) Q (F0 m (pc + 3) ls (.int rv :: rest))) : W p l e R s m args below meth c H locs cells slots Q (F0 m pc ls st0) := by
  refine va_calli (va_runS (As := As) (rest := rest) S hM cw ⟨Pw_blind, fun U hU hW => ⟨rfl, by rw [hU], by rw [hU]; exact hP, va_K.moved hW.alike hK⟩⟩ rfl hn hsize hst (lv_room hroom) hdg hf) hS (fun q _ h => reg_mono hS.1 q h) (fun q h => reg_mono hS.1 q h) (fun r1 u t H1 locs1 ht hvm hw hB hz1 hk1 hS1 => ?_)
  have hw : r1 = rv := hw
  have hB : va_P D cl (wd b N sh M') t.heap := hB
  subst hw
  rw [ht] at hB
  exact kk H1 locs1 hB hS1
theorem wd_csv (S : CallFix p m c cc nL s args Ts own) (hK : va_K D cl tys s) (hP : va_P D cl (wd b N sh M) H) (hS : va_S (reg b N s.heap.size) s.heap H locs)
    (hM : Met l y ws rm (Pw D cl tys b N sh As M H.size) (Qwv D cl b N sh M' H.size) mc ms (reg b N H.size)) (cw : CallB R s args own index y bytes maxL ret ws rm mc ms n ∧ (Cond.static y).before args s = true) (hn : As.length = n) (hsize : ls.size = nL) (hst : st0 = As.reverse ++ rest) (hroom : (rest.map fun v => v.category).sum ≤ 8) (hdg : decode cc pc = .ok (.invokestatic index, 3)) (hf : cells + mc ≤ R.cells ∧ slots + ms ≤ R.slots)
    (kk : ∀ (H1 : Heap) (locs1 : List Loc), va_P D cl (wd b N sh M') H1 → va_S (reg b N s.heap.size) s.heap H1 locs1 → W p l e R s m args below meth c H1 locs1 (cells + mc) (slots + ms) Q (F0 m (pc + 3) ls rest)) : W p l e R s m args below meth c H locs cells slots Q (F0 m pc ls st0) := by
  refine va_callv (va_runS (As := As) (rest := rest) S hM cw ⟨Pw_blind, fun U hU hW => ⟨rfl, by rw [hU], by rw [hU]; exact hP, va_K.moved hW.alike hK⟩⟩ rfl hn hsize hst (lv_room hroom) hdg hf) hS (fun q _ h => reg_mono hS.1 q h) (fun q h => reg_mono hS.1 q h) (fun u t H1 locs1 ht hvm hw hB hz1 hk1 hS1 => ?_)
  have hB : va_P D cl (wd b N sh M') t.heap := hB
  rw [ht] at hB
  exact kk H1 locs1 hB hS1
end KW
/-! booleans -/
def bz (v : Int32) : Bool := decide (v = 0 ∨ v = 1)
theorem bz_or {v : Int32} (h : bz v = true) : v = 0 ∨ v = 1 := of_decide_eq_true h
theorem nbz {v : Int32} (h : bz v = true) : narrow .boolean (.int v) = .int v := by
  rcases bz_or h with rfl | rfl <;> rfl
theorem fbz {v : Int32} (h : bz v = true) : fits .boolean (.int v) = true := by
  rcases bz_or h with rfl | rfl <;> rfl
theorem vpz {v : Int32} (h : bz v = true) : vp_nar .boolean v = v := by
  rcases bz_or h with rfl | rfl <;> rfl
/-! METHODS THAT ONLY READ: the heap behind them is the heap before -/
def Qro (rv : Int32) : Array Value → State → Outcome → State → Prop := fun _ st oc t => oc = .returned (some (.int rv)) ∧ t.heap = st.heap
def nofree : Addr → Prop := fun _ => False
section KR
variable {p : Program} {l : Launch} {e : Env} {R : Room} {s : State} {m : MethodId} {args : Array Value} {below : List Frame} {meth : Method} {c : Code} {H : Heap} {locs : List Loc} {cells slots : Nat} {Q : State → Prop}
variable {cc : ByteArray} {pc : Nat} {ls : Array Slot} {rest st0 : List Value} {D : va_G} {cl : List vw_C} {tys : List (ClassId × FieldType)} {b N : Nat} {sh : Shp} {M : Mm}
theorem wd_iret0 {rv : Int32} (hx : p.tables.exec = Jvm.exec) (hb : c.code = cc) (hr : meth.sig.returnType = some .int) (hlk : meth.locks = false) (hdg : decode cc pc = .ok (.ireturn, 1)) :
    W p l e R s m args below meth c s.heap [] cells slots (MQ below (Qro rv) args s cells slots nofree) (F0 m pc ls [.int rv]) :=
  W.iret (v := rv) hx hb hr (fun t ht _ => ⟨rfl, ht⟩) (fun q h => by cases h) hdg hlk
theorem wd_zret0 {rv : Int32} (hx : p.tables.exec = Jvm.exec) (hb : c.code = cc) (hr : meth.sig.returnType = some .boolean) (hn : narrow .boolean (.int rv) = .int rv) (hlk : meth.locks = false) (hdg : decode cc pc = .ok (.ireturn, 1)) :
    W p l e R s m args below meth c s.heap [] cells slots (MQ below (Qro rv) args s cells slots nofree) (F0 m pc ls [.int rv]) :=
  W.zret (v := rv) hx hb hr hn (fun t ht _ => ⟨rfl, ht⟩) (fun q h => by cases h) hdg hlk
variable {y : MethodName} {bytes : ByteArray} {maxL nL n index : Nat} {ret : Option FieldType} {ws : List Cond} {rm : Room} {Ts : List Cond} {own C : String} {As : List Value}
theorem wd_ro {rv : Int32} {a : Array Value} {g : JFrame} (hr : va_Run p l e R s m args below meth c H locs cells slots 0 0 g rest (Qro rv a) nofree)
    (kk : W p l e R s m args below meth c H locs cells slots Q { g with pc := g.pc + 3, stack := .int rv :: rest }) : W p l e R s m args below meth c H locs cells slots Q g := by
  intro T hT X
  obtain ⟨v, st₀, t, T', L, h0, X', hL, e1, e2, ⟨hv, hh⟩, st⟩ := hr T hT X
  cases hv
  have hL0 : L = [] := by
    cases L with
    | nil => rfl
    | cons q L => exact (hL q List.mem_cons_self).elim
  subst hL0
  rw [List.append_nil] at X'
  obtain ⟨t2, a1, b1⟩ := kk T' (by rw [e1, hh, h0]) X'
  exact ⟨t2, st t2 a1, b1⟩
theorem wd_cvr {rv : Int32} (S : CallFix p m c cc nL s args Ts own) (hK : va_K D cl tys s) (hP : va_P D cl (wd b N sh M) H) (r : Nat) (hr : r < N) {ci : Nat} {L : List (Option Nat)} {T : u_T} {Nf : Nat} (hs : sh r = ob ci L) (hc : cl[ci]? = some (C, T, Nf))
    (hM : Met l y ws rm (Pw D cl tys b N sh (.ref (b + r) :: As) M H.size) (Qro rv) 0 0 nofree) (cw : CallW R s args own C index y bytes maxL ret ws rm 0 0 n) (hn : As.length = n) (hsize : ls.size = nL) (hst : st0 = As.reverse ++ .ref (b + r) :: rest) (hroom : (rest.map fun v => v.category).sum ≤ 8) (hdg : decode cc pc = .ok (.invokevirtual index, 3)) (hf : cells ≤ R.cells ∧ slots ≤ R.slots)
    (kk : W p l e R s m args below meth c H locs cells slots Q (F0 m (pc + 3) ls (.int rv :: rest))) : W p l e R s m args below meth c H locs cells slots Q (F0 m pc ls st0) :=
  wd_ro (va_runV (As := As) (rest := rest) (b := b + r) S hM cw ⟨Pw_blind, va_recv hK hP hc (show (wd b N sh M)[r]? = some (b + r, .inr (ci, fl L (M r))) by rw [wd_at hr, hs]; rfl), fun U hU hW => ⟨rfl, by rw [hU], by rw [hU]; exact hP, va_K.moved hW.alike hK⟩⟩ rfl hn hsize hst (lv_room hroom) hdg hf) kk
theorem wd_csr {rv : Int32} (S : CallFix p m c cc nL s args Ts own) (hK : va_K D cl tys s) (hP : va_P D cl (wd b N sh M) H)
    (hM : Met l y ws rm (Pw D cl tys b N sh As M H.size) (Qro rv) 0 0 nofree) (cw : CallB R s args own index y bytes maxL ret ws rm 0 0 n ∧ (Cond.static y).before args s = true) (hn : As.length = n) (hsize : ls.size = nL) (hst : st0 = As.reverse ++ rest) (hroom : (rest.map fun v => v.category).sum ≤ 8) (hdg : decode cc pc = .ok (.invokestatic index, 3)) (hf : cells ≤ R.cells ∧ slots ≤ R.slots)
    (kk : W p l e R s m args below meth c H locs cells slots Q (F0 m (pc + 3) ls (.int rv :: rest))) : W p l e R s m args below meth c H locs cells slots Q (F0 m pc ls st0) :=
  wd_ro (va_runS (As := As) (rest := rest) S hM cw ⟨Pw_blind, fun U hU hW => ⟨rfl, by rw [hU], by rw [hU]; exact hP, va_K.moved hW.alike hK⟩⟩ rfl hn hsize hst (lv_room hroom) hdg hf) kk
end KR
end
section
/-! ONE LIST OF WORDS FOR ALL METHODS: what a callee needs of the tables is in it, but for its own code, which is in it too -/
def tG : List Cond := lw_tbl.filter (fun w => k2_isCode w || goodWord w)
theorem tG_good {w : Cond} (h : w ∈ tG) : (w.onTables && w.keeps) = true ∨ ∃ ty, w = .arrayClass ty := by
  have h1 := (List.mem_filter.mp h).2
  rcases Bool.or_eq_true_iff.mp h1 with hc | hg
  · cases w <;> first | (simp [k2_isCode] at hc; done) | exact Or.inl rfl
  · exact good_of_word hg
theorem tG_of {w : Cond} (h : w ∈ lw_tbl) (hg : (k2_isCode w || goodWord w) = true) : w ∈ tG := List.mem_filter.mpr ⟨h, hg⟩
theorem tG_at {w : Cond} (i : Nat) (h : lw_tbl[i]? = some w) (hg : (k2_isCode w || goodWord w) = true) : w ∈ tG := tG_of (List.mem_of_getElem? h) hg
def wm (y : MethodName) (bytes : ByteArray) (maxL : Nat) (ret : Option FieldType) : List Cond := Cond.code y bytes maxL ret :: tG
theorem wm_good {y : MethodName} {bytes : ByteArray} {maxL : Nat} {ret : Option FieldType} (hc : Cond.code y bytes maxL ret ∈ tG) : GoodIn tG (wm y bytes maxL ret) := by
  intro w hw
  rcases List.mem_cons.mp hw with rfl | h
  · exact ⟨hc, tG_good hc⟩
  · exact ⟨h, tG_good h⟩
theorem wmV {own C : String} {idx : Nat} {y : MethodName} {bytes : ByteArray} {maxL : Nat} {ret : Option FieldType} (h1 : Cond.methodLink own idx y ∈ tG) (h2 : Cond.instanceMethod y ∈ tG) (h3 : Cond.selects C y y ∈ tG) (h4 : Cond.initialized C ∈ tG) (hc : Cond.code y bytes maxL ret ∈ tG) : GoodIn tG (wsV own idx C y (wm y bytes maxL ret)) := by
  intro w hw
  unfold wsV at hw
  rcases List.mem_append.mp hw with h | h
  · simp only [List.mem_cons, List.not_mem_nil, or_false] at h
    rcases h with rfl | rfl | rfl | rfl
    · exact ⟨h1, tG_good h1⟩
    · exact ⟨h2, tG_good h2⟩
    · exact ⟨h3, tG_good h3⟩
    · exact ⟨h4, tG_good h4⟩
  · exact wm_good hc w h
theorem wmS {own : String} {idx : Nat} {y : MethodName} {bytes : ByteArray} {maxL : Nat} {ret : Option FieldType} (h1 : Cond.methodLink own idx y ∈ tG) (h2 : Cond.static y ∈ tG) (h3 : Cond.initialized own ∈ tG) (hc : Cond.code y bytes maxL ret ∈ tG) : GoodIn tG (wsS own idx y (wm y bytes maxL ret)) := by
  intro w hw
  unfold wsS at hw
  rcases List.mem_append.mp hw with h | h
  · simp only [List.mem_cons, List.not_mem_nil, or_false] at h
    rcases h with rfl | rfl | rfl
    · exact ⟨h1, tG_good h1⟩
    · exact ⟨h2, tG_good h2⟩
    · exact ⟨h3, tG_good h3⟩
  · exact wm_good hc w h
/-- what holds inside a method -/
def Cx (p : Program) (s : State) (m : MethodId) (args : Array Value) (meth : Method) (c : Code) (D : va_G) (cl : List vw_C) (tys : List (ClassId × FieldType)) (own : String) (cc : ByteArray) (nL : Nat) (ret : Option FieldType) : Prop :=
  p.tables.exec = Jvm.exec ∧ c.code = cc ∧ c.maxLocals = nL ∧ meth.sig.returnType = ret ∧ s.vm.findClass own = some m.cls ∧ (∀ w ∈ tG, w.before args s = true) ∧ meth.locks = false ∧ va_K D cl tys s
theorem mk_met {l : Launch} {y : MethodName} {cc : ByteArray} {nL : Nat} {ret : Option FieldType} {rm : Room} {D : va_G} {cl : List vw_C} {tys : List (ClassId × FieldType)} {b N : Nat} {sh : Shp} {av : List Value} {M : Mm} {sz mc ms : Nat} {Qc : Array Value → State → Outcome → State → Prop} {free : Addr → Prop} (hy : plainName y.cls = true) (hav : (lg_sl av).length ≤ nL)
    (hblk : ∀ (p : Program) (e : Env) (s : State) (m : MethodId) (below : List Frame) (meth : Method) (c : Code) (ls : Array Slot), Cx p s m av.toArray meth c D cl tys y.cls cc nL ret → s.heap.size = sz → va_P D cl (wd b N sh M) s.heap → va_S (reg b N s.heap.size) s.heap s.heap [] → lv_has ls nL (lv_args 0 av) → W p l e rm s m av.toArray below meth c s.heap [] 0 0 (MQ below Qc av.toArray s mc ms free) (F0 m 0 ls [])) :
    Met l y (wm y cc nL ret) rm (Pw D cl tys b N sh av M sz) Qc mc ms free := by
  refine Met.ofW (cc := cc) (maxL := nL) (ret := ret) hy rfl ?_
  intro p e s m args below meth c s₁ B hml hv
  obtain ⟨rfl, hsz, hP, hK⟩ := hv
  have hts := atoms_spec (ws := wm y cc nL ret) B.pre
  rw [lg_entry_eq]
  exact hblk p e s m below meth c _ ⟨B.exec, B.bytes, hml, B.returns, findClass_of_methodNamed B.named, fun w h => hts w (List.mem_cons_of_mem _ h), B.notSynchronized, hK⟩ hsz hP va_S.rf (lv_entry av hav)
end
section
/-! CONTRACTS THAT MAY END BY A THROW -/
def FrameEndT (first : State) (t : State) (L : List Loc) (k n : Nat) : Prop := first.WarmedH t.vm ∧ first.sameButNew ({ t with vm := first.vm } : State) L k n
def MetT (l : Launch) (y : MethodName) (ws : List Cond) (rm : Room) (Pc : Array Value → State → Prop) (Qc : Array Value → State → Outcome → State → Prop) (mc ms : Nat) (free : Addr → Prop) : Prop :=
  MetFree l y (headSpec ws rm) Pc (fun _ _ _ _ _ => True) (fun a st o t => Qc a st o t ∧ ∃ L, FrameEndT st t L mc ms ∧ ∀ q ∈ L, free q.base)
def MQT (below : List Frame) (Qc : Array Value → State → Outcome → State → Prop) (a : Array Value) (s : State) (mc ms : Nat) (free : Addr → Prop) : State → Prop := fun t =>
  ∃ o, t.status = .running ∧ Ended t below o ∧ Qc a s o t ∧ ∃ L, FrameEndT s t L mc ms ∧ ∀ q ∈ L, free q.base
/-- the names of what is thrown, by number from 1 on; 0: it returned -/
def xn (k : Nat) : String := match k with
  | 1 => "java/lang/IndexOutOfBoundsException"
  | 2 => "java/lang/IllegalArgumentException"
  | 3 => "java/lang/IllegalStateException"
  | _ => "java/lang/UnsupportedOperationException"
def Qwt (D : va_G) (cl : List vw_C) (b N : Nat) (sh : Shp) (k : Nat) (v : Int32) (M' : Mm) (sz : Nat) : Array Value → State → Outcome → State → Prop := fun _ st oc t =>
  ((k = 0 ∧ oc = .returned (some (.int v))) ∨ (k ≠ 0 ∧ ∃ (a : Nat) (ce : Cell), oc = .threw a ∧ t.heap[a]? = some ce ∧ ce.vm = .none ∧ st.vm.findClass (xn k) = some ce.cls)) ∧ va_P D cl (wd b N sh M') t.heap ∧ va_F (reg b N sz) st t
theorem oe3 {α β γ : Type} {a c : α} {b d : β} {x y : γ} (h : some (a, b, x) = some (c, d, y)) : a = c ∧ b = d ∧ x = y := by
  have h1 := Option.some.inj h
  exact ⟨congrArg (fun q => q.1) h1, congrArg (fun q => q.2.1) h1, congrArg (fun q => q.2.2) h1⟩
/-- what holds inside a method that throws: no handlers of its own, no stack traces -/
def Cxt (p : Program) (l : Launch) (s : State) (m : MethodId) (args : Array Value) (meth : Method) (c : Code) (D : va_G) (cl : List vw_C) (tys : List (ClassId × FieldType)) (own : String) (cc : ByteArray) (nL : Nat) (ret : Option FieldType) : Prop :=
  Cx p s m args meth c D cl tys own cc nL ret ∧ c.exceptionTable.isEmpty = true ∧ l.stackTraces = false
theorem mk_metT {l : Launch} {y : MethodName} {cc : ByteArray} {nL : Nat} {ret : Option FieldType} {rm : Room} {D : va_G} {cl : List vw_C} {tys : List (ClassId × FieldType)} {b N : Nat} {sh : Shp} {av : List Value} {M : Mm} {sz mc ms : Nat} {Qc : Array Value → State → Outcome → State → Prop} {free : Addr → Prop} (hy : plainName y.cls = true) (hav : (lg_sl av).length ≤ nL) (hst : l.stackTraces = false)
    (hblk : ∀ (p : Program) (e : Env) (s : State) (m : MethodId) (below : List Frame) (meth : Method) (c : Code) (ls : Array Slot), Cxt p l s m av.toArray meth c D cl tys y.cls cc nL ret → s.heap.size = sz → va_P D cl (wd b N sh M) s.heap → va_S (reg b N s.heap.size) s.heap s.heap [] → lv_has ls nL (lv_args 0 av) → W p l e rm s m av.toArray below meth c s.heap [] 0 0 (MQT below Qc av.toArray s mc ms free) (F0 m 0 ls [])) :
    MetT l y (wm y cc nL ret) rm (Pw D cl tys b N sh av M sz) Qc mc ms free := by
  refine MetFree.of_bodyS (code := cc) (maxLocals := nL) (ret := ret) hy ?_ ?_
  · intro args s m h hn
    obtain ⟨meth, c, h1, h2, h3, h4, h5, h6, -, -⟩ := Cond.code_spec hn (atoms_spec (ws := wm y cc nL ret) h _ List.mem_cons_self)
    exact ⟨meth, c, h1, h2, h3, h4, h5, h6⟩
  · intro p e s m args below meth c s₁ B hml hv _
    obtain ⟨rfl, hsz, hP, hK⟩ := hv
    have hts := atoms_spec (ws := wm y cc nL ret) B.pre
    have hh0 : s₁.heap = s.heap := by rw [B.state]; rfl
    have key := hblk p e s m below meth c _ ⟨⟨B.exec, B.bytes, hml, B.returns, findClass_of_methodNamed B.named, fun w h => hts w (List.mem_cons_of_mem _ h), B.notSynchronized, hK⟩, B.noHandlers (hts _ List.mem_cons_self), hst⟩ hsz hP va_S.rf (lv_entry av hav)
    rw [← lg_entry_eq] at key
    obtain ⟨t, a1, o, b1, b2, b3⟩ := key s₁ hh0 (Stand.of_body B)
    exact ⟨t, o, a1, b1, b2, b3⟩
section TW
variable {p : Program} {l : Launch} {e : Env} {R : Room} {s : State} {m : MethodId} {args : Array Value} {below : List Frame} {meth : Method} {c : Code} {H : Heap} {locs : List Loc} {cells slots mc ms : Nat} {Q : State → Prop}
variable {cc : ByteArray} {pc : Nat} {ls : Array Slot} {rest st0 : List Value} {D : va_G} {cl : List vw_C} {tys : List (ClassId × FieldType)} {b N : Nat} {sh : Shp} {M M' : Mm}
theorem W_mono {Q Q' : State → Prop} {g : JFrame} (h : ∀ t, Q t → Q' t) (k : W p l e R s m args below meth c H locs cells slots Q g) : W p l e R s m args below meth c H locs cells slots Q' g := fun T hT X => by
  obtain ⟨t, a, b⟩ := k T hT X
  exact ⟨t, a, h t b⟩
theorem wd_iretT {rv : Int32} (hx : p.tables.exec = Jvm.exec) (hb : c.code = cc) (hr : meth.sig.returnType = some .int) (hlk : meth.locks = false) (hP : va_P D cl (wd b N sh M) H) (hS : va_S (reg b N s.heap.size) s.heap H locs) (h1 : cells ≤ mc) (h2 : slots ≤ ms) (hdg : decode cc pc = .ok (.ireturn, 1)) :
    W p l e R s m args below meth c H locs cells slots (MQT below (Qwt D cl b N sh 0 rv M s.heap.size) args s mc ms (reg b N s.heap.size)) (F0 m pc ls [.int rv]) := by
  refine W.widen (k := mc) (n := ms) h1 h2 ?_
  refine W_mono ?_ (W.iret (Qc := Qwt D cl b N sh 0 rv M s.heap.size) (free := reg b N s.heap.size) (v := rv) hx hb hr (fun t ht _ => ⟨Or.inl ⟨rfl, rfl⟩, by rw [ht]; exact hP, hS.F ht⟩) hS.2.2 hdg hlk)
  intro t ht
  obtain ⟨o, q1, q2, q3, L, q4, q5⟩ := ht
  exact ⟨o, q1, q2, q3, L, ⟨q4.2.1, q4.2.2⟩, q5⟩
/-- nothing old is written: old cells are as they were -/
theorem same_heap {u : State} {k n : Nat} (h : s.sameButNew u [] k n) : ∀ q : Nat, q < s.heap.size → u.heap[q]? = s.heap[q]? := by
  intro q hq
  obtain ⟨c0, hc0⟩ : ∃ c0, s.heap[q]? = some c0 := ⟨_, Array.getElem?_eq_getElem hq⟩
  obtain ⟨c', h1, h2, h3, h4⟩ := h.2.2.2.2.2 q c0 hc0
  rw [h1, hc0, h2]
  have : c'.slots = c0.slots := by
    apply Array.ext_getElem?
    intro i
    exact h4 i (by simp)
  rw [this]
/-- THROW NEW X("..") in a method that has written nothing -/
theorem wd_throw (k : Nat) (hk : k ≠ 0) {v : Int32} {own tx : String} {i1 i2 i3 qs : Nat} {names : List String} {cC : ClassId} (hx : p.tables.exec = Jvm.exec) (hb : c.code = cc) (hlk : meth.locks = false) (hml : c.maxLocals = ls.size) (hno : c.exceptionTable.isEmpty = true) (hst : l.stackTraces = false) (hown : s.vm.findClass own = some m.cls)
    (hcl : (Cond.classLink own i1 (xn k)).before args s = true) (hins : (Cond.instantiable (xn k) 6).before args s = true) (hini : (Cond.initialized (xn k)).before args s = true) (hfc : s.vm.findClass (xn k) = some cC) (hstr : vk_R own i2 tx qs s)
    (hfit : Bundle.fit (xn k) = true) (hnames : ∀ n ∈ names, Bundle.fit n = true) (hat : ∀ a ∈ Bundle.ownAtoms own i3 (xn k) names, a.before args s = true)
    (hP : va_P D cl (wd b N sh M) s.heap) (hR1 : 1 ≤ R.cells) (hR2 : 6 ≤ R.slots) (hR3 : names.length + 3 < R.frames) (hR4 : 13 * (names.length + 1) + 44 ≤ R.locals)
    (d0 : decode cc pc = .ok (.new i1, 3)) (d3 : decode cc (pc + 3) = .ok (.dup, 1)) (d4 : decode cc (pc + 4) = .ok (.ldc i2, 2)) (d6 : decode cc (pc + 6) = .ok (.invokespecial i3, 3)) (d9 : decode cc (pc + 9) = .ok (.athrow, 1)) :
    W p l e R s m args below meth c s.heap [] 0 0 (MQT below (Qwt D cl b N sh k v M s.heap.size) args s 1 6 (reg b N s.heap.size)) (F0 m pc ls []) := by
  refine W.newcK hx hb hown hcl hins hini rfl d0 (by omega) (by omega) hfc rfl (fun H1 kC hkC e1 z1 o1 => ?_)
  refine lv_dup hx hb d3 rfl ?_
  refine va_ldcS hx hb hown hstr d4 ?_
  intro T hT X
  obtain ⟨U, st, hrun, hend, hW, hsame, ce, hce, hO⟩ := X.ctorThrowS hx (by rw [X.admits.platform]; exact hst) (own := own) (cls := xn k) (names := names) (ic := i3) hown hfit hnames hat (fun x h => by cases h) hfc hkC (by rw [hT]; exact e1) (Nat.le_refl _) (msg := .ref qs) rfl (g := F0 m (pc + 6) ls [.ref qs, .ref s.heap.size, .ref s.heap.size]) rfl (by rw [hml]) rfl rfl rfl (by rw [hb]; exact d6) (by rw [hb]; exact d9) (fun x h => by
    have h0 : c.exceptionTable = #[] := by simpa using hno
    rw [h0] at h
    cases h) hR3 (by show 2 * 0 + _ + _ ≤ _; simp [Value.category]; omega) hlk
  have hsh := same_heap hsame
  refine ⟨U, st, .threw s.heap.size, hrun, hend, ⟨Or.inr ⟨hk, s.heap.size, ce, rfl, hce, hO.vm, hO.cls⟩, ?_, ?_, ?_⟩, [], ⟨hW, hsame⟩, fun q h => by cases h⟩
  · exact hP.kept fun j q hq => hsh q.1 ((hP j q hq).lt)
  · exact hsame.2.1
  · exact fun q h1 _ => hsh q h1
end TW
end
