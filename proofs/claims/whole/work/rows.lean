section
-- ===== PART A: goes FIRST, ahead of the names: the tables' words, and 'selects' of the private methods out of them =====
/-- a private method of a class that the tables say can be made, by its rows of tables_1 -/
def lw_okq (q : MethodName × Nat) : Prop := (q.1.cls ≠ "java/lang/invoke/MethodHandle" ∧ q.1.cls ≠ "java/lang/invoke/VarHandle") ∧ Cond.instantiable q.1.cls q.2 ∈ tables_1 ∧ Cond.privateMethod q.1 ∈ tables_1 ∧ Cond.instanceMethod q.1 ∈ tables_1
theorem lw_p0 : lw_okq (⟨"java/lang/Throwable", "fillInStackTrace", "(I)Ljava/lang/Throwable;"⟩, 6) := ⟨⟨by decide +kernel, by decide +kernel⟩, List.mem_of_getElem? (i := 246) (by decide +kernel), List.mem_of_getElem? (i := 244) (by decide +kernel), List.mem_of_getElem? (i := 245) (by decide +kernel)⟩
theorem lw_p1 : lw_okq (⟨"ChipForge$Netlist", "addPin", "(III)V"⟩, 13) := ⟨⟨by decide +kernel, by decide +kernel⟩, List.mem_of_getElem? (i := 27) (by decide +kernel), List.mem_of_getElem? (i := 311) (by decide +kernel), List.mem_of_getElem? (i := 312) (by decide +kernel)⟩
theorem lw_p2 : lw_okq (⟨"ChipForge$Channel", "fillTrack", "(I)I"⟩, 3) := ⟨⟨by decide +kernel, by decide +kernel⟩, List.mem_of_getElem? (i := 93) (by decide +kernel), List.mem_of_getElem? (i := 352) (by decide +kernel), List.mem_of_getElem? (i := 353) (by decide +kernel)⟩
theorem lw_p3 : lw_okq (⟨"ChipForge$Channel", "isFreeFromAbove", "(II)Z"⟩, 3) := ⟨⟨by decide +kernel, by decide +kernel⟩, List.mem_of_getElem? (i := 93) (by decide +kernel), List.mem_of_getElem? (i := 360) (by decide +kernel), List.mem_of_getElem? (i := 361) (by decide +kernel)⟩
theorem lw_p4 : lw_okq (⟨"ChipForge$Drawing", "drawBars", "(I)V"⟩, 7) := ⟨⟨by decide +kernel, by decide +kernel⟩, List.mem_of_getElem? (i := 113) (by decide +kernel), List.mem_of_getElem? (i := 396) (by decide +kernel), List.mem_of_getElem? (i := 397) (by decide +kernel)⟩
theorem lw_p5 : lw_okq (⟨"ChipForge$Drawing", "drawPin", "(II)V"⟩, 7) := ⟨⟨by decide +kernel, by decide +kernel⟩, List.mem_of_getElem? (i := 113) (by decide +kernel), List.mem_of_getElem? (i := 402) (by decide +kernel), List.mem_of_getElem? (i := 403) (by decide +kernel)⟩
theorem lw_p6 : lw_okq (⟨"ChipForge", "needPin", "(II)V"⟩, 5) := ⟨⟨by decide +kernel, by decide +kernel⟩, List.mem_of_getElem? (i := 19) (by decide +kernel), List.mem_of_getElem? (i := 414) (by decide +kernel), List.mem_of_getElem? (i := 415) (by decide +kernel)⟩
theorem lw_p7 : lw_okq (⟨"ChipForge", "needNet", "(I)V"⟩, 5) := ⟨⟨by decide +kernel, by decide +kernel⟩, List.mem_of_getElem? (i := 19) (by decide +kernel), List.mem_of_getElem? (i := 450) (by decide +kernel), List.mem_of_getElem? (i := 451) (by decide +kernel)⟩
theorem lw_p8 : lw_okq (⟨"ChipForge", "needPoint", "(II)V"⟩, 5) := ⟨⟨by decide +kernel, by decide +kernel⟩, List.mem_of_getElem? (i := 19) (by decide +kernel), List.mem_of_getElem? (i := 471) (by decide +kernel), List.mem_of_getElem? (i := 472) (by decide +kernel)⟩
theorem lw_p9 : lw_okq (⟨"ChipForge", "needRouted", "()V"⟩, 5) := ⟨⟨by decide +kernel, by decide +kernel⟩, List.mem_of_getElem? (i := 19) (by decide +kernel), List.mem_of_getElem? (i := 475) (by decide +kernel), List.mem_of_getElem? (i := 476) (by decide +kernel)⟩
theorem lw_p10 : lw_okq (⟨"ChipForge$Drawing", "joinAt", "(II)V"⟩, 7) := ⟨⟨by decide +kernel, by decide +kernel⟩, List.mem_of_getElem? (i := 113) (by decide +kernel), List.mem_of_getElem? (i := 505) (by decide +kernel), List.mem_of_getElem? (i := 506) (by decide +kernel)⟩
theorem lw_p11 : lw_okq (⟨"ChipForge$Drawing", "join", "(II)V"⟩, 7) := ⟨⟨by decide +kernel, by decide +kernel⟩, List.mem_of_getElem? (i := 113) (by decide +kernel), List.mem_of_getElem? (i := 512) (by decide +kernel), List.mem_of_getElem? (i := 513) (by decide +kernel)⟩
theorem lw_p12 : lw_okq (⟨"ChipForge$Drawing", "group", "(I)I"⟩, 7) := ⟨⟨by decide +kernel, by decide +kernel⟩, List.mem_of_getElem? (i := 113) (by decide +kernel), List.mem_of_getElem? (i := 516) (by decide +kernel), List.mem_of_getElem? (i := 517) (by decide +kernel)⟩
theorem lw_p13 : lw_okq (⟨"ChipForge$Drawing", "groupOfRow", "(II)I"⟩, 7) := ⟨⟨by decide +kernel, by decide +kernel⟩, List.mem_of_getElem? (i := 113) (by decide +kernel), List.mem_of_getElem? (i := 527) (by decide +kernel), List.mem_of_getElem? (i := 528) (by decide +kernel)⟩
theorem lw_p14 : lw_okq (⟨"ChipForge$Drawing", "addPinEnd", "(II)V"⟩, 7) := ⟨⟨by decide +kernel, by decide +kernel⟩, List.mem_of_getElem? (i := 113) (by decide +kernel), List.mem_of_getElem? (i := 542) (by decide +kernel), List.mem_of_getElem? (i := 543) (by decide +kernel)⟩
theorem lw_p15 : lw_okq (⟨"ChipForge$Drawing", "addEnd", "(II)V"⟩, 7) := ⟨⟨by decide +kernel, by decide +kernel⟩, List.mem_of_getElem? (i := 113) (by decide +kernel), List.mem_of_getElem? (i := 547) (by decide +kernel), List.mem_of_getElem? (i := 548) (by decide +kernel)⟩
def lw_privs_1 : List (MethodName × Nat) := [(⟨"java/lang/Throwable", "fillInStackTrace", "(I)Ljava/lang/Throwable;"⟩, 6), (⟨"ChipForge$Netlist", "addPin", "(III)V"⟩, 13), (⟨"ChipForge$Channel", "fillTrack", "(I)I"⟩, 3), (⟨"ChipForge$Channel", "isFreeFromAbove", "(II)Z"⟩, 3), (⟨"ChipForge$Drawing", "drawBars", "(I)V"⟩, 7), (⟨"ChipForge$Drawing", "drawPin", "(II)V"⟩, 7), (⟨"ChipForge", "needPin", "(II)V"⟩, 5), (⟨"ChipForge", "needNet", "(I)V"⟩, 5), (⟨"ChipForge", "needPoint", "(II)V"⟩, 5), (⟨"ChipForge", "needRouted", "()V"⟩, 5), (⟨"ChipForge$Drawing", "joinAt", "(II)V"⟩, 7), (⟨"ChipForge$Drawing", "join", "(II)V"⟩, 7), (⟨"ChipForge$Drawing", "group", "(I)I"⟩, 7), (⟨"ChipForge$Drawing", "groupOfRow", "(II)I"⟩, 7), (⟨"ChipForge$Drawing", "addPinEnd", "(II)V"⟩, 7), (⟨"ChipForge$Drawing", "addEnd", "(II)V"⟩, 7)]
theorem lw_r1 : ∀ q ∈ lw_privs_1, lw_okq q := List.forall_mem_cons.mpr ⟨lw_p0, List.forall_mem_cons.mpr ⟨lw_p1, List.forall_mem_cons.mpr ⟨lw_p2, List.forall_mem_cons.mpr ⟨lw_p3, List.forall_mem_cons.mpr ⟨lw_p4, List.forall_mem_cons.mpr ⟨lw_p5, List.forall_mem_cons.mpr ⟨lw_p6, List.forall_mem_cons.mpr ⟨lw_p7, List.forall_mem_cons.mpr ⟨lw_p8, List.forall_mem_cons.mpr ⟨lw_p9, List.forall_mem_cons.mpr ⟨lw_p10, List.forall_mem_cons.mpr ⟨lw_p11, List.forall_mem_cons.mpr ⟨lw_p12, List.forall_mem_cons.mpr ⟨lw_p13, List.forall_mem_cons.mpr ⟨lw_p14, List.forall_mem_cons.mpr ⟨lw_p15, fun _ h => absurd h List.not_mem_nil⟩⟩⟩⟩⟩⟩⟩⟩⟩⟩⟩⟩⟩⟩⟩⟩
theorem lw_p16 : lw_okq (⟨"ChipForge$Drawing", "netsJoinedWith", "(I)I"⟩, 7) := ⟨⟨by decide +kernel, by decide +kernel⟩, List.mem_of_getElem? (i := 113) (by decide +kernel), List.mem_of_getElem? (i := 556) (by decide +kernel), List.mem_of_getElem? (i := 557) (by decide +kernel)⟩
theorem lw_p17 : lw_okq (⟨"ChipForge$Drawing", "netsInGroup", "(I)I"⟩, 7) := ⟨⟨by decide +kernel, by decide +kernel⟩, List.mem_of_getElem? (i := 113) (by decide +kernel), List.mem_of_getElem? (i := 560) (by decide +kernel), List.mem_of_getElem? (i := 561) (by decide +kernel)⟩
theorem lw_p18 : lw_okq (⟨"ChipForge$Signals", "isReady", "(I)Z"⟩, 7) := ⟨⟨by decide +kernel, by decide +kernel⟩, List.mem_of_getElem? (i := 143) (by decide +kernel), List.mem_of_getElem? (i := 611) (by decide +kernel), List.mem_of_getElem? (i := 612) (by decide +kernel)⟩
theorem lw_p19 : lw_okq (⟨"ChipForge$Signals", "arrivalBehind", "(I)D"⟩, 7) := ⟨⟨by decide +kernel, by decide +kernel⟩, List.mem_of_getElem? (i := 143) (by decide +kernel), List.mem_of_getElem? (i := 643) (by decide +kernel), List.mem_of_getElem? (i := 644) (by decide +kernel)⟩
theorem lw_p20 : lw_okq (⟨"ChipForgeModel", "refuse", "(I)I"⟩, 16) := ⟨⟨by decide +kernel, by decide +kernel⟩, List.mem_of_getElem? (i := 680) (by decide +kernel), List.mem_of_getElem? (i := 747) (by decide +kernel), List.mem_of_getElem? (i := 748) (by decide +kernel)⟩
theorem lw_p21 : lw_okq (⟨"ChipForgeModel", "driver", "(I)I"⟩, 16) := ⟨⟨by decide +kernel, by decide +kernel⟩, List.mem_of_getElem? (i := 680) (by decide +kernel), List.mem_of_getElem? (i := 751) (by decide +kernel), List.mem_of_getElem? (i := 752) (by decide +kernel)⟩
theorem lw_p22 : lw_okq (⟨"ChipForgeModel", "waiting", "()I"⟩, 16) := ⟨⟨by decide +kernel, by decide +kernel⟩, List.mem_of_getElem? (i := 680) (by decide +kernel), List.mem_of_getElem? (i := 763) (by decide +kernel), List.mem_of_getElem? (i := 764) (by decide +kernel)⟩
theorem lw_p23 : lw_okq (⟨"ChipForgeModel", "isWired", "(I)Z"⟩, 16) := ⟨⟨by decide +kernel, by decide +kernel⟩, List.mem_of_getElem? (i := 680) (by decide +kernel), List.mem_of_getElem? (i := 767) (by decide +kernel), List.mem_of_getElem? (i := 768) (by decide +kernel)⟩
theorem lw_p24 : lw_okq (⟨"ChipForgeModel", "pins", "(I)I"⟩, 16) := ⟨⟨by decide +kernel, by decide +kernel⟩, List.mem_of_getElem? (i := 680) (by decide +kernel), List.mem_of_getElem? (i := 771) (by decide +kernel), List.mem_of_getElem? (i := 772) (by decide +kernel)⟩
theorem lw_p25 : lw_okq (⟨"ChipForgeModel", "pinsOf", "(I)I"⟩, 16) := ⟨⟨by decide +kernel, by decide +kernel⟩, List.mem_of_getElem? (i := 680) (by decide +kernel), List.mem_of_getElem? (i := 775) (by decide +kernel), List.mem_of_getElem? (i := 776) (by decide +kernel)⟩
theorem lw_p26 : lw_okq (⟨"ChipForgeModel", "netOf", "(II)I"⟩, 16) := ⟨⟨by decide +kernel, by decide +kernel⟩, List.mem_of_getElem? (i := 680) (by decide +kernel), List.mem_of_getElem? (i := 779) (by decide +kernel), List.mem_of_getElem? (i := 780) (by decide +kernel)⟩
theorem lw_p27 : lw_okq (⟨"ChipForgeModel", "hasPad", "(I)Z"⟩, 16) := ⟨⟨by decide +kernel, by decide +kernel⟩, List.mem_of_getElem? (i := 680) (by decide +kernel), List.mem_of_getElem? (i := 783) (by decide +kernel), List.mem_of_getElem? (i := 784) (by decide +kernel)⟩
theorem lw_p28 : lw_okq (⟨"ChipForgeModel", "give", "(I)I"⟩, 16) := ⟨⟨by decide +kernel, by decide +kernel⟩, List.mem_of_getElem? (i := 680) (by decide +kernel), List.mem_of_getElem? (i := 787) (by decide +kernel), List.mem_of_getElem? (i := 788) (by decide +kernel)⟩
theorem lw_p29 : lw_okq (⟨"ChipForgeModel", "left", "(I)I"⟩, 16) := ⟨⟨by decide +kernel, by decide +kernel⟩, List.mem_of_getElem? (i := 680) (by decide +kernel), List.mem_of_getElem? (i := 791) (by decide +kernel), List.mem_of_getElem? (i := 792) (by decide +kernel)⟩
theorem lw_p30 : lw_okq (⟨"ChipForgeModel", "isFree", "(II)Z"⟩, 16) := ⟨⟨by decide +kernel, by decide +kernel⟩, List.mem_of_getElem? (i := 680) (by decide +kernel), List.mem_of_getElem? (i := 795) (by decide +kernel), List.mem_of_getElem? (i := 796) (by decide +kernel)⟩
theorem lw_p31 : lw_okq (⟨"ChipForgeModel", "at", "(II)I"⟩, 16) := ⟨⟨by decide +kernel, by decide +kernel⟩, List.mem_of_getElem? (i := 680) (by decide +kernel), List.mem_of_getElem? (i := 799) (by decide +kernel), List.mem_of_getElem? (i := 800) (by decide +kernel)⟩
def lw_privs_2 : List (MethodName × Nat) := [(⟨"ChipForge$Drawing", "netsJoinedWith", "(I)I"⟩, 7), (⟨"ChipForge$Drawing", "netsInGroup", "(I)I"⟩, 7), (⟨"ChipForge$Signals", "isReady", "(I)Z"⟩, 7), (⟨"ChipForge$Signals", "arrivalBehind", "(I)D"⟩, 7), (⟨"ChipForgeModel", "refuse", "(I)I"⟩, 16), (⟨"ChipForgeModel", "driver", "(I)I"⟩, 16), (⟨"ChipForgeModel", "waiting", "()I"⟩, 16), (⟨"ChipForgeModel", "isWired", "(I)Z"⟩, 16), (⟨"ChipForgeModel", "pins", "(I)I"⟩, 16), (⟨"ChipForgeModel", "pinsOf", "(I)I"⟩, 16), (⟨"ChipForgeModel", "netOf", "(II)I"⟩, 16), (⟨"ChipForgeModel", "hasPad", "(I)Z"⟩, 16), (⟨"ChipForgeModel", "give", "(I)I"⟩, 16), (⟨"ChipForgeModel", "left", "(I)I"⟩, 16), (⟨"ChipForgeModel", "isFree", "(II)Z"⟩, 16), (⟨"ChipForgeModel", "at", "(II)I"⟩, 16)]
theorem lw_r2 : ∀ q ∈ lw_privs_2, lw_okq q := List.forall_mem_cons.mpr ⟨lw_p16, List.forall_mem_cons.mpr ⟨lw_p17, List.forall_mem_cons.mpr ⟨lw_p18, List.forall_mem_cons.mpr ⟨lw_p19, List.forall_mem_cons.mpr ⟨lw_p20, List.forall_mem_cons.mpr ⟨lw_p21, List.forall_mem_cons.mpr ⟨lw_p22, List.forall_mem_cons.mpr ⟨lw_p23, List.forall_mem_cons.mpr ⟨lw_p24, List.forall_mem_cons.mpr ⟨lw_p25, List.forall_mem_cons.mpr ⟨lw_p26, List.forall_mem_cons.mpr ⟨lw_p27, List.forall_mem_cons.mpr ⟨lw_p28, List.forall_mem_cons.mpr ⟨lw_p29, List.forall_mem_cons.mpr ⟨lw_p30, List.forall_mem_cons.mpr ⟨lw_p31, fun _ h => absurd h List.not_mem_nil⟩⟩⟩⟩⟩⟩⟩⟩⟩⟩⟩⟩⟩⟩⟩⟩
theorem lw_p32 : lw_okq (⟨"ChipForgeModel", "right", "(I)I"⟩, 16) := ⟨⟨by decide +kernel, by decide +kernel⟩, List.mem_of_getElem? (i := 680) (by decide +kernel), List.mem_of_getElem? (i := 803) (by decide +kernel), List.mem_of_getElem? (i := 804) (by decide +kernel)⟩
theorem lw_p33 : lw_okq (⟨"ChipForgeModel", "draw", "()V"⟩, 16) := ⟨⟨by decide +kernel, by decide +kernel⟩, List.mem_of_getElem? (i := 680) (by decide +kernel), List.mem_of_getElem? (i := 807) (by decide +kernel), List.mem_of_getElem? (i := 808) (by decide +kernel)⟩
theorem lw_p34 : lw_okq (⟨"ChipForgeModel", "mark", "(III)V"⟩, 16) := ⟨⟨by decide +kernel, by decide +kernel⟩, List.mem_of_getElem? (i := 680) (by decide +kernel), List.mem_of_getElem? (i := 811) (by decide +kernel), List.mem_of_getElem? (i := 812) (by decide +kernel)⟩
theorem lw_p35 : lw_okq (⟨"ChipForgeModel", "isPin", "(II)Z"⟩, 16) := ⟨⟨by decide +kernel, by decide +kernel⟩, List.mem_of_getElem? (i := 680) (by decide +kernel), List.mem_of_getElem? (i := 819) (by decide +kernel), List.mem_of_getElem? (i := 820) (by decide +kernel)⟩
theorem lw_p36 : lw_okq (⟨"ChipForgeModel", "lengthOf", "(I)I"⟩, 16) := ⟨⟨by decide +kernel, by decide +kernel⟩, List.mem_of_getElem? (i := 680) (by decide +kernel), List.mem_of_getElem? (i := 827) (by decide +kernel), List.mem_of_getElem? (i := 828) (by decide +kernel)⟩
theorem lw_p37 : lw_okq (⟨"ChipForgeModel", "isPoint", "(II)Z"⟩, 16) := ⟨⟨by decide +kernel, by decide +kernel⟩, List.mem_of_getElem? (i := 680) (by decide +kernel), List.mem_of_getElem? (i := 835) (by decide +kernel), List.mem_of_getElem? (i := 836) (by decide +kernel)⟩
theorem lw_p38 : lw_okq (⟨"ChipForgeModel", "find", "()V"⟩, 16) := ⟨⟨by decide +kernel, by decide +kernel⟩, List.mem_of_getElem? (i := 680) (by decide +kernel), List.mem_of_getElem? (i := 847) (by decide +kernel), List.mem_of_getElem? (i := 848) (by decide +kernel)⟩
theorem lw_p39 : lw_okq (⟨"ChipForgeModel", "joinAt", "(II)Z"⟩, 16) := ⟨⟨by decide +kernel, by decide +kernel⟩, List.mem_of_getElem? (i := 680) (by decide +kernel), List.mem_of_getElem? (i := 851) (by decide +kernel), List.mem_of_getElem? (i := 852) (by decide +kernel)⟩
theorem lw_p40 : lw_okq (⟨"ChipForgeModel", "join", "(II)Z"⟩, 16) := ⟨⟨by decide +kernel, by decide +kernel⟩, List.mem_of_getElem? (i := 680) (by decide +kernel), List.mem_of_getElem? (i := 855) (by decide +kernel), List.mem_of_getElem? (i := 856) (by decide +kernel)⟩
theorem lw_p41 : lw_okq (⟨"ChipForgeModel", "pinAt", "(II)I"⟩, 16) := ⟨⟨by decide +kernel, by decide +kernel⟩, List.mem_of_getElem? (i := 680) (by decide +kernel), List.mem_of_getElem? (i := 859) (by decide +kernel), List.mem_of_getElem? (i := 860) (by decide +kernel)⟩
theorem lw_p42 : lw_okq (⟨"ChipForgeModel", "isOpen", "(I)Z"⟩, 16) := ⟨⟨by decide +kernel, by decide +kernel⟩, List.mem_of_getElem? (i := 680) (by decide +kernel), List.mem_of_getElem? (i := 867) (by decide +kernel), List.mem_of_getElem? (i := 868) (by decide +kernel)⟩
theorem lw_p43 : lw_okq (⟨"ChipForgeModel", "place", "(II)I"⟩, 16) := ⟨⟨by decide +kernel, by decide +kernel⟩, List.mem_of_getElem? (i := 680) (by decide +kernel), List.mem_of_getElem? (i := 871) (by decide +kernel), List.mem_of_getElem? (i := 872) (by decide +kernel)⟩
theorem lw_p44 : lw_okq (⟨"ChipForgeModel", "isShort", "(II)Z"⟩, 16) := ⟨⟨by decide +kernel, by decide +kernel⟩, List.mem_of_getElem? (i := 680) (by decide +kernel), List.mem_of_getElem? (i := 875) (by decide +kernel), List.mem_of_getElem? (i := 876) (by decide +kernel)⟩
theorem lw_p45 : lw_okq (⟨"ChipForgeModel", "delayOf", "(I)D"⟩, 16) := ⟨⟨by decide +kernel, by decide +kernel⟩, List.mem_of_getElem? (i := 680) (by decide +kernel), List.mem_of_getElem? (i := 888) (by decide +kernel), List.mem_of_getElem? (i := 889) (by decide +kernel)⟩
theorem lw_p46 : lw_okq (⟨"ChipForgeModel", "isReady", "(I)Z"⟩, 16) := ⟨⟨by decide +kernel, by decide +kernel⟩, List.mem_of_getElem? (i := 680) (by decide +kernel), List.mem_of_getElem? (i := 898) (by decide +kernel), List.mem_of_getElem? (i := 899) (by decide +kernel)⟩
def lw_privs_3 : List (MethodName × Nat) := [(⟨"ChipForgeModel", "right", "(I)I"⟩, 16), (⟨"ChipForgeModel", "draw", "()V"⟩, 16), (⟨"ChipForgeModel", "mark", "(III)V"⟩, 16), (⟨"ChipForgeModel", "isPin", "(II)Z"⟩, 16), (⟨"ChipForgeModel", "lengthOf", "(I)I"⟩, 16), (⟨"ChipForgeModel", "isPoint", "(II)Z"⟩, 16), (⟨"ChipForgeModel", "find", "()V"⟩, 16), (⟨"ChipForgeModel", "joinAt", "(II)Z"⟩, 16), (⟨"ChipForgeModel", "join", "(II)Z"⟩, 16), (⟨"ChipForgeModel", "pinAt", "(II)I"⟩, 16), (⟨"ChipForgeModel", "isOpen", "(I)Z"⟩, 16), (⟨"ChipForgeModel", "place", "(II)I"⟩, 16), (⟨"ChipForgeModel", "isShort", "(II)Z"⟩, 16), (⟨"ChipForgeModel", "delayOf", "(I)D"⟩, 16), (⟨"ChipForgeModel", "isReady", "(I)Z"⟩, 16)]
theorem lw_r3 : ∀ q ∈ lw_privs_3, lw_okq q := List.forall_mem_cons.mpr ⟨lw_p32, List.forall_mem_cons.mpr ⟨lw_p33, List.forall_mem_cons.mpr ⟨lw_p34, List.forall_mem_cons.mpr ⟨lw_p35, List.forall_mem_cons.mpr ⟨lw_p36, List.forall_mem_cons.mpr ⟨lw_p37, List.forall_mem_cons.mpr ⟨lw_p38, List.forall_mem_cons.mpr ⟨lw_p39, List.forall_mem_cons.mpr ⟨lw_p40, List.forall_mem_cons.mpr ⟨lw_p41, List.forall_mem_cons.mpr ⟨lw_p42, List.forall_mem_cons.mpr ⟨lw_p43, List.forall_mem_cons.mpr ⟨lw_p44, List.forall_mem_cons.mpr ⟨lw_p45, List.forall_mem_cons.mpr ⟨lw_p46, fun _ h => absurd h List.not_mem_nil⟩⟩⟩⟩⟩⟩⟩⟩⟩⟩⟩⟩⟩⟩⟩
def lw_privs : List (MethodName × Nat) := lw_privs_1 ++ (lw_privs_2 ++ (lw_privs_3))
def lw_tbl : List Cond := k2_sels lw_privs ++ tables_1
theorem lw_privs_ok : ∀ q ∈ lw_privs, lw_okq q := by
  show ∀ q ∈ lw_privs_1 ++ (lw_privs_2 ++ (lw_privs_3)), lw_okq q
  exact List.forall_mem_append.mpr ⟨lw_r1, List.forall_mem_append.mpr ⟨lw_r2, lw_r3⟩⟩
end
section
/-! Exceptions that leave a method: contracts with two ends, calls with two ends, the end of a body that throws. -/
section TXA
/-- q is thrown: its class by name, its cell, the world (Xc), what was written and made -/
def tx_T (Xc : String → State → State → Prop) (mc ms : Nat) (free : Addr → Prop) (st : State) (q : Addr) (t : State) : Prop :=
  ∃ (E : String) (ce : Cell) (L : List Loc), Xc E st t ∧ t.heap[q]? = some ce ∧ ce.vm = .none ∧ st.vm.findClass E = some ce.cls ∧ st.WarmedH t.vm ∧
    st.sameButNew ({ t with vm := st.vm } : State) L mc ms ∧ ∀ z ∈ L, free z.base
def tx_Q (Qc : Array Value → State → Outcome → State → Prop) (Xc : String → State → State → Prop) (mc ms : Nat) (free : Addr → Prop) (a : Array Value) (st : State) (o : Outcome) (t : State) : Prop :=
  (Qc a st o t ∧ ∃ L, FrameEnd st o t L mc ms ∧ ∀ q ∈ L, free q.base) ∨ ∃ q, o = .threw q ∧ tx_T Xc mc ms free st q t
/-- the contract of a method that returns or throws -/
def tx_Met (l : Launch) (y : MethodName) (ws : List Cond) (rm : Room) (Pc : Array Value → State → Prop) (Qc : Array Value → State → Outcome → State → Prop) (Xc : String → State → State → Prop) (mc ms : Nat) (free : Addr → Prop) : Prop :=
  MetFree l y (headSpec ws rm) Pc (fun _ _ _ _ _ => True) (tx_Q Qc Xc mc ms free)
/-- the end that such a body owes -/
def tx_MQ (below : List Frame) (Qc : Array Value → State → Outcome → State → Prop) (Xc : String → State → State → Prop) (a : Array Value) (s : State) (mc ms : Nat) (free : Addr → Prop) : State → Prop := fun t =>
  ∃ o, t.status = .running ∧ Ended t below o ∧ tx_Q Qc Xc mc ms free a s o t
/-- q is thrown over the frame g of the method that is walked -/
def tx_W (p : Program) (l : Launch) (e : Env) (R : Room) (s : State) (m : MethodId) (args : Array Value) (below : List Frame) (meth : Method) (c : Code) (H : Heap) (locs : List Loc) (cells slots : Nat) (Q : State → Prop) (g : JFrame) (q : Addr) : Prop :=
  ∀ T : State, T.heap = H → Stand p l e R s m args below meth c T locs cells slots → ∃ t, Steps p.tables e below ((T.setTop g).pushFrame (.throwing q)) t ∧ Q t
/-- how a call of such a method goes on: it came back, or q is thrown over the caller's frame -/
def tx_Run (p : Program) (l : Launch) (e : Env) (R : Room) (s : State) (m : MethodId) (args : Array Value) (below : List Frame) (meth : Method) (c : Code) (H : Heap) (locs : List Loc) (cells slots mc ms : Nat) (g : JFrame) (rest : List Value)
    (Qa : State → Outcome → State → Prop) (Xc : String → State → State → Prop) (free : Addr → Prop) : Prop :=
  ∀ T : State, T.heap = H → Stand p l e R s m args below meth c T locs cells slots →
    (∃ (v : Option Value) (st t T' : State) (L : List Loc), st.heap = H ∧ Stand p l e R s m args below meth c T' (locs ++ L) (cells + mc) (slots + ms) ∧ (∀ z ∈ L, free z.base) ∧ T'.heap = t.heap ∧ T'.vm = t.vm ∧ Qa st (.returned v) t ∧
      Goes p e below T g T' { g with pc := g.pc + 3, stack := v.toList ++ rest }) ∨
    (∃ (q : Addr) (E : String) (ce : Cell) (st t T' : State) (L : List Loc), st.heap = H ∧ Stand p l e R s m args below meth c T' (locs ++ L) (cells + mc) (slots + ms) ∧ (∀ z ∈ L, free z.base) ∧ T'.heap = t.heap ∧ T'.vm = t.vm ∧
      Xc E st t ∧ t.heap[q]? = some ce ∧ ce.vm = .none ∧ s.vm.findClass E = some ce.cls ∧
      ∀ target, Steps p.tables e below ((T'.setTop { g with stack := rest }).pushFrame (.throwing q)) target → Steps p.tables e below (T.setTop g) target)
theorem tx_heapTop (T : State) (g : JFrame) : (T.setTop g).heap = T.heap := by simp [State.setTop, State.modifyTopJava, State.setFrames]
theorem tx_vmTop (T : State) (g : JFrame) : (T.setTop g).vm = T.vm := by simp [State.setTop, State.modifyTopJava, State.setFrames]
section Core
variable {p : Program} {l : Launch} {e : Env} {R : Room} {s : State} {m : MethodId} {args : Array Value} {below : List Frame} {meth : Method} {c : Code} {T : State} {locs : List Loc} {cells slots : Nat}
theorem tx_core (X : Stand p l e R s m args below meth c T locs cells slots) {g : JFrame} (hg : g.method = m) (hsize : g.locals.size = c.maxLocals) {ig : Instr} {len : Nat} (hdg : decode c.code g.pc = .ok (ig, len))
    (hW : 2 * g.monitorRoom + (g.stack.map fun v => v.category).sum ≤ 8) {y : MethodName} {mk : MethodId} (hn : T.methodNamed? y = some mk)
    {ws : List Cond} {rm : Room} {Pc : Array Value → State → Prop} {Qc : Array Value → State → Outcome → State → Prop} {Xc : String → State → State → Prop} {mc ms : Nat} {free : Addr → Prop} {bytes : ByteArray} {maxL : Nat} {ret : Option FieldType} {a : Array Value}
    (hM : tx_Met l y ws rm Pc Qc Xc mc ms free) (hfr : rm.frames + 1 ≤ R.frames) (hlo : 8 + (maxL + 11) + rm.locals ≤ R.locals) (hws : ∀ w ∈ ws, w.before a T = true)
    (hcode : (Cond.code y bytes maxL ret).before a T = true) (hini : (Cond.initialized y.cls).before a T = true) (hrc : rm.cells = mc) (hrs : rm.slots = ms) (hc : cells + mc ≤ R.cells) (hs : slots + ms ≤ R.slots)
    (hP : Pc a (T.calling g mk a)) :
    (∃ (v : Option Value) (t T' : State) (L : List Loc), Stand p l e R s m args below meth c T' (locs ++ L) (cells + mc) (slots + ms) ∧ (∀ z ∈ L, free z.base) ∧ T'.heap = t.heap ∧ T'.vm = t.vm ∧ Qc a (T.calling g mk a) (.returned v) t ∧
      Steps p.tables e below (doInvoke e (T.setTop g) [] mk a).1 (T'.setTop { g with pc := g.pc + len, stack := v.toList ++ g.stack })) ∨
    (∃ (q : Addr) (E : String) (ce : Cell) (t T' : State) (L : List Loc), Stand p l e R s m args below meth c T' (locs ++ L) (cells + mc) (slots + ms) ∧ (∀ z ∈ L, free z.base) ∧ T'.heap = t.heap ∧ T'.vm = t.vm ∧
      Xc E (T.calling g mk a) t ∧ t.heap[q]? = some ce ∧ ce.vm = .none ∧ T.vm.findClass E = some ce.cls ∧
      Steps p.tables e below (doInvoke e (T.setTop g) [] mk a).1 ((T'.setTop g).pushFrame (.throwing q))) := by
  obtain ⟨methY, cY, hmY, hcY, -, hlY, -, -, -, -⟩ := Cond.code_spec hn hcode
  obtain ⟨kY, hkY, -⟩ := className_of_methodNamed hn
  have hinitY : kY.init = .initialized := Cond.initialized_spec (findClass_of_methodNamed hn) hkY hini
  have h : At T g.method c below := by rw [hg]; exact X.here
  have happ : (headSpec ws rm).appliesLoose y e.platform (T.calling g mk a) = true :=
    Spec.appliesLoose_calling (g := g) h hdg hn hkY hinitY
      (X.room_calling (g := g) (R' := rm) hsize hmY hcY hfr (by rw [hlY]; omega) (by rw [hrc]; exact hc) (by rw [hrs]; exact hs)) (atoms_intro hws)
  obtain ⟨mid, hmid⟩ := h.above
  have hfrs : (T.setTop g).frames = (.java g :: mid) ++ below := by rw [State.frames_setTop' g h.top, hmid]; rfl
  obtain ⟨o, s₂, hsteps, -, hend, hq⟩ := Steps.callFree hM p X.admits X.cas X.clock (acts := []) hfrs happ hP trivial
  rw [State.frames_setTop' g h.top, X.tail] at hend
  have hq' : tx_Q Qc Xc mc ms free a (T.calling g mk a) o s₂ := hq
  rcases hq' with ⟨hq1, L, ⟨⟨v, rfl⟩, hW2, hsame⟩, hL⟩ | ⟨q, rfl, E, ce, L, hx, hce, hv, hcl, hW2, hsame, hL⟩
  · obtain ⟨T', X', -, -, ht⟩ := X.outOf hg hdg hend hW2 hsame
    refine Or.inl ⟨v, s₂, T', L, X', hL, by rw [ht, tx_heapTop], by rw [ht, tx_vmTop], hq1, ?_⟩
    rw [← ht]; exact hsteps
  · obtain ⟨T', X', -, -, ht⟩ := X.outOfThrown hg hend hW2 hsame
    refine Or.inr ⟨q, E, ce, s₂, T', L, X', hL, by rw [ht, throwing_heap], by rw [ht, throwing_vm], hx, hce, hv, hcl, ?_⟩
    rw [← ht]; exact hsteps
end Core
section Runs
variable {p : Program} {l : Launch} {e : Env} {R : Room} {s : State} {m : MethodId} {args : Array Value} {below : List Frame} {meth : Method} {c : Code} {H : Heap} {locs : List Loc} {cells slots : Nat}
variable {y : MethodName} {bytes cc : ByteArray} {maxL nL mc ms n index : Nat} {ret : Option FieldType} {ws : List Cond} {rm : Room} {Pc : Array Value → State → Prop} {Qc : Array Value → State → Outcome → State → Prop} {Xc : String → State → State → Prop} {free : Addr → Prop} {Ts : List Cond} {own C : String} {b : Addr} {As rest : List Value} {g : JFrame}
/-- invokevirtual of a method that may throw -/
theorem tx_runV (S : CallFix p m c cc nL s args Ts own) (hM : tx_Met l y ws rm Pc Qc Xc mc ms free) (cw : CallW R s args own C index y bytes maxL ret ws rm mc ms n) (hp : PreV s H C b Pc As)
    (hg : g.method = m) (hn : As.length = n) (hsize : g.locals.size = nL) (hstack : g.stack = As.reverse ++ .ref b :: rest) (hW : 2 * g.monitorRoom + (rest.map fun v => v.category).sum ≤ 8) (hdg : decode cc g.pc = .ok (.invokevirtual index, 3)) (hf : cells + mc ≤ R.cells ∧ slots + ms ≤ R.slots) :
    tx_Run p l e R s m args below meth c H locs cells slots mc ms g rest (Qc (Value.ref b :: As).toArray) Xc free := by
  obtain ⟨⟨hrc, hrs, hfr, hlo, hws, hcw, hcode, hini, hy, hlen, hl⟩, hin, hse⟩ := cw
  obtain ⟨hx, hb, hml, ho, -⟩ := S
  obtain ⟨hbl, ⟨cellB, hcB, hoB, hclB⟩, hPc⟩ := hp
  intro T hT X
  obtain ⟨mk, methM, hnamed, hmethM, hstM, habM⟩ := Cond.instanceMethod_spec hin
  obtain ⟨methM', cM, hmethM', -, -, -, -, -, -, hsigM⟩ := Cond.code_spec hnamed hcode
  cases hmethM.symm.trans hmethM'
  obtain ⟨c2, r2, m2, q1, q2, q3, q4, kP, hkP, hkPi⟩ := Cond.selects_spec hse
  cases hclB.symm.trans q1
  cases (State.methodFound?_of_named hnamed hy).symm.trans q2
  cases hnamed.symm.trans q3
  have hselP : selectMethod e.platform s.vm cellB.cls mk = .method mk := by rw [Launch.admits_selectMethod X.admits]; exact q4
  obtain ⟨vm₁, X₁, hstep₁⟩ := X.invokevirtual hx ho hl hnamed hmethM hstM hkP hkPi hy (a := b) (cell := cellB) (by rw [hT]; exact hcB)
    (fun z h => by rw [h] at hoB; cases hoB) hselP hmethM habM hkP hkPi (g := g) hg (argsL := As) (rest := rest) (hn.trans (hlen _ hsigM)) hstack (by rw [hb]; exact hdg)
  have hW₁ : s.WarmedH (T.setVm vm₁).vm := X₁.warmed
  have hP := hbl _ _ { g with stack := rest } mk (hPc (T.setVm vm₁) hT hW₁)
  rcases tx_core X₁ (g := { g with stack := rest }) hg (hsize.trans hml.symm) (by rw [hb]; exact hdg) hW (X₁.named hnamed) hM hfr hlo (fun w hw => hws w hw _ _ hW₁) (hws _ hcw _ _ hW₁)
      (word_at hW₁ (Or.inl (by first | rfl | simp [Cond.onTables, Cond.keeps, Cond.steady])) hini) hrc hrs hf.1 hf.2 hP with
    ⟨v, t, T', L, X', hL, e1, e2, hq, st⟩ | ⟨q, E, ce, t, T', L, X', hL, e1, e2, hxc, hce, hv, hcl, st⟩
  · refine Or.inl ⟨v, _, t, T', L, ?_, X', hL, e1, e2, hq, fun target h => hstep₁ _ fun acts => ?_⟩
    · show (T.setVm vm₁).heap = H
      exact hT
    · rw [doInvoke_state]; exact st.trans h
  · refine Or.inr ⟨q, E, ce, _, t, T', L, ?_, X', hL, e1, e2, hxc, hce, hv, ?_, fun target h => hstep₁ _ fun acts => ?_⟩
    · show (T.setVm vm₁).heap = H
      exact hT
    · have h9 : (T.setVm vm₁).vm.findClass E = some ce.cls := hcl
      rw [← hW₁.alike.findClass]; exact h9
    · rw [doInvoke_state]; exact st.trans h
end Runs
end TXA
end
section
/-! Rows over calls with two ends; leaving by a throw; catching. -/
section TXB
variable {p : Program} {l : Launch} {e : Env} {R : Room} {s : State} {m : MethodId} {args : Array Value} {below : List Frame} {meth : Method} {c : Code} {H : Heap} {locs : List Loc} {cells slots : Nat} {Q : State → Prop}
variable {mc ms : Nat} {free : Addr → Prop} {A0 A1 : Nat → Prop} {H0 : Heap} {a : Array Value} {pc : Nat} {ls : Array Slot} {st0 rest : List Value}
/-- what a may-throw method's returns say: the value, the world behind it -/
def tx_R {S : Type} (post : Option Value → S → Prop) (B : S → State → Prop) (A : Nat → Prop) : Array Value → State → Outcome → State → Prop := fun _ st oc t =>
  (∃ (v : Option Value) (u : S), oc = .returned v ∧ post v u ∧ B u t) ∧ va_F A st t
/-- .. and what its throws say -/
def tx_X {S : Type} (px : String → S → Prop) (B : S → State → Prop) (A : Nat → Prop) : String → State → State → Prop := fun E st t => (∃ u : S, px E u ∧ B u t) ∧ va_F A st t
theorem tx_keep {st t T' : State} {L : List Loc} (h0 : st.heap = H) (e1 : T'.heap = t.heap) (hS : va_S A0 H0 H locs) (hA : ∀ q, q < H.size → A1 q → A0 q) (hf : ∀ q, free q → A0 q) (hL : ∀ q ∈ L, free q.base) (hF : va_F A1 st t) :
    H.size ≤ T'.heap.size ∧ (∀ q : Nat, q < H.size → ¬ A1 q → T'.heap[q]? = H[q]?) ∧ va_S A0 H0 T'.heap (locs ++ L) := by
  obtain ⟨hz, hk⟩ := hF
  rw [h0] at hz hk
  rw [e1]
  refine ⟨hz, hk, Nat.le_trans hS.1 hz, fun q h1 h2 => ?_, fun q hq => ?_⟩
  · rw [hk q (Nat.lt_of_lt_of_le h1 hS.1) (fun z => h2 (hA q (Nat.lt_of_lt_of_le h1 hS.1) z))]
    exact hS.2.1 q h1 h2
  · rcases List.mem_append.mp hq with h | h
    · exact hS.2.2 q h
    · exact hf _ (hL q h)
theorem tx_call {S : Type} {post : Option Value → S → Prop} {px : String → S → Prop} {B : S → State → Prop}
    (hr : tx_Run p l e R s m args below meth c H locs cells slots mc ms (F0 m pc ls st0) rest (tx_R post B A1 a) (tx_X px B A1) free) (hS : va_S A0 H0 H locs) (hA : ∀ q, q < H.size → A1 q → A0 q) (hf : ∀ q, free q → A0 q)
    (kk : ∀ (v : Option Value) (u : S) (t : State) (H1 : Heap) (locs1 : List Loc), t.heap = H1 → s.vm.Alike t.vm → post v u → B u t → H.size ≤ H1.size → (∀ q : Nat, q < H.size → ¬ A1 q → H1[q]? = H[q]?) → va_S A0 H0 H1 locs1 →
      W p l e R s m args below meth c H1 locs1 (cells + mc) (slots + ms) Q (F0 m (pc + 3) ls (v.toList ++ rest)))
    (kx : ∀ (q : Addr) (E : String) (ce : Cell) (u : S) (t : State) (H1 : Heap) (locs1 : List Loc), t.heap = H1 → s.vm.Alike t.vm → px E u → B u t → H.size ≤ H1.size → (∀ q : Nat, q < H.size → ¬ A1 q → H1[q]? = H[q]?) → va_S A0 H0 H1 locs1 →
      H1[q]? = some ce → ce.vm = .none → s.vm.findClass E = some ce.cls → tx_W p l e R s m args below meth c H1 locs1 (cells + mc) (slots + ms) Q (F0 m pc ls rest) q) :
    W p l e R s m args below meth c H locs cells slots Q (F0 m pc ls st0) := by
  intro T hT X
  rcases hr T hT X with ⟨v, st, t, T', L, h0, X', hL, e1, e2, ⟨⟨v', u, hv, hp, hB⟩, hF⟩, st1⟩ | ⟨q, E, ce, st, t, T', L, h0, X', hL, e1, e2, ⟨⟨u, hp, hB⟩, hF⟩, hce, hv, hcl, st1⟩
  · cases hv
    obtain ⟨k1, k2, k3⟩ := tx_keep h0 e1 hS hA hf hL hF
    have hal : s.vm.Alike t.vm := by rw [← e2]; exact X'.warmed.alike
    obtain ⟨z, a1, b1⟩ := kk v u t T'.heap (locs ++ L) e1.symm hal hp hB k1 k2 k3 T' rfl X'
    exact ⟨z, st1 _ a1, b1⟩
  · obtain ⟨k1, k2, k3⟩ := tx_keep h0 e1 hS hA hf hL hF
    have hal : s.vm.Alike t.vm := by rw [← e2]; exact X'.warmed.alike
    obtain ⟨z, a1, b1⟩ := kx q E ce u t T'.heap (locs ++ L) e1.symm hal hp hB k1 k2 k3 (by rw [e1]; exact hce) hv hcl T' rfl X'
    exact ⟨z, st1 _ a1, b1⟩
section Ends
variable {Qc : Array Value → State → Outcome → State → Prop} {Xc : String → State → State → Prop}
/-- a return in a body that may throw -/
theorem tx_ret {g : JFrame} (k : W p l e R s m args below meth c H locs cells slots (MQ below Qc args s mc ms free) g) : W p l e R s m args below meth c H locs cells slots (tx_MQ below Qc Xc args s mc ms free) g := by
  intro T hT X
  obtain ⟨t, a1, o, b1, b2, b3⟩ := k T hT X
  exact ⟨t, a1, o, b1, b2, Or.inl b3⟩
theorem tx_wider {g : JFrame} {q : Addr} {k n : Nat} (h1 : cells ≤ k) (h2 : slots ≤ n) (kk : tx_W p l e R s m args below meth c H locs k n Q g q) : tx_W p l e R s m args below meth c H locs cells slots Q g q :=
  fun T hT X => kk T hT (stand_widen X h1 h2)
/-- nothing in this method catches: the throw goes on to the caller -/
theorem tx_out {E : String} {ce : Cell} {q : Addr} (hnt : ∀ x ∈ c.exceptionTable.toList, False) (hlocks : meth.locks = false) (hcell : H[q]? = some ce) (hv : ce.vm = .none) (hcl : s.vm.findClass E = some ce.cls)
    (hx : ∀ t : State, t.heap = H → s.WarmedH t.vm → Xc E s t) (hf : ∀ z ∈ locs, free z.base) :
    tx_W p l e R s m args below meth c H locs mc ms (tx_MQ below Qc Xc args s mc ms free) (F0 m pc ls rest) q := by
  intro T hT X
  obtain ⟨st, hrun, hend, hW, hsame⟩ := X.leaveThrown q (g := F0 m pc ls rest) rfl rfl rfl (fun x hx => absurd (hnt x hx) id) hlocks
  refine ⟨_, st, .threw q, hrun, hend, Or.inr ⟨q, rfl, E, ce, locs, hx _ hT hW, ?_, hv, hcl, hW, hsame, hf⟩⟩
  show T.heap[q]? = some ce
  rw [hT]; exact hcell
end Ends
/-- the body of a may-throw method without a table of its own gives its contract -/
theorem tx_ofW {y : MethodName} {ws ws' : List Cond} {rm : Room} {Pc : Array Value → State → Prop} {Qc : Array Value → State → Outcome → State → Prop} {Xc : String → State → State → Prop} {cc : ByteArray} {maxL : Nat} {ret : Option FieldType}
    (hy : plainName y.cls = true) (hw : ws = Cond.code y cc maxL ret :: ws')
    (body : ∀ p e s m args below meth c s₁, BodyLoose p l y (headSpec ws rm) cc maxL ret e s m args below meth c s₁ → c.maxLocals = maxL → (∀ x ∈ c.exceptionTable.toList, False) → Pc args s →
      W p l e (headSpec ws rm).room s m args below meth c s.heap [] 0 0 (tx_MQ below Qc Xc args s mc ms free) (entryFrame m args maxL)) : tx_Met l y ws rm Pc Qc Xc mc ms free := by
  have hcw : Cond.code y cc maxL ret ∈ ws := by rw [hw]; exact List.mem_cons_self
  refine MetFree.of_bodyS (code := cc) (maxLocals := maxL) (ret := ret) hy (fun args s m h hn => ?_) (fun p e s m args below meth c s₁ B hml hP _ => ?_)
  · obtain ⟨meth, c, h1, h2, h3, h4, h5, h6, -, -⟩ := Cond.code_spec hn (atoms_spec (ws := ws) h _ hcw)
    exact ⟨meth, c, h1, h2, h3, h4, h5, h6⟩
  · have hh0 : s₁.heap = s.heap := by rw [B.state]; rfl
    have ht : ∀ x ∈ c.exceptionTable.toList, False := by
      obtain ⟨meth9, c9, h1, h2, -, -, -, -, h7, -⟩ := Cond.code_spec B.named (atoms_spec (ws := ws) B.pre _ hcw)
      cases Option.some.inj (h1.symm.trans B.method)
      cases Option.some.inj (h2.symm.trans (Stand.of_body B).code)
      intro x hx
      rw [Array.isEmpty_iff.mp h7] at hx
      cases hx
    obtain ⟨t, a1, o, b1, b2, b3⟩ := body p e s m args below meth c s₁ B hml ht hP s₁ hh0 (Stand.of_body B)
    exact ⟨t, o, a1, b1, b2, b3⟩
/-! a handler is found -/
/-- the first entry that covers pc and takes the class k is at h; those ahead that cover it name other classes -/
def tx_fits (pl : Platform) (s0 : State) (d : ClassId) (pc : Nat) (k : ClassId) : List ExceptionTableEntry → Nat → Prop
  | [], _ => False
  | x :: r, h => (covers x pc = false ∧ tx_fits pl s0 d pc k r h) ∨ (covers x pc = true ∧ x.catchType ≠ 0 ∧ ∃ cc, s0.vm.ClassLinks pl d x.catchType cc ∧ ((s0.vm.assignable k cc = true ∧ x.handlerPc = h) ∨ (s0.vm.assignable k cc = false ∧ tx_fits pl s0 d pc k r h)))
theorem tx_go {s0 : State} {f : JFrame} {q : Addr} {ce : Cell} (hv : ce.vm = .none) {k0 : Class} (hk0 : s0.vm.classes[ce.cls]? = some k0) {h : Nat} :
    ∀ (L : List ExceptionTableEntry) (S : State), s0.WarmedH S.vm → S.heap[q]? = some ce → tx_fits e.platform s0 f.method.cls f.pc ce.cls L h →
      ∃ vm', s0.WarmedH vm' ∧ ∀ (Q : Handler → Pre) (E : CtlPost) (d : Bool) (acts : List Action), wp (findHandler.go f q L) Q E e d acts S ↔ Q (.found h) d acts (S.setVm vm') := by
  intro L
  induction L with
  | nil => intro S _ _ hf; exact absurd hf id
  | cons x r ih =>
    intro S hW hce hf
    rcases hf with ⟨hx, hr⟩ | ⟨hx, h0, cc, hl, hcase⟩
    · obtain ⟨vm', hW', hq⟩ := ih S hW hce hr
      exact ⟨vm', hW', fun Q E d acts => (W.findHandler_go_skip hx).trans (hq Q E d acts)⟩
    · obtain ⟨dk, _, _, kt, hd, _, _, _, _, hkt, _, hopen⟩ := hl.here
      have hl' := hW.classLinks hl
      have hWn : s0.WarmedH (S.vm.noted f.method.cls x.catchType (.cls cc)) := hW.noted hd hopen (State.rightAt_cls hl)
      obtain ⟨ha, ht⟩ := (resolveClass_links e.toSetting hl').op (op := VmOp.resolveClass f.method.cls x.catchType) rfl
      obtain ⟨k1, hk1, -⟩ := hWn.alike.2.2 _ _ hk0
      obtain ⟨k2, hk2, -⟩ := hWn.alike.2.2 _ _ hkt
      have hobj : ∀ z, ce.vm ≠ .statics z := fun z hz => by rw [hv] at hz; cases hz
      have hcov : (decide (x.startPc ≤ f.pc) && decide (f.pc < x.endPc)) = true := hx
      rcases hcase with ⟨hfit, hh⟩ | ⟨hno, hr⟩
      · have hfit' : (S.vm.noted f.method.cls x.catchType (.cls cc)).assignable ce.cls cc = true := by rw [hWn.alike.assignable]; exact hfit
        refine ⟨_, hWn, fun Q E d acts => ?_⟩
        rw [← hh]
        simp [findHandler.go, hcov, h0, ha, ht, hce, hobj, hk1, hk2, hfit', VmOp.dirties, VmOp.acts]
      · have hno' : (S.vm.noted f.method.cls x.catchType (.cls cc)).assignable ce.cls cc = false := by rw [hWn.alike.assignable]; exact hno
        obtain ⟨vm', hW', hq⟩ := ih (S.setVm (S.vm.noted f.method.cls x.catchType (.cls cc))) hWn hce hr
        refine ⟨vm', hW', fun Q E d acts => ?_⟩
        refine Iff.trans ?_ (hq Q E d acts)
        simp [findHandler.go, hcov, h0, ha, ht, hce, hobj, hk1, hk2, hno', VmOp.dirties, VmOp.acts]
theorem tx_frames2 (u : State) (vm' : Vm) (F G : List Frame) : ((u.setFrames F).setVm vm').setFrames G = (u.setVm vm').setFrames G := by
  show (((u.setVm vm').setFrames F)).setFrames G = _
  rw [State.setFrames_setFrames]
/-- caught in this method: it goes on at the handler, the exception alone on the stack -/
theorem tx_catch {E : String} {ce : Cell} {q : Addr} {h : Nat} (hcell : H[q]? = some ce) (hv : ce.vm = .none) (hcl : s.vm.findClass E = some ce.cls)
    (hfit : e.platform.magicAccessors = ({} : Platform).magicAccessors → tx_fits e.platform s m.cls pc ce.cls c.exceptionTable.toList h)
    (kk : W p l e R s m args below meth c H locs cells slots Q (F0 m h ls [.ref q])) : tx_W p l e R s m args below meth c H locs cells slots Q (F0 m pc ls rest) q := by
  intro T hT X
  have hpl : e.platform.magicAccessors = ({} : Platform).magicAccessors := by rw [X.admits.platform]
  obtain ⟨k0, hk0, -⟩ := Vm.findClass_spec hcl
  have hg0 : (F0 m pc ls rest).method = m := rfl
  obtain ⟨vm', hW', hq⟩ := tx_go (e := e) (s0 := s) (f := F0 m pc ls rest) (q := q) hv hk0 c.exceptionTable.toList ((T.setTop (F0 m pc ls rest)).pushFrame (.throwing q)) X.warmed (by rw [throwing_heap, hT]; exact hcell) (hfit hpl)
  obtain ⟨t, a1, b1⟩ := kk (T.setVm vm') hT (X.noted hW')
  refine ⟨t, ?_, b1⟩
  have hAt : At T (F0 m pc ls rest).method c below := X.here
  obtain ⟨hgo, hw⟩ := hAt.throwing q
  refine Steps.head hgo hw ?_
  have hstep : (stepThrowing e ((T.setTop (F0 m pc ls rest)).pushFrame (.throwing q)) q (.java (F0 m pc ls rest) :: T.frames.tail)).Is ((((T.setTop (F0 m pc ls rest)).pushFrame (.throwing q)).setVm vm').setFrames (.java (F0 m h ls [.ref q]) :: T.frames.tail)) [] := by
    simp only [stepThrowing, searchFrame, vmDo]
    generalize hr : Sem.go _ e false [] ((T.setTop (F0 m pc ls rest)).pushFrame (.throwing q)) = res
    obtain ⟨as, rfl, ha⟩ := Sem.eq_ok_of hr (a := Handler.found h) (s' := ((T.setTop (F0 m pc ls rest)).pushFrame (.throwing q)).setVm vm') (acts' := []) (by
      have hm : ((T.setTop (F0 m pc ls rest)).pushFrame (.throwing q)).vm.method? (F0 m pc ls rest).method = some meth := by rw [throwing_vm]; exact X.method'
      simp [W.findHandler_eq hm X.code, hq _ _ _ _])
    exact ⟨rfl, ha⟩
  rw [stepThread_throwing (frames_entered hAt.top _), hstep.1]
  obtain ⟨g₀, hr⟩ := X.frames_eq
  have hr' : (T.setVm vm').frames = .java g₀ :: below := hr
  rw [State.setTop_of_frames _ hr'] at a1
  rw [hr, List.tail_cons, State.pushFrame, tx_frames2, State.setTop_of_frames _ hr, tx_frames2]
  exact a1
end TXB
end
section
/-! throw new E("text") in the middle of a method -/
section TXC
/-- the words of a throw that look at the heap -/
def tx_four : List Cond := [.laysStatic Bundle.tN "UNASSIGNED_STACK" Bundle.steD, .laysStatic Bundle.tN "SUPPRESSED_SENTINEL" Bundle.listD, .isRef (.static Bundle.tN "UNASSIGNED_STACK" Bundle.steD), .isRef (.static Bundle.tN "SUPPRESSED_SENTINEL" Bundle.listD)]
/-- they hold in every state that has these tables, and this heap outside A -/
def tx_Z (A : Nat → Prop) (U : State) (H : Heap) : Prop := ∀ (V : State) (ar : Array Value), U.vm.Alike V.vm → (∀ q : Nat, q < H.size → ¬ A q → V.heap[q]? = H[q]?) → ∀ w ∈ tx_four, w.before ar V = true
theorem tx_Z.moved {A : Nat → Prop} {u U : State} {H : Heap} (hvm : u.vm.Alike U.vm) (h : tx_Z A u H) : tx_Z A U H := fun V ar hv hq => h V ar (hvm.trans hv) hq
theorem tx_Z.kept {A : Nat → Prop} {U : State} {H H1 : Heap} (h : tx_Z A U H) (hz : H.size ≤ H1.size) (hq : ∀ q : Nat, q < H.size → ¬ A q → H1[q]? = H[q]?) : tx_Z A U H1 :=
  fun V ar hv h1 => h V ar hv (fun q a b => (h1 q (Nat.lt_of_lt_of_le a hz) b).trans (hq q a b))
theorem tx_Z.narrow {A B : Nat → Prop} {U : State} {H : Heap} (h : tx_Z A U H) (hAB : ∀ q, q < H.size → B q → A q) : tx_Z B U H :=
  fun V ar hv h1 => h V ar hv (fun q a b => h1 q a (fun z => b (hAB q a z)))
theorem tx_lays {ar ar' : Array Value} {s V : State} {C n d : String} (h : (Cond.laysStatic C n d).before ar s = true) (hal : s.vm.Alike V.vm) (hk : ∀ q : Nat, q < s.heap.size → V.heap[q]? = s.heap[q]?) :
    (Cond.laysStatic C n d).before ar' V = true ∧ ((Cond.isRef (.static C n d)).before ar s = true → (Cond.isRef (.static C n d)).before ar' V = true) := by
  obtain ⟨c, k, i, f, a, cell, h1, h2, h3, h4, h5, h6, h7, h8, h9⟩ := Cond.laysStatic_spec h
  obtain ⟨k', hi', he⟩ := State.fieldFound?_setVm hal h2
  have hi2 : V.fieldFound? C n d = some (c, k', i, f) := hi'
  have h5' : V.heap[a]? = some cell := by rw [hk a (Array.getElem?_eq_some_iff.mp h5).1]; exact h5
  have h4' : k'.statics = some a := by rw [he]; exact h4
  refine ⟨?_, fun hr => ?_⟩
  · show (Cond.laysStatic C n d).holds ar' V none V [] = true
    exact Cond.laysStatic_of (by rw [hal.findClass]; exact h1) hi' h3 h4' h5' h6 h7 h8 (by rw [he]; exact h9)
  · have e1 : (Term.static C n d).eval ar s none [] s = cell.slots[f.slot]? := by simp [Term.eval, State.fieldNamed?, h2, h3, h4, h5, h6]
    have e2 : (Term.static C n d).eval ar' V none [] V = cell.slots[f.slot]? := by simp [Term.eval, State.fieldNamed?, hi2, h3, h4', h5', h6]
    simp only [Cond.before, Cond.holds, Cond.value, e1] at hr
    simp only [Cond.before, Cond.holds, Cond.value, e2]
    exact hr
theorem tx_Zof {ar : Array Value} {s : State} {A : Nat → Prop} (h : ∀ w ∈ tx_four, w.before ar s = true) (hA : ∀ q : Nat, q < s.heap.size → ¬ A q) : tx_Z A s s.heap := by
  intro V ar' hal hq w hw
  have hk : ∀ q : Nat, q < s.heap.size → V.heap[q]? = s.heap[q]? := fun q h1 => hq q h1 (hA q h1)
  have a1 := tx_lays (ar' := ar') (h _ (show Cond.laysStatic Bundle.tN "UNASSIGNED_STACK" Bundle.steD ∈ tx_four from List.mem_cons_self)) hal hk
  have a2 := tx_lays (ar' := ar') (h _ (show Cond.laysStatic Bundle.tN "SUPPRESSED_SENTINEL" Bundle.listD ∈ tx_four from List.mem_cons_of_mem _ List.mem_cons_self)) hal hk
  simp only [tx_four, List.mem_cons, List.not_mem_nil, or_false] at hw
  rcases hw with rfl | rfl | rfl | rfl
  · exact a1.1
  · exact a2.1
  · exact a1.2 (h _ (List.mem_cons_of_mem _ (List.mem_cons_of_mem _ List.mem_cons_self)))
  · exact a2.2 (h _ (List.mem_cons_of_mem _ (List.mem_cons_of_mem _ (List.mem_cons_of_mem _ List.mem_cons_self))))
/-- a list of words at another state of the same tables: each is one of the method's words and looks at tables alone, or is one of the four -/
theorem tx_atoms {Ts L : List Cond} {ar : Array Value} {s V : State} (hts : ∀ w ∈ Ts, w.before ar s = true) (hvm : s.vm = V.vm) (hz : ∀ w ∈ tx_four, w.before ar V = true)
    (hL : L.all (fun w => (decide (w ∈ Ts) && w.onTables) || decide (w ∈ tx_four)) = true) : ∀ w ∈ L, w.before ar V = true := by
  intro w hw
  have h := List.all_eq_true.mp hL w hw
  simp only [Bool.or_eq_true, Bool.and_eq_true, decide_eq_true_eq] at h
  rcases h with ⟨h1, h2⟩ | h1
  · exact va_tabs h2 hvm (hts w h1)
  · exact hz w h1
variable {p : Program} {l : Launch} {e : Env} {R : Room} {s : State} {m : MethodId} {args : Array Value} {below : List Frame} {meth : Method} {c : Code} {H : Heap} {locs : List Loc} {cells slots : Nat}
/-- the method as if it had been called just now, in this heap -/
theorem tx_anew {T : State} (X : Stand p l e R s m args below meth c T locs cells slots) {k n : Nat} (hc : cells + k ≤ R.cells) (hs : slots + n ≤ R.slots) :
    Stand p l e { frames := R.frames, cells := k, slots := n, locals := R.locals } ((T.setVm s.vm).setFrames (.invoking m args :: below)) m args below meth c T [] 0 0 := by
  obtain ⟨g₀, hg0⟩ := X.frames_eq
  have hg1 : (T.setVm s.vm).frames = .java g₀ :: below := hg0
  have hF : ((T.setVm s.vm).setFrames (.invoking m args :: below)).frames = .invoking m args :: below := State.frames_setFrames _ (State.cur_lt_of_frames hg1)
  have hlim : e.platform.stackLimits (T.setVm s.vm).me = e.platform.stackLimits s.me := X.limits
  have hby : (T.setVm s.vm).me.stackBytes = s.me.stackBytes := X.bytes
  refine ⟨X.admits, X.cas, X.clock, hF, ?_, X.hears, X.method, X.code, X.here, X.tail, X.warmed, by rw [State.stackLimits_setFrames]; rfl, by rw [State.stackBytes_setFrames]; rfl, ?_⟩
  · have h := X.room
    have hU : ((T.setVm s.vm).setFrames (.invoking m args :: below)).localsInUse = s.localsInUse := by
      rw [State.localsInUse_invoking hF (meth := meth) (c := c) X.method X.code, State.localsInUse_invoking X.frames X.method X.code]
    simp only [State.hasRoom, Bool.and_eq_true, decide_eq_true_eq] at h ⊢
    obtain ⟨⟨⟨⟨h1, h2, h3, h4, h5, h6⟩, h7⟩, h8⟩, h9⟩ := h
    rw [X.frames] at h2 h3
    have q1 := X.heapSize
    have q2 := X.used
    rw [hF, hU, State.stackLimits_setFrames, State.stackBytes_setFrames, hlim, hby]
    refine ⟨⟨⟨⟨h1, h2, h3, h4, h5, h6⟩, ?_⟩, ?_⟩, X.book⟩
    · show T.heap.size + k ≤ e.platform.maxCells
      omega
    · show T.slotsUsed + n ≤ e.platform.maxSlots
      omega
  · obtain ⟨t, ht, -⟩ := State.frames_cons hg1
    have hd : T.heap.toList.drop T.heap.size = [] := List.drop_eq_nil_of_le (Nat.le_of_eq Array.length_toList)
    refine ⟨?_, Nat.le_refl _, Nat.le_refl _, ?_, ?_, fun a c9 h9 => ⟨c9, h9, rfl, rfl, fun _ _ => rfl⟩⟩
    · show T.setVm s.vm = { ((T.setVm s.vm).setFrames (.invoking m args :: below)).setFrames (T.setVm s.vm).frames with heap := T.heap, slotsUsed := T.slotsUsed }
      rw [State.setFrames_setFrames, State.setFrames_self ht]
      rfl
    · show T.slotsUsed = T.slotsUsed + ((T.heap.toList.drop T.heap.size).map (·.slots.size)).sum
      rw [hd]; rfl
    · show ((T.heap.toList.drop T.heap.size).map (·.slots.size)).sum ≤ 0
      rw [hd]; exact Nat.le_refl _
variable {mc ms : Nat} {free : Addr → Prop} {Qc : Array Value → State → Outcome → State → Prop} {Xc : String → State → State → Prop}
theorem tx_throwS {cc : ByteArray} {pc : Nat} {ls : Array Slot} {rest : List Value} (hexec : p.tables.exec = Jvm.exec) (hb : c.code = cc) (hl : l.stackTraces = false) {own cls text : String} {names : List String} {ik is ic sa : Nat} {A : Nat → Prop} {Ts : List Cond}
    (hown : s.vm.findClass own = some m.cls) (hts : ∀ w ∈ Ts, w.before args s = true) (hz : tx_Z A s s.heap) (hS : va_S A s.heap H locs) (hcls : Bundle.fit cls = true) (hnames : ∀ n ∈ names, Bundle.fit n = true)
    (hw : (Cond.classLink own ik cls :: Cond.initialized cls :: Bundle.ownAtoms own ic cls names).all (fun w => (decide (w ∈ Ts) && w.onTables) || decide (w ∈ tx_four)) = true) (hstr : vk_R own is text sa s)
    (hsize : ls.size = c.maxLocals) (d0 : decode cc pc = .ok (.new ik, 3)) (d3 : decode cc (pc + 3) = .ok (.dup, 1)) (d4 : decode cc (pc + 4) = .ok (.ldc is, 2)) (d6 : decode cc (pc + 6) = .ok (.invokespecial ic, 3)) (d9 : decode cc (pc + 9) = .ok (.athrow, 1))
    (hnt : ∀ x ∈ c.exceptionTable.toList, False) (hRf : names.length + 3 < R.frames) (hRl : (rest.map fun v => v.category).sum + (13 * (names.length + 1) + 43) ≤ R.locals) (hRc : cells + 1 ≤ R.cells) (hRs : slots + 6 ≤ R.slots) (hlocks : meth.locks = false)
    (hx : ∀ t : State, s.vm.Alike t.vm → H.size ≤ t.heap.size → (∀ q : Nat, q < H.size → t.heap[q]? = H[q]?) → Xc cls s t) (hf : ∀ z ∈ locs, free z.base) (hc : cells + 1 ≤ mc) (hs : slots + 6 ≤ ms) :
    W p l e R s m args below meth c H locs cells slots (tx_MQ below Qc Xc args s mc ms free) (F0 m pc ls rest) := by
  intro T hT X
  have htr : e.platform.stackTraces = false := (show e.platform.stackTraces = l.stackTraces by rw [X.admits.platform]).trans hl
  have Y := tx_anew X hRc hRs
  obtain ⟨s', hs'⟩ : ∃ z, z = (T.setVm s.vm).setFrames (.invoking m args :: below) := ⟨_, rfl⟩
  rw [← hs'] at Y
  have hvm : s.vm = s'.vm := by rw [hs']; rfl
  have hhp : s'.heap = H := by rw [hs']; exact hT
  have hal0 : s.vm.Alike s'.vm := by rw [← hvm]; exact Vm.Alike.refl s.vm
  have hfour : ∀ w ∈ tx_four, w.before args s' = true := (hz.kept hS.1 hS.2.1) s' args hal0 (fun q h1 _ => by rw [hhp])
  have hall := tx_atoms hts hvm hfour hw
  have hk' : (Cond.classLink own ik cls).before args s' = true := hall _ List.mem_cons_self
  have hini' : (Cond.initialized cls).before args s' = true := hall _ (List.mem_cons_of_mem _ List.mem_cons_self)
  have hat : ∀ w ∈ Bundle.ownAtoms own ic cls names, w.before args s' = true := fun w h => hall w (List.mem_cons_of_mem _ (List.mem_cons_of_mem _ h))
  have hown' : s'.vm.findClass own = some m.cls := by rw [← hvm]; exact hown
  have hins : (Cond.instantiable cls 6).before args s' = true := hat _ (by simp [Bundle.ownAtoms])
  obtain ⟨vm₁, cX, kX, hfX, hkX, -, -, X₁, st1⟩ := Y.newCold hexec (own := own) (C := cls) (index := ik) (n := 6) hown' hk' hins hini'
    (g := F0 m pc ls rest) rfl (by rw [hb]; exact d0) (Nat.le_refl _) (Nat.le_refl _)
  generalize hT1 : (T.setVm vm₁).pushCell { cls := cX, slots := kX.instanceTypes.map defaultValue, vm := .none } = T1 at X₁ st1
  have hcat : (Value.ref T.heap.size).category = 1 := rfl
  have hcellA : T1.heap[T.heap.size]? = some (freshCell cX kX) := by rw [← hT1]; exact State.heap_pushCell_size _ _
  have hstr' : vk_R own is text sa s' := vk_R.same hvm.symm hstr
  obtain ⟨U, hsteps, hrun, hend, hW, hsame, ce, hce, hO⟩ := X₁.ctorThrowS hexec htr (own := own) (cls := cls) (names := names) (ic := ic) hown' hcls hnames hat (fun x hx => nomatch hx) hfX hkX hcellA (by rw [hhp, hT]; exact Nat.le_refl _) (msg := .ref sa) rfl
    (g := { method := m, pc := pc + 6, locals := ls, stack := .ref sa :: .ref T.heap.size :: .ref T.heap.size :: rest, locked := none }) rfl hsize rfl rfl (rest := rest) rfl
    (by rw [hb]; exact d6) (by rw [hb]; exact d9) (fun x hx => absurd (hnt x hx) id) hRf (by simp only [List.map_cons, List.sum_cons, hcat]; omega) hlocks
  have hW0 : s.WarmedH s'.vm := by rw [← hvm]; exact State.WarmedH.refl s
  have hWs : s.WarmedH U.vm := State.WarmedH.trans hW0 hW
  have hold : s'.heap.size ≤ U.heap.size ∧ ∀ q : Nat, q < s'.heap.size → U.heap[q]? = s'.heap[q]? := by
    obtain ⟨-, z1, -, -, -, z2⟩ := hsame
    refine ⟨z1, fun q hq => ?_⟩
    obtain ⟨c1, y1, y2, y3, y4⟩ := z2 q s'.heap[q] (Array.getElem?_eq_getElem hq)
    rw [Array.getElem?_eq_getElem hq]
    have y1' : U.heap[q]? = some c1 := y1
    have hsl : c1.slots = (s'.heap[q]).slots := Array.ext_getElem? fun i => y4 i (fun h => nomatch h)
    rw [hsl] at y2
    rw [y1']
    exact congrArg some y2
  rw [hhp] at hold
  have hcl : s.vm.findClass cls = some ce.cls := by rw [hvm]; exact hO.cls
  have hsm : s.sameButNew ({ U with vm := s.vm } : State) locs mc ms := by
    subst hs'
    obtain ⟨e1, e2⟩ := hsame
    rw [State.setFrames_setFrames] at e1
    have h2 : (T.setVm s.vm).sameButNew ({ U with vm := s.vm } : State) [] (0 + 1) (0 + 6) := ⟨e1, e2⟩
    have h3 := X.same.trans h2
    rw [List.append_nil] at h3
    exact h3.mono hc hs
  refine ⟨U, ?_, .threw T.heap.size, hrun, hend, Or.inr ⟨T.heap.size, rfl, cls, ce, locs, hx U hWs.alike hold.1 hold.2, hce, hO.vm, hcl, hWs, hsm, hf⟩⟩
  refine st1 _ ?_
  have d3' : decode c.code (pc + 3) = .ok (.dup, 1) := by rw [hb]; exact d3
  have d4' : decode c.code (pc + 4) = .ok (.ldc is, 2) := by rw [hb]; exact d4
  show Steps p.tables e below (T1.setTop { method := m, pc := pc + 3, locals := ls, stack := .ref T.heap.size :: rest, locked := none }) _
  jvm_step X₁.here [X₁.here.top, hexec, d3', Value.category]
  exact X₁.ldcString hexec (own := own) (text := text) (index := is) (a := sa) hown' hstr'.1 hstr'.2
    (g := { method := m, pc := pc + 4, locals := ls, stack := .ref T.heap.size :: .ref T.heap.size :: rest, locked := none }) rfl d4' _ hsteps
end TXC
end
section
/-! new int[n][k]: an outer array of n references, and behind it n rows of k ints -/
section GX
def gx_row (comp : ClassId) (M : Nat) : Cell := arrV comp M (fun _ => .int 0)
def gx_out (cA : ClassId) (N h i : Nat) : Cell := arrV cA N (fun j => if j < i then Value.ref (h + 1 + j) else Value.null)
theorem gx_out_size (cA : ClassId) (N h i : Nat) : (gx_out cA N h i).slots.size = N := arrV_size _ _ _
theorem gx_out_0 (cA : ClassId) (N h : Nat) : ({ cls := cA, slots := Array.replicate N .null, vm := .none } : Cell) = gx_out cA N h 0 := by
  rw [arrV_new]
  unfold gx_out
  congr 1
theorem gx_out_s (cA : ClassId) (N h i : Nat) : (gx_out cA N h i).setSlot i (.ref (h + 1 + i)) = gx_out cA N h (i + 1) := by
  unfold gx_out
  rw [arrV_store]
  congr 1
  funext j
  by_cases e : j = i
  · subst e; simp [updV]
  · by_cases hj : j < i
    · simp [updV, e, hj, Nat.lt_succ_of_lt hj]
    · simp [updV, e, hj, show ¬ j < i + 1 by omega]
/-- the state with the outer array and i rows laid -/
def gx (T : State) (cA comp : ClassId) (N M : Nat) : Nat → State
  | 0 => T.pushCell (gx_out cA N T.heap.size 0)
  | i + 1 => ((gx T cA comp N M i).pushCell (gx_row comp M)).setCell T.heap.size (gx_out cA N T.heap.size (i + 1))
theorem gx_all (T : State) (cA comp : ClassId) (N M : Nat) : ∀ i, (gx T cA comp N M i).heap.size = T.heap.size + 1 + i ∧ (gx T cA comp N M i).vm = T.vm ∧ (gx T cA comp N M i).slotsUsed = T.slotsUsed + N + i * M ∧
    (gx T cA comp N M i).heap[T.heap.size]? = some (gx_out cA N T.heap.size i) ∧ (∀ q : Nat, q < T.heap.size → (gx T cA comp N M i).heap[q]? = T.heap[q]?) ∧ ∀ j, j < i → (gx T cA comp N M i).heap[T.heap.size + 1 + j]? = some (gx_row comp M)
  | 0 => ⟨by simp [gx], rfl, by simp [gx, gx_out_size], by simp [gx], fun q h => State.heap_pushCell_of_lt _ _ h, fun j h => absurd h (Nat.not_lt_zero _)⟩
  | i + 1 => by
    obtain ⟨a, b, d, f, u, v⟩ := gx_all T cA comp N M i
    have hlt : T.heap.size < (gx T cA comp N M i).heap.size := by omega
    have hf : ((gx T cA comp N M i).pushCell (gx_row comp M)).heap[T.heap.size]? = some (gx_out cA N T.heap.size i) := by rw [State.heap_pushCell_of_lt (h := hlt)]; exact f
    have hrs : (gx_row comp M).slots.size = M := arrV_size _ _ _
    refine ⟨?_, by simp [gx, b], ?_, State.heap_setCell_self hf, fun q hq => ?_, fun j hj => ?_⟩
    · simp [gx, State.setCell, a]; omega
    · simp [gx, d, hrs, Nat.succ_mul]; omega
    · show (((gx T cA comp N M i).pushCell (gx_row comp M)).setCell T.heap.size _).heap[q]? = _
      rw [State.heap_setCell_other (Nat.ne_of_gt hq), State.heap_pushCell_of_lt (h := (show q < (gx T cA comp N M i).heap.size by omega))]
      exact u q hq
    · show (((gx T cA comp N M i).pushCell (gx_row comp M)).setCell T.heap.size _).heap[T.heap.size + 1 + j]? = _
      rw [State.heap_setCell_other (show T.heap.size ≠ T.heap.size + 1 + j by omega)]
      rcases Nat.lt_or_ge j i with h | h
      · rw [State.heap_pushCell_of_lt (h := (show T.heap.size + 1 + j < (gx T cA comp N M i).heap.size by omega))]
        exact v j h
      · have e : j = i := by omega
        subst e
        rw [← a]
        exact State.heap_pushCell_size _ _
theorem gx_top (T : State) (f : JFrame) (cA comp : ClassId) (N M : Nat) : ∀ i, gx (T.setTop f) cA comp N M i = (gx T cA comp N M i).setTop f
  | 0 => rfl
  | i + 1 => by simp only [gx, gx_top T f cA comp N M i, State.heap_setTop, State.pushCell_setTop, State.setCell_setTop]
section GXW
variable {E : CtlPost} {e : Env} {d : Bool} {acts : List Action} {s : State}
theorem gx_newArray {c comp : ClassId} {k : Class} {type : FieldType} {len : Nat} {init : Value} (hk : s.vm.classes[c]? = some k) (hkind : k.kind = .array comp type)
    (hlimit : ¬ len > e.platform.arrayLengthLimit) (hheap : ¬ len * componentBytes type > e.platform.maxHeapBytes) (hfit : fits type init = true) (hdef : init.isDefault = true) {Q : Addr → Pre}
    (h1 : s.heap.size < e.platform.maxCells) (h2 : s.slotsUsed + len ≤ e.platform.maxSlots) (hq : Q s.heap.size d acts (s.pushCell { cls := c, slots := Array.replicate len init, vm := .none })) :
    wp (Jvm.newArray c len init) Q E e d acts s := by
  have hfits : ∀ i v, (Array.replicate len init)[i]? = some v → s.fitsSlot c .none i v = true := by
    intro i v hv
    rw [Array.getElem?_replicate] at hv
    split at hv
    · cases hv; simp [State.fitsSlot, State.slotType?, hk, hkind, hfit]
    · cases hv
  have hda : allocActs (Array.replicate len init) s.heap.size acts = acts := by
    have hall : ((Array.replicate len init).all (·.isDefault)) = true := by
      rw [Array.all_replicate]; split <;> simp [hdef]
    unfold allocActs; rw [if_pos hall]
  simp only [Jvm.newArray, Jvm.arrayFits, wp_bind', W.ask, W.ite, hlimit, if_false, wp_pure', W.theClass, hk, hkind, hheap, W.alloc, W.stop, Option.some.injEq, exists_eq_left', Array.size_replicate, hda]
  rw [if_neg (by omega)]
  exact ⟨h1, h2, hfits, hq⟩
theorem gx_make {c comp cc : ClassId} {k kc : Class} {n m : Int32} {N M : Nat} (hk : s.vm.classes[c]? = some k) (hkind : k.kind = .array comp (.array .int)) (hkc : s.vm.classes[comp]? = some kc) (hkindc : kc.kind = .array cc .int)
    (hn : ¬ n < 0) (hm : ¬ m < 0) (hN : n.toNatClampNeg = N) (hM : m.toNatClampNeg = M) (hl1 : ¬ N > e.platform.arrayLengthLimit) (hh1 : ¬ N * componentBytes (.array .int) > e.platform.maxHeapBytes) (hl2 : ¬ M > e.platform.arrayLengthLimit) (hh2 : ¬ M * componentBytes .int > e.platform.maxHeapBytes)
    (hc : s.heap.size + 1 + N ≤ e.platform.maxCells) (hs : s.slotsUsed + N + N * M ≤ e.platform.maxSlots) {Q : Addr → Pre} (hq : ∀ d' acts', Q s.heap.size d' acts' (gx s c comp N M N)) :
    wp (Op.multianewarray.make c [n, m]) Q E e d acts s := by
  have hfind : ([m].find? (· < 0)) = none := by simp [hm]
  rw [Op.multianewarray.make]
  simp only [wp_bind', W.ite, hn, if_false, wp_pure', W.theClass, hk, hkind, Option.some.injEq, exists_eq_left', hN]
  refine gx_newArray hk hkind hl1 hh1 rfl rfl (by omega) (by have := Nat.zero_le (N * M); omega) ?_
  simp only [hfind]
  rw [ite_self, wp_bind', Std.Legacy.Range.forIn_eq_forIn_range']
  have hsz : ([:N] : Std.Legacy.Range).size = N := by simp [Std.Legacy.Range.size]
  rw [hsz]
  show wp (forIn (List.range' 0 N 1) PUnit.unit _) _ E e d acts _
  refine wp_forIn_inv (fun rest s' => ∃ i, i ≤ N ∧ rest = List.range' i (N - i) ∧ s' = gx s c comp N M i) _ _ ⟨0, Nat.zero_le _, rfl, by rw [gx, gx_out_0 c N s.heap.size]⟩ ?_ ?_
  · rintro x rest s' d' acts' Q' ⟨i, hi, hl, rfl⟩ hnext
    have hlt : i < N := by
      rcases Nat.lt_or_ge i N with h | h
      · exact h
      · rw [show N - i = 0 from by omega] at hl; simp at hl
    rw [show N - i = (N - (i + 1)) + 1 from by omega, List.range'_succ] at hl
    obtain ⟨rfl, hrest⟩ := List.cons.inj hl
    obtain ⟨f1, f2, f3, f4, -, -⟩ := gx_all s c comp N M x
    have hmul : x * M + M ≤ N * M := by
      have := Nat.mul_le_mul_right M (show x + 1 ≤ N from hlt)
      rw [Nat.succ_mul] at this; exact this
    simp only [wp_bind']
    rw [Op.multianewarray.make]
    simp only [wp_bind', W.ite, hm, if_false, wp_pure', W.theClass, f2, hkc, hkindc, Option.some.injEq, exists_eq_left', hM]
    refine gx_newArray (by rw [f2]; exact hkc) hkindc hl2 hh2 rfl rfl (by rw [f1]; omega) (by rw [f3]; omega) ?_
    have hlt0 : s.heap.size < (gx s c comp N M x).heap.size := by rw [f1]; omega
    have hrow : ({ cls := comp, slots := Array.replicate M (defaultValue .int), vm := .none } : Cell) = gx_row comp M := arrV_new _ _ _
    simp only [W.writeLoc, wp_pure', hrow]
    refine ⟨gx_out c N s.heap.size x, by rw [State.heap_pushCell_of_lt (h := hlt0)]; exact f4, by simp [gx_out, arrV], by rw [gx_out_size]; exact hlt, ?_, hnext _ _ _ ⟨x + 1, hlt, hrest, ?_⟩⟩
    · simp [gx_out, arrV, State.fitsSlot, State.slotType?, f2, hk, hkind, fits]
    · rw [f1, gx_out_s]; rfl
  · rintro s' d' acts' ⟨i, hi, hl, rfl⟩
    have hiN : i = N := by
      rcases Nat.lt_or_ge i N with h | h
      · rw [show N - i = (N - (i + 1)) + 1 from by omega, List.range'_succ] at hl; cases hl
      · omega
    subst hiN
    simp only [wp_pure']
    exact hq _ _
end GXW
section GXS
variable {p : Program} {l : Launch} {e : Env} {R : Room} {s : State} {m : MethodId} {args : Array Value} {below : List Frame} {meth : Method} {c : Code} {T : State} {locs : List Loc} {cells slots : Nat}
theorem gx_stand (X : Stand p l e R s m args below meth c T locs cells slots) (cA comp : ClassId) (N M : Nat) :
    ∀ i, ∃ L : List Loc, (∀ z ∈ L, z.base = T.heap.size) ∧ Stand p l e R s m args below meth c (gx T cA comp N M i) (locs ++ L) (cells + 1 + i) (slots + N + i * M)
  | 0 => by
    have h := X.pushed (gx_out cA N T.heap.size 0)
    rw [gx_out_size] at h
    exact ⟨[], (fun z hz => by cases hz), by simpa [gx] using h⟩
  | i + 1 => by
    obtain ⟨L, hL, Xi⟩ := gx_stand X cA comp N M i
    obtain ⟨f1, f2, f3, f4, -, -⟩ := gx_all T cA comp N M i
    have hlt0 : T.heap.size < (gx T cA comp N M i).heap.size := by rw [f1]; omega
    have hcell : ((gx T cA comp N M i).pushCell (gx_row comp M)).heap[T.heap.size]? = some (gx_out cA N T.heap.size i) := by rw [State.heap_pushCell_of_lt (h := hlt0)]; exact f4
    have h := (Xi.pushed (gx_row comp M)).stored hcell i (.ref (T.heap.size + 1 + i))
    rw [gx_out_s, show (gx_row comp M).slots.size = M from arrV_size _ _ _] at h
    refine ⟨L ++ [⟨T.heap.size, i⟩], fun z hz => ?_, ?_⟩
    · rcases List.mem_append.mp hz with h1 | h1
      · exact hL z h1
      · rw [List.mem_singleton.mp h1]
    · rw [← List.append_assoc, show slots + N + (i + 1) * M = slots + N + i * M + M by rw [Nat.succ_mul]; omega]
      exact h
end GXS
section GXR
variable {p : Program} {l : Launch} {e : Env} {R : Room} {s : State} {m : MethodId} {args : Array Value} {below : List Frame} {meth : Method} {c : Code} {H : Heap} {locs : List Loc} {cells slots : Nat} {Q : State → Prop}
variable {cc : ByteArray} {pc : Nat} {ls : Array Slot} {rest : List Value} {D : va_G} {cl : List vw_C} {A : Nat → Prop} {tys : List (ClassId × FieldType)} {ws : va_W} {H0 : Heap} {a : Nat}
/-- the row of an array of rows -/
theorem gx_ald (hexec : p.tables.exec = Jvm.exec) (hb : c.code = cc) (hK : va_K D cl tys s) (hP : va_P D cl ws H) (q0 t0 : Nat) {cA : ClassId} {n : Nat} {f : Nat → Nat} (ha : ws[q0]? = some (a, .inl (cA, n, .inr (.inr (.inr (.inr (fun i => some (f i)))))))) (ht : tys[t0]? = some (cA, .array .int)) {i : Int32} (hin : vp_in i n) (hdg : decode cc pc = .ok (.aaload, 1))
    (kk : W p l e R s m args below meth c H locs cells slots Q (F0 m (pc + 1) ls (.ref (f i.toNatClampNeg) :: rest))) : W p l e R s m args below meth c H locs cells slots Q (F0 m pc ls (.int i :: .ref a :: rest)) := by
  have hlt : i.toNatClampNeg < n := by
    rcases Nat.lt_or_ge i.toNatClampNeg n with h | h
    · exact h
    · exact absurd (Or.inr h) hin
  refine W.aald hexec hb (ty := .array .int) (v := .ref (f i.toNatClampNeg)) (hP q0 _ ha) ((hK.2 t0 _ ht).1 n (fun j => va_rf (some (f j)))) rfl (fun q => by cases q) (by show ¬ (i < 0 ∨ (arrV _ _ _).slots.size ≤ _); rw [arrV_size]; exact hin) ?_ rfl rfl hdg kk
  exact arrV_read _ _ hlt
/-- multianewarray of two dimensions of ints -/
theorem gx_new (hexec : p.tables.exec = Jvm.exec) (hb : c.code = cc) {own : String} {index : Nat} (hown : s.vm.findClass own = some m.cls) (hclink : (Cond.classLink own index "[[I").before args s = true) (hover : (Cond.arrayOver (.array .int)).before args s = true) (harr : (Cond.arrayClass .int).before args s = true)
    (hK : va_K D cl tys s) (hP : va_P D cl ws H) (hD : va_D A ws) (hS : va_S A s.heap H locs) (hA : ∀ q, s.heap.size ≤ q → A q) {n k : Int32} {N M : Nat} (hn : ¬ n < 0) (hk : ¬ k < 0) (hN : n.toNatClampNeg = N) (hM : k.toNatClampNeg = M) (hb1 : N ≤ 1000) (hb2 : M ≤ 1000)
    (hcells : cells + (1 + N) ≤ R.cells) (hslots : slots + (N + N * M) ≤ R.slots) (hdg : decode cc pc = .ok (.multianewarray index 2, 4))
    (kk : ∀ (q : Nat) (cA cI : ClassId) (H1 : Heap), va_K D cl (tys ++ [(cA, .array .int), (cI, .int)]) s →
      va_P D cl (ws ++ ((q, .inl (cA, N, .inr (.inr (.inr (.inr (fun i => some (q + 1 + i))))))) :: (List.range N).map (fun i => (q + 1 + i, .inl (cI, M, .inl (fun _ => 0)))))) H1 →
      va_D A (ws ++ ((q, .inl (cA, N, .inr (.inr (.inr (.inr (fun i => some (q + 1 + i))))))) :: (List.range N).map (fun i => (q + 1 + i, .inl (cI, M, .inl (fun _ => 0)))))) → va_S A s.heap H1 locs →
      W p l e R s m args below meth c H1 locs (cells + (1 + N)) (slots + (N + N * M)) Q (F0 m (pc + 4) ls (.ref q :: rest))) :
    W p l e R s m args below meth c H locs cells slots Q (F0 m pc ls (.int k :: .int n :: rest)) := by
  intro T hT X
  have hpl : e.platform.magicAccessors = ({} : Platform).magicAccessors := by rw [X.admits.platform]
  obtain ⟨comp, cA, kA, hcomp, -, hkA, hkindA, hnameA⟩ := arrayOverA_spec hover
  obtain ⟨comp', kC, cc', hcomp', hkC, hkindC⟩ := Cond.arrayClass_spec harr
  have ecomp : comp' = comp := Option.some.inj (hcomp'.symm.trans hcomp)
  subst ecomp
  obtain ⟨c0, hfc0, hcl⟩ := Cond.classLink_spec hown hclink e.platform hpl
  cases Option.some.inj (hnameA.symm.trans hfc0)
  obtain ⟨hg₁, hwarm₁, hready₁⟩ := State.classEntry (e := e) X.warmed hcl
  generalize T.vm.noted m.cls index (.cls cA) = vm₁ at hg₁ hwarm₁ hready₁
  have hal : s.vm.Alike vm₁ := hwarm₁.alike
  obtain ⟨kA₁, hkA₁, heA⟩ := hal.2.2 _ _ hkA
  obtain ⟨kC₁, hkC₁, heC⟩ := hal.2.2 _ _ hkC
  have hkindA₁ : kA₁.kind = .array comp' (.array .int) := by rw [heA]; exact hkindA
  have hkindC₁ : kC₁.kind = .array cc' .int := by rw [heC]; exact hkindC
  have X₁ := X.noted hwarm₁
  obtain ⟨hr1, hr2⟩ := X.roomAbove hcells hslots
  obtain ⟨L, hL, X₂⟩ := gx_stand X₁ cA comp' N M N
  have X₃ : Stand p l e R s m args below meth c (gx (T.setVm vm₁) cA comp' N M N) locs (cells + (1 + N)) (slots + (N + N * M)) := by
    have h := Stand.forget X₂ (fun z hz => by rw [hL z hz]; exact X.same.2.1)
    rw [← Nat.add_assoc, ← Nat.add_assoc]; exact h
  obtain ⟨f1, f2, f3, f4, f5, f6⟩ := gx_all (T.setVm vm₁) cA comp' N M N
  have hsz : (T.setVm vm₁).heap.size = H.size := by show T.heap.size = _; rw [hT]
  have hhp : (T.setVm vm₁).heap = H := hT
  rw [hsz] at f1 f4 f5 f6
  rw [hhp] at f5
  have hK1 : va_K D cl (tys ++ [(cA, .array .int), (comp', .int)]) s := by
    refine hK.app ⟨hK.1, fun j q hq => ?_⟩
    match j, hq with
    | 0, hq => cases hq; exact ⟨fun n z => ⟨fun x => by simp [arrV], kA, hkA, comp', hkindA⟩, hnameA⟩
    | 1, hq => cases hq; exact ⟨fun n z => ⟨fun x => by simp [arrV], kC, hkC, cc', hkindC⟩, hcomp⟩
    | j + 2, hq => simp at hq
  have hnew : va_P D cl ((H.size, .inl (cA, N, .inr (.inr (.inr (.inr (fun i => some (H.size + 1 + i))))))) :: (List.range N).map (fun i => (H.size + 1 + i, .inl (comp', M, .inl (fun _ => 0))))) (gx (T.setVm vm₁) cA comp' N M N).heap := by
    intro j q hq
    match j, hq with
    | 0, hq =>
      cases hq
      show (gx (T.setVm vm₁) cA comp' N M N).heap[H.size]? = some (arrV cA N (fun j => va_rf (some (H.size + 1 + j))))
      rw [f4]
      unfold gx_out arrV
      congr 2
      apply Array.ext
      · simp
      · intro j h1 h2
        have hj : j < N := by simpa using h1
        simp [hj, va_rf]
    | j + 1, hq =>
      rw [List.getElem?_cons_succ, List.getElem?_map] at hq
      obtain ⟨z, hz, rfl⟩ := Option.map_eq_some_iff.mp hq
      obtain ⟨hj, rfl⟩ := List.getElem?_eq_some_iff.mp hz
      rw [List.length_range] at hj
      rw [List.getElem_range]
      exact f6 j hj
  have hold : va_P D cl ws (gx (T.setVm vm₁) cA comp' N M N).heap := hP.kept (fun j q hq => f5 q.1 (hP j q hq).lt)
  have hDnew : va_D A ((H.size, .inl (cA, N, .inr (.inr (.inr (.inr (fun i => some (H.size + 1 + i))))))) :: (List.range N).map (fun i => (H.size + 1 + i, .inl (comp', M, .inl (fun _ => 0))))) := by
    have hk : ∀ (j : Nat) (q : Nat × va_E), ((H.size, .inl (cA, N, .inr (.inr (.inr (.inr (fun i => some (H.size + 1 + i))))))) :: (List.range N).map (fun i => (H.size + 1 + i, .inl (comp', M, .inl (fun _ => 0)))) : va_W)[j]? = some q → q.1 = H.size + j := by
      intro j q hq
      match j, hq with
      | 0, hq => cases hq; rfl
      | j + 1, hq =>
        rw [List.getElem?_cons_succ, List.getElem?_map] at hq
        obtain ⟨z, hz, rfl⟩ := Option.map_eq_some_iff.mp hq
        obtain ⟨hj, rfl⟩ := List.getElem?_eq_some_iff.mp hz
        rw [List.getElem_range]
        show H.size + 1 + j = _
        omega
    refine ⟨fun i j q r hq hr e => ?_, fun j q hq => ?_⟩
    · rw [hk i q hq, hk j r hr] at e; omega
    · rw [hk j q hq]; exact hA _ (by have := hS.1; omega)
  have hDall := hD.app hDnew (fun i j q r hq hr e => by
    have h1 := (hP i q hq).lt
    have h2 : H.size ≤ r.1 := by
      match j, hr with
      | 0, hr => cases hr; exact Nat.le_refl _
      | j + 1, hr =>
        rw [List.getElem?_cons_succ, List.getElem?_map] at hr
        obtain ⟨z, hz, rfl⟩ := Option.map_eq_some_iff.mp hr
        show H.size ≤ H.size + 1 + z
        omega
    omega)
  have hS1 : va_S A s.heap (gx (T.setVm vm₁) cA comp' N M N).heap locs := ⟨by rw [f1]; have := hS.1; omega, fun q h1 h2 => by rw [f5 q (by have := hS.1; omega)]; exact hS.2.1 q h1 h2, hS.2.2⟩
  obtain ⟨t, a1, b1⟩ := kk H.size cA comp' _ hK1 (hold.app hnew) hDall hS1 (gx (T.setVm vm₁) cA comp' N M N) rfl X₃
  refine ⟨t, ?_, b1⟩
  have hl1 : ¬ N > e.platform.arrayLengthLimit := by rw [Launch.admits_arrayLengthLimit X.admits]; omega
  have hh1 : ¬ N * componentBytes (.array .int) > e.platform.maxHeapBytes := by
    rw [Launch.admits_maxHeapBytes X.admits]; show ¬ N * 4 > 536870912; omega
  have hl2 : ¬ M > e.platform.arrayLengthLimit := by rw [Launch.admits_arrayLengthLimit X.admits]; omega
  have hh2 : ¬ M * componentBytes .int > e.platform.maxHeapBytes := by
    rw [Launch.admits_maxHeapBytes X.admits]; show ¬ M * 4 > 536870912; omega
  have hdg' : decode c.code (F0 m pc ls (.int k :: .int n :: rest)).pc = .ok (.multianewarray index 2, 4) := by rw [hb]; exact hdg
  have hat : At T (F0 m pc ls (.int k :: .int n :: rest)).method c below := X.here
  generalize hgg : F0 m pc ls (.int k :: .int n :: rest) = g at hdg' hat ⊢
  have hgm : g.method = m := by rw [← hgg]
  have hgs : g.stack = .int k :: .int n :: rest := by rw [← hgg]
  have hgf : ({ g with pc := g.pc + 4, stack := .ref H.size :: rest } : JFrame) = F0 m (pc + 4) ls (.ref H.size :: rest) := by rw [← hgg]
  subst hgm
  jvm_step X.here [hexec, hdg']
  simp only [Op.multianewarray.sem, wp_bind', W.resolveClassAt_links (State.method?_setTop g X.here.top) hg₁]
  rw [W.popN, if_neg (by decide)]
  refine ⟨g, State.topJava?_setTop' (s := T.setVm vm₁) g X.here.top, [.int n, .int k], rest, rfl, hgs, ?_⟩
  simp only [List.mapM_cons, List.mapM_nil, wp_bind', wp_pure']
  refine gx_make (k := kA₁) (kc := kC₁) (comp := comp') (cc := cc') hkA₁ hkindA₁ hkC₁ hkindC₁ hn hk hN hM hl1 hh1 hl2 hh2 (by show T.heap.size + 1 + _ ≤ _; omega) (by show T.slotsUsed + _ + _ ≤ _; omega) (fun d' acts' => ?_)
  have eS : ((T.setTop g).setVm vm₁).setTop { g with stack := rest } = (T.setVm vm₁).setTop { g with stack := rest } := by
    show ((T.setVm vm₁).setTop g).setTop _ = _
    rw [State.setTop_setTop]
  rw [eS, gx_top]
  simp only [wp_bind', W.mark, W.pushRef, State.topJava?_setTop' _ X₃.here.top, Option.some.injEq, exists_eq_left', State.setTop_setTop, State.heap_setTop]
  intro acts
  simp [jvm, X₃.here.top]
  rw [hT, hgf]
  exact a1
end GXR
end GX
end
section
/-- the words that a method may hand on: those of the tables that look at tables alone -/
def lwG : List Cond := lw_tbl.filter goodWord
theorem inG {i : Nat} {w : Cond} (h : lw_tbl[i]? = some w) (hg : goodWord w = true) : w ∈ lwG := List.mem_filter.mpr ⟨List.mem_of_getElem? h, hg⟩
theorem goodG {w : Cond} (h : w ∈ lwG) : w ∈ lwG ∧ ((w.onTables && w.keeps) = true ∨ ∃ ty, w = .arrayClass ty) := ⟨h, good_of_word (List.mem_filter.mp h).2⟩
theorem gC {c2 : Cond} (h5 : c2 ∈ lwG) : GoodIn lwG (c2 :: lwG) := fun w hw => goodG (by rcases List.mem_cons.mp hw with rfl | h; exact h5; exact h)
theorem gV {own C : String} {idx : Nat} {y : MethodName} {c2 : Cond} (h1 : Cond.methodLink own idx y ∈ lwG) (h2 : Cond.instanceMethod y ∈ lwG) (h3 : Cond.selects C y y ∈ lwG) (h4 : Cond.initialized C ∈ lwG) (h5 : c2 ∈ lwG) : GoodIn lwG (wsV own idx C y (c2 :: lwG)) := by
  intro w hw
  simp only [wsV, List.cons_append, List.nil_append, List.mem_cons] at hw
  rcases hw with rfl | rfl | rfl | rfl | rfl | h
  · exact goodG h1
  · exact goodG h2
  · exact goodG h3
  · exact goodG h4
  · exact goodG h5
  · exact goodG h
theorem gS {own : String} {idx : Nat} {y : MethodName} {c2 : Cond} (h1 : Cond.methodLink own idx y ∈ lwG) (h2 : Cond.static y ∈ lwG) (h4 : Cond.initialized y.cls ∈ lwG) (h5 : c2 ∈ lwG) : GoodIn lwG (va_wsS own idx y (c2 :: lwG)) := by
  intro w hw
  simp only [va_wsS, List.cons_append, List.nil_append, List.mem_cons] at hw
  rcases hw with rfl | rfl | rfl | rfl | h
  · exact goodG h1
  · exact goodG h2
  · exact goodG h4
  · exact goodG h5
  · exact goodG h
def qR0 : String := "ChipForge"
def qT0 : u_T := fun k => match k with
  | 0 => ("ChipForge", "netlist", "LChipForge$Netlist;", true)
  | 1 => ("ChipForge", "channel", "LChipForge$Channel;", true)
  | 2 => ("ChipForge", "drawing", "LChipForge$Drawing;", true)
  | 3 => ("ChipForge", "signals", "LChipForge$Signals;", true)
  | _ => ("ChipForge", "routed", "Z", false)
def qy0 : Nat → FieldType := fun k => match k with
  | 0 => .object "ChipForge$Netlist"
  | 1 => .object "ChipForge$Channel"
  | 2 => .object "ChipForge$Drawing"
  | 3 => .object "ChipForge$Signals"
  | _ => .boolean
abbrev qw0 : List Cond := u_ws qR0 qT0 5
theorem qn0 : ∀ a, a < 5 → ∀ b, b < 5 → a ≠ b → (qT0 a).2.1 ≠ (qT0 b).2.1 := by decide +kernel
theorem qk0 : ∀ k, k < 5 → parseFieldDescriptor (qT0 k).2.2.1 = some (qy0 k) := by decide +kernel
def qR1 : String := "ChipForge$Netlist"
def qT1 : u_T := fun k => match k with
  | 0 => ("ChipForge$Netlist", "gates", "I", false)
  | 1 => ("ChipForge$Netlist", "kind", "[I", true)
  | 2 => ("ChipForge$Netlist", "inputA", "[I", true)
  | 3 => ("ChipForge$Netlist", "inputB", "[I", true)
  | 4 => ("ChipForge$Netlist", "out", "[I", true)
  | 5 => ("ChipForge$Netlist", "row", "[I", true)
  | 6 => ("ChipForge$Netlist", "firstColumn", "[I", true)
  | 7 => ("ChipForge$Netlist", "nextColumn", "[I", true)
  | 8 => ("ChipForge$Netlist", "pinNet", "[[I", true)
  | 9 => ("ChipForge$Netlist", "rowPins", "[[I", true)
  | 10 => ("ChipForge$Netlist", "leftPin", "[I", true)
  | 11 => ("ChipForge$Netlist", "rightPin", "[I", true)
  | _ => ("ChipForge$Netlist", "driver", "[I", true)
def qy1 : Nat → FieldType := fun k => match k with
  | 0 => .int
  | 1 => .array .int
  | 2 => .array .int
  | 3 => .array .int
  | 4 => .array .int
  | 5 => .array .int
  | 6 => .array .int
  | 7 => .array .int
  | 8 => .array (.array .int)
  | 9 => .array (.array .int)
  | 10 => .array .int
  | 11 => .array .int
  | _ => .array .int
abbrev qw1 : List Cond := u_ws qR1 qT1 13
theorem qn1 : ∀ a, a < 13 → ∀ b, b < 13 → a ≠ b → (qT1 a).2.1 ≠ (qT1 b).2.1 := by decide +kernel
theorem qk1 : ∀ k, k < 13 → parseFieldDescriptor (qT1 k).2.2.1 = some (qy1 k) := by decide +kernel
def qR2 : String := "ChipForge$Channel"
def qT2 : u_T := fun k => match k with
  | 0 => ("ChipForge$Channel", "netlist", "LChipForge$Netlist;", true)
  | 1 => ("ChipForge$Channel", "tracks", "I", false)
  | _ => ("ChipForge$Channel", "track", "[I", true)
def qy2 : Nat → FieldType := fun k => match k with
  | 0 => .object "ChipForge$Netlist"
  | 1 => .int
  | _ => .array .int
abbrev qw2 : List Cond := u_ws qR2 qT2 3
theorem qn2 : ∀ a, a < 3 → ∀ b, b < 3 → a ≠ b → (qT2 a).2.1 ≠ (qT2 b).2.1 := by decide +kernel
theorem qk2 : ∀ k, k < 3 → parseFieldDescriptor (qT2 k).2.2.1 = some (qy2 k) := by decide +kernel
def qR3 : String := "ChipForge$Drawing"
def qT3 : u_T := fun k => match k with
  | 0 => ("ChipForge$Drawing", "netlist", "LChipForge$Netlist;", true)
  | 1 => ("ChipForge$Drawing", "channel", "LChipForge$Channel;", true)
  | 2 => ("ChipForge$Drawing", "points", "[[I", true)
  | 3 => ("ChipForge$Drawing", "lesser", "[I", true)
  | 4 => ("ChipForge$Drawing", "endNet", "[I", true)
  | 5 => ("ChipForge$Drawing", "endGroup", "[I", true)
  | _ => ("ChipForge$Drawing", "ends", "I", false)
def qy3 : Nat → FieldType := fun k => match k with
  | 0 => .object "ChipForge$Netlist"
  | 1 => .object "ChipForge$Channel"
  | 2 => .array (.array .int)
  | 3 => .array .int
  | 4 => .array .int
  | 5 => .array .int
  | _ => .int
abbrev qw3 : List Cond := u_ws qR3 qT3 7
theorem qn3 : ∀ a, a < 7 → ∀ b, b < 7 → a ≠ b → (qT3 a).2.1 ≠ (qT3 b).2.1 := by decide +kernel
theorem qk3 : ∀ k, k < 7 → parseFieldDescriptor (qT3 k).2.2.1 = some (qy3 k) := by decide +kernel
def qR4 : String := "ChipForge$Signals"
def qT4 : u_T := fun k => match k with
  | 0 => ("ChipForge$Signals", "netlist", "LChipForge$Netlist;", true)
  | 1 => ("ChipForge$Signals", "channel", "LChipForge$Channel;", true)
  | 2 => ("ChipForge$Signals", "times", "[D", true)
  | 3 => ("ChipForge$Signals", "arrivals", "[D", true)
  | 4 => ("ChipForge$Signals", "order", "[I", true)
  | 5 => ("ChipForge$Signals", "ordered", "I", false)
  | _ => ("ChipForge$Signals", "settledNets", "I", false)
def qy4 : Nat → FieldType := fun k => match k with
  | 0 => .object "ChipForge$Netlist"
  | 1 => .object "ChipForge$Channel"
  | 2 => .array .double
  | 3 => .array .double
  | 4 => .array .int
  | 5 => .int
  | _ => .int
abbrev qw4 : List Cond := u_ws qR4 qT4 7
theorem qn4 : ∀ a, a < 7 → ∀ b, b < 7 → a ≠ b → (qT4 a).2.1 ≠ (qT4 b).2.1 := by decide +kernel
theorem qk4 : ∀ k, k < 7 → parseFieldDescriptor (qT4 k).2.2.1 = some (qy4 k) := by decide +kernel
def qR5 : String := "ChipForgeModel"
def qT5 : u_T := fun k => match k with
  | 0 => ("ChipForgeModel", "thrown", "I", false)
  | 1 => ("ChipForgeModel", "gates", "I", false)
  | 2 => ("ChipForgeModel", "tracks", "I", false)
  | 3 => ("ChipForgeModel", "kind", "[I", true)
  | 4 => ("ChipForgeModel", "first", "[I", true)
  | 5 => ("ChipForgeModel", "second", "[I", true)
  | 6 => ("ChipForgeModel", "out", "[I", true)
  | 7 => ("ChipForgeModel", "row", "[I", true)
  | 8 => ("ChipForgeModel", "begin", "[I", true)
  | 9 => ("ChipForgeModel", "next", "[I", true)
  | 10 => ("ChipForgeModel", "time", "[D", true)
  | 11 => ("ChipForgeModel", "track", "[I", true)
  | 12 => ("ChipForgeModel", "drawing", "[I", true)
  | 13 => ("ChipForgeModel", "least", "[I", true)
  | 14 => ("ChipForgeModel", "arrival", "[D", true)
  | _ => ("ChipForgeModel", "known", "[Z", true)
def qy5 : Nat → FieldType := fun k => match k with
  | 0 => .int
  | 1 => .int
  | 2 => .int
  | 3 => .array .int
  | 4 => .array .int
  | 5 => .array .int
  | 6 => .array .int
  | 7 => .array .int
  | 8 => .array .int
  | 9 => .array .int
  | 10 => .array .double
  | 11 => .array .int
  | 12 => .array .int
  | 13 => .array .int
  | 14 => .array .double
  | _ => .array .boolean
abbrev qw5 : List Cond := u_ws qR5 qT5 16
theorem qn5 : ∀ a, a < 16 → ∀ b, b < 16 → a ≠ b → (qT5 a).2.1 ≠ (qT5 b).2.1 := by decide +kernel
theorem qk5 : ∀ k, k < 16 → parseFieldDescriptor (qT5 k).2.2.1 = some (qy5 k) := by decide +kernel
abbrev vwCl : List vw_C := [(qR0, qT0, 5), (qR1, qT1, 13), (qR2, qT2, 3), (qR3, qT3, 7), (qR4, qT4, 7), (qR5, qT5, 16)]
def qRL : String := "ChipForgeLaw"
abbrev b_L_law : ByteArray := code
def y_L_law : MethodName := ⟨qRL, "law", "([I)Z"⟩
abbrev b_F_init : ByteArray := prog_1_method_1_code
def y_F_init : MethodName := ⟨qR0, "<init>", "()V"⟩
abbrev b_F_gate : ByteArray := prog_1_method_2_code
def y_F_gate : MethodName := ⟨qR0, "gate", "(IIIII)I"⟩
abbrev b_F_clear : ByteArray := prog_1_method_3_code
def y_F_clear : MethodName := ⟨qR0, "clear", "()I"⟩
abbrev b_F_route : ByteArray := prog_1_method_4_code
def y_F_route : MethodName := ⟨qR0, "route", "()I"⟩
abbrev b_F_column : ByteArray := prog_1_method_5_code
def y_F_column : MethodName := ⟨qR0, "column", "(II)I"⟩
abbrev b_F_net : ByteArray := prog_1_method_6_code
def y_F_net : MethodName := ⟨qR0, "net", "(II)I"⟩
abbrev b_F_mask : ByteArray := prog_1_method_7_code
def y_F_mask : MethodName := ⟨qR0, "mask", "(II)I"⟩
abbrev b_F_damage : ByteArray := prog_1_method_8_code
def y_F_damage : MethodName := ⟨qR0, "damage", "(III)I"⟩
abbrev b_F_joined : ByteArray := prog_1_method_9_code
def y_F_joined : MethodName := ⟨qR0, "joined", "(IIII)Z"⟩
abbrev b_F_faults : ByteArray := prog_1_method_10_code
def y_F_faults : MethodName := ⟨qR0, "faults", "(Z)I"⟩
abbrev b_F_time : ByteArray := prog_1_method_11_code
def y_F_time : MethodName := ⟨qR0, "time", "(ID)D"⟩
abbrev b_F_delay : ByteArray := prog_1_method_12_code
def y_F_delay : MethodName := ⟨qR0, "delay", "(I)D"⟩
abbrev b_F_arrival : ByteArray := prog_1_method_13_code
def y_F_arrival : MethodName := ⟨qR0, "arrival", "(I)D"⟩
abbrev b_F_simulate : ByteArray := prog_1_method_14_code
def y_F_simulate : MethodName := ⟨qR0, "simulate", "(I)I"⟩
abbrev b_F_count : ByteArray := prog_1_method_15_code
def y_F_count : MethodName := ⟨qR0, "count", "(I)I"⟩
abbrev b_F_needNet : ByteArray := prog_1_method_16_code
def y_F_needNet : MethodName := ⟨qR0, "needNet", "(I)V"⟩
abbrev b_F_needRouted : ByteArray := prog_1_method_17_code
def y_F_needRouted : MethodName := ⟨qR0, "needRouted", "()V"⟩
abbrev b_F_needPin : ByteArray := prog_1_method_18_code
def y_F_needPin : MethodName := ⟨qR0, "needPin", "(II)V"⟩
abbrev b_F_needPoint : ByteArray := prog_1_method_19_code
def y_F_needPoint : MethodName := ⟨qR0, "needPoint", "(II)V"⟩
abbrev b_F_within : ByteArray := prog_1_method_20_code
def y_F_within : MethodName := ⟨qR0, "within", "(II)Z"⟩
abbrev b_F_hasOneInput : ByteArray := prog_1_method_21_code
def y_F_hasOneInput : MethodName := ⟨qR0, "hasOneInput", "(I)Z"⟩
abbrev b_F_pinsOfKind : ByteArray := prog_1_method_22_code
def y_F_pinsOfKind : MethodName := ⟨qR0, "pinsOfKind", "(I)I"⟩
abbrev b_M_init : ByteArray := prog_7_method_1_code
def y_M_init : MethodName := ⟨qR5, "<init>", "()V"⟩
abbrev b_M_thrown : ByteArray := prog_7_method_2_code
def y_M_thrown : MethodName := ⟨qR5, "thrown", "()I"⟩
abbrev b_M_in : ByteArray := prog_7_method_3_code
def y_M_in : MethodName := ⟨qR5, "in", "(III)Z"⟩
abbrev b_M_refuse : ByteArray := prog_7_method_4_code
def y_M_refuse : MethodName := ⟨qR5, "refuse", "(I)I"⟩
abbrev b_M_pinsOf : ByteArray := prog_7_method_5_code
def y_M_pinsOf : MethodName := ⟨qR5, "pinsOf", "(I)I"⟩
abbrev b_M_netOf : ByteArray := prog_7_method_6_code
def y_M_netOf : MethodName := ⟨qR5, "netOf", "(II)I"⟩
abbrev b_M_driver : ByteArray := prog_7_method_7_code
def y_M_driver : MethodName := ⟨qR5, "driver", "(I)I"⟩
abbrev b_M_gate : ByteArray := prog_7_method_8_code
def y_M_gate : MethodName := ⟨qR5, "gate", "(IIIII)I"⟩
abbrev b_M_clear : ByteArray := prog_7_method_9_code
def y_M_clear : MethodName := ⟨qR5, "clear", "()I"⟩
abbrev b_M_pins : ByteArray := prog_7_method_10_code
def y_M_pins : MethodName := ⟨qR5, "pins", "(I)I"⟩
abbrev b_M_hasPad : ByteArray := prog_7_method_11_code
def y_M_hasPad : MethodName := ⟨qR5, "hasPad", "(I)Z"⟩
abbrev b_M_isWired : ByteArray := prog_7_method_12_code
def y_M_isWired : MethodName := ⟨qR5, "isWired", "(I)Z"⟩
abbrev b_M_left : ByteArray := prog_7_method_13_code
def y_M_left : MethodName := ⟨qR5, "left", "(I)I"⟩
abbrev b_M_right : ByteArray := prog_7_method_14_code
def y_M_right : MethodName := ⟨qR5, "right", "(I)I"⟩
abbrev b_M_at : ByteArray := prog_7_method_15_code
def y_M_at : MethodName := ⟨qR5, "at", "(II)I"⟩
abbrev b_M_isFree : ByteArray := prog_7_method_16_code
def y_M_isFree : MethodName := ⟨qR5, "isFree", "(II)Z"⟩
abbrev b_M_waiting : ByteArray := prog_7_method_17_code
def y_M_waiting : MethodName := ⟨qR5, "waiting", "()I"⟩
abbrev b_M_give : ByteArray := prog_7_method_18_code
def y_M_give : MethodName := ⟨qR5, "give", "(I)I"⟩
abbrev b_M_route : ByteArray := prog_7_method_19_code
def y_M_route : MethodName := ⟨qR5, "route", "()I"⟩
abbrev b_M_mark : ByteArray := prog_7_method_20_code
def y_M_mark : MethodName := ⟨qR5, "mark", "(III)V"⟩
abbrev b_M_draw : ByteArray := prog_7_method_21_code
def y_M_draw : MethodName := ⟨qR5, "draw", "()V"⟩
abbrev b_M_isPin : ByteArray := prog_7_method_22_code
def y_M_isPin : MethodName := ⟨qR5, "isPin", "(II)Z"⟩
abbrev b_M_column : ByteArray := prog_7_method_23_code
def y_M_column : MethodName := ⟨qR5, "column", "(II)I"⟩
abbrev b_M_lengthOf : ByteArray := prog_7_method_24_code
def y_M_lengthOf : MethodName := ⟨qR5, "lengthOf", "(I)I"⟩
abbrev b_M_net : ByteArray := prog_7_method_25_code
def y_M_net : MethodName := ⟨qR5, "net", "(II)I"⟩
abbrev b_M_isPoint : ByteArray := prog_7_method_26_code
def y_M_isPoint : MethodName := ⟨qR5, "isPoint", "(II)Z"⟩
abbrev b_M_mask : ByteArray := prog_7_method_27_code
def y_M_mask : MethodName := ⟨qR5, "mask", "(II)I"⟩
abbrev b_M_damage : ByteArray := prog_7_method_28_code
def y_M_damage : MethodName := ⟨qR5, "damage", "(III)I"⟩
abbrev b_M_join : ByteArray := prog_7_method_29_code
def y_M_join : MethodName := ⟨qR5, "join", "(II)Z"⟩
abbrev b_M_find : ByteArray := prog_7_method_30_code
def y_M_find : MethodName := ⟨qR5, "find", "()V"⟩
abbrev b_M_joinAt : ByteArray := prog_7_method_31_code
def y_M_joinAt : MethodName := ⟨qR5, "joinAt", "(II)Z"⟩
abbrev b_M_pinAt : ByteArray := prog_7_method_32_code
def y_M_pinAt : MethodName := ⟨qR5, "pinAt", "(II)I"⟩
abbrev b_M_joined : ByteArray := prog_7_method_33_code
def y_M_joined : MethodName := ⟨qR5, "joined", "(IIII)Z"⟩
abbrev b_M_place : ByteArray := prog_7_method_34_code
def y_M_place : MethodName := ⟨qR5, "place", "(II)I"⟩
abbrev b_M_isOpen : ByteArray := prog_7_method_35_code
def y_M_isOpen : MethodName := ⟨qR5, "isOpen", "(I)Z"⟩
abbrev b_M_isShort : ByteArray := prog_7_method_36_code
def y_M_isShort : MethodName := ⟨qR5, "isShort", "(II)Z"⟩
abbrev b_M_faults : ByteArray := prog_7_method_37_code
def y_M_faults : MethodName := ⟨qR5, "faults", "(Z)I"⟩
abbrev b_M_time : ByteArray := prog_7_method_38_code
def y_M_time : MethodName := ⟨qR5, "time", "(ID)D"⟩
abbrev b_M_delayOf : ByteArray := prog_7_method_39_code
def y_M_delayOf : MethodName := ⟨qR5, "delayOf", "(I)D"⟩
abbrev b_M_delay : ByteArray := prog_7_method_40_code
def y_M_delay : MethodName := ⟨qR5, "delay", "(I)D"⟩
abbrev b_M_isReady : ByteArray := prog_7_method_41_code
def y_M_isReady : MethodName := ⟨qR5, "isReady", "(I)Z"⟩
abbrev b_M_arrival : ByteArray := prog_7_method_42_code
def y_M_arrival : MethodName := ⟨qR5, "arrival", "(I)D"⟩
abbrev b_M_simulate : ByteArray := prog_7_method_43_code
def y_M_simulate : MethodName := ⟨qR5, "simulate", "(I)I"⟩
abbrev b_M_count : ByteArray := prog_7_method_44_code
def y_M_count : MethodName := ⟨qR5, "count", "(I)I"⟩
abbrev b_C_init : ByteArray := prog_2_method_1_code
def y_C_init : MethodName := ⟨qR2, "<init>", "(LChipForge$Netlist;)V"⟩
abbrev b_C_assignTracks : ByteArray := prog_2_method_2_code
def y_C_assignTracks : MethodName := ⟨qR2, "assignTracks", "()V"⟩
abbrev b_C_fillTrack : ByteArray := prog_2_method_3_code
def y_C_fillTrack : MethodName := ⟨qR2, "fillTrack", "(I)I"⟩
abbrev b_C_isFreeFromAbove : ByteArray := prog_2_method_4_code
def y_C_isFreeFromAbove : MethodName := ⟨qR2, "isFreeFromAbove", "(II)Z"⟩
abbrev b_C_lines : ByteArray := prog_2_method_5_code
def y_C_lines : MethodName := ⟨qR2, "lines", "()I"⟩
abbrev b_C_wireLength : ByteArray := prog_2_method_6_code
def y_C_wireLength : MethodName := ⟨qR2, "wireLength", "(I)I"⟩
abbrev b_C_wireDelay : ByteArray := prog_2_method_7_code
def y_C_wireDelay : MethodName := ⟨qR2, "wireDelay", "(I)D"⟩
abbrev b_D_init : ByteArray := prog_3_method_1_code
def y_D_init : MethodName := ⟨qR3, "<init>", "(LChipForge$Netlist;LChipForge$Channel;)V"⟩
abbrev b_D_draw : ByteArray := prog_3_method_2_code
def y_D_draw : MethodName := ⟨qR3, "draw", "()V"⟩
abbrev b_D_drawBars : ByteArray := prog_3_method_3_code
def y_D_drawBars : MethodName := ⟨qR3, "drawBars", "(I)V"⟩
abbrev b_D_drawPin : ByteArray := prog_3_method_4_code
def y_D_drawPin : MethodName := ⟨qR3, "drawPin", "(II)V"⟩
abbrev b_D_pointsWith : ByteArray := prog_3_method_5_code
def y_D_pointsWith : MethodName := ⟨qR3, "pointsWith", "(I)I"⟩
abbrev b_D_findGroups : ByteArray := prog_3_method_6_code
def y_D_findGroups : MethodName := ⟨qR3, "findGroups", "()V"⟩
abbrev b_D_joinAt : ByteArray := prog_3_method_7_code
def y_D_joinAt : MethodName := ⟨qR3, "joinAt", "(II)V"⟩
abbrev b_D_spot : ByteArray := prog_3_method_8_code
def y_D_spot : MethodName := ⟨qR3, "spot", "(III)I"⟩
abbrev b_D_join : ByteArray := prog_3_method_9_code
def y_D_join : MethodName := ⟨qR3, "join", "(II)V"⟩
abbrev b_D_group : ByteArray := prog_3_method_10_code
def y_D_group : MethodName := ⟨qR3, "group", "(I)I"⟩
abbrev b_D_groupOfRow : ByteArray := prog_3_method_11_code
def y_D_groupOfRow : MethodName := ⟨qR3, "groupOfRow", "(II)I"⟩
abbrev b_D_groupOfPin : ByteArray := prog_3_method_12_code
def y_D_groupOfPin : MethodName := ⟨qR3, "groupOfPin", "(II)I"⟩
abbrev b_D_collectEnds : ByteArray := prog_3_method_13_code
def y_D_collectEnds : MethodName := ⟨qR3, "collectEnds", "()V"⟩
abbrev b_D_addPinEnd : ByteArray := prog_3_method_14_code
def y_D_addPinEnd : MethodName := ⟨qR3, "addPinEnd", "(II)V"⟩
abbrev b_D_addEnd : ByteArray := prog_3_method_15_code
def y_D_addEnd : MethodName := ⟨qR3, "addEnd", "(II)V"⟩
abbrev b_D_openNets : ByteArray := prog_3_method_16_code
def y_D_openNets : MethodName := ⟨qR3, "openNets", "()I"⟩
abbrev b_D_shortPairs : ByteArray := prog_3_method_17_code
def y_D_shortPairs : MethodName := ⟨qR3, "shortPairs", "()I"⟩
abbrev b_D_netsJoinedWith : ByteArray := prog_3_method_18_code
def y_D_netsJoinedWith : MethodName := ⟨qR3, "netsJoinedWith", "(I)I"⟩
abbrev b_D_netsInGroup : ByteArray := prog_3_method_19_code
def y_D_netsInGroup : MethodName := ⟨qR3, "netsInGroup", "(I)I"⟩
abbrev b_N_init : ByteArray := prog_4_method_1_code
def y_N_init : MethodName := ⟨qR1, "<init>", "()V"⟩
abbrev b_N_removeAll : ByteArray := prog_4_method_2_code
def y_N_removeAll : MethodName := ⟨qR1, "removeAll", "()V"⟩
abbrev b_N_hasRoom : ByteArray := prog_4_method_3_code
def y_N_hasRoom : MethodName := ⟨qR1, "hasRoom", "(II)Z"⟩
abbrev b_N_add : ByteArray := prog_4_method_4_code
def y_N_add : MethodName := ⟨qR1, "add", "(IIIII)I"⟩
abbrev b_N_addPin : ByteArray := prog_4_method_5_code
def y_N_addPin : MethodName := ⟨qR1, "addPin", "(III)V"⟩
abbrev b_N_hasPin : ByteArray := prog_4_method_6_code
def y_N_hasPin : MethodName := ⟨qR1, "hasPin", "(II)Z"⟩
abbrev b_N_pinColumn : ByteArray := prog_4_method_7_code
def y_N_pinColumn : MethodName := ⟨qR1, "pinColumn", "(II)I"⟩
abbrev b_N_isDriven : ByteArray := prog_4_method_8_code
def y_N_isDriven : MethodName := ⟨qR1, "isDriven", "(I)Z"⟩
abbrev b_N_pins : ByteArray := prog_4_method_9_code
def y_N_pins : MethodName := ⟨qR1, "pins", "(I)I"⟩
abbrev b_N_hasPad : ByteArray := prog_4_method_10_code
def y_N_hasPad : MethodName := ⟨qR1, "hasPad", "(I)Z"⟩
abbrev b_N_isWired : ByteArray := prog_4_method_11_code
def y_N_isWired : MethodName := ⟨qR1, "isWired", "(I)Z"⟩
abbrev b_N_wiredNets : ByteArray := prog_4_method_12_code
def y_N_wiredNets : MethodName := ⟨qR1, "wiredNets", "()I"⟩
abbrev b_N_leftEnd : ByteArray := prog_4_method_13_code
def y_N_leftEnd : MethodName := ⟨qR1, "leftEnd", "(I)I"⟩
abbrev b_N_rightEnd : ByteArray := prog_4_method_14_code
def y_N_rightEnd : MethodName := ⟨qR1, "rightEnd", "(I)I"⟩
abbrev b_N_isAbove : ByteArray := prog_4_method_15_code
def y_N_isAbove : MethodName := ⟨qR1, "isAbove", "(II)Z"⟩
abbrev b_S_init : ByteArray := prog_5_method_1_code
def y_S_init : MethodName := ⟨qR4, "<init>", "(LChipForge$Netlist;LChipForge$Channel;)V"⟩
abbrev b_S_orderGates : ByteArray := prog_5_method_2_code
def y_S_orderGates : MethodName := ⟨qR4, "orderGates", "()V"⟩
abbrev b_S_isReady : ByteArray := prog_5_method_3_code
def y_S_isReady : MethodName := ⟨qR4, "isReady", "(I)Z"⟩
abbrev b_S_isSettled : ByteArray := prog_5_method_4_code
def y_S_isSettled : MethodName := ⟨qR4, "isSettled", "(I)Z"⟩
abbrev b_S_allSettled : ByteArray := prog_5_method_5_code
def y_S_allSettled : MethodName := ⟨qR4, "allSettled", "()Z"⟩
abbrev b_S_arrivalAt : ByteArray := prog_5_method_6_code
def y_S_arrivalAt : MethodName := ⟨qR4, "arrivalAt", "(I)D"⟩
abbrev b_S_arrivalBehind : ByteArray := prog_5_method_7_code
def y_S_arrivalBehind : MethodName := ⟨qR4, "arrivalBehind", "(I)D"⟩
abbrev b_S_levels : ByteArray := prog_5_method_8_code
def y_S_levels : MethodName := ⟨qR4, "levels", "(I)I"⟩
abbrev b_S_bit : ByteArray := prog_5_method_9_code
def y_S_bit : MethodName := ⟨qR4, "bit", "(II)I"⟩
abbrev b_S_output : ByteArray := prog_5_method_10_code
def y_S_output : MethodName := ⟨qR4, "output", "(III)I"⟩
abbrev b_L_gate : ByteArray := method_3_code
def y_L_gate : MethodName := ⟨qRL, "gate", "(LChipForge;IIIII[J)I"⟩
abbrev b_L_route : ByteArray := method_4_code
def y_L_route : MethodName := ⟨qRL, "route", "(LChipForge;[J)I"⟩
abbrev b_L_column : ByteArray := method_5_code
def y_L_column : MethodName := ⟨qRL, "column", "(LChipForge;II[J)I"⟩
abbrev b_L_net : ByteArray := method_6_code
def y_L_net : MethodName := ⟨qRL, "net", "(LChipForge;II[J)I"⟩
abbrev b_L_mask : ByteArray := method_7_code
def y_L_mask : MethodName := ⟨qRL, "mask", "(LChipForge;II[J)I"⟩
abbrev b_L_damage : ByteArray := method_8_code
def y_L_damage : MethodName := ⟨qRL, "damage", "(LChipForge;III[J)I"⟩
abbrev b_L_joined : ByteArray := method_9_code
def y_L_joined : MethodName := ⟨qRL, "joined", "(LChipForge;IIII[J)I"⟩
abbrev b_L_faults : ByteArray := method_10_code
def y_L_faults : MethodName := ⟨qRL, "faults", "(LChipForge;Z[J)I"⟩
abbrev b_L_time : ByteArray := method_11_code
def y_L_time : MethodName := ⟨qRL, "time", "(LChipForge;ID[D)I"⟩
abbrev b_L_delay : ByteArray := method_12_code
def y_L_delay : MethodName := ⟨qRL, "delay", "(LChipForge;I[D)I"⟩
abbrev b_L_arrival : ByteArray := method_13_code
def y_L_arrival : MethodName := ⟨qRL, "arrival", "(LChipForge;I[D)I"⟩
abbrev b_L_simulate : ByteArray := method_14_code
def y_L_simulate : MethodName := ⟨qRL, "simulate", "(LChipForge;I[J)I"⟩
abbrev b_L_count : ByteArray := method_15_code
def y_L_count : MethodName := ⟨qRL, "count", "(LChipForge;I[J)I"⟩
abbrev b_JI_bitCount : ByteArray := prog_13_method_49_code
def y_JI_bitCount : MethodName := ⟨"java/lang/Integer", "bitCount", "(I)I"⟩
abbrev b_JA_fill : ByteArray := prog_19_method_103_code
def y_JA_fill : MethodName := ⟨"java/util/Arrays", "fill", "([II)V"⟩
theorem qi0 : ∀ w ∈ qw0, w ∈ lwG := by decide +kernel
theorem qi1 : ∀ w ∈ qw1, w ∈ lwG := by decide +kernel
theorem qi2 : ∀ w ∈ qw2, w ∈ lwG := by decide +kernel
theorem qi3 : ∀ w ∈ qw3, w ∈ lwG := by decide +kernel
theorem qi4 : ∀ w ∈ qw4, w ∈ lwG := by decide +kernel
theorem qi5 : ∀ w ∈ qw5, w ∈ lwG := by decide +kernel
end
section
theorem d_F_init_0 : decode b_F_init 0 = .ok (.aload_n 0, 1) := by decide +kernel
theorem d_F_init_1 : decode b_F_init 1 = .ok (.invokespecial 3, 3) := by decide +kernel
theorem d_F_init_4 : decode b_F_init 4 = .ok (.aload_n 0, 1) := by decide +kernel
theorem d_F_init_5 : decode b_F_init 5 = .ok (.new 9, 3) := by decide +kernel
theorem d_F_init_8 : decode b_F_init 8 = .ok (.dup, 1) := by decide +kernel
theorem d_F_init_9 : decode b_F_init 9 = .ok (.invokespecial 11, 3) := by decide +kernel
theorem d_F_init_12 : decode b_F_init 12 = .ok (.putfield 12, 3) := by decide +kernel
theorem d_F_init_15 : decode b_F_init 15 = .ok (.aload_n 0, 1) := by decide +kernel
theorem d_F_init_16 : decode b_F_init 16 = .ok (.new 16, 3) := by decide +kernel
theorem d_F_init_19 : decode b_F_init 19 = .ok (.dup, 1) := by decide +kernel
theorem d_F_init_20 : decode b_F_init 20 = .ok (.aload_n 0, 1) := by decide +kernel
theorem d_F_init_21 : decode b_F_init 21 = .ok (.getfield 12, 3) := by decide +kernel
theorem d_F_init_24 : decode b_F_init 24 = .ok (.invokespecial 18, 3) := by decide +kernel
theorem d_F_init_27 : decode b_F_init 27 = .ok (.putfield 21, 3) := by decide +kernel
theorem d_F_init_30 : decode b_F_init 30 = .ok (.aload_n 0, 1) := by decide +kernel
theorem d_F_init_31 : decode b_F_init 31 = .ok (.new 25, 3) := by decide +kernel
theorem d_F_init_34 : decode b_F_init 34 = .ok (.dup, 1) := by decide +kernel
theorem d_F_init_35 : decode b_F_init 35 = .ok (.aload_n 0, 1) := by decide +kernel
theorem d_F_init_36 : decode b_F_init 36 = .ok (.getfield 12, 3) := by decide +kernel
theorem d_F_init_39 : decode b_F_init 39 = .ok (.aload_n 0, 1) := by decide +kernel
theorem d_F_init_40 : decode b_F_init 40 = .ok (.getfield 21, 3) := by decide +kernel
theorem d_F_init_43 : decode b_F_init 43 = .ok (.invokespecial 27, 3) := by decide +kernel
theorem d_F_init_46 : decode b_F_init 46 = .ok (.putfield 30, 3) := by decide +kernel
theorem d_F_init_49 : decode b_F_init 49 = .ok (.aload_n 0, 1) := by decide +kernel
theorem d_F_init_50 : decode b_F_init 50 = .ok (.new 34, 3) := by decide +kernel
theorem d_F_init_53 : decode b_F_init 53 = .ok (.dup, 1) := by decide +kernel
theorem d_F_init_54 : decode b_F_init 54 = .ok (.aload_n 0, 1) := by decide +kernel
theorem d_F_init_55 : decode b_F_init 55 = .ok (.getfield 12, 3) := by decide +kernel
theorem d_F_init_58 : decode b_F_init 58 = .ok (.aload_n 0, 1) := by decide +kernel
theorem d_F_init_59 : decode b_F_init 59 = .ok (.getfield 21, 3) := by decide +kernel
theorem d_F_init_62 : decode b_F_init 62 = .ok (.invokespecial 36, 3) := by decide +kernel
theorem d_F_init_65 : decode b_F_init 65 = .ok (.putfield 37, 3) := by decide +kernel
theorem d_F_init_68 : decode b_F_init 68 = .ok (.aload_n 0, 1) := by decide +kernel
theorem d_F_init_69 : decode b_F_init 69 = .ok (.iconst 0, 1) := by decide +kernel
theorem d_F_init_70 : decode b_F_init 70 = .ok (.putfield 41, 3) := by decide +kernel
theorem d_F_init_73 : decode b_F_init 73 = .ok (.return_, 1) := by decide +kernel
theorem d_F_gate_0 : decode b_F_gate 0 = .ok (.iload_n 1, 1) := by decide +kernel
theorem d_F_gate_1 : decode b_F_gate 1 = .ok (.iconst 4, 1) := by decide +kernel
theorem d_F_gate_2 : decode b_F_gate 2 = .ok (.invokestatic 45, 3) := by decide +kernel
theorem d_F_gate_5 : decode b_F_gate 5 = .ok (.ifCond .eq 31, 3) := by decide +kernel
theorem d_F_gate_8 : decode b_F_gate 8 = .ok (.iload_n 2, 1) := by decide +kernel
theorem d_F_gate_9 : decode b_F_gate 9 = .ok (.bipush 12, 2) := by decide +kernel
theorem d_F_gate_11 : decode b_F_gate 11 = .ok (.invokestatic 45, 3) := by decide +kernel
theorem d_F_gate_14 : decode b_F_gate 14 = .ok (.ifCond .eq 22, 3) := by decide +kernel
theorem d_F_gate_17 : decode b_F_gate 17 = .ok (.iload 4, 2) := by decide +kernel
theorem d_F_gate_19 : decode b_F_gate 19 = .ok (.bipush 12, 2) := by decide +kernel
theorem d_F_gate_21 : decode b_F_gate 21 = .ok (.invokestatic 45, 3) := by decide +kernel
theorem d_F_gate_24 : decode b_F_gate 24 = .ok (.ifCond .eq 12, 3) := by decide +kernel
theorem d_F_gate_27 : decode b_F_gate 27 = .ok (.iload 5, 2) := by decide +kernel
theorem d_F_gate_29 : decode b_F_gate 29 = .ok (.iconst 2, 1) := by decide +kernel
theorem d_F_gate_30 : decode b_F_gate 30 = .ok (.invokestatic 45, 3) := by decide +kernel
theorem d_F_gate_33 : decode b_F_gate 33 = .ok (.ifCond .ne 13, 3) := by decide +kernel
theorem d_F_gate_36 : decode b_F_gate 36 = .ok (.new 49, 3) := by decide +kernel
theorem d_F_gate_39 : decode b_F_gate 39 = .ok (.dup, 1) := by decide +kernel
theorem d_F_gate_40 : decode b_F_gate 40 = .ok (.ldc 51, 2) := by decide +kernel
theorem d_F_gate_42 : decode b_F_gate 42 = .ok (.invokespecial 53, 3) := by decide +kernel
theorem d_F_gate_45 : decode b_F_gate 45 = .ok (.athrow, 1) := by decide +kernel
theorem d_F_gate_46 : decode b_F_gate 46 = .ok (.iload_n 1, 1) := by decide +kernel
theorem d_F_gate_47 : decode b_F_gate 47 = .ok (.invokestatic 56, 3) := by decide +kernel
theorem d_F_gate_50 : decode b_F_gate 50 = .ok (.istore 6, 2) := by decide +kernel
theorem d_F_gate_52 : decode b_F_gate 52 = .ok (.iload 6, 2) := by decide +kernel
theorem d_F_gate_54 : decode b_F_gate 54 = .ok (.ifCond .ne 22, 3) := by decide +kernel
theorem d_F_gate_57 : decode b_F_gate 57 = .ok (.iload_n 3, 1) := by decide +kernel
theorem d_F_gate_58 : decode b_F_gate 58 = .ok (.bipush 12, 2) := by decide +kernel
theorem d_F_gate_60 : decode b_F_gate 60 = .ok (.invokestatic 45, 3) := by decide +kernel
theorem d_F_gate_63 : decode b_F_gate 63 = .ok (.ifCond .ne 13, 3) := by decide +kernel
theorem d_F_gate_66 : decode b_F_gate 66 = .ok (.new 49, 3) := by decide +kernel
theorem d_F_gate_69 : decode b_F_gate 69 = .ok (.dup, 1) := by decide +kernel
theorem d_F_gate_70 : decode b_F_gate 70 = .ok (.ldc 60, 2) := by decide +kernel
theorem d_F_gate_72 : decode b_F_gate 72 = .ok (.invokespecial 53, 3) := by decide +kernel
theorem d_F_gate_75 : decode b_F_gate 75 = .ok (.athrow, 1) := by decide +kernel
theorem d_F_gate_76 : decode b_F_gate 76 = .ok (.aload_n 0, 1) := by decide +kernel
theorem d_F_gate_77 : decode b_F_gate 77 = .ok (.getfield 12, 3) := by decide +kernel
theorem d_F_gate_80 : decode b_F_gate 80 = .ok (.iload_n 1, 1) := by decide +kernel
theorem d_F_gate_81 : decode b_F_gate 81 = .ok (.iload 5, 2) := by decide +kernel
theorem d_F_gate_83 : decode b_F_gate 83 = .ok (.invokevirtual 62, 3) := by decide +kernel
theorem d_F_gate_86 : decode b_F_gate 86 = .ok (.ifCond .eq 15, 3) := by decide +kernel
theorem d_F_gate_89 : decode b_F_gate 89 = .ok (.aload_n 0, 1) := by decide +kernel
theorem d_F_gate_90 : decode b_F_gate 90 = .ok (.getfield 12, 3) := by decide +kernel
theorem d_F_gate_93 : decode b_F_gate 93 = .ok (.iload 4, 2) := by decide +kernel
theorem d_F_gate_95 : decode b_F_gate 95 = .ok (.invokevirtual 65, 3) := by decide +kernel
theorem d_F_gate_98 : decode b_F_gate 98 = .ok (.ifCond .eq 13, 3) := by decide +kernel
theorem d_F_gate_101 : decode b_F_gate 101 = .ok (.new 68, 3) := by decide +kernel
theorem d_F_gate_104 : decode b_F_gate 104 = .ok (.dup, 1) := by decide +kernel
theorem d_F_gate_105 : decode b_F_gate 105 = .ok (.ldc 70, 2) := by decide +kernel
theorem d_F_gate_107 : decode b_F_gate 107 = .ok (.invokespecial 72, 3) := by decide +kernel
theorem d_F_gate_110 : decode b_F_gate 110 = .ok (.athrow, 1) := by decide +kernel
theorem d_F_gate_111 : decode b_F_gate 111 = .ok (.aload_n 0, 1) := by decide +kernel
theorem d_F_gate_112 : decode b_F_gate 112 = .ok (.iconst 0, 1) := by decide +kernel
theorem d_F_gate_113 : decode b_F_gate 113 = .ok (.putfield 41, 3) := by decide +kernel
theorem d_F_gate_116 : decode b_F_gate 116 = .ok (.aload_n 0, 1) := by decide +kernel
theorem d_F_gate_117 : decode b_F_gate 117 = .ok (.getfield 12, 3) := by decide +kernel
theorem d_F_gate_120 : decode b_F_gate 120 = .ok (.iload_n 1, 1) := by decide +kernel
theorem d_F_gate_121 : decode b_F_gate 121 = .ok (.iload_n 2, 1) := by decide +kernel
theorem d_F_gate_122 : decode b_F_gate 122 = .ok (.iload 6, 2) := by decide +kernel
theorem d_F_gate_124 : decode b_F_gate 124 = .ok (.ifCond .eq 7, 3) := by decide +kernel
theorem d_F_gate_127 : decode b_F_gate 127 = .ok (.iload_n 2, 1) := by decide +kernel
theorem d_F_gate_128 : decode b_F_gate 128 = .ok (.goto 4, 3) := by decide +kernel
theorem d_F_gate_131 : decode b_F_gate 131 = .ok (.iload_n 3, 1) := by decide +kernel
theorem d_F_gate_132 : decode b_F_gate 132 = .ok (.iload 4, 2) := by decide +kernel
theorem d_F_gate_134 : decode b_F_gate 134 = .ok (.iload 5, 2) := by decide +kernel
theorem d_F_gate_136 : decode b_F_gate 136 = .ok (.invokevirtual 73, 3) := by decide +kernel
theorem d_F_gate_139 : decode b_F_gate 139 = .ok (.ireturn, 1) := by decide +kernel
theorem d_F_clear_0 : decode b_F_clear 0 = .ok (.aload_n 0, 1) := by decide +kernel
theorem d_F_clear_1 : decode b_F_clear 1 = .ok (.getfield 12, 3) := by decide +kernel
theorem d_F_clear_4 : decode b_F_clear 4 = .ok (.getfield 77, 3) := by decide +kernel
theorem d_F_clear_7 : decode b_F_clear 7 = .ok (.istore_n 1, 1) := by decide +kernel
theorem d_F_clear_8 : decode b_F_clear 8 = .ok (.aload_n 0, 1) := by decide +kernel
theorem d_F_clear_9 : decode b_F_clear 9 = .ok (.getfield 12, 3) := by decide +kernel
theorem d_F_clear_12 : decode b_F_clear 12 = .ok (.invokevirtual 81, 3) := by decide +kernel
theorem d_F_clear_15 : decode b_F_clear 15 = .ok (.aload_n 0, 1) := by decide +kernel
theorem d_F_clear_16 : decode b_F_clear 16 = .ok (.iconst 0, 1) := by decide +kernel
theorem d_F_clear_17 : decode b_F_clear 17 = .ok (.putfield 41, 3) := by decide +kernel
theorem d_F_clear_20 : decode b_F_clear 20 = .ok (.iload_n 1, 1) := by decide +kernel
theorem d_F_clear_21 : decode b_F_clear 21 = .ok (.ireturn, 1) := by decide +kernel
theorem d_F_route_0 : decode b_F_route 0 = .ok (.aload_n 0, 1) := by decide +kernel
theorem d_F_route_1 : decode b_F_route 1 = .ok (.iconst 0, 1) := by decide +kernel
theorem d_F_route_2 : decode b_F_route 2 = .ok (.putfield 41, 3) := by decide +kernel
theorem d_F_route_5 : decode b_F_route 5 = .ok (.aload_n 0, 1) := by decide +kernel
theorem d_F_route_6 : decode b_F_route 6 = .ok (.getfield 21, 3) := by decide +kernel
theorem d_F_route_9 : decode b_F_route 9 = .ok (.invokevirtual 84, 3) := by decide +kernel
theorem d_F_route_12 : decode b_F_route 12 = .ok (.aload_n 0, 1) := by decide +kernel
theorem d_F_route_13 : decode b_F_route 13 = .ok (.getfield 30, 3) := by decide +kernel
theorem d_F_route_16 : decode b_F_route 16 = .ok (.invokevirtual 87, 3) := by decide +kernel
theorem d_F_route_19 : decode b_F_route 19 = .ok (.aload_n 0, 1) := by decide +kernel
theorem d_F_route_20 : decode b_F_route 20 = .ok (.iconst 1, 1) := by decide +kernel
theorem d_F_route_21 : decode b_F_route 21 = .ok (.putfield 41, 3) := by decide +kernel
theorem d_F_route_24 : decode b_F_route 24 = .ok (.aload_n 0, 1) := by decide +kernel
theorem d_F_route_25 : decode b_F_route 25 = .ok (.getfield 21, 3) := by decide +kernel
theorem d_F_route_28 : decode b_F_route 28 = .ok (.getfield 90, 3) := by decide +kernel
theorem d_F_route_31 : decode b_F_route 31 = .ok (.ireturn, 1) := by decide +kernel
theorem d_F_column_0 : decode b_F_column 0 = .ok (.aload_n 0, 1) := by decide +kernel
theorem d_F_column_1 : decode b_F_column 1 = .ok (.iload_n 1, 1) := by decide +kernel
theorem d_F_column_2 : decode b_F_column 2 = .ok (.iload_n 2, 1) := by decide +kernel
theorem d_F_column_3 : decode b_F_column 3 = .ok (.invokevirtual 93, 3) := by decide +kernel
theorem d_F_column_6 : decode b_F_column 6 = .ok (.aload_n 0, 1) := by decide +kernel
theorem d_F_column_7 : decode b_F_column 7 = .ok (.getfield 12, 3) := by decide +kernel
theorem d_F_column_10 : decode b_F_column 10 = .ok (.iload_n 1, 1) := by decide +kernel
theorem d_F_column_11 : decode b_F_column 11 = .ok (.iload_n 2, 1) := by decide +kernel
theorem d_F_column_12 : decode b_F_column 12 = .ok (.invokevirtual 97, 3) := by decide +kernel
theorem d_F_column_15 : decode b_F_column 15 = .ok (.ireturn, 1) := by decide +kernel
theorem d_F_net_0 : decode b_F_net 0 = .ok (.aload_n 0, 1) := by decide +kernel
theorem d_F_net_1 : decode b_F_net 1 = .ok (.iload_n 1, 1) := by decide +kernel
theorem d_F_net_2 : decode b_F_net 2 = .ok (.invokevirtual 101, 3) := by decide +kernel
theorem d_F_net_5 : decode b_F_net 5 = .ok (.iload_n 2, 1) := by decide +kernel
theorem d_F_net_6 : decode b_F_net 6 = .ok (.tableswitch 137 0 6 #[42, 51, 61, 78, 87, 96, 117], 42) := by decide +kernel
theorem d_F_net_48 : decode b_F_net 48 = .ok (.aload_n 0, 1) := by decide +kernel
theorem d_F_net_49 : decode b_F_net 49 = .ok (.getfield 12, 3) := by decide +kernel
theorem d_F_net_52 : decode b_F_net 52 = .ok (.iload_n 1, 1) := by decide +kernel
theorem d_F_net_53 : decode b_F_net 53 = .ok (.invokevirtual 105, 3) := by decide +kernel
theorem d_F_net_56 : decode b_F_net 56 = .ok (.ireturn, 1) := by decide +kernel
theorem d_F_net_57 : decode b_F_net 57 = .ok (.aload_n 0, 1) := by decide +kernel
theorem d_F_net_58 : decode b_F_net 58 = .ok (.getfield 12, 3) := by decide +kernel
theorem d_F_net_61 : decode b_F_net 61 = .ok (.getfield 109, 3) := by decide +kernel
theorem d_F_net_64 : decode b_F_net 64 = .ok (.iload_n 1, 1) := by decide +kernel
theorem d_F_net_65 : decode b_F_net 65 = .ok (.iaload, 1) := by decide +kernel
theorem d_F_net_66 : decode b_F_net 66 = .ok (.ireturn, 1) := by decide +kernel
theorem d_F_net_67 : decode b_F_net 67 = .ok (.aload_n 0, 1) := by decide +kernel
theorem d_F_net_68 : decode b_F_net 68 = .ok (.getfield 12, 3) := by decide +kernel
theorem d_F_net_71 : decode b_F_net 71 = .ok (.iload_n 1, 1) := by decide +kernel
theorem d_F_net_72 : decode b_F_net 72 = .ok (.invokevirtual 113, 3) := by decide +kernel
theorem d_F_net_75 : decode b_F_net 75 = .ok (.ifCond .eq 7, 3) := by decide +kernel
theorem d_F_net_78 : decode b_F_net 78 = .ok (.iconst 1, 1) := by decide +kernel
theorem d_F_net_79 : decode b_F_net 79 = .ok (.goto 4, 3) := by decide +kernel
theorem d_F_net_82 : decode b_F_net 82 = .ok (.iconst 0, 1) := by decide +kernel
theorem d_F_net_83 : decode b_F_net 83 = .ok (.ireturn, 1) := by decide +kernel
theorem d_F_net_84 : decode b_F_net 84 = .ok (.aload_n 0, 1) := by decide +kernel
theorem d_F_net_85 : decode b_F_net 85 = .ok (.getfield 12, 3) := by decide +kernel
theorem d_F_net_88 : decode b_F_net 88 = .ok (.iload_n 1, 1) := by decide +kernel
theorem d_F_net_89 : decode b_F_net 89 = .ok (.invokevirtual 116, 3) := by decide +kernel
theorem d_F_net_92 : decode b_F_net 92 = .ok (.ireturn, 1) := by decide +kernel
theorem d_F_net_93 : decode b_F_net 93 = .ok (.aload_n 0, 1) := by decide +kernel
theorem d_F_net_94 : decode b_F_net 94 = .ok (.getfield 12, 3) := by decide +kernel
theorem d_F_net_97 : decode b_F_net 97 = .ok (.iload_n 1, 1) := by decide +kernel
theorem d_F_net_98 : decode b_F_net 98 = .ok (.invokevirtual 119, 3) := by decide +kernel
theorem d_F_net_101 : decode b_F_net 101 = .ok (.ireturn, 1) := by decide +kernel
theorem d_F_net_102 : decode b_F_net 102 = .ok (.aload_n 0, 1) := by decide +kernel
theorem d_F_net_103 : decode b_F_net 103 = .ok (.getfield 41, 3) := by decide +kernel
theorem d_F_net_106 : decode b_F_net 106 = .ok (.ifCond .eq 15, 3) := by decide +kernel
theorem d_F_net_109 : decode b_F_net 109 = .ok (.aload_n 0, 1) := by decide +kernel
theorem d_F_net_110 : decode b_F_net 110 = .ok (.getfield 21, 3) := by decide +kernel
theorem d_F_net_113 : decode b_F_net 113 = .ok (.getfield 122, 3) := by decide +kernel
theorem d_F_net_116 : decode b_F_net 116 = .ok (.iload_n 1, 1) := by decide +kernel
theorem d_F_net_117 : decode b_F_net 117 = .ok (.iaload, 1) := by decide +kernel
theorem d_F_net_118 : decode b_F_net 118 = .ok (.goto 4, 3) := by decide +kernel
theorem d_F_net_121 : decode b_F_net 121 = .ok (.iconst 0, 1) := by decide +kernel
theorem d_F_net_122 : decode b_F_net 122 = .ok (.ireturn, 1) := by decide +kernel
theorem d_F_net_123 : decode b_F_net 123 = .ok (.aload_n 0, 1) := by decide +kernel
theorem d_F_net_124 : decode b_F_net 124 = .ok (.getfield 41, 3) := by decide +kernel
theorem d_F_net_127 : decode b_F_net 127 = .ok (.ifCond .eq 14, 3) := by decide +kernel
theorem d_F_net_130 : decode b_F_net 130 = .ok (.aload_n 0, 1) := by decide +kernel
theorem d_F_net_131 : decode b_F_net 131 = .ok (.getfield 21, 3) := by decide +kernel
theorem d_F_net_134 : decode b_F_net 134 = .ok (.iload_n 1, 1) := by decide +kernel
theorem d_F_net_135 : decode b_F_net 135 = .ok (.invokevirtual 125, 3) := by decide +kernel
theorem d_F_net_138 : decode b_F_net 138 = .ok (.goto 4, 3) := by decide +kernel
theorem d_F_net_141 : decode b_F_net 141 = .ok (.iconst 0, 1) := by decide +kernel
theorem d_F_net_142 : decode b_F_net 142 = .ok (.ireturn, 1) := by decide +kernel
theorem d_F_net_143 : decode b_F_net 143 = .ok (.new 49, 3) := by decide +kernel
theorem d_F_net_146 : decode b_F_net 146 = .ok (.dup, 1) := by decide +kernel
theorem d_F_net_147 : decode b_F_net 147 = .ok (.ldc 128, 2) := by decide +kernel
theorem d_F_net_149 : decode b_F_net 149 = .ok (.invokespecial 53, 3) := by decide +kernel
theorem d_F_net_152 : decode b_F_net 152 = .ok (.athrow, 1) := by decide +kernel
theorem d_F_mask_0 : decode b_F_mask 0 = .ok (.aload_n 0, 1) := by decide +kernel
theorem d_F_mask_1 : decode b_F_mask 1 = .ok (.iload_n 1, 1) := by decide +kernel
theorem d_F_mask_2 : decode b_F_mask 2 = .ok (.iload_n 2, 1) := by decide +kernel
theorem d_F_mask_3 : decode b_F_mask 3 = .ok (.invokevirtual 130, 3) := by decide +kernel
theorem d_F_mask_6 : decode b_F_mask 6 = .ok (.aload_n 0, 1) := by decide +kernel
theorem d_F_mask_7 : decode b_F_mask 7 = .ok (.getfield 30, 3) := by decide +kernel
theorem d_F_mask_10 : decode b_F_mask 10 = .ok (.getfield 133, 3) := by decide +kernel
theorem d_F_mask_13 : decode b_F_mask 13 = .ok (.iload_n 1, 1) := by decide +kernel
theorem d_F_mask_14 : decode b_F_mask 14 = .ok (.aaload, 1) := by decide +kernel
theorem d_F_mask_15 : decode b_F_mask 15 = .ok (.iload_n 2, 1) := by decide +kernel
theorem d_F_mask_16 : decode b_F_mask 16 = .ok (.iaload, 1) := by decide +kernel
theorem d_F_mask_17 : decode b_F_mask 17 = .ok (.ireturn, 1) := by decide +kernel
theorem d_F_damage_0 : decode b_F_damage 0 = .ok (.iload_n 3, 1) := by decide +kernel
theorem d_F_damage_1 : decode b_F_damage 1 = .ok (.ifCond .lt 9, 3) := by decide +kernel
theorem d_F_damage_4 : decode b_F_damage 4 = .ok (.iload_n 3, 1) := by decide +kernel
theorem d_F_damage_5 : decode b_F_damage 5 = .ok (.bipush 7, 2) := by decide +kernel
theorem d_F_damage_7 : decode b_F_damage 7 = .ok (.if_icmp .le 13, 3) := by decide +kernel
theorem d_F_damage_10 : decode b_F_damage 10 = .ok (.new 49, 3) := by decide +kernel
theorem d_F_damage_13 : decode b_F_damage 13 = .ok (.dup, 1) := by decide +kernel
theorem d_F_damage_14 : decode b_F_damage 14 = .ok (.ldc 137, 2) := by decide +kernel
theorem d_F_damage_16 : decode b_F_damage 16 = .ok (.invokespecial 53, 3) := by decide +kernel
theorem d_F_damage_19 : decode b_F_damage 19 = .ok (.athrow, 1) := by decide +kernel
theorem d_F_damage_20 : decode b_F_damage 20 = .ok (.aload_n 0, 1) := by decide +kernel
theorem d_F_damage_21 : decode b_F_damage 21 = .ok (.iload_n 1, 1) := by decide +kernel
theorem d_F_damage_22 : decode b_F_damage 22 = .ok (.iload_n 2, 1) := by decide +kernel
theorem d_F_damage_23 : decode b_F_damage 23 = .ok (.invokevirtual 130, 3) := by decide +kernel
theorem d_F_damage_26 : decode b_F_damage 26 = .ok (.aload_n 0, 1) := by decide +kernel
theorem d_F_damage_27 : decode b_F_damage 27 = .ok (.getfield 30, 3) := by decide +kernel
theorem d_F_damage_30 : decode b_F_damage 30 = .ok (.getfield 133, 3) := by decide +kernel
theorem d_F_damage_33 : decode b_F_damage 33 = .ok (.iload_n 1, 1) := by decide +kernel
theorem d_F_damage_34 : decode b_F_damage 34 = .ok (.aaload, 1) := by decide +kernel
theorem d_F_damage_35 : decode b_F_damage 35 = .ok (.iload_n 2, 1) := by decide +kernel
theorem d_F_damage_36 : decode b_F_damage 36 = .ok (.iaload, 1) := by decide +kernel
theorem d_F_damage_37 : decode b_F_damage 37 = .ok (.istore 4, 2) := by decide +kernel
theorem d_F_damage_39 : decode b_F_damage 39 = .ok (.aload_n 0, 1) := by decide +kernel
theorem d_F_damage_40 : decode b_F_damage 40 = .ok (.getfield 30, 3) := by decide +kernel
theorem d_F_damage_43 : decode b_F_damage 43 = .ok (.getfield 133, 3) := by decide +kernel
theorem d_F_damage_46 : decode b_F_damage 46 = .ok (.iload_n 1, 1) := by decide +kernel
theorem d_F_damage_47 : decode b_F_damage 47 = .ok (.aaload, 1) := by decide +kernel
theorem d_F_damage_48 : decode b_F_damage 48 = .ok (.iload_n 2, 1) := by decide +kernel
theorem d_F_damage_49 : decode b_F_damage 49 = .ok (.iload_n 3, 1) := by decide +kernel
theorem d_F_damage_50 : decode b_F_damage 50 = .ok (.iastore, 1) := by decide +kernel
theorem d_F_damage_51 : decode b_F_damage 51 = .ok (.iload 4, 2) := by decide +kernel
theorem d_F_damage_53 : decode b_F_damage 53 = .ok (.ireturn, 1) := by decide +kernel
theorem d_F_joined_0 : decode b_F_joined 0 = .ok (.aload_n 0, 1) := by decide +kernel
theorem d_F_joined_1 : decode b_F_joined 1 = .ok (.invokevirtual 139, 3) := by decide +kernel
theorem d_F_joined_4 : decode b_F_joined 4 = .ok (.aload_n 0, 1) := by decide +kernel
theorem d_F_joined_5 : decode b_F_joined 5 = .ok (.iload_n 1, 1) := by decide +kernel
theorem d_F_joined_6 : decode b_F_joined 6 = .ok (.iload_n 2, 1) := by decide +kernel
theorem d_F_joined_7 : decode b_F_joined 7 = .ok (.invokevirtual 93, 3) := by decide +kernel
theorem d_F_joined_10 : decode b_F_joined 10 = .ok (.aload_n 0, 1) := by decide +kernel
theorem d_F_joined_11 : decode b_F_joined 11 = .ok (.iload_n 3, 1) := by decide +kernel
theorem d_F_joined_12 : decode b_F_joined 12 = .ok (.iload 4, 2) := by decide +kernel
theorem d_F_joined_14 : decode b_F_joined 14 = .ok (.invokevirtual 93, 3) := by decide +kernel
theorem d_F_joined_17 : decode b_F_joined 17 = .ok (.aload_n 0, 1) := by decide +kernel
theorem d_F_joined_18 : decode b_F_joined 18 = .ok (.getfield 30, 3) := by decide +kernel
theorem d_F_joined_21 : decode b_F_joined 21 = .ok (.invokevirtual 142, 3) := by decide +kernel
theorem d_F_joined_24 : decode b_F_joined 24 = .ok (.aload_n 0, 1) := by decide +kernel
theorem d_F_joined_25 : decode b_F_joined 25 = .ok (.getfield 30, 3) := by decide +kernel
theorem d_F_joined_28 : decode b_F_joined 28 = .ok (.iload_n 1, 1) := by decide +kernel
theorem d_F_joined_29 : decode b_F_joined 29 = .ok (.iload_n 2, 1) := by decide +kernel
theorem d_F_joined_30 : decode b_F_joined 30 = .ok (.invokevirtual 145, 3) := by decide +kernel
theorem d_F_joined_33 : decode b_F_joined 33 = .ok (.aload_n 0, 1) := by decide +kernel
theorem d_F_joined_34 : decode b_F_joined 34 = .ok (.getfield 30, 3) := by decide +kernel
theorem d_F_joined_37 : decode b_F_joined 37 = .ok (.iload_n 3, 1) := by decide +kernel
theorem d_F_joined_38 : decode b_F_joined 38 = .ok (.iload 4, 2) := by decide +kernel
theorem d_F_joined_40 : decode b_F_joined 40 = .ok (.invokevirtual 145, 3) := by decide +kernel
theorem d_F_joined_43 : decode b_F_joined 43 = .ok (.if_icmp .ne 7, 3) := by decide +kernel
theorem d_F_joined_46 : decode b_F_joined 46 = .ok (.iconst 1, 1) := by decide +kernel
theorem d_F_joined_47 : decode b_F_joined 47 = .ok (.goto 4, 3) := by decide +kernel
theorem d_F_joined_50 : decode b_F_joined 50 = .ok (.iconst 0, 1) := by decide +kernel
theorem d_F_joined_51 : decode b_F_joined 51 = .ok (.ireturn, 1) := by decide +kernel
theorem d_F_faults_0 : decode b_F_faults 0 = .ok (.aload_n 0, 1) := by decide +kernel
theorem d_F_faults_1 : decode b_F_faults 1 = .ok (.invokevirtual 139, 3) := by decide +kernel
theorem d_F_faults_4 : decode b_F_faults 4 = .ok (.aload_n 0, 1) := by decide +kernel
theorem d_F_faults_5 : decode b_F_faults 5 = .ok (.getfield 30, 3) := by decide +kernel
theorem d_F_faults_8 : decode b_F_faults 8 = .ok (.invokevirtual 142, 3) := by decide +kernel
theorem d_F_faults_11 : decode b_F_faults 11 = .ok (.aload_n 0, 1) := by decide +kernel
theorem d_F_faults_12 : decode b_F_faults 12 = .ok (.getfield 30, 3) := by decide +kernel
theorem d_F_faults_15 : decode b_F_faults 15 = .ok (.invokevirtual 148, 3) := by decide +kernel
theorem d_F_faults_18 : decode b_F_faults 18 = .ok (.iload_n 1, 1) := by decide +kernel
theorem d_F_faults_19 : decode b_F_faults 19 = .ok (.ifCond .eq 13, 3) := by decide +kernel
theorem d_F_faults_22 : decode b_F_faults 22 = .ok (.aload_n 0, 1) := by decide +kernel
theorem d_F_faults_23 : decode b_F_faults 23 = .ok (.getfield 30, 3) := by decide +kernel
theorem d_F_faults_26 : decode b_F_faults 26 = .ok (.invokevirtual 151, 3) := by decide +kernel
theorem d_F_faults_29 : decode b_F_faults 29 = .ok (.goto 10, 3) := by decide +kernel
theorem d_F_faults_32 : decode b_F_faults 32 = .ok (.aload_n 0, 1) := by decide +kernel
theorem d_F_faults_33 : decode b_F_faults 33 = .ok (.getfield 30, 3) := by decide +kernel
theorem d_F_faults_36 : decode b_F_faults 36 = .ok (.invokevirtual 155, 3) := by decide +kernel
theorem d_F_faults_39 : decode b_F_faults 39 = .ok (.ireturn, 1) := by decide +kernel
theorem d_F_time_0 : decode b_F_time 0 = .ok (.dload_n 2, 1) := by decide +kernel
theorem d_F_time_1 : decode b_F_time 1 = .ok (.dconst 0, 1) := by decide +kernel
theorem d_F_time_2 : decode b_F_time 2 = .ok (.dcmp .l, 1) := by decide +kernel
theorem d_F_time_3 : decode b_F_time 3 = .ok (.ifCond .lt 15, 3) := by decide +kernel
theorem d_F_time_6 : decode b_F_time 6 = .ok (.dload_n 2, 1) := by decide +kernel
theorem d_F_time_7 : decode b_F_time 7 = .ok (.ldc2_w 158, 3) := by decide +kernel
theorem d_F_time_10 : decode b_F_time 10 = .ok (.dcmp .g, 1) := by decide +kernel
theorem d_F_time_11 : decode b_F_time 11 = .ok (.ifCond .gt 7, 3) := by decide +kernel
theorem d_F_time_14 : decode b_F_time 14 = .ok (.iconst 1, 1) := by decide +kernel
theorem d_F_time_15 : decode b_F_time 15 = .ok (.goto 4, 3) := by decide +kernel
theorem d_F_time_18 : decode b_F_time 18 = .ok (.iconst 0, 1) := by decide +kernel
theorem d_F_time_19 : decode b_F_time 19 = .ok (.istore 4, 2) := by decide +kernel
theorem d_F_time_21 : decode b_F_time 21 = .ok (.iload_n 1, 1) := by decide +kernel
theorem d_F_time_22 : decode b_F_time 22 = .ok (.iconst 4, 1) := by decide +kernel
theorem d_F_time_23 : decode b_F_time 23 = .ok (.invokestatic 45, 3) := by decide +kernel
theorem d_F_time_26 : decode b_F_time 26 = .ok (.ifCond .eq 8, 3) := by decide +kernel
theorem d_F_time_29 : decode b_F_time 29 = .ok (.iload 4, 2) := by decide +kernel
theorem d_F_time_31 : decode b_F_time 31 = .ok (.ifCond .ne 13, 3) := by decide +kernel
theorem d_F_time_34 : decode b_F_time 34 = .ok (.new 49, 3) := by decide +kernel
theorem d_F_time_37 : decode b_F_time 37 = .ok (.dup, 1) := by decide +kernel
theorem d_F_time_38 : decode b_F_time 38 = .ok (.ldc 160, 2) := by decide +kernel
theorem d_F_time_40 : decode b_F_time 40 = .ok (.invokespecial 53, 3) := by decide +kernel
theorem d_F_time_43 : decode b_F_time 43 = .ok (.athrow, 1) := by decide +kernel
theorem d_F_time_44 : decode b_F_time 44 = .ok (.aload_n 0, 1) := by decide +kernel
theorem d_F_time_45 : decode b_F_time 45 = .ok (.getfield 37, 3) := by decide +kernel
theorem d_F_time_48 : decode b_F_time 48 = .ok (.getfield 162, 3) := by decide +kernel
theorem d_F_time_51 : decode b_F_time 51 = .ok (.iload_n 1, 1) := by decide +kernel
theorem d_F_time_52 : decode b_F_time 52 = .ok (.daload, 1) := by decide +kernel
theorem d_F_time_53 : decode b_F_time 53 = .ok (.dstore 5, 2) := by decide +kernel
theorem d_F_time_55 : decode b_F_time 55 = .ok (.aload_n 0, 1) := by decide +kernel
theorem d_F_time_56 : decode b_F_time 56 = .ok (.getfield 37, 3) := by decide +kernel
theorem d_F_time_59 : decode b_F_time 59 = .ok (.getfield 162, 3) := by decide +kernel
theorem d_F_time_62 : decode b_F_time 62 = .ok (.iload_n 1, 1) := by decide +kernel
theorem d_F_time_63 : decode b_F_time 63 = .ok (.dload_n 2, 1) := by decide +kernel
theorem d_F_time_64 : decode b_F_time 64 = .ok (.dastore, 1) := by decide +kernel
theorem d_F_time_65 : decode b_F_time 65 = .ok (.dload 5, 2) := by decide +kernel
theorem d_F_time_67 : decode b_F_time 67 = .ok (.dreturn, 1) := by decide +kernel
theorem d_F_delay_0 : decode b_F_delay 0 = .ok (.aload_n 0, 1) := by decide +kernel
theorem d_F_delay_1 : decode b_F_delay 1 = .ok (.iload_n 1, 1) := by decide +kernel
theorem d_F_delay_2 : decode b_F_delay 2 = .ok (.invokevirtual 101, 3) := by decide +kernel
theorem d_F_delay_5 : decode b_F_delay 5 = .ok (.aload_n 0, 1) := by decide +kernel
theorem d_F_delay_6 : decode b_F_delay 6 = .ok (.invokevirtual 139, 3) := by decide +kernel
theorem d_F_delay_9 : decode b_F_delay 9 = .ok (.aload_n 0, 1) := by decide +kernel
theorem d_F_delay_10 : decode b_F_delay 10 = .ok (.getfield 21, 3) := by decide +kernel
theorem d_F_delay_13 : decode b_F_delay 13 = .ok (.iload_n 1, 1) := by decide +kernel
theorem d_F_delay_14 : decode b_F_delay 14 = .ok (.invokevirtual 166, 3) := by decide +kernel
theorem d_F_delay_17 : decode b_F_delay 17 = .ok (.dreturn, 1) := by decide +kernel
theorem d_F_arrival_0 : decode b_F_arrival 0 = .ok (.aload_n 0, 1) := by decide +kernel
theorem d_F_arrival_1 : decode b_F_arrival 1 = .ok (.iload_n 1, 1) := by decide +kernel
theorem d_F_arrival_2 : decode b_F_arrival 2 = .ok (.invokevirtual 101, 3) := by decide +kernel
theorem d_F_arrival_5 : decode b_F_arrival 5 = .ok (.aload_n 0, 1) := by decide +kernel
theorem d_F_arrival_6 : decode b_F_arrival 6 = .ok (.invokevirtual 139, 3) := by decide +kernel
theorem d_F_arrival_9 : decode b_F_arrival 9 = .ok (.aload_n 0, 1) := by decide +kernel
theorem d_F_arrival_10 : decode b_F_arrival 10 = .ok (.getfield 37, 3) := by decide +kernel
theorem d_F_arrival_13 : decode b_F_arrival 13 = .ok (.invokevirtual 170, 3) := by decide +kernel
theorem d_F_arrival_16 : decode b_F_arrival 16 = .ok (.aload_n 0, 1) := by decide +kernel
theorem d_F_arrival_17 : decode b_F_arrival 17 = .ok (.getfield 37, 3) := by decide +kernel
theorem d_F_arrival_20 : decode b_F_arrival 20 = .ok (.iload_n 1, 1) := by decide +kernel
theorem d_F_arrival_21 : decode b_F_arrival 21 = .ok (.invokevirtual 173, 3) := by decide +kernel
theorem d_F_arrival_24 : decode b_F_arrival 24 = .ok (.ifCond .ne 13, 3) := by decide +kernel
theorem d_F_arrival_27 : decode b_F_arrival 27 = .ok (.new 176, 3) := by decide +kernel
theorem d_F_arrival_30 : decode b_F_arrival 30 = .ok (.dup, 1) := by decide +kernel
theorem d_F_arrival_31 : decode b_F_arrival 31 = .ok (.ldc 178, 2) := by decide +kernel
theorem d_F_arrival_33 : decode b_F_arrival 33 = .ok (.invokespecial 180, 3) := by decide +kernel
theorem d_F_arrival_36 : decode b_F_arrival 36 = .ok (.athrow, 1) := by decide +kernel
theorem d_F_arrival_37 : decode b_F_arrival 37 = .ok (.aload_n 0, 1) := by decide +kernel
theorem d_F_arrival_38 : decode b_F_arrival 38 = .ok (.getfield 37, 3) := by decide +kernel
theorem d_F_arrival_41 : decode b_F_arrival 41 = .ok (.iload_n 1, 1) := by decide +kernel
theorem d_F_arrival_42 : decode b_F_arrival 42 = .ok (.invokevirtual 181, 3) := by decide +kernel
theorem d_F_arrival_45 : decode b_F_arrival 45 = .ok (.dreturn, 1) := by decide +kernel
theorem d_F_simulate_0 : decode b_F_simulate 0 = .ok (.aload_n 0, 1) := by decide +kernel
theorem d_F_simulate_1 : decode b_F_simulate 1 = .ok (.getfield 37, 3) := by decide +kernel
theorem d_F_simulate_4 : decode b_F_simulate 4 = .ok (.invokevirtual 170, 3) := by decide +kernel
theorem d_F_simulate_7 : decode b_F_simulate 7 = .ok (.aload_n 0, 1) := by decide +kernel
theorem d_F_simulate_8 : decode b_F_simulate 8 = .ok (.getfield 37, 3) := by decide +kernel
theorem d_F_simulate_11 : decode b_F_simulate 11 = .ok (.invokevirtual 184, 3) := by decide +kernel
theorem d_F_simulate_14 : decode b_F_simulate 14 = .ok (.ifCond .ne 13, 3) := by decide +kernel
theorem d_F_simulate_17 : decode b_F_simulate 17 = .ok (.new 176, 3) := by decide +kernel
theorem d_F_simulate_20 : decode b_F_simulate 20 = .ok (.dup, 1) := by decide +kernel
theorem d_F_simulate_21 : decode b_F_simulate 21 = .ok (.ldc 188, 2) := by decide +kernel
theorem d_F_simulate_23 : decode b_F_simulate 23 = .ok (.invokespecial 180, 3) := by decide +kernel
theorem d_F_simulate_26 : decode b_F_simulate 26 = .ok (.athrow, 1) := by decide +kernel
theorem d_F_simulate_27 : decode b_F_simulate 27 = .ok (.aload_n 0, 1) := by decide +kernel
theorem d_F_simulate_28 : decode b_F_simulate 28 = .ok (.getfield 37, 3) := by decide +kernel
theorem d_F_simulate_31 : decode b_F_simulate 31 = .ok (.iload_n 1, 1) := by decide +kernel
theorem d_F_simulate_32 : decode b_F_simulate 32 = .ok (.invokevirtual 190, 3) := by decide +kernel
theorem d_F_simulate_35 : decode b_F_simulate 35 = .ok (.ireturn, 1) := by decide +kernel
theorem d_F_count_0 : decode b_F_count 0 = .ok (.iload_n 1, 1) := by decide +kernel
theorem d_F_count_1 : decode b_F_count 1 = .ok (.tableswitch 134 0 5 #[39, 47, 55, 74, 94, 114], 39) := by decide +kernel
theorem d_F_count_40 : decode b_F_count 40 = .ok (.aload_n 0, 1) := by decide +kernel
theorem d_F_count_41 : decode b_F_count 41 = .ok (.getfield 12, 3) := by decide +kernel
theorem d_F_count_44 : decode b_F_count 44 = .ok (.getfield 77, 3) := by decide +kernel
theorem d_F_count_47 : decode b_F_count 47 = .ok (.ireturn, 1) := by decide +kernel
theorem d_F_count_48 : decode b_F_count 48 = .ok (.aload_n 0, 1) := by decide +kernel
theorem d_F_count_49 : decode b_F_count 49 = .ok (.getfield 12, 3) := by decide +kernel
theorem d_F_count_52 : decode b_F_count 52 = .ok (.invokevirtual 193, 3) := by decide +kernel
theorem d_F_count_55 : decode b_F_count 55 = .ok (.ireturn, 1) := by decide +kernel
theorem d_F_count_56 : decode b_F_count 56 = .ok (.aload_n 0, 1) := by decide +kernel
theorem d_F_count_57 : decode b_F_count 57 = .ok (.getfield 41, 3) := by decide +kernel
theorem d_F_count_60 : decode b_F_count 60 = .ok (.ifCond .eq 13, 3) := by decide +kernel
theorem d_F_count_63 : decode b_F_count 63 = .ok (.aload_n 0, 1) := by decide +kernel
theorem d_F_count_64 : decode b_F_count 64 = .ok (.getfield 21, 3) := by decide +kernel
theorem d_F_count_67 : decode b_F_count 67 = .ok (.getfield 90, 3) := by decide +kernel
theorem d_F_count_70 : decode b_F_count 70 = .ok (.goto 4, 3) := by decide +kernel
theorem d_F_count_73 : decode b_F_count 73 = .ok (.iconst 0, 1) := by decide +kernel
theorem d_F_count_74 : decode b_F_count 74 = .ok (.ireturn, 1) := by decide +kernel
theorem d_F_count_75 : decode b_F_count 75 = .ok (.aload_n 0, 1) := by decide +kernel
theorem d_F_count_76 : decode b_F_count 76 = .ok (.getfield 41, 3) := by decide +kernel
theorem d_F_count_79 : decode b_F_count 79 = .ok (.ifCond .eq 14, 3) := by decide +kernel
theorem d_F_count_82 : decode b_F_count 82 = .ok (.aload_n 0, 1) := by decide +kernel
theorem d_F_count_83 : decode b_F_count 83 = .ok (.getfield 30, 3) := by decide +kernel
theorem d_F_count_86 : decode b_F_count 86 = .ok (.iconst 1, 1) := by decide +kernel
theorem d_F_count_87 : decode b_F_count 87 = .ok (.invokevirtual 196, 3) := by decide +kernel
theorem d_F_count_90 : decode b_F_count 90 = .ok (.goto 4, 3) := by decide +kernel
theorem d_F_count_93 : decode b_F_count 93 = .ok (.iconst 0, 1) := by decide +kernel
theorem d_F_count_94 : decode b_F_count 94 = .ok (.ireturn, 1) := by decide +kernel
theorem d_F_count_95 : decode b_F_count 95 = .ok (.aload_n 0, 1) := by decide +kernel
theorem d_F_count_96 : decode b_F_count 96 = .ok (.getfield 41, 3) := by decide +kernel
theorem d_F_count_99 : decode b_F_count 99 = .ok (.ifCond .eq 14, 3) := by decide +kernel
theorem d_F_count_102 : decode b_F_count 102 = .ok (.aload_n 0, 1) := by decide +kernel
theorem d_F_count_103 : decode b_F_count 103 = .ok (.getfield 30, 3) := by decide +kernel
theorem d_F_count_106 : decode b_F_count 106 = .ok (.iconst 2, 1) := by decide +kernel
theorem d_F_count_107 : decode b_F_count 107 = .ok (.invokevirtual 196, 3) := by decide +kernel
theorem d_F_count_110 : decode b_F_count 110 = .ok (.goto 4, 3) := by decide +kernel
theorem d_F_count_113 : decode b_F_count 113 = .ok (.iconst 0, 1) := by decide +kernel
theorem d_F_count_114 : decode b_F_count 114 = .ok (.ireturn, 1) := by decide +kernel
theorem d_F_count_115 : decode b_F_count 115 = .ok (.aload_n 0, 1) := by decide +kernel
theorem d_F_count_116 : decode b_F_count 116 = .ok (.getfield 41, 3) := by decide +kernel
theorem d_F_count_119 : decode b_F_count 119 = .ok (.ifCond .eq 14, 3) := by decide +kernel
theorem d_F_count_122 : decode b_F_count 122 = .ok (.aload_n 0, 1) := by decide +kernel
theorem d_F_count_123 : decode b_F_count 123 = .ok (.getfield 30, 3) := by decide +kernel
theorem d_F_count_126 : decode b_F_count 126 = .ok (.iconst 4, 1) := by decide +kernel
theorem d_F_count_127 : decode b_F_count 127 = .ok (.invokevirtual 196, 3) := by decide +kernel
theorem d_F_count_130 : decode b_F_count 130 = .ok (.goto 4, 3) := by decide +kernel
theorem d_F_count_133 : decode b_F_count 133 = .ok (.iconst 0, 1) := by decide +kernel
theorem d_F_count_134 : decode b_F_count 134 = .ok (.ireturn, 1) := by decide +kernel
theorem d_F_count_135 : decode b_F_count 135 = .ok (.new 49, 3) := by decide +kernel
theorem d_F_count_138 : decode b_F_count 138 = .ok (.dup, 1) := by decide +kernel
theorem d_F_count_139 : decode b_F_count 139 = .ok (.ldc 199, 2) := by decide +kernel
theorem d_F_count_141 : decode b_F_count 141 = .ok (.invokespecial 53, 3) := by decide +kernel
theorem d_F_count_144 : decode b_F_count 144 = .ok (.athrow, 1) := by decide +kernel
theorem d_F_needNet_0 : decode b_F_needNet 0 = .ok (.iload_n 1, 1) := by decide +kernel
theorem d_F_needNet_1 : decode b_F_needNet 1 = .ok (.bipush 12, 2) := by decide +kernel
theorem d_F_needNet_3 : decode b_F_needNet 3 = .ok (.invokestatic 45, 3) := by decide +kernel
theorem d_F_needNet_6 : decode b_F_needNet 6 = .ok (.ifCond .ne 13, 3) := by decide +kernel
theorem d_F_needNet_9 : decode b_F_needNet 9 = .ok (.new 49, 3) := by decide +kernel
theorem d_F_needNet_12 : decode b_F_needNet 12 = .ok (.dup, 1) := by decide +kernel
theorem d_F_needNet_13 : decode b_F_needNet 13 = .ok (.ldc 201, 2) := by decide +kernel
theorem d_F_needNet_15 : decode b_F_needNet 15 = .ok (.invokespecial 53, 3) := by decide +kernel
theorem d_F_needNet_18 : decode b_F_needNet 18 = .ok (.athrow, 1) := by decide +kernel
theorem d_F_needNet_19 : decode b_F_needNet 19 = .ok (.return_, 1) := by decide +kernel
theorem d_F_needRouted_0 : decode b_F_needRouted 0 = .ok (.aload_n 0, 1) := by decide +kernel
theorem d_F_needRouted_1 : decode b_F_needRouted 1 = .ok (.getfield 41, 3) := by decide +kernel
theorem d_F_needRouted_4 : decode b_F_needRouted 4 = .ok (.ifCond .ne 13, 3) := by decide +kernel
theorem d_F_needRouted_7 : decode b_F_needRouted 7 = .ok (.new 68, 3) := by decide +kernel
theorem d_F_needRouted_10 : decode b_F_needRouted 10 = .ok (.dup, 1) := by decide +kernel
theorem d_F_needRouted_11 : decode b_F_needRouted 11 = .ok (.ldc 203, 2) := by decide +kernel
theorem d_F_needRouted_13 : decode b_F_needRouted 13 = .ok (.invokespecial 72, 3) := by decide +kernel
theorem d_F_needRouted_16 : decode b_F_needRouted 16 = .ok (.athrow, 1) := by decide +kernel
theorem d_F_needRouted_17 : decode b_F_needRouted 17 = .ok (.return_, 1) := by decide +kernel
theorem d_F_needPin_0 : decode b_F_needPin 0 = .ok (.aload_n 0, 1) := by decide +kernel
theorem d_F_needPin_1 : decode b_F_needPin 1 = .ok (.getfield 12, 3) := by decide +kernel
theorem d_F_needPin_4 : decode b_F_needPin 4 = .ok (.iload_n 1, 1) := by decide +kernel
theorem d_F_needPin_5 : decode b_F_needPin 5 = .ok (.iload_n 2, 1) := by decide +kernel
theorem d_F_needPin_6 : decode b_F_needPin 6 = .ok (.invokevirtual 205, 3) := by decide +kernel
theorem d_F_needPin_9 : decode b_F_needPin 9 = .ok (.ifCond .ne 13, 3) := by decide +kernel
theorem d_F_needPin_12 : decode b_F_needPin 12 = .ok (.new 208, 3) := by decide +kernel
theorem d_F_needPin_15 : decode b_F_needPin 15 = .ok (.dup, 1) := by decide +kernel
theorem d_F_needPin_16 : decode b_F_needPin 16 = .ok (.ldc 210, 2) := by decide +kernel
theorem d_F_needPin_18 : decode b_F_needPin 18 = .ok (.invokespecial 212, 3) := by decide +kernel
theorem d_F_needPin_21 : decode b_F_needPin 21 = .ok (.athrow, 1) := by decide +kernel
theorem d_F_needPin_22 : decode b_F_needPin 22 = .ok (.return_, 1) := by decide +kernel
theorem d_F_needPoint_0 : decode b_F_needPoint 0 = .ok (.aload_n 0, 1) := by decide +kernel
theorem d_F_needPoint_1 : decode b_F_needPoint 1 = .ok (.invokevirtual 139, 3) := by decide +kernel
theorem d_F_needPoint_4 : decode b_F_needPoint 4 = .ok (.iload_n 1, 1) := by decide +kernel
theorem d_F_needPoint_5 : decode b_F_needPoint 5 = .ok (.aload_n 0, 1) := by decide +kernel
theorem d_F_needPoint_6 : decode b_F_needPoint 6 = .ok (.getfield 21, 3) := by decide +kernel
theorem d_F_needPoint_9 : decode b_F_needPoint 9 = .ok (.invokevirtual 213, 3) := by decide +kernel
theorem d_F_needPoint_12 : decode b_F_needPoint 12 = .ok (.invokestatic 45, 3) := by decide +kernel
theorem d_F_needPoint_15 : decode b_F_needPoint 15 = .ok (.ifCond .eq 12, 3) := by decide +kernel
theorem d_F_needPoint_18 : decode b_F_needPoint 18 = .ok (.iload_n 2, 1) := by decide +kernel
theorem d_F_needPoint_19 : decode b_F_needPoint 19 = .ok (.bipush 24, 2) := by decide +kernel
theorem d_F_needPoint_21 : decode b_F_needPoint 21 = .ok (.invokestatic 45, 3) := by decide +kernel
theorem d_F_needPoint_24 : decode b_F_needPoint 24 = .ok (.ifCond .ne 13, 3) := by decide +kernel
theorem d_F_needPoint_27 : decode b_F_needPoint 27 = .ok (.new 208, 3) := by decide +kernel
theorem d_F_needPoint_30 : decode b_F_needPoint 30 = .ok (.dup, 1) := by decide +kernel
theorem d_F_needPoint_31 : decode b_F_needPoint 31 = .ok (.ldc 216, 2) := by decide +kernel
theorem d_F_needPoint_33 : decode b_F_needPoint 33 = .ok (.invokespecial 212, 3) := by decide +kernel
theorem d_F_needPoint_36 : decode b_F_needPoint 36 = .ok (.athrow, 1) := by decide +kernel
theorem d_F_needPoint_37 : decode b_F_needPoint 37 = .ok (.return_, 1) := by decide +kernel
theorem d_F_within_0 : decode b_F_within 0 = .ok (.iload_n 0, 1) := by decide +kernel
theorem d_F_within_1 : decode b_F_within 1 = .ok (.ifCond .lt 12, 3) := by decide +kernel
theorem d_F_within_4 : decode b_F_within 4 = .ok (.iload_n 0, 1) := by decide +kernel
theorem d_F_within_5 : decode b_F_within 5 = .ok (.iload_n 1, 1) := by decide +kernel
theorem d_F_within_6 : decode b_F_within 6 = .ok (.if_icmp .ge 7, 3) := by decide +kernel
theorem d_F_within_9 : decode b_F_within 9 = .ok (.iconst 1, 1) := by decide +kernel
theorem d_F_within_10 : decode b_F_within 10 = .ok (.goto 4, 3) := by decide +kernel
theorem d_F_within_13 : decode b_F_within 13 = .ok (.iconst 0, 1) := by decide +kernel
theorem d_F_within_14 : decode b_F_within 14 = .ok (.ireturn, 1) := by decide +kernel
theorem d_F_hasOneInput_0 : decode b_F_hasOneInput 0 = .ok (.iload_n 0, 1) := by decide +kernel
theorem d_F_hasOneInput_1 : decode b_F_hasOneInput 1 = .ok (.ifCond .eq 8, 3) := by decide +kernel
theorem d_F_hasOneInput_4 : decode b_F_hasOneInput 4 = .ok (.iload_n 0, 1) := by decide +kernel
theorem d_F_hasOneInput_5 : decode b_F_hasOneInput 5 = .ok (.iconst 1, 1) := by decide +kernel
theorem d_F_hasOneInput_6 : decode b_F_hasOneInput 6 = .ok (.if_icmp .ne 7, 3) := by decide +kernel
theorem d_F_hasOneInput_9 : decode b_F_hasOneInput 9 = .ok (.iconst 1, 1) := by decide +kernel
theorem d_F_hasOneInput_10 : decode b_F_hasOneInput 10 = .ok (.goto 4, 3) := by decide +kernel
theorem d_F_hasOneInput_13 : decode b_F_hasOneInput 13 = .ok (.iconst 0, 1) := by decide +kernel
theorem d_F_hasOneInput_14 : decode b_F_hasOneInput 14 = .ok (.ireturn, 1) := by decide +kernel
theorem d_F_pinsOfKind_0 : decode b_F_pinsOfKind 0 = .ok (.iload_n 0, 1) := by decide +kernel
theorem d_F_pinsOfKind_1 : decode b_F_pinsOfKind 1 = .ok (.invokestatic 56, 3) := by decide +kernel
theorem d_F_pinsOfKind_4 : decode b_F_pinsOfKind 4 = .ok (.ifCond .eq 7, 3) := by decide +kernel
theorem d_F_pinsOfKind_7 : decode b_F_pinsOfKind 7 = .ok (.iconst 2, 1) := by decide +kernel
theorem d_F_pinsOfKind_8 : decode b_F_pinsOfKind 8 = .ok (.goto 4, 3) := by decide +kernel
theorem d_F_pinsOfKind_11 : decode b_F_pinsOfKind 11 = .ok (.iconst 3, 1) := by decide +kernel
theorem d_F_pinsOfKind_12 : decode b_F_pinsOfKind 12 = .ok (.ireturn, 1) := by decide +kernel
end
section
theorem d_C_init_0 : decode b_C_init 0 = .ok (.aload_n 0, 1) := by decide +kernel
theorem d_C_init_1 : decode b_C_init 1 = .ok (.invokespecial 3, 3) := by decide +kernel
theorem d_C_init_4 : decode b_C_init 4 = .ok (.aload_n 0, 1) := by decide +kernel
theorem d_C_init_5 : decode b_C_init 5 = .ok (.bipush 12, 2) := by decide +kernel
theorem d_C_init_7 : decode b_C_init 7 = .ok (.newarray .int, 2) := by decide +kernel
theorem d_C_init_9 : decode b_C_init 9 = .ok (.putfield 9, 3) := by decide +kernel
theorem d_C_init_12 : decode b_C_init 12 = .ok (.aload_n 0, 1) := by decide +kernel
theorem d_C_init_13 : decode b_C_init 13 = .ok (.aload_n 1, 1) := by decide +kernel
theorem d_C_init_14 : decode b_C_init 14 = .ok (.putfield 15, 3) := by decide +kernel
theorem d_C_init_17 : decode b_C_init 17 = .ok (.return_, 1) := by decide +kernel
theorem d_C_assignTracks_0 : decode b_C_assignTracks 0 = .ok (.aload_n 0, 1) := by decide +kernel
theorem d_C_assignTracks_1 : decode b_C_assignTracks 1 = .ok (.getfield 9, 3) := by decide +kernel
theorem d_C_assignTracks_4 : decode b_C_assignTracks 4 = .ok (.iconst 0, 1) := by decide +kernel
theorem d_C_assignTracks_5 : decode b_C_assignTracks 5 = .ok (.invokestatic 19, 3) := by decide +kernel
theorem d_C_assignTracks_8 : decode b_C_assignTracks 8 = .ok (.aload_n 0, 1) := by decide +kernel
theorem d_C_assignTracks_9 : decode b_C_assignTracks 9 = .ok (.iconst 0, 1) := by decide +kernel
theorem d_C_assignTracks_10 : decode b_C_assignTracks 10 = .ok (.putfield 25, 3) := by decide +kernel
theorem d_C_assignTracks_13 : decode b_C_assignTracks 13 = .ok (.aload_n 0, 1) := by decide +kernel
theorem d_C_assignTracks_14 : decode b_C_assignTracks 14 = .ok (.getfield 15, 3) := by decide +kernel
theorem d_C_assignTracks_17 : decode b_C_assignTracks 17 = .ok (.invokevirtual 29, 3) := by decide +kernel
theorem d_C_assignTracks_20 : decode b_C_assignTracks 20 = .ok (.istore_n 1, 1) := by decide +kernel
theorem d_C_assignTracks_21 : decode b_C_assignTracks 21 = .ok (.iconst 1, 1) := by decide +kernel
theorem d_C_assignTracks_22 : decode b_C_assignTracks 22 = .ok (.istore_n 2, 1) := by decide +kernel
theorem d_C_assignTracks_23 : decode b_C_assignTracks 23 = .ok (.iload_n 2, 1) := by decide +kernel
theorem d_C_assignTracks_24 : decode b_C_assignTracks 24 = .ok (.bipush 9, 2) := by decide +kernel
theorem d_C_assignTracks_26 : decode b_C_assignTracks 26 = .ok (.if_icmp .gt 42, 3) := by decide +kernel
theorem d_C_assignTracks_29 : decode b_C_assignTracks 29 = .ok (.iload_n 1, 1) := by decide +kernel
theorem d_C_assignTracks_30 : decode b_C_assignTracks 30 = .ok (.ifCond .le 38, 3) := by decide +kernel
theorem d_C_assignTracks_33 : decode b_C_assignTracks 33 = .ok (.aload_n 0, 1) := by decide +kernel
theorem d_C_assignTracks_34 : decode b_C_assignTracks 34 = .ok (.iload_n 2, 1) := by decide +kernel
theorem d_C_assignTracks_35 : decode b_C_assignTracks 35 = .ok (.invokevirtual 35, 3) := by decide +kernel
theorem d_C_assignTracks_38 : decode b_C_assignTracks 38 = .ok (.istore_n 3, 1) := by decide +kernel
theorem d_C_assignTracks_39 : decode b_C_assignTracks 39 = .ok (.iload_n 3, 1) := by decide +kernel
theorem d_C_assignTracks_40 : decode b_C_assignTracks 40 = .ok (.ifCond .ne 13, 3) := by decide +kernel
theorem d_C_assignTracks_43 : decode b_C_assignTracks 43 = .ok (.new 39, 3) := by decide +kernel
theorem d_C_assignTracks_46 : decode b_C_assignTracks 46 = .ok (.dup, 1) := by decide +kernel
theorem d_C_assignTracks_47 : decode b_C_assignTracks 47 = .ok (.ldc 41, 2) := by decide +kernel
theorem d_C_assignTracks_49 : decode b_C_assignTracks 49 = .ok (.invokespecial 43, 3) := by decide +kernel
theorem d_C_assignTracks_52 : decode b_C_assignTracks 52 = .ok (.athrow, 1) := by decide +kernel
theorem d_C_assignTracks_53 : decode b_C_assignTracks 53 = .ok (.iload_n 1, 1) := by decide +kernel
theorem d_C_assignTracks_54 : decode b_C_assignTracks 54 = .ok (.iload_n 3, 1) := by decide +kernel
theorem d_C_assignTracks_55 : decode b_C_assignTracks 55 = .ok (.isub, 1) := by decide +kernel
theorem d_C_assignTracks_56 : decode b_C_assignTracks 56 = .ok (.istore_n 1, 1) := by decide +kernel
theorem d_C_assignTracks_57 : decode b_C_assignTracks 57 = .ok (.aload_n 0, 1) := by decide +kernel
theorem d_C_assignTracks_58 : decode b_C_assignTracks 58 = .ok (.iload_n 2, 1) := by decide +kernel
theorem d_C_assignTracks_59 : decode b_C_assignTracks 59 = .ok (.putfield 25, 3) := by decide +kernel
theorem d_C_assignTracks_62 : decode b_C_assignTracks 62 = .ok (.iinc 2 1, 3) := by decide +kernel
theorem d_C_assignTracks_65 : decode b_C_assignTracks 65 = .ok (.goto (-42), 3) := by decide +kernel
theorem d_C_assignTracks_68 : decode b_C_assignTracks 68 = .ok (.iload_n 1, 1) := by decide +kernel
theorem d_C_assignTracks_69 : decode b_C_assignTracks 69 = .ok (.ifCond .le 13, 3) := by decide +kernel
theorem d_C_assignTracks_72 : decode b_C_assignTracks 72 = .ok (.new 46, 3) := by decide +kernel
theorem d_C_assignTracks_75 : decode b_C_assignTracks 75 = .ok (.dup, 1) := by decide +kernel
theorem d_C_assignTracks_76 : decode b_C_assignTracks 76 = .ok (.ldc 48, 2) := by decide +kernel
theorem d_C_assignTracks_78 : decode b_C_assignTracks 78 = .ok (.invokespecial 50, 3) := by decide +kernel
theorem d_C_assignTracks_81 : decode b_C_assignTracks 81 = .ok (.athrow, 1) := by decide +kernel
theorem d_C_assignTracks_82 : decode b_C_assignTracks 82 = .ok (.return_, 1) := by decide +kernel
theorem d_C_fillTrack_0 : decode b_C_fillTrack 0 = .ok (.iconst 0, 1) := by decide +kernel
theorem d_C_fillTrack_1 : decode b_C_fillTrack 1 = .ok (.istore_n 2, 1) := by decide +kernel
theorem d_C_fillTrack_2 : decode b_C_fillTrack 2 = .ok (.iconst (-1), 1) := by decide +kernel
theorem d_C_fillTrack_3 : decode b_C_fillTrack 3 = .ok (.istore_n 3, 1) := by decide +kernel
theorem d_C_fillTrack_4 : decode b_C_fillTrack 4 = .ok (.iconst 0, 1) := by decide +kernel
theorem d_C_fillTrack_5 : decode b_C_fillTrack 5 = .ok (.istore 4, 2) := by decide +kernel
theorem d_C_fillTrack_7 : decode b_C_fillTrack 7 = .ok (.iload 4, 2) := by decide +kernel
theorem d_C_fillTrack_9 : decode b_C_fillTrack 9 = .ok (.bipush 24, 2) := by decide +kernel
theorem d_C_fillTrack_11 : decode b_C_fillTrack 11 = .ok (.if_icmp .ge 98, 3) := by decide +kernel
theorem d_C_fillTrack_14 : decode b_C_fillTrack 14 = .ok (.iconst 0, 1) := by decide +kernel
theorem d_C_fillTrack_15 : decode b_C_fillTrack 15 = .ok (.istore 5, 2) := by decide +kernel
theorem d_C_fillTrack_17 : decode b_C_fillTrack 17 = .ok (.iload 5, 2) := by decide +kernel
theorem d_C_fillTrack_19 : decode b_C_fillTrack 19 = .ok (.bipush 12, 2) := by decide +kernel
theorem d_C_fillTrack_21 : decode b_C_fillTrack 21 = .ok (.if_icmp .ge 82, 3) := by decide +kernel
theorem d_C_fillTrack_24 : decode b_C_fillTrack 24 = .ok (.aload_n 0, 1) := by decide +kernel
theorem d_C_fillTrack_25 : decode b_C_fillTrack 25 = .ok (.getfield 9, 3) := by decide +kernel
theorem d_C_fillTrack_28 : decode b_C_fillTrack 28 = .ok (.iload 5, 2) := by decide +kernel
theorem d_C_fillTrack_30 : decode b_C_fillTrack 30 = .ok (.iaload, 1) := by decide +kernel
theorem d_C_fillTrack_31 : decode b_C_fillTrack 31 = .ok (.ifCond .ne 21, 3) := by decide +kernel
theorem d_C_fillTrack_34 : decode b_C_fillTrack 34 = .ok (.aload_n 0, 1) := by decide +kernel
theorem d_C_fillTrack_35 : decode b_C_fillTrack 35 = .ok (.getfield 15, 3) := by decide +kernel
theorem d_C_fillTrack_38 : decode b_C_fillTrack 38 = .ok (.iload 5, 2) := by decide +kernel
theorem d_C_fillTrack_40 : decode b_C_fillTrack 40 = .ok (.invokevirtual 51, 3) := by decide +kernel
theorem d_C_fillTrack_43 : decode b_C_fillTrack 43 = .ok (.iload 4, 2) := by decide +kernel
theorem d_C_fillTrack_45 : decode b_C_fillTrack 45 = .ok (.if_icmp .ne 7, 3) := by decide +kernel
theorem d_C_fillTrack_48 : decode b_C_fillTrack 48 = .ok (.iconst 1, 1) := by decide +kernel
theorem d_C_fillTrack_49 : decode b_C_fillTrack 49 = .ok (.goto 4, 3) := by decide +kernel
theorem d_C_fillTrack_52 : decode b_C_fillTrack 52 = .ok (.iconst 0, 1) := by decide +kernel
theorem d_C_fillTrack_53 : decode b_C_fillTrack 53 = .ok (.istore 6, 2) := by decide +kernel
theorem d_C_fillTrack_55 : decode b_C_fillTrack 55 = .ok (.iload 6, 2) := by decide +kernel
theorem d_C_fillTrack_57 : decode b_C_fillTrack 57 = .ok (.ifCond .eq 40, 3) := by decide +kernel
theorem d_C_fillTrack_60 : decode b_C_fillTrack 60 = .ok (.iload 4, 2) := by decide +kernel
theorem d_C_fillTrack_62 : decode b_C_fillTrack 62 = .ok (.iload_n 3, 1) := by decide +kernel
theorem d_C_fillTrack_63 : decode b_C_fillTrack 63 = .ok (.if_icmp .le 34, 3) := by decide +kernel
theorem d_C_fillTrack_66 : decode b_C_fillTrack 66 = .ok (.aload_n 0, 1) := by decide +kernel
theorem d_C_fillTrack_67 : decode b_C_fillTrack 67 = .ok (.iload 5, 2) := by decide +kernel
theorem d_C_fillTrack_69 : decode b_C_fillTrack 69 = .ok (.iload_n 1, 1) := by decide +kernel
theorem d_C_fillTrack_70 : decode b_C_fillTrack 70 = .ok (.invokevirtual 54, 3) := by decide +kernel
theorem d_C_fillTrack_73 : decode b_C_fillTrack 73 = .ok (.ifCond .eq 24, 3) := by decide +kernel
theorem d_C_fillTrack_76 : decode b_C_fillTrack 76 = .ok (.aload_n 0, 1) := by decide +kernel
theorem d_C_fillTrack_77 : decode b_C_fillTrack 77 = .ok (.getfield 9, 3) := by decide +kernel
theorem d_C_fillTrack_80 : decode b_C_fillTrack 80 = .ok (.iload 5, 2) := by decide +kernel
theorem d_C_fillTrack_82 : decode b_C_fillTrack 82 = .ok (.iload_n 1, 1) := by decide +kernel
theorem d_C_fillTrack_83 : decode b_C_fillTrack 83 = .ok (.iastore, 1) := by decide +kernel
theorem d_C_fillTrack_84 : decode b_C_fillTrack 84 = .ok (.aload_n 0, 1) := by decide +kernel
theorem d_C_fillTrack_85 : decode b_C_fillTrack 85 = .ok (.getfield 15, 3) := by decide +kernel
theorem d_C_fillTrack_88 : decode b_C_fillTrack 88 = .ok (.iload 5, 2) := by decide +kernel
theorem d_C_fillTrack_90 : decode b_C_fillTrack 90 = .ok (.invokevirtual 58, 3) := by decide +kernel
theorem d_C_fillTrack_93 : decode b_C_fillTrack 93 = .ok (.istore_n 3, 1) := by decide +kernel
theorem d_C_fillTrack_94 : decode b_C_fillTrack 94 = .ok (.iinc 2 1, 3) := by decide +kernel
theorem d_C_fillTrack_97 : decode b_C_fillTrack 97 = .ok (.iinc 5 1, 3) := by decide +kernel
theorem d_C_fillTrack_100 : decode b_C_fillTrack 100 = .ok (.goto (-83), 3) := by decide +kernel
theorem d_C_fillTrack_103 : decode b_C_fillTrack 103 = .ok (.iinc 4 1, 3) := by decide +kernel
theorem d_C_fillTrack_106 : decode b_C_fillTrack 106 = .ok (.goto (-99), 3) := by decide +kernel
theorem d_C_fillTrack_109 : decode b_C_fillTrack 109 = .ok (.iload_n 2, 1) := by decide +kernel
theorem d_C_fillTrack_110 : decode b_C_fillTrack 110 = .ok (.ireturn, 1) := by decide +kernel
theorem d_C_isFreeFromAbove_0 : decode b_C_isFreeFromAbove 0 = .ok (.iconst 0, 1) := by decide +kernel
theorem d_C_isFreeFromAbove_1 : decode b_C_isFreeFromAbove 1 = .ok (.istore_n 3, 1) := by decide +kernel
theorem d_C_isFreeFromAbove_2 : decode b_C_isFreeFromAbove 2 = .ok (.iload_n 3, 1) := by decide +kernel
theorem d_C_isFreeFromAbove_3 : decode b_C_isFreeFromAbove 3 = .ok (.bipush 12, 2) := by decide +kernel
theorem d_C_isFreeFromAbove_5 : decode b_C_isFreeFromAbove 5 = .ok (.if_icmp .ge 54, 3) := by decide +kernel
theorem d_C_isFreeFromAbove_8 : decode b_C_isFreeFromAbove 8 = .ok (.aload_n 0, 1) := by decide +kernel
theorem d_C_isFreeFromAbove_9 : decode b_C_isFreeFromAbove 9 = .ok (.getfield 9, 3) := by decide +kernel
theorem d_C_isFreeFromAbove_12 : decode b_C_isFreeFromAbove 12 = .ok (.iload_n 3, 1) := by decide +kernel
theorem d_C_isFreeFromAbove_13 : decode b_C_isFreeFromAbove 13 = .ok (.iaload, 1) := by decide +kernel
theorem d_C_isFreeFromAbove_14 : decode b_C_isFreeFromAbove 14 = .ok (.ifCond .le 17, 3) := by decide +kernel
theorem d_C_isFreeFromAbove_17 : decode b_C_isFreeFromAbove 17 = .ok (.aload_n 0, 1) := by decide +kernel
theorem d_C_isFreeFromAbove_18 : decode b_C_isFreeFromAbove 18 = .ok (.getfield 9, 3) := by decide +kernel
theorem d_C_isFreeFromAbove_21 : decode b_C_isFreeFromAbove 21 = .ok (.iload_n 3, 1) := by decide +kernel
theorem d_C_isFreeFromAbove_22 : decode b_C_isFreeFromAbove 22 = .ok (.iaload, 1) := by decide +kernel
theorem d_C_isFreeFromAbove_23 : decode b_C_isFreeFromAbove 23 = .ok (.iload_n 2, 1) := by decide +kernel
theorem d_C_isFreeFromAbove_24 : decode b_C_isFreeFromAbove 24 = .ok (.if_icmp .ge 7, 3) := by decide +kernel
theorem d_C_isFreeFromAbove_27 : decode b_C_isFreeFromAbove 27 = .ok (.iconst 1, 1) := by decide +kernel
theorem d_C_isFreeFromAbove_28 : decode b_C_isFreeFromAbove 28 = .ok (.goto 4, 3) := by decide +kernel
theorem d_C_isFreeFromAbove_31 : decode b_C_isFreeFromAbove 31 = .ok (.iconst 0, 1) := by decide +kernel
theorem d_C_isFreeFromAbove_32 : decode b_C_isFreeFromAbove 32 = .ok (.istore 4, 2) := by decide +kernel
theorem d_C_isFreeFromAbove_34 : decode b_C_isFreeFromAbove 34 = .ok (.iload 4, 2) := by decide +kernel
theorem d_C_isFreeFromAbove_36 : decode b_C_isFreeFromAbove 36 = .ok (.ifCond .ne 17, 3) := by decide +kernel
theorem d_C_isFreeFromAbove_39 : decode b_C_isFreeFromAbove 39 = .ok (.aload_n 0, 1) := by decide +kernel
theorem d_C_isFreeFromAbove_40 : decode b_C_isFreeFromAbove 40 = .ok (.getfield 15, 3) := by decide +kernel
theorem d_C_isFreeFromAbove_43 : decode b_C_isFreeFromAbove 43 = .ok (.iload_n 3, 1) := by decide +kernel
theorem d_C_isFreeFromAbove_44 : decode b_C_isFreeFromAbove 44 = .ok (.iload_n 1, 1) := by decide +kernel
theorem d_C_isFreeFromAbove_45 : decode b_C_isFreeFromAbove 45 = .ok (.invokevirtual 61, 3) := by decide +kernel
theorem d_C_isFreeFromAbove_48 : decode b_C_isFreeFromAbove 48 = .ok (.ifCond .eq 5, 3) := by decide +kernel
theorem d_C_isFreeFromAbove_51 : decode b_C_isFreeFromAbove 51 = .ok (.iconst 0, 1) := by decide +kernel
theorem d_C_isFreeFromAbove_52 : decode b_C_isFreeFromAbove 52 = .ok (.ireturn, 1) := by decide +kernel
theorem d_C_isFreeFromAbove_53 : decode b_C_isFreeFromAbove 53 = .ok (.iinc 3 1, 3) := by decide +kernel
theorem d_C_isFreeFromAbove_56 : decode b_C_isFreeFromAbove 56 = .ok (.goto (-54), 3) := by decide +kernel
theorem d_C_isFreeFromAbove_59 : decode b_C_isFreeFromAbove 59 = .ok (.iconst 1, 1) := by decide +kernel
theorem d_C_isFreeFromAbove_60 : decode b_C_isFreeFromAbove 60 = .ok (.ireturn, 1) := by decide +kernel
theorem d_C_lines_0 : decode b_C_lines 0 = .ok (.aload_n 0, 1) := by decide +kernel
theorem d_C_lines_1 : decode b_C_lines 1 = .ok (.getfield 25, 3) := by decide +kernel
theorem d_C_lines_4 : decode b_C_lines 4 = .ok (.iconst 2, 1) := by decide +kernel
theorem d_C_lines_5 : decode b_C_lines 5 = .ok (.iadd, 1) := by decide +kernel
theorem d_C_lines_6 : decode b_C_lines 6 = .ok (.ireturn, 1) := by decide +kernel
theorem d_C_wireLength_0 : decode b_C_wireLength 0 = .ok (.aload_n 0, 1) := by decide +kernel
theorem d_C_wireLength_1 : decode b_C_wireLength 1 = .ok (.getfield 9, 3) := by decide +kernel
theorem d_C_wireLength_4 : decode b_C_wireLength 4 = .ok (.iload_n 1, 1) := by decide +kernel
theorem d_C_wireLength_5 : decode b_C_wireLength 5 = .ok (.iaload, 1) := by decide +kernel
theorem d_C_wireLength_6 : decode b_C_wireLength 6 = .ok (.ifCond .ne 5, 3) := by decide +kernel
theorem d_C_wireLength_9 : decode b_C_wireLength 9 = .ok (.iconst 0, 1) := by decide +kernel
theorem d_C_wireLength_10 : decode b_C_wireLength 10 = .ok (.ireturn, 1) := by decide +kernel
theorem d_C_wireLength_11 : decode b_C_wireLength 11 = .ok (.aload_n 0, 1) := by decide +kernel
theorem d_C_wireLength_12 : decode b_C_wireLength 12 = .ok (.getfield 15, 3) := by decide +kernel
theorem d_C_wireLength_15 : decode b_C_wireLength 15 = .ok (.iload_n 1, 1) := by decide +kernel
theorem d_C_wireLength_16 : decode b_C_wireLength 16 = .ok (.invokevirtual 58, 3) := by decide +kernel
theorem d_C_wireLength_19 : decode b_C_wireLength 19 = .ok (.aload_n 0, 1) := by decide +kernel
theorem d_C_wireLength_20 : decode b_C_wireLength 20 = .ok (.getfield 15, 3) := by decide +kernel
theorem d_C_wireLength_23 : decode b_C_wireLength 23 = .ok (.iload_n 1, 1) := by decide +kernel
theorem d_C_wireLength_24 : decode b_C_wireLength 24 = .ok (.invokevirtual 51, 3) := by decide +kernel
theorem d_C_wireLength_27 : decode b_C_wireLength 27 = .ok (.isub, 1) := by decide +kernel
theorem d_C_wireLength_28 : decode b_C_wireLength 28 = .ok (.istore_n 2, 1) := by decide +kernel
theorem d_C_wireLength_29 : decode b_C_wireLength 29 = .ok (.aload_n 0, 1) := by decide +kernel
theorem d_C_wireLength_30 : decode b_C_wireLength 30 = .ok (.getfield 15, 3) := by decide +kernel
theorem d_C_wireLength_33 : decode b_C_wireLength 33 = .ok (.getfield 64, 3) := by decide +kernel
theorem d_C_wireLength_36 : decode b_C_wireLength 36 = .ok (.iconst 0, 1) := by decide +kernel
theorem d_C_wireLength_37 : decode b_C_wireLength 37 = .ok (.aaload, 1) := by decide +kernel
theorem d_C_wireLength_38 : decode b_C_wireLength 38 = .ok (.iload_n 1, 1) := by decide +kernel
theorem d_C_wireLength_39 : decode b_C_wireLength 39 = .ok (.iaload, 1) := by decide +kernel
theorem d_C_wireLength_40 : decode b_C_wireLength 40 = .ok (.aload_n 0, 1) := by decide +kernel
theorem d_C_wireLength_41 : decode b_C_wireLength 41 = .ok (.getfield 9, 3) := by decide +kernel
theorem d_C_wireLength_44 : decode b_C_wireLength 44 = .ok (.iload_n 1, 1) := by decide +kernel
theorem d_C_wireLength_45 : decode b_C_wireLength 45 = .ok (.iaload, 1) := by decide +kernel
theorem d_C_wireLength_46 : decode b_C_wireLength 46 = .ok (.imul, 1) := by decide +kernel
theorem d_C_wireLength_47 : decode b_C_wireLength 47 = .ok (.istore_n 3, 1) := by decide +kernel
theorem d_C_wireLength_48 : decode b_C_wireLength 48 = .ok (.aload_n 0, 1) := by decide +kernel
theorem d_C_wireLength_49 : decode b_C_wireLength 49 = .ok (.getfield 15, 3) := by decide +kernel
theorem d_C_wireLength_52 : decode b_C_wireLength 52 = .ok (.getfield 64, 3) := by decide +kernel
theorem d_C_wireLength_55 : decode b_C_wireLength 55 = .ok (.iconst 1, 1) := by decide +kernel
theorem d_C_wireLength_56 : decode b_C_wireLength 56 = .ok (.aaload, 1) := by decide +kernel
theorem d_C_wireLength_57 : decode b_C_wireLength 57 = .ok (.iload_n 1, 1) := by decide +kernel
theorem d_C_wireLength_58 : decode b_C_wireLength 58 = .ok (.iaload, 1) := by decide +kernel
theorem d_C_wireLength_59 : decode b_C_wireLength 59 = .ok (.aload_n 0, 1) := by decide +kernel
theorem d_C_wireLength_60 : decode b_C_wireLength 60 = .ok (.getfield 25, 3) := by decide +kernel
theorem d_C_wireLength_63 : decode b_C_wireLength 63 = .ok (.iconst 1, 1) := by decide +kernel
theorem d_C_wireLength_64 : decode b_C_wireLength 64 = .ok (.iadd, 1) := by decide +kernel
theorem d_C_wireLength_65 : decode b_C_wireLength 65 = .ok (.aload_n 0, 1) := by decide +kernel
theorem d_C_wireLength_66 : decode b_C_wireLength 66 = .ok (.getfield 9, 3) := by decide +kernel
theorem d_C_wireLength_69 : decode b_C_wireLength 69 = .ok (.iload_n 1, 1) := by decide +kernel
theorem d_C_wireLength_70 : decode b_C_wireLength 70 = .ok (.iaload, 1) := by decide +kernel
theorem d_C_wireLength_71 : decode b_C_wireLength 71 = .ok (.isub, 1) := by decide +kernel
theorem d_C_wireLength_72 : decode b_C_wireLength 72 = .ok (.imul, 1) := by decide +kernel
theorem d_C_wireLength_73 : decode b_C_wireLength 73 = .ok (.istore 4, 2) := by decide +kernel
theorem d_C_wireLength_75 : decode b_C_wireLength 75 = .ok (.iload_n 2, 1) := by decide +kernel
theorem d_C_wireLength_76 : decode b_C_wireLength 76 = .ok (.iload_n 3, 1) := by decide +kernel
theorem d_C_wireLength_77 : decode b_C_wireLength 77 = .ok (.iadd, 1) := by decide +kernel
theorem d_C_wireLength_78 : decode b_C_wireLength 78 = .ok (.iload 4, 2) := by decide +kernel
theorem d_C_wireLength_80 : decode b_C_wireLength 80 = .ok (.iadd, 1) := by decide +kernel
theorem d_C_wireLength_81 : decode b_C_wireLength 81 = .ok (.ireturn, 1) := by decide +kernel
theorem d_C_wireDelay_0 : decode b_C_wireDelay 0 = .ok (.aload_n 0, 1) := by decide +kernel
theorem d_C_wireDelay_1 : decode b_C_wireDelay 1 = .ok (.getfield 9, 3) := by decide +kernel
theorem d_C_wireDelay_4 : decode b_C_wireDelay 4 = .ok (.iload_n 1, 1) := by decide +kernel
theorem d_C_wireDelay_5 : decode b_C_wireDelay 5 = .ok (.iaload, 1) := by decide +kernel
theorem d_C_wireDelay_6 : decode b_C_wireDelay 6 = .ok (.ifCond .ne 5, 3) := by decide +kernel
theorem d_C_wireDelay_9 : decode b_C_wireDelay 9 = .ok (.dconst 0, 1) := by decide +kernel
theorem d_C_wireDelay_10 : decode b_C_wireDelay 10 = .ok (.dreturn, 1) := by decide +kernel
theorem d_C_wireDelay_11 : decode b_C_wireDelay 11 = .ok (.aload_n 0, 1) := by decide +kernel
theorem d_C_wireDelay_12 : decode b_C_wireDelay 12 = .ok (.iload_n 1, 1) := by decide +kernel
theorem d_C_wireDelay_13 : decode b_C_wireDelay 13 = .ok (.invokevirtual 68, 3) := by decide +kernel
theorem d_C_wireDelay_16 : decode b_C_wireDelay 16 = .ok (.i2d, 1) := by decide +kernel
theorem d_C_wireDelay_17 : decode b_C_wireDelay 17 = .ok (.dstore_n 2, 1) := by decide +kernel
theorem d_C_wireDelay_18 : decode b_C_wireDelay 18 = .ok (.ldc2_w 71, 3) := by decide +kernel
theorem d_C_wireDelay_21 : decode b_C_wireDelay 21 = .ok (.dload_n 2, 1) := by decide +kernel
theorem d_C_wireDelay_22 : decode b_C_wireDelay 22 = .ok (.dmul, 1) := by decide +kernel
theorem d_C_wireDelay_23 : decode b_C_wireDelay 23 = .ok (.ldc2_w 73, 3) := by decide +kernel
theorem d_C_wireDelay_26 : decode b_C_wireDelay 26 = .ok (.dload_n 2, 1) := by decide +kernel
theorem d_C_wireDelay_27 : decode b_C_wireDelay 27 = .ok (.dmul, 1) := by decide +kernel
theorem d_C_wireDelay_28 : decode b_C_wireDelay 28 = .ok (.aload_n 0, 1) := by decide +kernel
theorem d_C_wireDelay_29 : decode b_C_wireDelay 29 = .ok (.getfield 15, 3) := by decide +kernel
theorem d_C_wireDelay_32 : decode b_C_wireDelay 32 = .ok (.iload_n 1, 1) := by decide +kernel
theorem d_C_wireDelay_33 : decode b_C_wireDelay 33 = .ok (.invokevirtual 75, 3) := by decide +kernel
theorem d_C_wireDelay_36 : decode b_C_wireDelay 36 = .ok (.i2d, 1) := by decide +kernel
theorem d_C_wireDelay_37 : decode b_C_wireDelay 37 = .ok (.dadd, 1) := by decide +kernel
theorem d_C_wireDelay_38 : decode b_C_wireDelay 38 = .ok (.dmul, 1) := by decide +kernel
theorem d_C_wireDelay_39 : decode b_C_wireDelay 39 = .ok (.dreturn, 1) := by decide +kernel
theorem d_N_init_0 : decode b_N_init 0 = .ok (.aload_n 0, 1) := by decide +kernel
theorem d_N_init_1 : decode b_N_init 1 = .ok (.invokespecial 3, 3) := by decide +kernel
theorem d_N_init_4 : decode b_N_init 4 = .ok (.aload_n 0, 1) := by decide +kernel
theorem d_N_init_5 : decode b_N_init 5 = .ok (.bipush 12, 2) := by decide +kernel
theorem d_N_init_7 : decode b_N_init 7 = .ok (.newarray .int, 2) := by decide +kernel
theorem d_N_init_9 : decode b_N_init 9 = .ok (.putfield 9, 3) := by decide +kernel
theorem d_N_init_12 : decode b_N_init 12 = .ok (.aload_n 0, 1) := by decide +kernel
theorem d_N_init_13 : decode b_N_init 13 = .ok (.bipush 12, 2) := by decide +kernel
theorem d_N_init_15 : decode b_N_init 15 = .ok (.newarray .int, 2) := by decide +kernel
theorem d_N_init_17 : decode b_N_init 17 = .ok (.putfield 15, 3) := by decide +kernel
theorem d_N_init_20 : decode b_N_init 20 = .ok (.aload_n 0, 1) := by decide +kernel
theorem d_N_init_21 : decode b_N_init 21 = .ok (.bipush 12, 2) := by decide +kernel
theorem d_N_init_23 : decode b_N_init 23 = .ok (.newarray .int, 2) := by decide +kernel
theorem d_N_init_25 : decode b_N_init 25 = .ok (.putfield 18, 3) := by decide +kernel
theorem d_N_init_28 : decode b_N_init 28 = .ok (.aload_n 0, 1) := by decide +kernel
theorem d_N_init_29 : decode b_N_init 29 = .ok (.bipush 12, 2) := by decide +kernel
theorem d_N_init_31 : decode b_N_init 31 = .ok (.newarray .int, 2) := by decide +kernel
theorem d_N_init_33 : decode b_N_init 33 = .ok (.putfield 21, 3) := by decide +kernel
theorem d_N_init_36 : decode b_N_init 36 = .ok (.aload_n 0, 1) := by decide +kernel
theorem d_N_init_37 : decode b_N_init 37 = .ok (.bipush 12, 2) := by decide +kernel
theorem d_N_init_39 : decode b_N_init 39 = .ok (.newarray .int, 2) := by decide +kernel
theorem d_N_init_41 : decode b_N_init 41 = .ok (.putfield 24, 3) := by decide +kernel
theorem d_N_init_44 : decode b_N_init 44 = .ok (.aload_n 0, 1) := by decide +kernel
theorem d_N_init_45 : decode b_N_init 45 = .ok (.bipush 12, 2) := by decide +kernel
theorem d_N_init_47 : decode b_N_init 47 = .ok (.newarray .int, 2) := by decide +kernel
theorem d_N_init_49 : decode b_N_init 49 = .ok (.putfield 27, 3) := by decide +kernel
theorem d_N_init_52 : decode b_N_init 52 = .ok (.aload_n 0, 1) := by decide +kernel
theorem d_N_init_53 : decode b_N_init 53 = .ok (.iconst 2, 1) := by decide +kernel
theorem d_N_init_54 : decode b_N_init 54 = .ok (.newarray .int, 2) := by decide +kernel
theorem d_N_init_56 : decode b_N_init 56 = .ok (.putfield 30, 3) := by decide +kernel
theorem d_N_init_59 : decode b_N_init 59 = .ok (.aload_n 0, 1) := by decide +kernel
theorem d_N_init_60 : decode b_N_init 60 = .ok (.iconst 2, 1) := by decide +kernel
theorem d_N_init_61 : decode b_N_init 61 = .ok (.bipush 24, 2) := by decide +kernel
theorem d_N_init_63 : decode b_N_init 63 = .ok (.multianewarray 33 2, 4) := by decide +kernel
theorem d_N_init_67 : decode b_N_init 67 = .ok (.putfield 35, 3) := by decide +kernel
theorem d_N_init_70 : decode b_N_init 70 = .ok (.aload_n 0, 1) := by decide +kernel
theorem d_N_init_71 : decode b_N_init 71 = .ok (.iconst 2, 1) := by decide +kernel
theorem d_N_init_72 : decode b_N_init 72 = .ok (.bipush 12, 2) := by decide +kernel
theorem d_N_init_74 : decode b_N_init 74 = .ok (.multianewarray 33 2, 4) := by decide +kernel
theorem d_N_init_78 : decode b_N_init 78 = .ok (.putfield 38, 3) := by decide +kernel
theorem d_N_init_81 : decode b_N_init 81 = .ok (.aload_n 0, 1) := by decide +kernel
theorem d_N_init_82 : decode b_N_init 82 = .ok (.bipush 12, 2) := by decide +kernel
theorem d_N_init_84 : decode b_N_init 84 = .ok (.newarray .int, 2) := by decide +kernel
theorem d_N_init_86 : decode b_N_init 86 = .ok (.putfield 41, 3) := by decide +kernel
theorem d_N_init_89 : decode b_N_init 89 = .ok (.aload_n 0, 1) := by decide +kernel
theorem d_N_init_90 : decode b_N_init 90 = .ok (.bipush 12, 2) := by decide +kernel
theorem d_N_init_92 : decode b_N_init 92 = .ok (.newarray .int, 2) := by decide +kernel
theorem d_N_init_94 : decode b_N_init 94 = .ok (.putfield 44, 3) := by decide +kernel
theorem d_N_init_97 : decode b_N_init 97 = .ok (.aload_n 0, 1) := by decide +kernel
theorem d_N_init_98 : decode b_N_init 98 = .ok (.bipush 12, 2) := by decide +kernel
theorem d_N_init_100 : decode b_N_init 100 = .ok (.newarray .int, 2) := by decide +kernel
theorem d_N_init_102 : decode b_N_init 102 = .ok (.putfield 47, 3) := by decide +kernel
theorem d_N_init_105 : decode b_N_init 105 = .ok (.aload_n 0, 1) := by decide +kernel
theorem d_N_init_106 : decode b_N_init 106 = .ok (.invokevirtual 50, 3) := by decide +kernel
theorem d_N_init_109 : decode b_N_init 109 = .ok (.return_, 1) := by decide +kernel
theorem d_N_removeAll_0 : decode b_N_removeAll 0 = .ok (.aload_n 0, 1) := by decide +kernel
theorem d_N_removeAll_1 : decode b_N_removeAll 1 = .ok (.iconst 0, 1) := by decide +kernel
theorem d_N_removeAll_2 : decode b_N_removeAll 2 = .ok (.putfield 53, 3) := by decide +kernel
theorem d_N_removeAll_5 : decode b_N_removeAll 5 = .ok (.iconst 0, 1) := by decide +kernel
theorem d_N_removeAll_6 : decode b_N_removeAll 6 = .ok (.istore_n 1, 1) := by decide +kernel
theorem d_N_removeAll_7 : decode b_N_removeAll 7 = .ok (.iload_n 1, 1) := by decide +kernel
theorem d_N_removeAll_8 : decode b_N_removeAll 8 = .ok (.iconst 2, 1) := by decide +kernel
theorem d_N_removeAll_9 : decode b_N_removeAll 9 = .ok (.if_icmp .ge 36, 3) := by decide +kernel
theorem d_N_removeAll_12 : decode b_N_removeAll 12 = .ok (.aload_n 0, 1) := by decide +kernel
theorem d_N_removeAll_13 : decode b_N_removeAll 13 = .ok (.getfield 30, 3) := by decide +kernel
theorem d_N_removeAll_16 : decode b_N_removeAll 16 = .ok (.iload_n 1, 1) := by decide +kernel
theorem d_N_removeAll_17 : decode b_N_removeAll 17 = .ok (.iconst 1, 1) := by decide +kernel
theorem d_N_removeAll_18 : decode b_N_removeAll 18 = .ok (.iastore, 1) := by decide +kernel
theorem d_N_removeAll_19 : decode b_N_removeAll 19 = .ok (.aload_n 0, 1) := by decide +kernel
theorem d_N_removeAll_20 : decode b_N_removeAll 20 = .ok (.getfield 35, 3) := by decide +kernel
theorem d_N_removeAll_23 : decode b_N_removeAll 23 = .ok (.iload_n 1, 1) := by decide +kernel
theorem d_N_removeAll_24 : decode b_N_removeAll 24 = .ok (.aaload, 1) := by decide +kernel
theorem d_N_removeAll_25 : decode b_N_removeAll 25 = .ok (.iconst (-1), 1) := by decide +kernel
theorem d_N_removeAll_26 : decode b_N_removeAll 26 = .ok (.invokestatic 57, 3) := by decide +kernel
theorem d_N_removeAll_29 : decode b_N_removeAll 29 = .ok (.aload_n 0, 1) := by decide +kernel
theorem d_N_removeAll_30 : decode b_N_removeAll 30 = .ok (.getfield 38, 3) := by decide +kernel
theorem d_N_removeAll_33 : decode b_N_removeAll 33 = .ok (.iload_n 1, 1) := by decide +kernel
theorem d_N_removeAll_34 : decode b_N_removeAll 34 = .ok (.aaload, 1) := by decide +kernel
theorem d_N_removeAll_35 : decode b_N_removeAll 35 = .ok (.iconst 0, 1) := by decide +kernel
theorem d_N_removeAll_36 : decode b_N_removeAll 36 = .ok (.invokestatic 57, 3) := by decide +kernel
theorem d_N_removeAll_39 : decode b_N_removeAll 39 = .ok (.iinc 1 1, 3) := by decide +kernel
theorem d_N_removeAll_42 : decode b_N_removeAll 42 = .ok (.goto (-35), 3) := by decide +kernel
theorem d_N_removeAll_45 : decode b_N_removeAll 45 = .ok (.aload_n 0, 1) := by decide +kernel
theorem d_N_removeAll_46 : decode b_N_removeAll 46 = .ok (.getfield 41, 3) := by decide +kernel
theorem d_N_removeAll_49 : decode b_N_removeAll 49 = .ok (.bipush 24, 2) := by decide +kernel
theorem d_N_removeAll_51 : decode b_N_removeAll 51 = .ok (.invokestatic 57, 3) := by decide +kernel
theorem d_N_removeAll_54 : decode b_N_removeAll 54 = .ok (.aload_n 0, 1) := by decide +kernel
theorem d_N_removeAll_55 : decode b_N_removeAll 55 = .ok (.getfield 44, 3) := by decide +kernel
theorem d_N_removeAll_58 : decode b_N_removeAll 58 = .ok (.iconst (-1), 1) := by decide +kernel
theorem d_N_removeAll_59 : decode b_N_removeAll 59 = .ok (.invokestatic 57, 3) := by decide +kernel
theorem d_N_removeAll_62 : decode b_N_removeAll 62 = .ok (.aload_n 0, 1) := by decide +kernel
theorem d_N_removeAll_63 : decode b_N_removeAll 63 = .ok (.getfield 47, 3) := by decide +kernel
theorem d_N_removeAll_66 : decode b_N_removeAll 66 = .ok (.iconst (-1), 1) := by decide +kernel
theorem d_N_removeAll_67 : decode b_N_removeAll 67 = .ok (.invokestatic 57, 3) := by decide +kernel
theorem d_N_removeAll_70 : decode b_N_removeAll 70 = .ok (.return_, 1) := by decide +kernel
theorem d_N_hasRoom_0 : decode b_N_hasRoom 0 = .ok (.aload_n 0, 1) := by decide +kernel
theorem d_N_hasRoom_1 : decode b_N_hasRoom 1 = .ok (.getfield 53, 3) := by decide +kernel
theorem d_N_hasRoom_4 : decode b_N_hasRoom 4 = .ok (.bipush 12, 2) := by decide +kernel
theorem d_N_hasRoom_6 : decode b_N_hasRoom 6 = .ok (.if_icmp .ge 23, 3) := by decide +kernel
theorem d_N_hasRoom_9 : decode b_N_hasRoom 9 = .ok (.aload_n 0, 1) := by decide +kernel
theorem d_N_hasRoom_10 : decode b_N_hasRoom 10 = .ok (.getfield 30, 3) := by decide +kernel
theorem d_N_hasRoom_13 : decode b_N_hasRoom 13 = .ok (.iload_n 2, 1) := by decide +kernel
theorem d_N_hasRoom_14 : decode b_N_hasRoom 14 = .ok (.iaload, 1) := by decide +kernel
theorem d_N_hasRoom_15 : decode b_N_hasRoom 15 = .ok (.iload_n 1, 1) := by decide +kernel
theorem d_N_hasRoom_16 : decode b_N_hasRoom 16 = .ok (.invokestatic 63, 3) := by decide +kernel
theorem d_N_hasRoom_19 : decode b_N_hasRoom 19 = .ok (.iadd, 1) := by decide +kernel
theorem d_N_hasRoom_20 : decode b_N_hasRoom 20 = .ok (.bipush 24, 2) := by decide +kernel
theorem d_N_hasRoom_22 : decode b_N_hasRoom 22 = .ok (.if_icmp .gt 7, 3) := by decide +kernel
theorem d_N_hasRoom_25 : decode b_N_hasRoom 25 = .ok (.iconst 1, 1) := by decide +kernel
theorem d_N_hasRoom_26 : decode b_N_hasRoom 26 = .ok (.goto 4, 3) := by decide +kernel
theorem d_N_hasRoom_29 : decode b_N_hasRoom 29 = .ok (.iconst 0, 1) := by decide +kernel
theorem d_N_hasRoom_30 : decode b_N_hasRoom 30 = .ok (.ireturn, 1) := by decide +kernel
theorem d_N_add_0 : decode b_N_add 0 = .ok (.aload_n 0, 1) := by decide +kernel
theorem d_N_add_1 : decode b_N_add 1 = .ok (.getfield 53, 3) := by decide +kernel
theorem d_N_add_4 : decode b_N_add 4 = .ok (.istore 6, 2) := by decide +kernel
theorem d_N_add_6 : decode b_N_add 6 = .ok (.aload_n 0, 1) := by decide +kernel
theorem d_N_add_7 : decode b_N_add 7 = .ok (.getfield 30, 3) := by decide +kernel
theorem d_N_add_10 : decode b_N_add 10 = .ok (.iload 5, 2) := by decide +kernel
theorem d_N_add_12 : decode b_N_add 12 = .ok (.iaload, 1) := by decide +kernel
theorem d_N_add_13 : decode b_N_add 13 = .ok (.istore 7, 2) := by decide +kernel
theorem d_N_add_15 : decode b_N_add 15 = .ok (.iload 7, 2) := by decide +kernel
theorem d_N_add_17 : decode b_N_add 17 = .ok (.iload_n 1, 1) := by decide +kernel
theorem d_N_add_18 : decode b_N_add 18 = .ok (.invokestatic 63, 3) := by decide +kernel
theorem d_N_add_21 : decode b_N_add 21 = .ok (.iadd, 1) := by decide +kernel
theorem d_N_add_22 : decode b_N_add 22 = .ok (.iconst 1, 1) := by decide +kernel
theorem d_N_add_23 : decode b_N_add 23 = .ok (.isub, 1) := by decide +kernel
theorem d_N_add_24 : decode b_N_add 24 = .ok (.istore 8, 2) := by decide +kernel
theorem d_N_add_26 : decode b_N_add 26 = .ok (.aload_n 0, 1) := by decide +kernel
theorem d_N_add_27 : decode b_N_add 27 = .ok (.getfield 9, 3) := by decide +kernel
theorem d_N_add_30 : decode b_N_add 30 = .ok (.iload 6, 2) := by decide +kernel
theorem d_N_add_32 : decode b_N_add 32 = .ok (.iload_n 1, 1) := by decide +kernel
theorem d_N_add_33 : decode b_N_add 33 = .ok (.iastore, 1) := by decide +kernel
theorem d_N_add_34 : decode b_N_add 34 = .ok (.aload_n 0, 1) := by decide +kernel
theorem d_N_add_35 : decode b_N_add 35 = .ok (.getfield 15, 3) := by decide +kernel
theorem d_N_add_38 : decode b_N_add 38 = .ok (.iload 6, 2) := by decide +kernel
theorem d_N_add_40 : decode b_N_add 40 = .ok (.iload_n 2, 1) := by decide +kernel
theorem d_N_add_41 : decode b_N_add 41 = .ok (.iastore, 1) := by decide +kernel
theorem d_N_add_42 : decode b_N_add 42 = .ok (.aload_n 0, 1) := by decide +kernel
theorem d_N_add_43 : decode b_N_add 43 = .ok (.getfield 18, 3) := by decide +kernel
theorem d_N_add_46 : decode b_N_add 46 = .ok (.iload 6, 2) := by decide +kernel
theorem d_N_add_48 : decode b_N_add 48 = .ok (.iload_n 3, 1) := by decide +kernel
theorem d_N_add_49 : decode b_N_add 49 = .ok (.iastore, 1) := by decide +kernel
theorem d_N_add_50 : decode b_N_add 50 = .ok (.aload_n 0, 1) := by decide +kernel
theorem d_N_add_51 : decode b_N_add 51 = .ok (.getfield 21, 3) := by decide +kernel
theorem d_N_add_54 : decode b_N_add 54 = .ok (.iload 6, 2) := by decide +kernel
theorem d_N_add_56 : decode b_N_add 56 = .ok (.iload 4, 2) := by decide +kernel
theorem d_N_add_58 : decode b_N_add 58 = .ok (.iastore, 1) := by decide +kernel
theorem d_N_add_59 : decode b_N_add 59 = .ok (.aload_n 0, 1) := by decide +kernel
theorem d_N_add_60 : decode b_N_add 60 = .ok (.getfield 24, 3) := by decide +kernel
theorem d_N_add_63 : decode b_N_add 63 = .ok (.iload 6, 2) := by decide +kernel
theorem d_N_add_65 : decode b_N_add 65 = .ok (.iload 5, 2) := by decide +kernel
theorem d_N_add_67 : decode b_N_add 67 = .ok (.iastore, 1) := by decide +kernel
theorem d_N_add_68 : decode b_N_add 68 = .ok (.aload_n 0, 1) := by decide +kernel
theorem d_N_add_69 : decode b_N_add 69 = .ok (.getfield 27, 3) := by decide +kernel
theorem d_N_add_72 : decode b_N_add 72 = .ok (.iload 6, 2) := by decide +kernel
theorem d_N_add_74 : decode b_N_add 74 = .ok (.iload 7, 2) := by decide +kernel
theorem d_N_add_76 : decode b_N_add 76 = .ok (.iastore, 1) := by decide +kernel
theorem d_N_add_77 : decode b_N_add 77 = .ok (.aload_n 0, 1) := by decide +kernel
theorem d_N_add_78 : decode b_N_add 78 = .ok (.getfield 47, 3) := by decide +kernel
theorem d_N_add_81 : decode b_N_add 81 = .ok (.iload 4, 2) := by decide +kernel
theorem d_N_add_83 : decode b_N_add 83 = .ok (.iload 6, 2) := by decide +kernel
theorem d_N_add_85 : decode b_N_add 85 = .ok (.iastore, 1) := by decide +kernel
theorem d_N_add_86 : decode b_N_add 86 = .ok (.aload_n 0, 1) := by decide +kernel
theorem d_N_add_87 : decode b_N_add 87 = .ok (.iload 5, 2) := by decide +kernel
theorem d_N_add_89 : decode b_N_add 89 = .ok (.iload 7, 2) := by decide +kernel
theorem d_N_add_91 : decode b_N_add 91 = .ok (.iload_n 2, 1) := by decide +kernel
theorem d_N_add_92 : decode b_N_add 92 = .ok (.invokevirtual 67, 3) := by decide +kernel
theorem d_N_add_95 : decode b_N_add 95 = .ok (.iload_n 1, 1) := by decide +kernel
theorem d_N_add_96 : decode b_N_add 96 = .ok (.invokestatic 71, 3) := by decide +kernel
theorem d_N_add_99 : decode b_N_add 99 = .ok (.ifCond .ne 14, 3) := by decide +kernel
theorem d_N_add_102 : decode b_N_add 102 = .ok (.aload_n 0, 1) := by decide +kernel
theorem d_N_add_103 : decode b_N_add 103 = .ok (.iload 5, 2) := by decide +kernel
theorem d_N_add_105 : decode b_N_add 105 = .ok (.iload 7, 2) := by decide +kernel
theorem d_N_add_107 : decode b_N_add 107 = .ok (.iconst 1, 1) := by decide +kernel
theorem d_N_add_108 : decode b_N_add 108 = .ok (.iadd, 1) := by decide +kernel
theorem d_N_add_109 : decode b_N_add 109 = .ok (.iload_n 3, 1) := by decide +kernel
theorem d_N_add_110 : decode b_N_add 110 = .ok (.invokevirtual 67, 3) := by decide +kernel
theorem d_N_add_113 : decode b_N_add 113 = .ok (.aload_n 0, 1) := by decide +kernel
theorem d_N_add_114 : decode b_N_add 114 = .ok (.iload 5, 2) := by decide +kernel
theorem d_N_add_116 : decode b_N_add 116 = .ok (.iload 8, 2) := by decide +kernel
theorem d_N_add_118 : decode b_N_add 118 = .ok (.iload 4, 2) := by decide +kernel
theorem d_N_add_120 : decode b_N_add 120 = .ok (.invokevirtual 67, 3) := by decide +kernel
theorem d_N_add_123 : decode b_N_add 123 = .ok (.aload_n 0, 1) := by decide +kernel
theorem d_N_add_124 : decode b_N_add 124 = .ok (.getfield 30, 3) := by decide +kernel
theorem d_N_add_127 : decode b_N_add 127 = .ok (.iload 5, 2) := by decide +kernel
theorem d_N_add_129 : decode b_N_add 129 = .ok (.iload 8, 2) := by decide +kernel
theorem d_N_add_131 : decode b_N_add 131 = .ok (.iconst 2, 1) := by decide +kernel
theorem d_N_add_132 : decode b_N_add 132 = .ok (.iadd, 1) := by decide +kernel
theorem d_N_add_133 : decode b_N_add 133 = .ok (.iastore, 1) := by decide +kernel
theorem d_N_add_134 : decode b_N_add 134 = .ok (.aload_n 0, 1) := by decide +kernel
theorem d_N_add_135 : decode b_N_add 135 = .ok (.dup, 1) := by decide +kernel
theorem d_N_add_136 : decode b_N_add 136 = .ok (.getfield 53, 3) := by decide +kernel
theorem d_N_add_139 : decode b_N_add 139 = .ok (.iconst 1, 1) := by decide +kernel
theorem d_N_add_140 : decode b_N_add 140 = .ok (.iadd, 1) := by decide +kernel
theorem d_N_add_141 : decode b_N_add 141 = .ok (.putfield 53, 3) := by decide +kernel
theorem d_N_add_144 : decode b_N_add 144 = .ok (.iload 6, 2) := by decide +kernel
theorem d_N_add_146 : decode b_N_add 146 = .ok (.ireturn, 1) := by decide +kernel
theorem d_N_addPin_0 : decode b_N_addPin 0 = .ok (.aload_n 0, 1) := by decide +kernel
theorem d_N_addPin_1 : decode b_N_addPin 1 = .ok (.getfield 35, 3) := by decide +kernel
theorem d_N_addPin_4 : decode b_N_addPin 4 = .ok (.iload_n 1, 1) := by decide +kernel
theorem d_N_addPin_5 : decode b_N_addPin 5 = .ok (.aaload, 1) := by decide +kernel
theorem d_N_addPin_6 : decode b_N_addPin 6 = .ok (.iload_n 2, 1) := by decide +kernel
theorem d_N_addPin_7 : decode b_N_addPin 7 = .ok (.iload_n 3, 1) := by decide +kernel
theorem d_N_addPin_8 : decode b_N_addPin 8 = .ok (.iastore, 1) := by decide +kernel
theorem d_N_addPin_9 : decode b_N_addPin 9 = .ok (.aload_n 0, 1) := by decide +kernel
theorem d_N_addPin_10 : decode b_N_addPin 10 = .ok (.getfield 38, 3) := by decide +kernel
theorem d_N_addPin_13 : decode b_N_addPin 13 = .ok (.iload_n 1, 1) := by decide +kernel
theorem d_N_addPin_14 : decode b_N_addPin 14 = .ok (.aaload, 1) := by decide +kernel
theorem d_N_addPin_15 : decode b_N_addPin 15 = .ok (.iload_n 3, 1) := by decide +kernel
theorem d_N_addPin_16 : decode b_N_addPin 16 = .ok (.dup2, 1) := by decide +kernel
theorem d_N_addPin_17 : decode b_N_addPin 17 = .ok (.iaload, 1) := by decide +kernel
theorem d_N_addPin_18 : decode b_N_addPin 18 = .ok (.iconst 1, 1) := by decide +kernel
theorem d_N_addPin_19 : decode b_N_addPin 19 = .ok (.iadd, 1) := by decide +kernel
theorem d_N_addPin_20 : decode b_N_addPin 20 = .ok (.iastore, 1) := by decide +kernel
theorem d_N_addPin_21 : decode b_N_addPin 21 = .ok (.aload_n 0, 1) := by decide +kernel
theorem d_N_addPin_22 : decode b_N_addPin 22 = .ok (.getfield 41, 3) := by decide +kernel
theorem d_N_addPin_25 : decode b_N_addPin 25 = .ok (.iload_n 3, 1) := by decide +kernel
theorem d_N_addPin_26 : decode b_N_addPin 26 = .ok (.aload_n 0, 1) := by decide +kernel
theorem d_N_addPin_27 : decode b_N_addPin 27 = .ok (.getfield 41, 3) := by decide +kernel
theorem d_N_addPin_30 : decode b_N_addPin 30 = .ok (.iload_n 3, 1) := by decide +kernel
theorem d_N_addPin_31 : decode b_N_addPin 31 = .ok (.iaload, 1) := by decide +kernel
theorem d_N_addPin_32 : decode b_N_addPin 32 = .ok (.iload_n 2, 1) := by decide +kernel
theorem d_N_addPin_33 : decode b_N_addPin 33 = .ok (.invokestatic 75, 3) := by decide +kernel
theorem d_N_addPin_36 : decode b_N_addPin 36 = .ok (.iastore, 1) := by decide +kernel
theorem d_N_addPin_37 : decode b_N_addPin 37 = .ok (.aload_n 0, 1) := by decide +kernel
theorem d_N_addPin_38 : decode b_N_addPin 38 = .ok (.getfield 44, 3) := by decide +kernel
theorem d_N_addPin_41 : decode b_N_addPin 41 = .ok (.iload_n 3, 1) := by decide +kernel
theorem d_N_addPin_42 : decode b_N_addPin 42 = .ok (.aload_n 0, 1) := by decide +kernel
theorem d_N_addPin_43 : decode b_N_addPin 43 = .ok (.getfield 44, 3) := by decide +kernel
theorem d_N_addPin_46 : decode b_N_addPin 46 = .ok (.iload_n 3, 1) := by decide +kernel
theorem d_N_addPin_47 : decode b_N_addPin 47 = .ok (.iaload, 1) := by decide +kernel
theorem d_N_addPin_48 : decode b_N_addPin 48 = .ok (.iload_n 2, 1) := by decide +kernel
theorem d_N_addPin_49 : decode b_N_addPin 49 = .ok (.invokestatic 81, 3) := by decide +kernel
theorem d_N_addPin_52 : decode b_N_addPin 52 = .ok (.iastore, 1) := by decide +kernel
theorem d_N_addPin_53 : decode b_N_addPin 53 = .ok (.return_, 1) := by decide +kernel
theorem d_N_hasPin_0 : decode b_N_hasPin 0 = .ok (.iload_n 1, 1) := by decide +kernel
theorem d_N_hasPin_1 : decode b_N_hasPin 1 = .ok (.aload_n 0, 1) := by decide +kernel
theorem d_N_hasPin_2 : decode b_N_hasPin 2 = .ok (.getfield 53, 3) := by decide +kernel
theorem d_N_hasPin_5 : decode b_N_hasPin 5 = .ok (.invokestatic 84, 3) := by decide +kernel
theorem d_N_hasPin_8 : decode b_N_hasPin 8 = .ok (.ifCond .eq 23, 3) := by decide +kernel
theorem d_N_hasPin_11 : decode b_N_hasPin 11 = .ok (.iload_n 2, 1) := by decide +kernel
theorem d_N_hasPin_12 : decode b_N_hasPin 12 = .ok (.aload_n 0, 1) := by decide +kernel
theorem d_N_hasPin_13 : decode b_N_hasPin 13 = .ok (.getfield 9, 3) := by decide +kernel
theorem d_N_hasPin_16 : decode b_N_hasPin 16 = .ok (.iload_n 1, 1) := by decide +kernel
theorem d_N_hasPin_17 : decode b_N_hasPin 17 = .ok (.iaload, 1) := by decide +kernel
theorem d_N_hasPin_18 : decode b_N_hasPin 18 = .ok (.invokestatic 63, 3) := by decide +kernel
theorem d_N_hasPin_21 : decode b_N_hasPin 21 = .ok (.invokestatic 84, 3) := by decide +kernel
theorem d_N_hasPin_24 : decode b_N_hasPin 24 = .ok (.ifCond .eq 7, 3) := by decide +kernel
theorem d_N_hasPin_27 : decode b_N_hasPin 27 = .ok (.iconst 1, 1) := by decide +kernel
theorem d_N_hasPin_28 : decode b_N_hasPin 28 = .ok (.goto 4, 3) := by decide +kernel
theorem d_N_hasPin_31 : decode b_N_hasPin 31 = .ok (.iconst 0, 1) := by decide +kernel
theorem d_N_hasPin_32 : decode b_N_hasPin 32 = .ok (.ireturn, 1) := by decide +kernel
theorem d_N_pinColumn_0 : decode b_N_pinColumn 0 = .ok (.aload_n 0, 1) := by decide +kernel
theorem d_N_pinColumn_1 : decode b_N_pinColumn 1 = .ok (.getfield 27, 3) := by decide +kernel
theorem d_N_pinColumn_4 : decode b_N_pinColumn 4 = .ok (.iload_n 1, 1) := by decide +kernel
theorem d_N_pinColumn_5 : decode b_N_pinColumn 5 = .ok (.iaload, 1) := by decide +kernel
theorem d_N_pinColumn_6 : decode b_N_pinColumn 6 = .ok (.iload_n 2, 1) := by decide +kernel
theorem d_N_pinColumn_7 : decode b_N_pinColumn 7 = .ok (.iadd, 1) := by decide +kernel
theorem d_N_pinColumn_8 : decode b_N_pinColumn 8 = .ok (.ireturn, 1) := by decide +kernel
theorem d_N_isDriven_0 : decode b_N_isDriven 0 = .ok (.aload_n 0, 1) := by decide +kernel
theorem d_N_isDriven_1 : decode b_N_isDriven 1 = .ok (.getfield 47, 3) := by decide +kernel
theorem d_N_isDriven_4 : decode b_N_isDriven 4 = .ok (.iload_n 1, 1) := by decide +kernel
theorem d_N_isDriven_5 : decode b_N_isDriven 5 = .ok (.iaload, 1) := by decide +kernel
theorem d_N_isDriven_6 : decode b_N_isDriven 6 = .ok (.iconst (-1), 1) := by decide +kernel
theorem d_N_isDriven_7 : decode b_N_isDriven 7 = .ok (.if_icmp .eq 7, 3) := by decide +kernel
theorem d_N_isDriven_10 : decode b_N_isDriven 10 = .ok (.iconst 1, 1) := by decide +kernel
theorem d_N_isDriven_11 : decode b_N_isDriven 11 = .ok (.goto 4, 3) := by decide +kernel
theorem d_N_isDriven_14 : decode b_N_isDriven 14 = .ok (.iconst 0, 1) := by decide +kernel
theorem d_N_isDriven_15 : decode b_N_isDriven 15 = .ok (.ireturn, 1) := by decide +kernel
theorem d_N_pins_0 : decode b_N_pins 0 = .ok (.aload_n 0, 1) := by decide +kernel
theorem d_N_pins_1 : decode b_N_pins 1 = .ok (.getfield 38, 3) := by decide +kernel
theorem d_N_pins_4 : decode b_N_pins 4 = .ok (.iconst 0, 1) := by decide +kernel
theorem d_N_pins_5 : decode b_N_pins 5 = .ok (.aaload, 1) := by decide +kernel
theorem d_N_pins_6 : decode b_N_pins 6 = .ok (.iload_n 1, 1) := by decide +kernel
theorem d_N_pins_7 : decode b_N_pins 7 = .ok (.iaload, 1) := by decide +kernel
theorem d_N_pins_8 : decode b_N_pins 8 = .ok (.aload_n 0, 1) := by decide +kernel
theorem d_N_pins_9 : decode b_N_pins 9 = .ok (.getfield 38, 3) := by decide +kernel
theorem d_N_pins_12 : decode b_N_pins 12 = .ok (.iconst 1, 1) := by decide +kernel
theorem d_N_pins_13 : decode b_N_pins 13 = .ok (.aaload, 1) := by decide +kernel
theorem d_N_pins_14 : decode b_N_pins 14 = .ok (.iload_n 1, 1) := by decide +kernel
theorem d_N_pins_15 : decode b_N_pins 15 = .ok (.iaload, 1) := by decide +kernel
theorem d_N_pins_16 : decode b_N_pins 16 = .ok (.iadd, 1) := by decide +kernel
theorem d_N_pins_17 : decode b_N_pins 17 = .ok (.ireturn, 1) := by decide +kernel
theorem d_N_hasPad_0 : decode b_N_hasPad 0 = .ok (.aload_n 0, 1) := by decide +kernel
theorem d_N_hasPad_1 : decode b_N_hasPad 1 = .ok (.iload_n 1, 1) := by decide +kernel
theorem d_N_hasPad_2 : decode b_N_hasPad 2 = .ok (.invokevirtual 88, 3) := by decide +kernel
theorem d_N_hasPad_5 : decode b_N_hasPad 5 = .ok (.ifCond .ne 15, 3) := by decide +kernel
theorem d_N_hasPad_8 : decode b_N_hasPad 8 = .ok (.aload_n 0, 1) := by decide +kernel
theorem d_N_hasPad_9 : decode b_N_hasPad 9 = .ok (.iload_n 1, 1) := by decide +kernel
theorem d_N_hasPad_10 : decode b_N_hasPad 10 = .ok (.invokevirtual 91, 3) := by decide +kernel
theorem d_N_hasPad_13 : decode b_N_hasPad 13 = .ok (.ifCond .le 7, 3) := by decide +kernel
theorem d_N_hasPad_16 : decode b_N_hasPad 16 = .ok (.iconst 1, 1) := by decide +kernel
theorem d_N_hasPad_17 : decode b_N_hasPad 17 = .ok (.goto 4, 3) := by decide +kernel
theorem d_N_hasPad_20 : decode b_N_hasPad 20 = .ok (.iconst 0, 1) := by decide +kernel
theorem d_N_hasPad_21 : decode b_N_hasPad 21 = .ok (.ireturn, 1) := by decide +kernel
theorem d_N_isWired_0 : decode b_N_isWired 0 = .ok (.aload_n 0, 1) := by decide +kernel
theorem d_N_isWired_1 : decode b_N_isWired 1 = .ok (.iload_n 1, 1) := by decide +kernel
theorem d_N_isWired_2 : decode b_N_isWired 2 = .ok (.invokevirtual 91, 3) := by decide +kernel
theorem d_N_isWired_5 : decode b_N_isWired 5 = .ok (.iconst 2, 1) := by decide +kernel
theorem d_N_isWired_6 : decode b_N_isWired 6 = .ok (.if_icmp .ge 11, 3) := by decide +kernel
theorem d_N_isWired_9 : decode b_N_isWired 9 = .ok (.aload_n 0, 1) := by decide +kernel
theorem d_N_isWired_10 : decode b_N_isWired 10 = .ok (.iload_n 1, 1) := by decide +kernel
theorem d_N_isWired_11 : decode b_N_isWired 11 = .ok (.invokevirtual 94, 3) := by decide +kernel
theorem d_N_isWired_14 : decode b_N_isWired 14 = .ok (.ifCond .eq 7, 3) := by decide +kernel
theorem d_N_isWired_17 : decode b_N_isWired 17 = .ok (.iconst 1, 1) := by decide +kernel
theorem d_N_isWired_18 : decode b_N_isWired 18 = .ok (.goto 4, 3) := by decide +kernel
theorem d_N_isWired_21 : decode b_N_isWired 21 = .ok (.iconst 0, 1) := by decide +kernel
theorem d_N_isWired_22 : decode b_N_isWired 22 = .ok (.ireturn, 1) := by decide +kernel
theorem d_N_wiredNets_0 : decode b_N_wiredNets 0 = .ok (.iconst 0, 1) := by decide +kernel
theorem d_N_wiredNets_1 : decode b_N_wiredNets 1 = .ok (.istore_n 1, 1) := by decide +kernel
theorem d_N_wiredNets_2 : decode b_N_wiredNets 2 = .ok (.iconst 0, 1) := by decide +kernel
theorem d_N_wiredNets_3 : decode b_N_wiredNets 3 = .ok (.istore_n 2, 1) := by decide +kernel
theorem d_N_wiredNets_4 : decode b_N_wiredNets 4 = .ok (.iload_n 2, 1) := by decide +kernel
theorem d_N_wiredNets_5 : decode b_N_wiredNets 5 = .ok (.bipush 12, 2) := by decide +kernel
theorem d_N_wiredNets_7 : decode b_N_wiredNets 7 = .ok (.if_icmp .ge 20, 3) := by decide +kernel
theorem d_N_wiredNets_10 : decode b_N_wiredNets 10 = .ok (.aload_n 0, 1) := by decide +kernel
theorem d_N_wiredNets_11 : decode b_N_wiredNets 11 = .ok (.iload_n 2, 1) := by decide +kernel
theorem d_N_wiredNets_12 : decode b_N_wiredNets 12 = .ok (.invokevirtual 97, 3) := by decide +kernel
theorem d_N_wiredNets_15 : decode b_N_wiredNets 15 = .ok (.ifCond .eq 6, 3) := by decide +kernel
theorem d_N_wiredNets_18 : decode b_N_wiredNets 18 = .ok (.iinc 1 1, 3) := by decide +kernel
theorem d_N_wiredNets_21 : decode b_N_wiredNets 21 = .ok (.iinc 2 1, 3) := by decide +kernel
theorem d_N_wiredNets_24 : decode b_N_wiredNets 24 = .ok (.goto (-20), 3) := by decide +kernel
theorem d_N_wiredNets_27 : decode b_N_wiredNets 27 = .ok (.iload_n 1, 1) := by decide +kernel
theorem d_N_wiredNets_28 : decode b_N_wiredNets 28 = .ok (.ireturn, 1) := by decide +kernel
theorem d_N_leftEnd_0 : decode b_N_leftEnd 0 = .ok (.aload_n 0, 1) := by decide +kernel
theorem d_N_leftEnd_1 : decode b_N_leftEnd 1 = .ok (.iload_n 1, 1) := by decide +kernel
theorem d_N_leftEnd_2 : decode b_N_leftEnd 2 = .ok (.invokevirtual 97, 3) := by decide +kernel
theorem d_N_leftEnd_5 : decode b_N_leftEnd 5 = .ok (.ifCond .ne 5, 3) := by decide +kernel
theorem d_N_leftEnd_8 : decode b_N_leftEnd 8 = .ok (.iconst (-1), 1) := by decide +kernel
theorem d_N_leftEnd_9 : decode b_N_leftEnd 9 = .ok (.ireturn, 1) := by decide +kernel
theorem d_N_leftEnd_10 : decode b_N_leftEnd 10 = .ok (.aload_n 0, 1) := by decide +kernel
theorem d_N_leftEnd_11 : decode b_N_leftEnd 11 = .ok (.iload_n 1, 1) := by decide +kernel
theorem d_N_leftEnd_12 : decode b_N_leftEnd 12 = .ok (.invokevirtual 94, 3) := by decide +kernel
theorem d_N_leftEnd_15 : decode b_N_leftEnd 15 = .ok (.ifCond .eq 7, 3) := by decide +kernel
theorem d_N_leftEnd_18 : decode b_N_leftEnd 18 = .ok (.iconst 0, 1) := by decide +kernel
theorem d_N_leftEnd_19 : decode b_N_leftEnd 19 = .ok (.goto 9, 3) := by decide +kernel
theorem d_N_leftEnd_22 : decode b_N_leftEnd 22 = .ok (.aload_n 0, 1) := by decide +kernel
theorem d_N_leftEnd_23 : decode b_N_leftEnd 23 = .ok (.getfield 41, 3) := by decide +kernel
theorem d_N_leftEnd_26 : decode b_N_leftEnd 26 = .ok (.iload_n 1, 1) := by decide +kernel
theorem d_N_leftEnd_27 : decode b_N_leftEnd 27 = .ok (.iaload, 1) := by decide +kernel
theorem d_N_leftEnd_28 : decode b_N_leftEnd 28 = .ok (.ireturn, 1) := by decide +kernel
theorem d_N_rightEnd_0 : decode b_N_rightEnd 0 = .ok (.aload_n 0, 1) := by decide +kernel
theorem d_N_rightEnd_1 : decode b_N_rightEnd 1 = .ok (.iload_n 1, 1) := by decide +kernel
theorem d_N_rightEnd_2 : decode b_N_rightEnd 2 = .ok (.invokevirtual 97, 3) := by decide +kernel
theorem d_N_rightEnd_5 : decode b_N_rightEnd 5 = .ok (.ifCond .eq 12, 3) := by decide +kernel
theorem d_N_rightEnd_8 : decode b_N_rightEnd 8 = .ok (.aload_n 0, 1) := by decide +kernel
theorem d_N_rightEnd_9 : decode b_N_rightEnd 9 = .ok (.getfield 44, 3) := by decide +kernel
theorem d_N_rightEnd_12 : decode b_N_rightEnd 12 = .ok (.iload_n 1, 1) := by decide +kernel
theorem d_N_rightEnd_13 : decode b_N_rightEnd 13 = .ok (.iaload, 1) := by decide +kernel
theorem d_N_rightEnd_14 : decode b_N_rightEnd 14 = .ok (.goto 4, 3) := by decide +kernel
theorem d_N_rightEnd_17 : decode b_N_rightEnd 17 = .ok (.iconst (-1), 1) := by decide +kernel
theorem d_N_rightEnd_18 : decode b_N_rightEnd 18 = .ok (.ireturn, 1) := by decide +kernel
theorem d_N_isAbove_0 : decode b_N_isAbove 0 = .ok (.iload_n 1, 1) := by decide +kernel
theorem d_N_isAbove_1 : decode b_N_isAbove 1 = .ok (.iload_n 2, 1) := by decide +kernel
theorem d_N_isAbove_2 : decode b_N_isAbove 2 = .ok (.if_icmp .eq 19, 3) := by decide +kernel
theorem d_N_isAbove_5 : decode b_N_isAbove 5 = .ok (.aload_n 0, 1) := by decide +kernel
theorem d_N_isAbove_6 : decode b_N_isAbove 6 = .ok (.iload_n 1, 1) := by decide +kernel
theorem d_N_isAbove_7 : decode b_N_isAbove 7 = .ok (.invokevirtual 97, 3) := by decide +kernel
theorem d_N_isAbove_10 : decode b_N_isAbove 10 = .ok (.ifCond .eq 11, 3) := by decide +kernel
theorem d_N_isAbove_13 : decode b_N_isAbove 13 = .ok (.aload_n 0, 1) := by decide +kernel
theorem d_N_isAbove_14 : decode b_N_isAbove 14 = .ok (.iload_n 2, 1) := by decide +kernel
theorem d_N_isAbove_15 : decode b_N_isAbove 15 = .ok (.invokevirtual 97, 3) := by decide +kernel
theorem d_N_isAbove_18 : decode b_N_isAbove 18 = .ok (.ifCond .ne 5, 3) := by decide +kernel
theorem d_N_isAbove_21 : decode b_N_isAbove 21 = .ok (.iconst 0, 1) := by decide +kernel
theorem d_N_isAbove_22 : decode b_N_isAbove 22 = .ok (.ireturn, 1) := by decide +kernel
theorem d_N_isAbove_23 : decode b_N_isAbove 23 = .ok (.iconst 0, 1) := by decide +kernel
theorem d_N_isAbove_24 : decode b_N_isAbove 24 = .ok (.istore_n 3, 1) := by decide +kernel
theorem d_N_isAbove_25 : decode b_N_isAbove 25 = .ok (.iload_n 3, 1) := by decide +kernel
theorem d_N_isAbove_26 : decode b_N_isAbove 26 = .ok (.bipush 24, 2) := by decide +kernel
theorem d_N_isAbove_28 : decode b_N_isAbove 28 = .ok (.if_icmp .ge 35, 3) := by decide +kernel
theorem d_N_isAbove_31 : decode b_N_isAbove 31 = .ok (.aload_n 0, 1) := by decide +kernel
theorem d_N_isAbove_32 : decode b_N_isAbove 32 = .ok (.getfield 35, 3) := by decide +kernel
theorem d_N_isAbove_35 : decode b_N_isAbove 35 = .ok (.iconst 0, 1) := by decide +kernel
theorem d_N_isAbove_36 : decode b_N_isAbove 36 = .ok (.aaload, 1) := by decide +kernel
theorem d_N_isAbove_37 : decode b_N_isAbove 37 = .ok (.iload_n 3, 1) := by decide +kernel
theorem d_N_isAbove_38 : decode b_N_isAbove 38 = .ok (.iaload, 1) := by decide +kernel
theorem d_N_isAbove_39 : decode b_N_isAbove 39 = .ok (.iload_n 1, 1) := by decide +kernel
theorem d_N_isAbove_40 : decode b_N_isAbove 40 = .ok (.if_icmp .ne 17, 3) := by decide +kernel
theorem d_N_isAbove_43 : decode b_N_isAbove 43 = .ok (.aload_n 0, 1) := by decide +kernel
theorem d_N_isAbove_44 : decode b_N_isAbove 44 = .ok (.getfield 35, 3) := by decide +kernel
theorem d_N_isAbove_47 : decode b_N_isAbove 47 = .ok (.iconst 1, 1) := by decide +kernel
theorem d_N_isAbove_48 : decode b_N_isAbove 48 = .ok (.aaload, 1) := by decide +kernel
theorem d_N_isAbove_49 : decode b_N_isAbove 49 = .ok (.iload_n 3, 1) := by decide +kernel
theorem d_N_isAbove_50 : decode b_N_isAbove 50 = .ok (.iaload, 1) := by decide +kernel
theorem d_N_isAbove_51 : decode b_N_isAbove 51 = .ok (.iload_n 2, 1) := by decide +kernel
theorem d_N_isAbove_52 : decode b_N_isAbove 52 = .ok (.if_icmp .ne 5, 3) := by decide +kernel
theorem d_N_isAbove_55 : decode b_N_isAbove 55 = .ok (.iconst 1, 1) := by decide +kernel
theorem d_N_isAbove_56 : decode b_N_isAbove 56 = .ok (.ireturn, 1) := by decide +kernel
theorem d_N_isAbove_57 : decode b_N_isAbove 57 = .ok (.iinc 3 1, 3) := by decide +kernel
theorem d_N_isAbove_60 : decode b_N_isAbove 60 = .ok (.goto (-35), 3) := by decide +kernel
theorem d_N_isAbove_63 : decode b_N_isAbove 63 = .ok (.iconst 0, 1) := by decide +kernel
theorem d_N_isAbove_64 : decode b_N_isAbove 64 = .ok (.ireturn, 1) := by decide +kernel
end
section
theorem d_D_init_0 : decode b_D_init 0 = .ok (.aload_n 0, 1) := by decide +kernel
theorem d_D_init_1 : decode b_D_init 1 = .ok (.invokespecial 5, 3) := by decide +kernel
theorem d_D_init_4 : decode b_D_init 4 = .ok (.aload_n 0, 1) := by decide +kernel
theorem d_D_init_5 : decode b_D_init 5 = .ok (.bipush 11, 2) := by decide +kernel
theorem d_D_init_7 : decode b_D_init 7 = .ok (.bipush 24, 2) := by decide +kernel
theorem d_D_init_9 : decode b_D_init 9 = .ok (.multianewarray 11 2, 4) := by decide +kernel
theorem d_D_init_13 : decode b_D_init 13 = .ok (.putfield 13, 3) := by decide +kernel
theorem d_D_init_16 : decode b_D_init 16 = .ok (.aload_n 0, 1) := by decide +kernel
theorem d_D_init_17 : decode b_D_init 17 = .ok (.sipush 528, 3) := by decide +kernel
theorem d_D_init_20 : decode b_D_init 20 = .ok (.newarray .int, 2) := by decide +kernel
theorem d_D_init_22 : decode b_D_init 22 = .ok (.putfield 16, 3) := by decide +kernel
theorem d_D_init_25 : decode b_D_init 25 = .ok (.aload_n 0, 1) := by decide +kernel
theorem d_D_init_26 : decode b_D_init 26 = .ok (.bipush 60, 2) := by decide +kernel
theorem d_D_init_28 : decode b_D_init 28 = .ok (.newarray .int, 2) := by decide +kernel
theorem d_D_init_30 : decode b_D_init 30 = .ok (.putfield 20, 3) := by decide +kernel
theorem d_D_init_33 : decode b_D_init 33 = .ok (.aload_n 0, 1) := by decide +kernel
theorem d_D_init_34 : decode b_D_init 34 = .ok (.bipush 60, 2) := by decide +kernel
theorem d_D_init_36 : decode b_D_init 36 = .ok (.newarray .int, 2) := by decide +kernel
theorem d_D_init_38 : decode b_D_init 38 = .ok (.putfield 23, 3) := by decide +kernel
theorem d_D_init_41 : decode b_D_init 41 = .ok (.aload_n 0, 1) := by decide +kernel
theorem d_D_init_42 : decode b_D_init 42 = .ok (.aload_n 1, 1) := by decide +kernel
theorem d_D_init_43 : decode b_D_init 43 = .ok (.putfield 26, 3) := by decide +kernel
theorem d_D_init_46 : decode b_D_init 46 = .ok (.aload_n 0, 1) := by decide +kernel
theorem d_D_init_47 : decode b_D_init 47 = .ok (.aload_n 2, 1) := by decide +kernel
theorem d_D_init_48 : decode b_D_init 48 = .ok (.putfield 30, 3) := by decide +kernel
theorem d_D_init_51 : decode b_D_init 51 = .ok (.return_, 1) := by decide +kernel
theorem d_D_draw_0 : decode b_D_draw 0 = .ok (.iconst 0, 1) := by decide +kernel
theorem d_D_draw_1 : decode b_D_draw 1 = .ok (.istore_n 1, 1) := by decide +kernel
theorem d_D_draw_2 : decode b_D_draw 2 = .ok (.iload_n 1, 1) := by decide +kernel
theorem d_D_draw_3 : decode b_D_draw 3 = .ok (.bipush 11, 2) := by decide +kernel
theorem d_D_draw_5 : decode b_D_draw 5 = .ok (.if_icmp .ge 19, 3) := by decide +kernel
theorem d_D_draw_8 : decode b_D_draw 8 = .ok (.aload_n 0, 1) := by decide +kernel
theorem d_D_draw_9 : decode b_D_draw 9 = .ok (.getfield 13, 3) := by decide +kernel
theorem d_D_draw_12 : decode b_D_draw 12 = .ok (.iload_n 1, 1) := by decide +kernel
theorem d_D_draw_13 : decode b_D_draw 13 = .ok (.aaload, 1) := by decide +kernel
theorem d_D_draw_14 : decode b_D_draw 14 = .ok (.iconst 0, 1) := by decide +kernel
theorem d_D_draw_15 : decode b_D_draw 15 = .ok (.invokestatic 34, 3) := by decide +kernel
theorem d_D_draw_18 : decode b_D_draw 18 = .ok (.iinc 1 1, 3) := by decide +kernel
theorem d_D_draw_21 : decode b_D_draw 21 = .ok (.goto (-19), 3) := by decide +kernel
theorem d_D_draw_24 : decode b_D_draw 24 = .ok (.iconst 0, 1) := by decide +kernel
theorem d_D_draw_25 : decode b_D_draw 25 = .ok (.istore_n 1, 1) := by decide +kernel
theorem d_D_draw_26 : decode b_D_draw 26 = .ok (.iload_n 1, 1) := by decide +kernel
theorem d_D_draw_27 : decode b_D_draw 27 = .ok (.bipush 12, 2) := by decide +kernel
theorem d_D_draw_29 : decode b_D_draw 29 = .ok (.if_icmp .ge 26, 3) := by decide +kernel
theorem d_D_draw_32 : decode b_D_draw 32 = .ok (.aload_n 0, 1) := by decide +kernel
theorem d_D_draw_33 : decode b_D_draw 33 = .ok (.getfield 30, 3) := by decide +kernel
theorem d_D_draw_36 : decode b_D_draw 36 = .ok (.getfield 40, 3) := by decide +kernel
theorem d_D_draw_39 : decode b_D_draw 39 = .ok (.iload_n 1, 1) := by decide +kernel
theorem d_D_draw_40 : decode b_D_draw 40 = .ok (.iaload, 1) := by decide +kernel
theorem d_D_draw_41 : decode b_D_draw 41 = .ok (.ifCond .le 8, 3) := by decide +kernel
theorem d_D_draw_44 : decode b_D_draw 44 = .ok (.aload_n 0, 1) := by decide +kernel
theorem d_D_draw_45 : decode b_D_draw 45 = .ok (.iload_n 1, 1) := by decide +kernel
theorem d_D_draw_46 : decode b_D_draw 46 = .ok (.invokevirtual 45, 3) := by decide +kernel
theorem d_D_draw_49 : decode b_D_draw 49 = .ok (.iinc 1 1, 3) := by decide +kernel
theorem d_D_draw_52 : decode b_D_draw 52 = .ok (.goto (-26), 3) := by decide +kernel
theorem d_D_draw_55 : decode b_D_draw 55 = .ok (.iconst 0, 1) := by decide +kernel
theorem d_D_draw_56 : decode b_D_draw 56 = .ok (.istore_n 1, 1) := by decide +kernel
theorem d_D_draw_57 : decode b_D_draw 57 = .ok (.iload_n 1, 1) := by decide +kernel
theorem d_D_draw_58 : decode b_D_draw 58 = .ok (.bipush 24, 2) := by decide +kernel
theorem d_D_draw_60 : decode b_D_draw 60 = .ok (.if_icmp .ge 21, 3) := by decide +kernel
theorem d_D_draw_63 : decode b_D_draw 63 = .ok (.aload_n 0, 1) := by decide +kernel
theorem d_D_draw_64 : decode b_D_draw 64 = .ok (.iconst 0, 1) := by decide +kernel
theorem d_D_draw_65 : decode b_D_draw 65 = .ok (.iload_n 1, 1) := by decide +kernel
theorem d_D_draw_66 : decode b_D_draw 66 = .ok (.invokevirtual 49, 3) := by decide +kernel
theorem d_D_draw_69 : decode b_D_draw 69 = .ok (.aload_n 0, 1) := by decide +kernel
theorem d_D_draw_70 : decode b_D_draw 70 = .ok (.iconst 1, 1) := by decide +kernel
theorem d_D_draw_71 : decode b_D_draw 71 = .ok (.iload_n 1, 1) := by decide +kernel
theorem d_D_draw_72 : decode b_D_draw 72 = .ok (.invokevirtual 49, 3) := by decide +kernel
theorem d_D_draw_75 : decode b_D_draw 75 = .ok (.iinc 1 1, 3) := by decide +kernel
theorem d_D_draw_78 : decode b_D_draw 78 = .ok (.goto (-21), 3) := by decide +kernel
theorem d_D_draw_81 : decode b_D_draw 81 = .ok (.return_, 1) := by decide +kernel
theorem d_D_drawBars_0 : decode b_D_drawBars 0 = .ok (.aload_n 0, 1) := by decide +kernel
theorem d_D_drawBars_1 : decode b_D_drawBars 1 = .ok (.getfield 26, 3) := by decide +kernel
theorem d_D_drawBars_4 : decode b_D_drawBars 4 = .ok (.iload_n 1, 1) := by decide +kernel
theorem d_D_drawBars_5 : decode b_D_drawBars 5 = .ok (.invokevirtual 53, 3) := by decide +kernel
theorem d_D_drawBars_8 : decode b_D_drawBars 8 = .ok (.istore_n 2, 1) := by decide +kernel
theorem d_D_drawBars_9 : decode b_D_drawBars 9 = .ok (.aload_n 0, 1) := by decide +kernel
theorem d_D_drawBars_10 : decode b_D_drawBars 10 = .ok (.getfield 26, 3) := by decide +kernel
theorem d_D_drawBars_13 : decode b_D_drawBars 13 = .ok (.iload_n 1, 1) := by decide +kernel
theorem d_D_drawBars_14 : decode b_D_drawBars 14 = .ok (.invokevirtual 59, 3) := by decide +kernel
theorem d_D_drawBars_17 : decode b_D_drawBars 17 = .ok (.istore_n 3, 1) := by decide +kernel
theorem d_D_drawBars_18 : decode b_D_drawBars 18 = .ok (.iload_n 3, 1) := by decide +kernel
theorem d_D_drawBars_19 : decode b_D_drawBars 19 = .ok (.ifCond .lt 34, 3) := by decide +kernel
theorem d_D_drawBars_22 : decode b_D_drawBars 22 = .ok (.iload_n 3, 1) := by decide +kernel
theorem d_D_drawBars_23 : decode b_D_drawBars 23 = .ok (.iload_n 2, 1) := by decide +kernel
theorem d_D_drawBars_24 : decode b_D_drawBars 24 = .ok (.if_icmp .ge 29, 3) := by decide +kernel
theorem d_D_drawBars_27 : decode b_D_drawBars 27 = .ok (.aload_n 0, 1) := by decide +kernel
theorem d_D_drawBars_28 : decode b_D_drawBars 28 = .ok (.getfield 13, 3) := by decide +kernel
theorem d_D_drawBars_31 : decode b_D_drawBars 31 = .ok (.aload_n 0, 1) := by decide +kernel
theorem d_D_drawBars_32 : decode b_D_drawBars 32 = .ok (.getfield 30, 3) := by decide +kernel
theorem d_D_drawBars_35 : decode b_D_drawBars 35 = .ok (.getfield 40, 3) := by decide +kernel
theorem d_D_drawBars_38 : decode b_D_drawBars 38 = .ok (.iload_n 1, 1) := by decide +kernel
theorem d_D_drawBars_39 : decode b_D_drawBars 39 = .ok (.iaload, 1) := by decide +kernel
theorem d_D_drawBars_40 : decode b_D_drawBars 40 = .ok (.aaload, 1) := by decide +kernel
theorem d_D_drawBars_41 : decode b_D_drawBars 41 = .ok (.iload_n 3, 1) := by decide +kernel
theorem d_D_drawBars_42 : decode b_D_drawBars 42 = .ok (.dup2, 1) := by decide +kernel
theorem d_D_drawBars_43 : decode b_D_drawBars 43 = .ok (.iaload, 1) := by decide +kernel
theorem d_D_drawBars_44 : decode b_D_drawBars 44 = .ok (.iconst 1, 1) := by decide +kernel
theorem d_D_drawBars_45 : decode b_D_drawBars 45 = .ok (.ior, 1) := by decide +kernel
theorem d_D_drawBars_46 : decode b_D_drawBars 46 = .ok (.iastore, 1) := by decide +kernel
theorem d_D_drawBars_47 : decode b_D_drawBars 47 = .ok (.iinc 3 1, 3) := by decide +kernel
theorem d_D_drawBars_50 : decode b_D_drawBars 50 = .ok (.goto (-32), 3) := by decide +kernel
theorem d_D_drawBars_53 : decode b_D_drawBars 53 = .ok (.return_, 1) := by decide +kernel
theorem d_D_drawPin_0 : decode b_D_drawPin 0 = .ok (.aload_n 0, 1) := by decide +kernel
theorem d_D_drawPin_1 : decode b_D_drawPin 1 = .ok (.getfield 26, 3) := by decide +kernel
theorem d_D_drawPin_4 : decode b_D_drawPin 4 = .ok (.getfield 62, 3) := by decide +kernel
theorem d_D_drawPin_7 : decode b_D_drawPin 7 = .ok (.iload_n 1, 1) := by decide +kernel
theorem d_D_drawPin_8 : decode b_D_drawPin 8 = .ok (.aaload, 1) := by decide +kernel
theorem d_D_drawPin_9 : decode b_D_drawPin 9 = .ok (.iload_n 2, 1) := by decide +kernel
theorem d_D_drawPin_10 : decode b_D_drawPin 10 = .ok (.iaload, 1) := by decide +kernel
theorem d_D_drawPin_11 : decode b_D_drawPin 11 = .ok (.istore_n 3, 1) := by decide +kernel
theorem d_D_drawPin_12 : decode b_D_drawPin 12 = .ok (.iload_n 3, 1) := by decide +kernel
theorem d_D_drawPin_13 : decode b_D_drawPin 13 = .ok (.iconst (-1), 1) := by decide +kernel
theorem d_D_drawPin_14 : decode b_D_drawPin 14 = .ok (.if_icmp .eq 15, 3) := by decide +kernel
theorem d_D_drawPin_17 : decode b_D_drawPin 17 = .ok (.aload_n 0, 1) := by decide +kernel
theorem d_D_drawPin_18 : decode b_D_drawPin 18 = .ok (.getfield 30, 3) := by decide +kernel
theorem d_D_drawPin_21 : decode b_D_drawPin 21 = .ok (.getfield 40, 3) := by decide +kernel
theorem d_D_drawPin_24 : decode b_D_drawPin 24 = .ok (.iload_n 3, 1) := by decide +kernel
theorem d_D_drawPin_25 : decode b_D_drawPin 25 = .ok (.iaload, 1) := by decide +kernel
theorem d_D_drawPin_26 : decode b_D_drawPin 26 = .ok (.ifCond .ne 4, 3) := by decide +kernel
theorem d_D_drawPin_29 : decode b_D_drawPin 29 = .ok (.return_, 1) := by decide +kernel
theorem d_D_drawPin_30 : decode b_D_drawPin 30 = .ok (.aload_n 0, 1) := by decide +kernel
theorem d_D_drawPin_31 : decode b_D_drawPin 31 = .ok (.getfield 30, 3) := by decide +kernel
theorem d_D_drawPin_34 : decode b_D_drawPin 34 = .ok (.getfield 40, 3) := by decide +kernel
theorem d_D_drawPin_37 : decode b_D_drawPin 37 = .ok (.iload_n 3, 1) := by decide +kernel
theorem d_D_drawPin_38 : decode b_D_drawPin 38 = .ok (.iaload, 1) := by decide +kernel
theorem d_D_drawPin_39 : decode b_D_drawPin 39 = .ok (.istore 4, 2) := by decide +kernel
theorem d_D_drawPin_41 : decode b_D_drawPin 41 = .ok (.iload_n 1, 1) := by decide +kernel
theorem d_D_drawPin_42 : decode b_D_drawPin 42 = .ok (.ifCond .ne 7, 3) := by decide +kernel
theorem d_D_drawPin_45 : decode b_D_drawPin 45 = .ok (.iconst 0, 1) := by decide +kernel
theorem d_D_drawPin_46 : decode b_D_drawPin 46 = .ok (.goto 5, 3) := by decide +kernel
theorem d_D_drawPin_49 : decode b_D_drawPin 49 = .ok (.iload 4, 2) := by decide +kernel
theorem d_D_drawPin_51 : decode b_D_drawPin 51 = .ok (.istore 5, 2) := by decide +kernel
theorem d_D_drawPin_53 : decode b_D_drawPin 53 = .ok (.iload_n 1, 1) := by decide +kernel
theorem d_D_drawPin_54 : decode b_D_drawPin 54 = .ok (.ifCond .ne 8, 3) := by decide +kernel
theorem d_D_drawPin_57 : decode b_D_drawPin 57 = .ok (.iload 4, 2) := by decide +kernel
theorem d_D_drawPin_59 : decode b_D_drawPin 59 = .ok (.goto 12, 3) := by decide +kernel
theorem d_D_drawPin_62 : decode b_D_drawPin 62 = .ok (.aload_n 0, 1) := by decide +kernel
theorem d_D_drawPin_63 : decode b_D_drawPin 63 = .ok (.getfield 30, 3) := by decide +kernel
theorem d_D_drawPin_66 : decode b_D_drawPin 66 = .ok (.getfield 65, 3) := by decide +kernel
theorem d_D_drawPin_69 : decode b_D_drawPin 69 = .ok (.iconst 1, 1) := by decide +kernel
theorem d_D_drawPin_70 : decode b_D_drawPin 70 = .ok (.iadd, 1) := by decide +kernel
theorem d_D_drawPin_71 : decode b_D_drawPin 71 = .ok (.istore 6, 2) := by decide +kernel
theorem d_D_drawPin_73 : decode b_D_drawPin 73 = .ok (.aload_n 0, 1) := by decide +kernel
theorem d_D_drawPin_74 : decode b_D_drawPin 74 = .ok (.getfield 13, 3) := by decide +kernel
theorem d_D_drawPin_77 : decode b_D_drawPin 77 = .ok (.iload 4, 2) := by decide +kernel
theorem d_D_drawPin_79 : decode b_D_drawPin 79 = .ok (.aaload, 1) := by decide +kernel
theorem d_D_drawPin_80 : decode b_D_drawPin 80 = .ok (.iload_n 2, 1) := by decide +kernel
theorem d_D_drawPin_81 : decode b_D_drawPin 81 = .ok (.dup2, 1) := by decide +kernel
theorem d_D_drawPin_82 : decode b_D_drawPin 82 = .ok (.iaload, 1) := by decide +kernel
theorem d_D_drawPin_83 : decode b_D_drawPin 83 = .ok (.iconst 4, 1) := by decide +kernel
theorem d_D_drawPin_84 : decode b_D_drawPin 84 = .ok (.ior, 1) := by decide +kernel
theorem d_D_drawPin_85 : decode b_D_drawPin 85 = .ok (.iastore, 1) := by decide +kernel
theorem d_D_drawPin_86 : decode b_D_drawPin 86 = .ok (.iload 5, 2) := by decide +kernel
theorem d_D_drawPin_88 : decode b_D_drawPin 88 = .ok (.istore 7, 2) := by decide +kernel
theorem d_D_drawPin_90 : decode b_D_drawPin 90 = .ok (.iload 7, 2) := by decide +kernel
theorem d_D_drawPin_92 : decode b_D_drawPin 92 = .ok (.iload 6, 2) := by decide +kernel
theorem d_D_drawPin_94 : decode b_D_drawPin 94 = .ok (.if_icmp .ge 22, 3) := by decide +kernel
theorem d_D_drawPin_97 : decode b_D_drawPin 97 = .ok (.aload_n 0, 1) := by decide +kernel
theorem d_D_drawPin_98 : decode b_D_drawPin 98 = .ok (.getfield 13, 3) := by decide +kernel
theorem d_D_drawPin_101 : decode b_D_drawPin 101 = .ok (.iload 7, 2) := by decide +kernel
theorem d_D_drawPin_103 : decode b_D_drawPin 103 = .ok (.aaload, 1) := by decide +kernel
theorem d_D_drawPin_104 : decode b_D_drawPin 104 = .ok (.iload_n 2, 1) := by decide +kernel
theorem d_D_drawPin_105 : decode b_D_drawPin 105 = .ok (.dup2, 1) := by decide +kernel
theorem d_D_drawPin_106 : decode b_D_drawPin 106 = .ok (.iaload, 1) := by decide +kernel
theorem d_D_drawPin_107 : decode b_D_drawPin 107 = .ok (.iconst 2, 1) := by decide +kernel
theorem d_D_drawPin_108 : decode b_D_drawPin 108 = .ok (.ior, 1) := by decide +kernel
theorem d_D_drawPin_109 : decode b_D_drawPin 109 = .ok (.iastore, 1) := by decide +kernel
theorem d_D_drawPin_110 : decode b_D_drawPin 110 = .ok (.iinc 7 1, 3) := by decide +kernel
theorem d_D_drawPin_113 : decode b_D_drawPin 113 = .ok (.goto (-23), 3) := by decide +kernel
theorem d_D_drawPin_116 : decode b_D_drawPin 116 = .ok (.return_, 1) := by decide +kernel
theorem d_D_pointsWith_0 : decode b_D_pointsWith 0 = .ok (.iconst 0, 1) := by decide +kernel
theorem d_D_pointsWith_1 : decode b_D_pointsWith 1 = .ok (.istore_n 2, 1) := by decide +kernel
theorem d_D_pointsWith_2 : decode b_D_pointsWith 2 = .ok (.iconst 0, 1) := by decide +kernel
theorem d_D_pointsWith_3 : decode b_D_pointsWith 3 = .ok (.istore_n 3, 1) := by decide +kernel
theorem d_D_pointsWith_4 : decode b_D_pointsWith 4 = .ok (.iload_n 3, 1) := by decide +kernel
theorem d_D_pointsWith_5 : decode b_D_pointsWith 5 = .ok (.aload_n 0, 1) := by decide +kernel
theorem d_D_pointsWith_6 : decode b_D_pointsWith 6 = .ok (.getfield 30, 3) := by decide +kernel
theorem d_D_pointsWith_9 : decode b_D_pointsWith 9 = .ok (.invokevirtual 69, 3) := by decide +kernel
theorem d_D_pointsWith_12 : decode b_D_pointsWith 12 = .ok (.if_icmp .ge 42, 3) := by decide +kernel
theorem d_D_pointsWith_15 : decode b_D_pointsWith 15 = .ok (.iconst 0, 1) := by decide +kernel
theorem d_D_pointsWith_16 : decode b_D_pointsWith 16 = .ok (.istore 4, 2) := by decide +kernel
theorem d_D_pointsWith_18 : decode b_D_pointsWith 18 = .ok (.iload 4, 2) := by decide +kernel
theorem d_D_pointsWith_20 : decode b_D_pointsWith 20 = .ok (.bipush 24, 2) := by decide +kernel
theorem d_D_pointsWith_22 : decode b_D_pointsWith 22 = .ok (.if_icmp .ge 26, 3) := by decide +kernel
theorem d_D_pointsWith_25 : decode b_D_pointsWith 25 = .ok (.aload_n 0, 1) := by decide +kernel
theorem d_D_pointsWith_26 : decode b_D_pointsWith 26 = .ok (.getfield 13, 3) := by decide +kernel
theorem d_D_pointsWith_29 : decode b_D_pointsWith 29 = .ok (.iload_n 3, 1) := by decide +kernel
theorem d_D_pointsWith_30 : decode b_D_pointsWith 30 = .ok (.aaload, 1) := by decide +kernel
theorem d_D_pointsWith_31 : decode b_D_pointsWith 31 = .ok (.iload 4, 2) := by decide +kernel
theorem d_D_pointsWith_33 : decode b_D_pointsWith 33 = .ok (.iaload, 1) := by decide +kernel
theorem d_D_pointsWith_34 : decode b_D_pointsWith 34 = .ok (.iload_n 1, 1) := by decide +kernel
theorem d_D_pointsWith_35 : decode b_D_pointsWith 35 = .ok (.iand, 1) := by decide +kernel
theorem d_D_pointsWith_36 : decode b_D_pointsWith 36 = .ok (.ifCond .eq 6, 3) := by decide +kernel
theorem d_D_pointsWith_39 : decode b_D_pointsWith 39 = .ok (.iinc 2 1, 3) := by decide +kernel
theorem d_D_pointsWith_42 : decode b_D_pointsWith 42 = .ok (.iinc 4 1, 3) := by decide +kernel
theorem d_D_pointsWith_45 : decode b_D_pointsWith 45 = .ok (.goto (-27), 3) := by decide +kernel
theorem d_D_pointsWith_48 : decode b_D_pointsWith 48 = .ok (.iinc 3 1, 3) := by decide +kernel
theorem d_D_pointsWith_51 : decode b_D_pointsWith 51 = .ok (.goto (-47), 3) := by decide +kernel
theorem d_D_pointsWith_54 : decode b_D_pointsWith 54 = .ok (.iload_n 2, 1) := by decide +kernel
theorem d_D_pointsWith_55 : decode b_D_pointsWith 55 = .ok (.ireturn, 1) := by decide +kernel
theorem d_D_findGroups_0 : decode b_D_findGroups 0 = .ok (.iconst 0, 1) := by decide +kernel
theorem d_D_findGroups_1 : decode b_D_findGroups 1 = .ok (.istore_n 1, 1) := by decide +kernel
theorem d_D_findGroups_2 : decode b_D_findGroups 2 = .ok (.iload_n 1, 1) := by decide +kernel
theorem d_D_findGroups_3 : decode b_D_findGroups 3 = .ok (.sipush 528, 3) := by decide +kernel
theorem d_D_findGroups_6 : decode b_D_findGroups 6 = .ok (.if_icmp .ge 16, 3) := by decide +kernel
theorem d_D_findGroups_9 : decode b_D_findGroups 9 = .ok (.aload_n 0, 1) := by decide +kernel
theorem d_D_findGroups_10 : decode b_D_findGroups 10 = .ok (.getfield 16, 3) := by decide +kernel
theorem d_D_findGroups_13 : decode b_D_findGroups 13 = .ok (.iload_n 1, 1) := by decide +kernel
theorem d_D_findGroups_14 : decode b_D_findGroups 14 = .ok (.iload_n 1, 1) := by decide +kernel
theorem d_D_findGroups_15 : decode b_D_findGroups 15 = .ok (.iastore, 1) := by decide +kernel
theorem d_D_findGroups_16 : decode b_D_findGroups 16 = .ok (.iinc 1 1, 3) := by decide +kernel
theorem d_D_findGroups_19 : decode b_D_findGroups 19 = .ok (.goto (-17), 3) := by decide +kernel
theorem d_D_findGroups_22 : decode b_D_findGroups 22 = .ok (.iconst 0, 1) := by decide +kernel
theorem d_D_findGroups_23 : decode b_D_findGroups 23 = .ok (.istore_n 1, 1) := by decide +kernel
theorem d_D_findGroups_24 : decode b_D_findGroups 24 = .ok (.iload_n 1, 1) := by decide +kernel
theorem d_D_findGroups_25 : decode b_D_findGroups 25 = .ok (.aload_n 0, 1) := by decide +kernel
theorem d_D_findGroups_26 : decode b_D_findGroups 26 = .ok (.getfield 30, 3) := by decide +kernel
theorem d_D_findGroups_29 : decode b_D_findGroups 29 = .ok (.invokevirtual 69, 3) := by decide +kernel
theorem d_D_findGroups_32 : decode b_D_findGroups 32 = .ok (.if_icmp .ge 29, 3) := by decide +kernel
theorem d_D_findGroups_35 : decode b_D_findGroups 35 = .ok (.iconst 0, 1) := by decide +kernel
theorem d_D_findGroups_36 : decode b_D_findGroups 36 = .ok (.istore_n 2, 1) := by decide +kernel
theorem d_D_findGroups_37 : decode b_D_findGroups 37 = .ok (.iload_n 2, 1) := by decide +kernel
theorem d_D_findGroups_38 : decode b_D_findGroups 38 = .ok (.bipush 24, 2) := by decide +kernel
theorem d_D_findGroups_40 : decode b_D_findGroups 40 = .ok (.if_icmp .ge 15, 3) := by decide +kernel
theorem d_D_findGroups_43 : decode b_D_findGroups 43 = .ok (.aload_n 0, 1) := by decide +kernel
theorem d_D_findGroups_44 : decode b_D_findGroups 44 = .ok (.iload_n 1, 1) := by decide +kernel
theorem d_D_findGroups_45 : decode b_D_findGroups 45 = .ok (.iload_n 2, 1) := by decide +kernel
theorem d_D_findGroups_46 : decode b_D_findGroups 46 = .ok (.invokevirtual 73, 3) := by decide +kernel
theorem d_D_findGroups_49 : decode b_D_findGroups 49 = .ok (.iinc 2 1, 3) := by decide +kernel
theorem d_D_findGroups_52 : decode b_D_findGroups 52 = .ok (.goto (-15), 3) := by decide +kernel
theorem d_D_findGroups_55 : decode b_D_findGroups 55 = .ok (.iinc 1 1, 3) := by decide +kernel
theorem d_D_findGroups_58 : decode b_D_findGroups 58 = .ok (.goto (-34), 3) := by decide +kernel
theorem d_D_findGroups_61 : decode b_D_findGroups 61 = .ok (.return_, 1) := by decide +kernel
theorem d_D_joinAt_0 : decode b_D_joinAt 0 = .ok (.aload_n 0, 1) := by decide +kernel
theorem d_D_joinAt_1 : decode b_D_joinAt 1 = .ok (.getfield 13, 3) := by decide +kernel
theorem d_D_joinAt_4 : decode b_D_joinAt 4 = .ok (.iload_n 1, 1) := by decide +kernel
theorem d_D_joinAt_5 : decode b_D_joinAt 5 = .ok (.aaload, 1) := by decide +kernel
theorem d_D_joinAt_6 : decode b_D_joinAt 6 = .ok (.iload_n 2, 1) := by decide +kernel
theorem d_D_joinAt_7 : decode b_D_joinAt 7 = .ok (.iaload, 1) := by decide +kernel
theorem d_D_joinAt_8 : decode b_D_joinAt 8 = .ok (.istore_n 3, 1) := by decide +kernel
theorem d_D_joinAt_9 : decode b_D_joinAt 9 = .ok (.iload_n 3, 1) := by decide +kernel
theorem d_D_joinAt_10 : decode b_D_joinAt 10 = .ok (.iconst 1, 1) := by decide +kernel
theorem d_D_joinAt_11 : decode b_D_joinAt 11 = .ok (.iand, 1) := by decide +kernel
theorem d_D_joinAt_12 : decode b_D_joinAt 12 = .ok (.ifCond .eq 29, 3) := by decide +kernel
theorem d_D_joinAt_15 : decode b_D_joinAt 15 = .ok (.iload_n 2, 1) := by decide +kernel
theorem d_D_joinAt_16 : decode b_D_joinAt 16 = .ok (.iconst 1, 1) := by decide +kernel
theorem d_D_joinAt_17 : decode b_D_joinAt 17 = .ok (.iadd, 1) := by decide +kernel
theorem d_D_joinAt_18 : decode b_D_joinAt 18 = .ok (.bipush 24, 2) := by decide +kernel
theorem d_D_joinAt_20 : decode b_D_joinAt 20 = .ok (.if_icmp .ge 21, 3) := by decide +kernel
theorem d_D_joinAt_23 : decode b_D_joinAt 23 = .ok (.aload_n 0, 1) := by decide +kernel
theorem d_D_joinAt_24 : decode b_D_joinAt 24 = .ok (.iload_n 1, 1) := by decide +kernel
theorem d_D_joinAt_25 : decode b_D_joinAt 25 = .ok (.iload_n 2, 1) := by decide +kernel
theorem d_D_joinAt_26 : decode b_D_joinAt 26 = .ok (.iconst 0, 1) := by decide +kernel
theorem d_D_joinAt_27 : decode b_D_joinAt 27 = .ok (.invokestatic 76, 3) := by decide +kernel
theorem d_D_joinAt_30 : decode b_D_joinAt 30 = .ok (.iload_n 1, 1) := by decide +kernel
theorem d_D_joinAt_31 : decode b_D_joinAt 31 = .ok (.iload_n 2, 1) := by decide +kernel
theorem d_D_joinAt_32 : decode b_D_joinAt 32 = .ok (.iconst 1, 1) := by decide +kernel
theorem d_D_joinAt_33 : decode b_D_joinAt 33 = .ok (.iadd, 1) := by decide +kernel
theorem d_D_joinAt_34 : decode b_D_joinAt 34 = .ok (.iconst 0, 1) := by decide +kernel
theorem d_D_joinAt_35 : decode b_D_joinAt 35 = .ok (.invokestatic 76, 3) := by decide +kernel
theorem d_D_joinAt_38 : decode b_D_joinAt 38 = .ok (.invokevirtual 80, 3) := by decide +kernel
theorem d_D_joinAt_41 : decode b_D_joinAt 41 = .ok (.iload_n 3, 1) := by decide +kernel
theorem d_D_joinAt_42 : decode b_D_joinAt 42 = .ok (.iconst 2, 1) := by decide +kernel
theorem d_D_joinAt_43 : decode b_D_joinAt 43 = .ok (.iand, 1) := by decide +kernel
theorem d_D_joinAt_44 : decode b_D_joinAt 44 = .ok (.ifCond .eq 34, 3) := by decide +kernel
theorem d_D_joinAt_47 : decode b_D_joinAt 47 = .ok (.iload_n 1, 1) := by decide +kernel
theorem d_D_joinAt_48 : decode b_D_joinAt 48 = .ok (.iconst 1, 1) := by decide +kernel
theorem d_D_joinAt_49 : decode b_D_joinAt 49 = .ok (.iadd, 1) := by decide +kernel
theorem d_D_joinAt_50 : decode b_D_joinAt 50 = .ok (.aload_n 0, 1) := by decide +kernel
theorem d_D_joinAt_51 : decode b_D_joinAt 51 = .ok (.getfield 30, 3) := by decide +kernel
theorem d_D_joinAt_54 : decode b_D_joinAt 54 = .ok (.invokevirtual 69, 3) := by decide +kernel
theorem d_D_joinAt_57 : decode b_D_joinAt 57 = .ok (.if_icmp .ge 21, 3) := by decide +kernel
theorem d_D_joinAt_60 : decode b_D_joinAt 60 = .ok (.aload_n 0, 1) := by decide +kernel
theorem d_D_joinAt_61 : decode b_D_joinAt 61 = .ok (.iload_n 1, 1) := by decide +kernel
theorem d_D_joinAt_62 : decode b_D_joinAt 62 = .ok (.iload_n 2, 1) := by decide +kernel
theorem d_D_joinAt_63 : decode b_D_joinAt 63 = .ok (.iconst 1, 1) := by decide +kernel
theorem d_D_joinAt_64 : decode b_D_joinAt 64 = .ok (.invokestatic 76, 3) := by decide +kernel
theorem d_D_joinAt_67 : decode b_D_joinAt 67 = .ok (.iload_n 1, 1) := by decide +kernel
theorem d_D_joinAt_68 : decode b_D_joinAt 68 = .ok (.iconst 1, 1) := by decide +kernel
theorem d_D_joinAt_69 : decode b_D_joinAt 69 = .ok (.iadd, 1) := by decide +kernel
theorem d_D_joinAt_70 : decode b_D_joinAt 70 = .ok (.iload_n 2, 1) := by decide +kernel
theorem d_D_joinAt_71 : decode b_D_joinAt 71 = .ok (.iconst 1, 1) := by decide +kernel
theorem d_D_joinAt_72 : decode b_D_joinAt 72 = .ok (.invokestatic 76, 3) := by decide +kernel
theorem d_D_joinAt_75 : decode b_D_joinAt 75 = .ok (.invokevirtual 80, 3) := by decide +kernel
theorem d_D_joinAt_78 : decode b_D_joinAt 78 = .ok (.iload_n 3, 1) := by decide +kernel
theorem d_D_joinAt_79 : decode b_D_joinAt 79 = .ok (.iconst 4, 1) := by decide +kernel
theorem d_D_joinAt_80 : decode b_D_joinAt 80 = .ok (.iand, 1) := by decide +kernel
theorem d_D_joinAt_81 : decode b_D_joinAt 81 = .ok (.ifCond .eq 19, 3) := by decide +kernel
theorem d_D_joinAt_84 : decode b_D_joinAt 84 = .ok (.aload_n 0, 1) := by decide +kernel
theorem d_D_joinAt_85 : decode b_D_joinAt 85 = .ok (.iload_n 1, 1) := by decide +kernel
theorem d_D_joinAt_86 : decode b_D_joinAt 86 = .ok (.iload_n 2, 1) := by decide +kernel
theorem d_D_joinAt_87 : decode b_D_joinAt 87 = .ok (.iconst 0, 1) := by decide +kernel
theorem d_D_joinAt_88 : decode b_D_joinAt 88 = .ok (.invokestatic 76, 3) := by decide +kernel
theorem d_D_joinAt_91 : decode b_D_joinAt 91 = .ok (.iload_n 1, 1) := by decide +kernel
theorem d_D_joinAt_92 : decode b_D_joinAt 92 = .ok (.iload_n 2, 1) := by decide +kernel
theorem d_D_joinAt_93 : decode b_D_joinAt 93 = .ok (.iconst 1, 1) := by decide +kernel
theorem d_D_joinAt_94 : decode b_D_joinAt 94 = .ok (.invokestatic 76, 3) := by decide +kernel
theorem d_D_joinAt_97 : decode b_D_joinAt 97 = .ok (.invokevirtual 80, 3) := by decide +kernel
theorem d_D_joinAt_100 : decode b_D_joinAt 100 = .ok (.return_, 1) := by decide +kernel
theorem d_D_spot_0 : decode b_D_spot 0 = .ok (.iload_n 0, 1) := by decide +kernel
theorem d_D_spot_1 : decode b_D_spot 1 = .ok (.bipush 24, 2) := by decide +kernel
theorem d_D_spot_3 : decode b_D_spot 3 = .ok (.imul, 1) := by decide +kernel
theorem d_D_spot_4 : decode b_D_spot 4 = .ok (.iload_n 1, 1) := by decide +kernel
theorem d_D_spot_5 : decode b_D_spot 5 = .ok (.iadd, 1) := by decide +kernel
theorem d_D_spot_6 : decode b_D_spot 6 = .ok (.iconst 2, 1) := by decide +kernel
theorem d_D_spot_7 : decode b_D_spot 7 = .ok (.imul, 1) := by decide +kernel
theorem d_D_spot_8 : decode b_D_spot 8 = .ok (.iload_n 2, 1) := by decide +kernel
theorem d_D_spot_9 : decode b_D_spot 9 = .ok (.iadd, 1) := by decide +kernel
theorem d_D_spot_10 : decode b_D_spot 10 = .ok (.ireturn, 1) := by decide +kernel
theorem d_D_join_0 : decode b_D_join 0 = .ok (.aload_n 0, 1) := by decide +kernel
theorem d_D_join_1 : decode b_D_join 1 = .ok (.iload_n 1, 1) := by decide +kernel
theorem d_D_join_2 : decode b_D_join 2 = .ok (.invokevirtual 83, 3) := by decide +kernel
theorem d_D_join_5 : decode b_D_join 5 = .ok (.istore_n 3, 1) := by decide +kernel
theorem d_D_join_6 : decode b_D_join 6 = .ok (.aload_n 0, 1) := by decide +kernel
theorem d_D_join_7 : decode b_D_join 7 = .ok (.iload_n 2, 1) := by decide +kernel
theorem d_D_join_8 : decode b_D_join 8 = .ok (.invokevirtual 83, 3) := by decide +kernel
theorem d_D_join_11 : decode b_D_join 11 = .ok (.istore 4, 2) := by decide +kernel
theorem d_D_join_13 : decode b_D_join 13 = .ok (.aload_n 0, 1) := by decide +kernel
theorem d_D_join_14 : decode b_D_join 14 = .ok (.getfield 16, 3) := by decide +kernel
theorem d_D_join_17 : decode b_D_join 17 = .ok (.iload_n 3, 1) := by decide +kernel
theorem d_D_join_18 : decode b_D_join 18 = .ok (.iload 4, 2) := by decide +kernel
theorem d_D_join_20 : decode b_D_join 20 = .ok (.invokestatic 86, 3) := by decide +kernel
theorem d_D_join_23 : decode b_D_join 23 = .ok (.iload_n 3, 1) := by decide +kernel
theorem d_D_join_24 : decode b_D_join 24 = .ok (.iload 4, 2) := by decide +kernel
theorem d_D_join_26 : decode b_D_join 26 = .ok (.invokestatic 92, 3) := by decide +kernel
theorem d_D_join_29 : decode b_D_join 29 = .ok (.iastore, 1) := by decide +kernel
theorem d_D_join_30 : decode b_D_join 30 = .ok (.return_, 1) := by decide +kernel
theorem d_D_group_0 : decode b_D_group 0 = .ok (.iload_n 1, 1) := by decide +kernel
theorem d_D_group_1 : decode b_D_group 1 = .ok (.istore_n 2, 1) := by decide +kernel
theorem d_D_group_2 : decode b_D_group 2 = .ok (.iconst 0, 1) := by decide +kernel
theorem d_D_group_3 : decode b_D_group 3 = .ok (.istore_n 3, 1) := by decide +kernel
theorem d_D_group_4 : decode b_D_group 4 = .ok (.iload_n 3, 1) := by decide +kernel
theorem d_D_group_5 : decode b_D_group 5 = .ok (.sipush 528, 3) := by decide +kernel
theorem d_D_group_8 : decode b_D_group 8 = .ok (.if_icmp .ge 43, 3) := by decide +kernel
theorem d_D_group_11 : decode b_D_group 11 = .ok (.aload_n 0, 1) := by decide +kernel
theorem d_D_group_12 : decode b_D_group 12 = .ok (.getfield 16, 3) := by decide +kernel
theorem d_D_group_15 : decode b_D_group 15 = .ok (.iload_n 2, 1) := by decide +kernel
theorem d_D_group_16 : decode b_D_group 16 = .ok (.iaload, 1) := by decide +kernel
theorem d_D_group_17 : decode b_D_group 17 = .ok (.iload_n 2, 1) := by decide +kernel
theorem d_D_group_18 : decode b_D_group 18 = .ok (.if_icmp .eq 33, 3) := by decide +kernel
theorem d_D_group_21 : decode b_D_group 21 = .ok (.aload_n 0, 1) := by decide +kernel
theorem d_D_group_22 : decode b_D_group 22 = .ok (.getfield 16, 3) := by decide +kernel
theorem d_D_group_25 : decode b_D_group 25 = .ok (.iload_n 2, 1) := by decide +kernel
theorem d_D_group_26 : decode b_D_group 26 = .ok (.aload_n 0, 1) := by decide +kernel
theorem d_D_group_27 : decode b_D_group 27 = .ok (.getfield 16, 3) := by decide +kernel
theorem d_D_group_30 : decode b_D_group 30 = .ok (.aload_n 0, 1) := by decide +kernel
theorem d_D_group_31 : decode b_D_group 31 = .ok (.getfield 16, 3) := by decide +kernel
theorem d_D_group_34 : decode b_D_group 34 = .ok (.iload_n 2, 1) := by decide +kernel
theorem d_D_group_35 : decode b_D_group 35 = .ok (.iaload, 1) := by decide +kernel
theorem d_D_group_36 : decode b_D_group 36 = .ok (.iaload, 1) := by decide +kernel
theorem d_D_group_37 : decode b_D_group 37 = .ok (.iastore, 1) := by decide +kernel
theorem d_D_group_38 : decode b_D_group 38 = .ok (.aload_n 0, 1) := by decide +kernel
theorem d_D_group_39 : decode b_D_group 39 = .ok (.getfield 16, 3) := by decide +kernel
theorem d_D_group_42 : decode b_D_group 42 = .ok (.iload_n 2, 1) := by decide +kernel
theorem d_D_group_43 : decode b_D_group 43 = .ok (.iaload, 1) := by decide +kernel
theorem d_D_group_44 : decode b_D_group 44 = .ok (.istore_n 2, 1) := by decide +kernel
theorem d_D_group_45 : decode b_D_group 45 = .ok (.iinc 3 1, 3) := by decide +kernel
theorem d_D_group_48 : decode b_D_group 48 = .ok (.goto (-44), 3) := by decide +kernel
theorem d_D_group_51 : decode b_D_group 51 = .ok (.iload_n 2, 1) := by decide +kernel
theorem d_D_group_52 : decode b_D_group 52 = .ok (.ireturn, 1) := by decide +kernel
theorem d_D_groupOfRow_0 : decode b_D_groupOfRow 0 = .ok (.iload_n 1, 1) := by decide +kernel
theorem d_D_groupOfRow_1 : decode b_D_groupOfRow 1 = .ok (.ifCond .ne 7, 3) := by decide +kernel
theorem d_D_groupOfRow_4 : decode b_D_groupOfRow 4 = .ok (.iconst 0, 1) := by decide +kernel
theorem d_D_groupOfRow_5 : decode b_D_groupOfRow 5 = .ok (.goto 12, 3) := by decide +kernel
theorem d_D_groupOfRow_8 : decode b_D_groupOfRow 8 = .ok (.aload_n 0, 1) := by decide +kernel
theorem d_D_groupOfRow_9 : decode b_D_groupOfRow 9 = .ok (.getfield 30, 3) := by decide +kernel
theorem d_D_groupOfRow_12 : decode b_D_groupOfRow 12 = .ok (.getfield 65, 3) := by decide +kernel
theorem d_D_groupOfRow_15 : decode b_D_groupOfRow 15 = .ok (.iconst 1, 1) := by decide +kernel
theorem d_D_groupOfRow_16 : decode b_D_groupOfRow 16 = .ok (.iadd, 1) := by decide +kernel
theorem d_D_groupOfRow_17 : decode b_D_groupOfRow 17 = .ok (.istore_n 3, 1) := by decide +kernel
theorem d_D_groupOfRow_18 : decode b_D_groupOfRow 18 = .ok (.aload_n 0, 1) := by decide +kernel
theorem d_D_groupOfRow_19 : decode b_D_groupOfRow 19 = .ok (.iload_n 3, 1) := by decide +kernel
theorem d_D_groupOfRow_20 : decode b_D_groupOfRow 20 = .ok (.iload_n 2, 1) := by decide +kernel
theorem d_D_groupOfRow_21 : decode b_D_groupOfRow 21 = .ok (.iconst 1, 1) := by decide +kernel
theorem d_D_groupOfRow_22 : decode b_D_groupOfRow 22 = .ok (.invokestatic 76, 3) := by decide +kernel
theorem d_D_groupOfRow_25 : decode b_D_groupOfRow 25 = .ok (.invokevirtual 83, 3) := by decide +kernel
theorem d_D_groupOfRow_28 : decode b_D_groupOfRow 28 = .ok (.ireturn, 1) := by decide +kernel
theorem d_D_groupOfPin_0 : decode b_D_groupOfPin 0 = .ok (.aload_n 0, 1) := by decide +kernel
theorem d_D_groupOfPin_1 : decode b_D_groupOfPin 1 = .ok (.aload_n 0, 1) := by decide +kernel
theorem d_D_groupOfPin_2 : decode b_D_groupOfPin 2 = .ok (.getfield 26, 3) := by decide +kernel
theorem d_D_groupOfPin_5 : decode b_D_groupOfPin 5 = .ok (.getfield 95, 3) := by decide +kernel
theorem d_D_groupOfPin_8 : decode b_D_groupOfPin 8 = .ok (.iload_n 1, 1) := by decide +kernel
theorem d_D_groupOfPin_9 : decode b_D_groupOfPin 9 = .ok (.iaload, 1) := by decide +kernel
theorem d_D_groupOfPin_10 : decode b_D_groupOfPin 10 = .ok (.aload_n 0, 1) := by decide +kernel
theorem d_D_groupOfPin_11 : decode b_D_groupOfPin 11 = .ok (.getfield 26, 3) := by decide +kernel
theorem d_D_groupOfPin_14 : decode b_D_groupOfPin 14 = .ok (.iload_n 1, 1) := by decide +kernel
theorem d_D_groupOfPin_15 : decode b_D_groupOfPin 15 = .ok (.iload_n 2, 1) := by decide +kernel
theorem d_D_groupOfPin_16 : decode b_D_groupOfPin 16 = .ok (.invokevirtual 98, 3) := by decide +kernel
theorem d_D_groupOfPin_19 : decode b_D_groupOfPin 19 = .ok (.invokevirtual 101, 3) := by decide +kernel
theorem d_D_groupOfPin_22 : decode b_D_groupOfPin 22 = .ok (.ireturn, 1) := by decide +kernel
theorem d_D_collectEnds_0 : decode b_D_collectEnds 0 = .ok (.aload_n 0, 1) := by decide +kernel
theorem d_D_collectEnds_1 : decode b_D_collectEnds 1 = .ok (.iconst 0, 1) := by decide +kernel
theorem d_D_collectEnds_2 : decode b_D_collectEnds 2 = .ok (.putfield 104, 3) := by decide +kernel
theorem d_D_collectEnds_5 : decode b_D_collectEnds 5 = .ok (.iconst 0, 1) := by decide +kernel
theorem d_D_collectEnds_6 : decode b_D_collectEnds 6 = .ok (.istore_n 1, 1) := by decide +kernel
theorem d_D_collectEnds_7 : decode b_D_collectEnds 7 = .ok (.iload_n 1, 1) := by decide +kernel
theorem d_D_collectEnds_8 : decode b_D_collectEnds 8 = .ok (.bipush 24, 2) := by decide +kernel
theorem d_D_collectEnds_10 : decode b_D_collectEnds 10 = .ok (.if_icmp .ge 21, 3) := by decide +kernel
theorem d_D_collectEnds_13 : decode b_D_collectEnds 13 = .ok (.aload_n 0, 1) := by decide +kernel
theorem d_D_collectEnds_14 : decode b_D_collectEnds 14 = .ok (.iconst 0, 1) := by decide +kernel
theorem d_D_collectEnds_15 : decode b_D_collectEnds 15 = .ok (.iload_n 1, 1) := by decide +kernel
theorem d_D_collectEnds_16 : decode b_D_collectEnds 16 = .ok (.invokevirtual 107, 3) := by decide +kernel
theorem d_D_collectEnds_19 : decode b_D_collectEnds 19 = .ok (.aload_n 0, 1) := by decide +kernel
theorem d_D_collectEnds_20 : decode b_D_collectEnds 20 = .ok (.iconst 1, 1) := by decide +kernel
theorem d_D_collectEnds_21 : decode b_D_collectEnds 21 = .ok (.iload_n 1, 1) := by decide +kernel
theorem d_D_collectEnds_22 : decode b_D_collectEnds 22 = .ok (.invokevirtual 107, 3) := by decide +kernel
theorem d_D_collectEnds_25 : decode b_D_collectEnds 25 = .ok (.iinc 1 1, 3) := by decide +kernel
theorem d_D_collectEnds_28 : decode b_D_collectEnds 28 = .ok (.goto (-21), 3) := by decide +kernel
theorem d_D_collectEnds_31 : decode b_D_collectEnds 31 = .ok (.iconst 0, 1) := by decide +kernel
theorem d_D_collectEnds_32 : decode b_D_collectEnds 32 = .ok (.istore_n 1, 1) := by decide +kernel
theorem d_D_collectEnds_33 : decode b_D_collectEnds 33 = .ok (.iload_n 1, 1) := by decide +kernel
theorem d_D_collectEnds_34 : decode b_D_collectEnds 34 = .ok (.bipush 12, 2) := by decide +kernel
theorem d_D_collectEnds_36 : decode b_D_collectEnds 36 = .ok (.if_icmp .ge 43, 3) := by decide +kernel
theorem d_D_collectEnds_39 : decode b_D_collectEnds 39 = .ok (.aload_n 0, 1) := by decide +kernel
theorem d_D_collectEnds_40 : decode b_D_collectEnds 40 = .ok (.getfield 26, 3) := by decide +kernel
theorem d_D_collectEnds_43 : decode b_D_collectEnds 43 = .ok (.iload_n 1, 1) := by decide +kernel
theorem d_D_collectEnds_44 : decode b_D_collectEnds 44 = .ok (.invokevirtual 110, 3) := by decide +kernel
theorem d_D_collectEnds_47 : decode b_D_collectEnds 47 = .ok (.ifCond .eq 26, 3) := by decide +kernel
theorem d_D_collectEnds_50 : decode b_D_collectEnds 50 = .ok (.aload_n 0, 1) := by decide +kernel
theorem d_D_collectEnds_51 : decode b_D_collectEnds 51 = .ok (.iload_n 1, 1) := by decide +kernel
theorem d_D_collectEnds_52 : decode b_D_collectEnds 52 = .ok (.aload_n 0, 1) := by decide +kernel
theorem d_D_collectEnds_53 : decode b_D_collectEnds 53 = .ok (.aload_n 0, 1) := by decide +kernel
theorem d_D_collectEnds_54 : decode b_D_collectEnds 54 = .ok (.getfield 30, 3) := by decide +kernel
theorem d_D_collectEnds_57 : decode b_D_collectEnds 57 = .ok (.getfield 40, 3) := by decide +kernel
theorem d_D_collectEnds_60 : decode b_D_collectEnds 60 = .ok (.iload_n 1, 1) := by decide +kernel
theorem d_D_collectEnds_61 : decode b_D_collectEnds 61 = .ok (.iaload, 1) := by decide +kernel
theorem d_D_collectEnds_62 : decode b_D_collectEnds 62 = .ok (.iconst 0, 1) := by decide +kernel
theorem d_D_collectEnds_63 : decode b_D_collectEnds 63 = .ok (.iconst 0, 1) := by decide +kernel
theorem d_D_collectEnds_64 : decode b_D_collectEnds 64 = .ok (.invokestatic 76, 3) := by decide +kernel
theorem d_D_collectEnds_67 : decode b_D_collectEnds 67 = .ok (.invokevirtual 83, 3) := by decide +kernel
theorem d_D_collectEnds_70 : decode b_D_collectEnds 70 = .ok (.invokevirtual 114, 3) := by decide +kernel
theorem d_D_collectEnds_73 : decode b_D_collectEnds 73 = .ok (.iinc 1 1, 3) := by decide +kernel
theorem d_D_collectEnds_76 : decode b_D_collectEnds 76 = .ok (.goto (-43), 3) := by decide +kernel
theorem d_D_collectEnds_79 : decode b_D_collectEnds 79 = .ok (.return_, 1) := by decide +kernel
theorem d_D_addPinEnd_0 : decode b_D_addPinEnd 0 = .ok (.aload_n 0, 1) := by decide +kernel
theorem d_D_addPinEnd_1 : decode b_D_addPinEnd 1 = .ok (.getfield 26, 3) := by decide +kernel
theorem d_D_addPinEnd_4 : decode b_D_addPinEnd 4 = .ok (.getfield 62, 3) := by decide +kernel
theorem d_D_addPinEnd_7 : decode b_D_addPinEnd 7 = .ok (.iload_n 1, 1) := by decide +kernel
theorem d_D_addPinEnd_8 : decode b_D_addPinEnd 8 = .ok (.aaload, 1) := by decide +kernel
theorem d_D_addPinEnd_9 : decode b_D_addPinEnd 9 = .ok (.iload_n 2, 1) := by decide +kernel
theorem d_D_addPinEnd_10 : decode b_D_addPinEnd 10 = .ok (.iaload, 1) := by decide +kernel
theorem d_D_addPinEnd_11 : decode b_D_addPinEnd 11 = .ok (.istore_n 3, 1) := by decide +kernel
theorem d_D_addPinEnd_12 : decode b_D_addPinEnd 12 = .ok (.iload_n 3, 1) := by decide +kernel
theorem d_D_addPinEnd_13 : decode b_D_addPinEnd 13 = .ok (.iconst (-1), 1) := by decide +kernel
theorem d_D_addPinEnd_14 : decode b_D_addPinEnd 14 = .ok (.if_icmp .eq 25, 3) := by decide +kernel
theorem d_D_addPinEnd_17 : decode b_D_addPinEnd 17 = .ok (.aload_n 0, 1) := by decide +kernel
theorem d_D_addPinEnd_18 : decode b_D_addPinEnd 18 = .ok (.getfield 26, 3) := by decide +kernel
theorem d_D_addPinEnd_21 : decode b_D_addPinEnd 21 = .ok (.iload_n 3, 1) := by decide +kernel
theorem d_D_addPinEnd_22 : decode b_D_addPinEnd 22 = .ok (.invokevirtual 117, 3) := by decide +kernel
theorem d_D_addPinEnd_25 : decode b_D_addPinEnd 25 = .ok (.ifCond .eq 14, 3) := by decide +kernel
theorem d_D_addPinEnd_28 : decode b_D_addPinEnd 28 = .ok (.aload_n 0, 1) := by decide +kernel
theorem d_D_addPinEnd_29 : decode b_D_addPinEnd 29 = .ok (.iload_n 3, 1) := by decide +kernel
theorem d_D_addPinEnd_30 : decode b_D_addPinEnd 30 = .ok (.aload_n 0, 1) := by decide +kernel
theorem d_D_addPinEnd_31 : decode b_D_addPinEnd 31 = .ok (.iload_n 1, 1) := by decide +kernel
theorem d_D_addPinEnd_32 : decode b_D_addPinEnd 32 = .ok (.iload_n 2, 1) := by decide +kernel
theorem d_D_addPinEnd_33 : decode b_D_addPinEnd 33 = .ok (.invokevirtual 101, 3) := by decide +kernel
theorem d_D_addPinEnd_36 : decode b_D_addPinEnd 36 = .ok (.invokevirtual 114, 3) := by decide +kernel
theorem d_D_addPinEnd_39 : decode b_D_addPinEnd 39 = .ok (.return_, 1) := by decide +kernel
theorem d_D_addEnd_0 : decode b_D_addEnd 0 = .ok (.aload_n 0, 1) := by decide +kernel
theorem d_D_addEnd_1 : decode b_D_addEnd 1 = .ok (.getfield 104, 3) := by decide +kernel
theorem d_D_addEnd_4 : decode b_D_addEnd 4 = .ok (.bipush 60, 2) := by decide +kernel
theorem d_D_addEnd_6 : decode b_D_addEnd 6 = .ok (.if_icmp .ge 33, 3) := by decide +kernel
theorem d_D_addEnd_9 : decode b_D_addEnd 9 = .ok (.aload_n 0, 1) := by decide +kernel
theorem d_D_addEnd_10 : decode b_D_addEnd 10 = .ok (.getfield 20, 3) := by decide +kernel
theorem d_D_addEnd_13 : decode b_D_addEnd 13 = .ok (.aload_n 0, 1) := by decide +kernel
theorem d_D_addEnd_14 : decode b_D_addEnd 14 = .ok (.getfield 104, 3) := by decide +kernel
theorem d_D_addEnd_17 : decode b_D_addEnd 17 = .ok (.iload_n 1, 1) := by decide +kernel
theorem d_D_addEnd_18 : decode b_D_addEnd 18 = .ok (.iastore, 1) := by decide +kernel
theorem d_D_addEnd_19 : decode b_D_addEnd 19 = .ok (.aload_n 0, 1) := by decide +kernel
theorem d_D_addEnd_20 : decode b_D_addEnd 20 = .ok (.getfield 23, 3) := by decide +kernel
theorem d_D_addEnd_23 : decode b_D_addEnd 23 = .ok (.aload_n 0, 1) := by decide +kernel
theorem d_D_addEnd_24 : decode b_D_addEnd 24 = .ok (.getfield 104, 3) := by decide +kernel
theorem d_D_addEnd_27 : decode b_D_addEnd 27 = .ok (.iload_n 2, 1) := by decide +kernel
theorem d_D_addEnd_28 : decode b_D_addEnd 28 = .ok (.iastore, 1) := by decide +kernel
theorem d_D_addEnd_29 : decode b_D_addEnd 29 = .ok (.aload_n 0, 1) := by decide +kernel
theorem d_D_addEnd_30 : decode b_D_addEnd 30 = .ok (.dup, 1) := by decide +kernel
theorem d_D_addEnd_31 : decode b_D_addEnd 31 = .ok (.getfield 104, 3) := by decide +kernel
theorem d_D_addEnd_34 : decode b_D_addEnd 34 = .ok (.iconst 1, 1) := by decide +kernel
theorem d_D_addEnd_35 : decode b_D_addEnd 35 = .ok (.iadd, 1) := by decide +kernel
theorem d_D_addEnd_36 : decode b_D_addEnd 36 = .ok (.putfield 104, 3) := by decide +kernel
theorem d_D_addEnd_39 : decode b_D_addEnd 39 = .ok (.return_, 1) := by decide +kernel
theorem d_D_openNets_0 : decode b_D_openNets 0 = .ok (.iconst 0, 1) := by decide +kernel
theorem d_D_openNets_1 : decode b_D_openNets 1 = .ok (.istore_n 1, 1) := by decide +kernel
theorem d_D_openNets_2 : decode b_D_openNets 2 = .ok (.iconst 0, 1) := by decide +kernel
theorem d_D_openNets_3 : decode b_D_openNets 3 = .ok (.istore_n 2, 1) := by decide +kernel
theorem d_D_openNets_4 : decode b_D_openNets 4 = .ok (.iload_n 2, 1) := by decide +kernel
theorem d_D_openNets_5 : decode b_D_openNets 5 = .ok (.aload_n 0, 1) := by decide +kernel
theorem d_D_openNets_6 : decode b_D_openNets 6 = .ok (.getfield 104, 3) := by decide +kernel
theorem d_D_openNets_9 : decode b_D_openNets 9 = .ok (.if_icmp .ge 63, 3) := by decide +kernel
theorem d_D_openNets_12 : decode b_D_openNets 12 = .ok (.iconst 0, 1) := by decide +kernel
theorem d_D_openNets_13 : decode b_D_openNets 13 = .ok (.istore_n 3, 1) := by decide +kernel
theorem d_D_openNets_14 : decode b_D_openNets 14 = .ok (.iload_n 3, 1) := by decide +kernel
theorem d_D_openNets_15 : decode b_D_openNets 15 = .ok (.iload_n 2, 1) := by decide +kernel
theorem d_D_openNets_16 : decode b_D_openNets 16 = .ok (.if_icmp .ge 50, 3) := by decide +kernel
theorem d_D_openNets_19 : decode b_D_openNets 19 = .ok (.aload_n 0, 1) := by decide +kernel
theorem d_D_openNets_20 : decode b_D_openNets 20 = .ok (.getfield 20, 3) := by decide +kernel
theorem d_D_openNets_23 : decode b_D_openNets 23 = .ok (.iload_n 2, 1) := by decide +kernel
theorem d_D_openNets_24 : decode b_D_openNets 24 = .ok (.iaload, 1) := by decide +kernel
theorem d_D_openNets_25 : decode b_D_openNets 25 = .ok (.aload_n 0, 1) := by decide +kernel
theorem d_D_openNets_26 : decode b_D_openNets 26 = .ok (.getfield 20, 3) := by decide +kernel
theorem d_D_openNets_29 : decode b_D_openNets 29 = .ok (.iload_n 3, 1) := by decide +kernel
theorem d_D_openNets_30 : decode b_D_openNets 30 = .ok (.iaload, 1) := by decide +kernel
theorem d_D_openNets_31 : decode b_D_openNets 31 = .ok (.if_icmp .ne 29, 3) := by decide +kernel
theorem d_D_openNets_34 : decode b_D_openNets 34 = .ok (.aload_n 0, 1) := by decide +kernel
theorem d_D_openNets_35 : decode b_D_openNets 35 = .ok (.getfield 23, 3) := by decide +kernel
theorem d_D_openNets_38 : decode b_D_openNets 38 = .ok (.iload_n 2, 1) := by decide +kernel
theorem d_D_openNets_39 : decode b_D_openNets 39 = .ok (.iaload, 1) := by decide +kernel
theorem d_D_openNets_40 : decode b_D_openNets 40 = .ok (.aload_n 0, 1) := by decide +kernel
theorem d_D_openNets_41 : decode b_D_openNets 41 = .ok (.getfield 23, 3) := by decide +kernel
theorem d_D_openNets_44 : decode b_D_openNets 44 = .ok (.iload_n 3, 1) := by decide +kernel
theorem d_D_openNets_45 : decode b_D_openNets 45 = .ok (.iaload, 1) := by decide +kernel
theorem d_D_openNets_46 : decode b_D_openNets 46 = .ok (.if_icmp .eq 14, 3) := by decide +kernel
theorem d_D_openNets_49 : decode b_D_openNets 49 = .ok (.iload_n 1, 1) := by decide +kernel
theorem d_D_openNets_50 : decode b_D_openNets 50 = .ok (.iconst 1, 1) := by decide +kernel
theorem d_D_openNets_51 : decode b_D_openNets 51 = .ok (.aload_n 0, 1) := by decide +kernel
theorem d_D_openNets_52 : decode b_D_openNets 52 = .ok (.getfield 20, 3) := by decide +kernel
theorem d_D_openNets_55 : decode b_D_openNets 55 = .ok (.iload_n 2, 1) := by decide +kernel
theorem d_D_openNets_56 : decode b_D_openNets 56 = .ok (.iaload, 1) := by decide +kernel
theorem d_D_openNets_57 : decode b_D_openNets 57 = .ok (.ishl, 1) := by decide +kernel
theorem d_D_openNets_58 : decode b_D_openNets 58 = .ok (.ior, 1) := by decide +kernel
theorem d_D_openNets_59 : decode b_D_openNets 59 = .ok (.istore_n 1, 1) := by decide +kernel
theorem d_D_openNets_60 : decode b_D_openNets 60 = .ok (.iinc 3 1, 3) := by decide +kernel
theorem d_D_openNets_63 : decode b_D_openNets 63 = .ok (.goto (-49), 3) := by decide +kernel
theorem d_D_openNets_66 : decode b_D_openNets 66 = .ok (.iinc 2 1, 3) := by decide +kernel
theorem d_D_openNets_69 : decode b_D_openNets 69 = .ok (.goto (-65), 3) := by decide +kernel
theorem d_D_openNets_72 : decode b_D_openNets 72 = .ok (.iload_n 1, 1) := by decide +kernel
theorem d_D_openNets_73 : decode b_D_openNets 73 = .ok (.invokestatic 120, 3) := by decide +kernel
theorem d_D_openNets_76 : decode b_D_openNets 76 = .ok (.ireturn, 1) := by decide +kernel
theorem d_D_shortPairs_0 : decode b_D_shortPairs 0 = .ok (.iconst 0, 1) := by decide +kernel
theorem d_D_shortPairs_1 : decode b_D_shortPairs 1 = .ok (.istore_n 1, 1) := by decide +kernel
theorem d_D_shortPairs_2 : decode b_D_shortPairs 2 = .ok (.iconst 0, 1) := by decide +kernel
theorem d_D_shortPairs_3 : decode b_D_shortPairs 3 = .ok (.istore_n 2, 1) := by decide +kernel
theorem d_D_shortPairs_4 : decode b_D_shortPairs 4 = .ok (.iload_n 2, 1) := by decide +kernel
theorem d_D_shortPairs_5 : decode b_D_shortPairs 5 = .ok (.bipush 12, 2) := by decide +kernel
theorem d_D_shortPairs_7 : decode b_D_shortPairs 7 = .ok (.if_icmp .ge 28, 3) := by decide +kernel
theorem d_D_shortPairs_10 : decode b_D_shortPairs 10 = .ok (.iconst 1, 1) := by decide +kernel
theorem d_D_shortPairs_11 : decode b_D_shortPairs 11 = .ok (.iload_n 2, 1) := by decide +kernel
theorem d_D_shortPairs_12 : decode b_D_shortPairs 12 = .ok (.ishl, 1) := by decide +kernel
theorem d_D_shortPairs_13 : decode b_D_shortPairs 13 = .ok (.iconst 1, 1) := by decide +kernel
theorem d_D_shortPairs_14 : decode b_D_shortPairs 14 = .ok (.isub, 1) := by decide +kernel
theorem d_D_shortPairs_15 : decode b_D_shortPairs 15 = .ok (.istore_n 3, 1) := by decide +kernel
theorem d_D_shortPairs_16 : decode b_D_shortPairs 16 = .ok (.iload_n 1, 1) := by decide +kernel
theorem d_D_shortPairs_17 : decode b_D_shortPairs 17 = .ok (.aload_n 0, 1) := by decide +kernel
theorem d_D_shortPairs_18 : decode b_D_shortPairs 18 = .ok (.iload_n 2, 1) := by decide +kernel
theorem d_D_shortPairs_19 : decode b_D_shortPairs 19 = .ok (.invokevirtual 125, 3) := by decide +kernel
theorem d_D_shortPairs_22 : decode b_D_shortPairs 22 = .ok (.iload_n 3, 1) := by decide +kernel
theorem d_D_shortPairs_23 : decode b_D_shortPairs 23 = .ok (.iand, 1) := by decide +kernel
theorem d_D_shortPairs_24 : decode b_D_shortPairs 24 = .ok (.invokestatic 120, 3) := by decide +kernel
theorem d_D_shortPairs_27 : decode b_D_shortPairs 27 = .ok (.iadd, 1) := by decide +kernel
theorem d_D_shortPairs_28 : decode b_D_shortPairs 28 = .ok (.istore_n 1, 1) := by decide +kernel
theorem d_D_shortPairs_29 : decode b_D_shortPairs 29 = .ok (.iinc 2 1, 3) := by decide +kernel
theorem d_D_shortPairs_32 : decode b_D_shortPairs 32 = .ok (.goto (-28), 3) := by decide +kernel
theorem d_D_shortPairs_35 : decode b_D_shortPairs 35 = .ok (.iload_n 1, 1) := by decide +kernel
theorem d_D_shortPairs_36 : decode b_D_shortPairs 36 = .ok (.ireturn, 1) := by decide +kernel
theorem d_D_netsJoinedWith_0 : decode b_D_netsJoinedWith 0 = .ok (.iconst 0, 1) := by decide +kernel
theorem d_D_netsJoinedWith_1 : decode b_D_netsJoinedWith 1 = .ok (.istore_n 2, 1) := by decide +kernel
theorem d_D_netsJoinedWith_2 : decode b_D_netsJoinedWith 2 = .ok (.iconst 0, 1) := by decide +kernel
theorem d_D_netsJoinedWith_3 : decode b_D_netsJoinedWith 3 = .ok (.istore_n 3, 1) := by decide +kernel
theorem d_D_netsJoinedWith_4 : decode b_D_netsJoinedWith 4 = .ok (.iload_n 3, 1) := by decide +kernel
theorem d_D_netsJoinedWith_5 : decode b_D_netsJoinedWith 5 = .ok (.aload_n 0, 1) := by decide +kernel
theorem d_D_netsJoinedWith_6 : decode b_D_netsJoinedWith 6 = .ok (.getfield 104, 3) := by decide +kernel
theorem d_D_netsJoinedWith_9 : decode b_D_netsJoinedWith 9 = .ok (.if_icmp .ge 32, 3) := by decide +kernel
theorem d_D_netsJoinedWith_12 : decode b_D_netsJoinedWith 12 = .ok (.aload_n 0, 1) := by decide +kernel
theorem d_D_netsJoinedWith_13 : decode b_D_netsJoinedWith 13 = .ok (.getfield 20, 3) := by decide +kernel
theorem d_D_netsJoinedWith_16 : decode b_D_netsJoinedWith 16 = .ok (.iload_n 3, 1) := by decide +kernel
theorem d_D_netsJoinedWith_17 : decode b_D_netsJoinedWith 17 = .ok (.iaload, 1) := by decide +kernel
theorem d_D_netsJoinedWith_18 : decode b_D_netsJoinedWith 18 = .ok (.iload_n 1, 1) := by decide +kernel
theorem d_D_netsJoinedWith_19 : decode b_D_netsJoinedWith 19 = .ok (.if_icmp .ne 16, 3) := by decide +kernel
theorem d_D_netsJoinedWith_22 : decode b_D_netsJoinedWith 22 = .ok (.iload_n 2, 1) := by decide +kernel
theorem d_D_netsJoinedWith_23 : decode b_D_netsJoinedWith 23 = .ok (.aload_n 0, 1) := by decide +kernel
theorem d_D_netsJoinedWith_24 : decode b_D_netsJoinedWith 24 = .ok (.aload_n 0, 1) := by decide +kernel
theorem d_D_netsJoinedWith_25 : decode b_D_netsJoinedWith 25 = .ok (.getfield 23, 3) := by decide +kernel
theorem d_D_netsJoinedWith_28 : decode b_D_netsJoinedWith 28 = .ok (.iload_n 3, 1) := by decide +kernel
theorem d_D_netsJoinedWith_29 : decode b_D_netsJoinedWith 29 = .ok (.iaload, 1) := by decide +kernel
theorem d_D_netsJoinedWith_30 : decode b_D_netsJoinedWith 30 = .ok (.invokevirtual 128, 3) := by decide +kernel
theorem d_D_netsJoinedWith_33 : decode b_D_netsJoinedWith 33 = .ok (.ior, 1) := by decide +kernel
theorem d_D_netsJoinedWith_34 : decode b_D_netsJoinedWith 34 = .ok (.istore_n 2, 1) := by decide +kernel
theorem d_D_netsJoinedWith_35 : decode b_D_netsJoinedWith 35 = .ok (.iinc 3 1, 3) := by decide +kernel
theorem d_D_netsJoinedWith_38 : decode b_D_netsJoinedWith 38 = .ok (.goto (-34), 3) := by decide +kernel
theorem d_D_netsJoinedWith_41 : decode b_D_netsJoinedWith 41 = .ok (.iload_n 2, 1) := by decide +kernel
theorem d_D_netsJoinedWith_42 : decode b_D_netsJoinedWith 42 = .ok (.ireturn, 1) := by decide +kernel
theorem d_D_netsInGroup_0 : decode b_D_netsInGroup 0 = .ok (.iconst 0, 1) := by decide +kernel
theorem d_D_netsInGroup_1 : decode b_D_netsInGroup 1 = .ok (.istore_n 2, 1) := by decide +kernel
theorem d_D_netsInGroup_2 : decode b_D_netsInGroup 2 = .ok (.iconst 0, 1) := by decide +kernel
theorem d_D_netsInGroup_3 : decode b_D_netsInGroup 3 = .ok (.istore_n 3, 1) := by decide +kernel
theorem d_D_netsInGroup_4 : decode b_D_netsInGroup 4 = .ok (.iload_n 3, 1) := by decide +kernel
theorem d_D_netsInGroup_5 : decode b_D_netsInGroup 5 = .ok (.aload_n 0, 1) := by decide +kernel
theorem d_D_netsInGroup_6 : decode b_D_netsInGroup 6 = .ok (.getfield 104, 3) := by decide +kernel
theorem d_D_netsInGroup_9 : decode b_D_netsInGroup 9 = .ok (.if_icmp .ge 30, 3) := by decide +kernel
theorem d_D_netsInGroup_12 : decode b_D_netsInGroup 12 = .ok (.aload_n 0, 1) := by decide +kernel
theorem d_D_netsInGroup_13 : decode b_D_netsInGroup 13 = .ok (.getfield 23, 3) := by decide +kernel
theorem d_D_netsInGroup_16 : decode b_D_netsInGroup 16 = .ok (.iload_n 3, 1) := by decide +kernel
theorem d_D_netsInGroup_17 : decode b_D_netsInGroup 17 = .ok (.iaload, 1) := by decide +kernel
theorem d_D_netsInGroup_18 : decode b_D_netsInGroup 18 = .ok (.iload_n 1, 1) := by decide +kernel
theorem d_D_netsInGroup_19 : decode b_D_netsInGroup 19 = .ok (.if_icmp .ne 14, 3) := by decide +kernel
theorem d_D_netsInGroup_22 : decode b_D_netsInGroup 22 = .ok (.iload_n 2, 1) := by decide +kernel
theorem d_D_netsInGroup_23 : decode b_D_netsInGroup 23 = .ok (.iconst 1, 1) := by decide +kernel
theorem d_D_netsInGroup_24 : decode b_D_netsInGroup 24 = .ok (.aload_n 0, 1) := by decide +kernel
theorem d_D_netsInGroup_25 : decode b_D_netsInGroup 25 = .ok (.getfield 20, 3) := by decide +kernel
theorem d_D_netsInGroup_28 : decode b_D_netsInGroup 28 = .ok (.iload_n 3, 1) := by decide +kernel
theorem d_D_netsInGroup_29 : decode b_D_netsInGroup 29 = .ok (.iaload, 1) := by decide +kernel
theorem d_D_netsInGroup_30 : decode b_D_netsInGroup 30 = .ok (.ishl, 1) := by decide +kernel
theorem d_D_netsInGroup_31 : decode b_D_netsInGroup 31 = .ok (.ior, 1) := by decide +kernel
theorem d_D_netsInGroup_32 : decode b_D_netsInGroup 32 = .ok (.istore_n 2, 1) := by decide +kernel
theorem d_D_netsInGroup_33 : decode b_D_netsInGroup 33 = .ok (.iinc 3 1, 3) := by decide +kernel
theorem d_D_netsInGroup_36 : decode b_D_netsInGroup 36 = .ok (.goto (-32), 3) := by decide +kernel
theorem d_D_netsInGroup_39 : decode b_D_netsInGroup 39 = .ok (.iload_n 2, 1) := by decide +kernel
theorem d_D_netsInGroup_40 : decode b_D_netsInGroup 40 = .ok (.ireturn, 1) := by decide +kernel
theorem d_S_init_0 : decode b_S_init 0 = .ok (.aload_n 0, 1) := by decide +kernel
theorem d_S_init_1 : decode b_S_init 1 = .ok (.invokespecial 3, 3) := by decide +kernel
theorem d_S_init_4 : decode b_S_init 4 = .ok (.aload_n 0, 1) := by decide +kernel
theorem d_S_init_5 : decode b_S_init 5 = .ok (.iconst 4, 1) := by decide +kernel
theorem d_S_init_6 : decode b_S_init 6 = .ok (.newarray .double, 2) := by decide +kernel
theorem d_S_init_8 : decode b_S_init 8 = .ok (.putfield 9, 3) := by decide +kernel
theorem d_S_init_11 : decode b_S_init 11 = .ok (.aload_n 0, 1) := by decide +kernel
theorem d_S_init_12 : decode b_S_init 12 = .ok (.bipush 12, 2) := by decide +kernel
theorem d_S_init_14 : decode b_S_init 14 = .ok (.newarray .double, 2) := by decide +kernel
theorem d_S_init_16 : decode b_S_init 16 = .ok (.putfield 15, 3) := by decide +kernel
theorem d_S_init_19 : decode b_S_init 19 = .ok (.aload_n 0, 1) := by decide +kernel
theorem d_S_init_20 : decode b_S_init 20 = .ok (.bipush 12, 2) := by decide +kernel
theorem d_S_init_22 : decode b_S_init 22 = .ok (.newarray .int, 2) := by decide +kernel
theorem d_S_init_24 : decode b_S_init 24 = .ok (.putfield 18, 3) := by decide +kernel
theorem d_S_init_27 : decode b_S_init 27 = .ok (.aload_n 0, 1) := by decide +kernel
theorem d_S_init_28 : decode b_S_init 28 = .ok (.aload_n 1, 1) := by decide +kernel
theorem d_S_init_29 : decode b_S_init 29 = .ok (.putfield 22, 3) := by decide +kernel
theorem d_S_init_32 : decode b_S_init 32 = .ok (.aload_n 0, 1) := by decide +kernel
theorem d_S_init_33 : decode b_S_init 33 = .ok (.aload_n 2, 1) := by decide +kernel
theorem d_S_init_34 : decode b_S_init 34 = .ok (.putfield 26, 3) := by decide +kernel
theorem d_S_init_37 : decode b_S_init 37 = .ok (.iconst 0, 1) := by decide +kernel
theorem d_S_init_38 : decode b_S_init 38 = .ok (.istore_n 3, 1) := by decide +kernel
theorem d_S_init_39 : decode b_S_init 39 = .ok (.iload_n 3, 1) := by decide +kernel
theorem d_S_init_40 : decode b_S_init 40 = .ok (.iconst 4, 1) := by decide +kernel
theorem d_S_init_41 : decode b_S_init 41 = .ok (.if_icmp .ge 16, 3) := by decide +kernel
theorem d_S_init_44 : decode b_S_init 44 = .ok (.aload_n 0, 1) := by decide +kernel
theorem d_S_init_45 : decode b_S_init 45 = .ok (.getfield 9, 3) := by decide +kernel
theorem d_S_init_48 : decode b_S_init 48 = .ok (.iload_n 3, 1) := by decide +kernel
theorem d_S_init_49 : decode b_S_init 49 = .ok (.dconst 1, 1) := by decide +kernel
theorem d_S_init_50 : decode b_S_init 50 = .ok (.dastore, 1) := by decide +kernel
theorem d_S_init_51 : decode b_S_init 51 = .ok (.iinc 3 1, 3) := by decide +kernel
theorem d_S_init_54 : decode b_S_init 54 = .ok (.goto (-15), 3) := by decide +kernel
theorem d_S_init_57 : decode b_S_init 57 = .ok (.return_, 1) := by decide +kernel
theorem d_S_orderGates_0 : decode b_S_orderGates 0 = .ok (.aload_n 0, 1) := by decide +kernel
theorem d_S_orderGates_1 : decode b_S_orderGates 1 = .ok (.iconst 0, 1) := by decide +kernel
theorem d_S_orderGates_2 : decode b_S_orderGates 2 = .ok (.putfield 30, 3) := by decide +kernel
theorem d_S_orderGates_5 : decode b_S_orderGates 5 = .ok (.aload_n 0, 1) := by decide +kernel
theorem d_S_orderGates_6 : decode b_S_orderGates 6 = .ok (.iconst 0, 1) := by decide +kernel
theorem d_S_orderGates_7 : decode b_S_orderGates 7 = .ok (.putfield 34, 3) := by decide +kernel
theorem d_S_orderGates_10 : decode b_S_orderGates 10 = .ok (.iconst 0, 1) := by decide +kernel
theorem d_S_orderGates_11 : decode b_S_orderGates 11 = .ok (.istore_n 1, 1) := by decide +kernel
theorem d_S_orderGates_12 : decode b_S_orderGates 12 = .ok (.iload_n 1, 1) := by decide +kernel
theorem d_S_orderGates_13 : decode b_S_orderGates 13 = .ok (.bipush 12, 2) := by decide +kernel
theorem d_S_orderGates_15 : decode b_S_orderGates 15 = .ok (.if_icmp .ge 32, 3) := by decide +kernel
theorem d_S_orderGates_18 : decode b_S_orderGates 18 = .ok (.aload_n 0, 1) := by decide +kernel
theorem d_S_orderGates_19 : decode b_S_orderGates 19 = .ok (.getfield 22, 3) := by decide +kernel
theorem d_S_orderGates_22 : decode b_S_orderGates 22 = .ok (.iload_n 1, 1) := by decide +kernel
theorem d_S_orderGates_23 : decode b_S_orderGates 23 = .ok (.invokevirtual 37, 3) := by decide +kernel
theorem d_S_orderGates_26 : decode b_S_orderGates 26 = .ok (.ifCond .ne 15, 3) := by decide +kernel
theorem d_S_orderGates_29 : decode b_S_orderGates 29 = .ok (.aload_n 0, 1) := by decide +kernel
theorem d_S_orderGates_30 : decode b_S_orderGates 30 = .ok (.dup, 1) := by decide +kernel
theorem d_S_orderGates_31 : decode b_S_orderGates 31 = .ok (.getfield 34, 3) := by decide +kernel
theorem d_S_orderGates_34 : decode b_S_orderGates 34 = .ok (.iconst 1, 1) := by decide +kernel
theorem d_S_orderGates_35 : decode b_S_orderGates 35 = .ok (.iload_n 1, 1) := by decide +kernel
theorem d_S_orderGates_36 : decode b_S_orderGates 36 = .ok (.ishl, 1) := by decide +kernel
theorem d_S_orderGates_37 : decode b_S_orderGates 37 = .ok (.ior, 1) := by decide +kernel
theorem d_S_orderGates_38 : decode b_S_orderGates 38 = .ok (.putfield 34, 3) := by decide +kernel
theorem d_S_orderGates_41 : decode b_S_orderGates 41 = .ok (.iinc 1 1, 3) := by decide +kernel
theorem d_S_orderGates_44 : decode b_S_orderGates 44 = .ok (.goto (-32), 3) := by decide +kernel
theorem d_S_orderGates_47 : decode b_S_orderGates 47 = .ok (.iconst 0, 1) := by decide +kernel
theorem d_S_orderGates_48 : decode b_S_orderGates 48 = .ok (.istore_n 1, 1) := by decide +kernel
theorem d_S_orderGates_49 : decode b_S_orderGates 49 = .ok (.iload_n 1, 1) := by decide +kernel
theorem d_S_orderGates_50 : decode b_S_orderGates 50 = .ok (.aload_n 0, 1) := by decide +kernel
theorem d_S_orderGates_51 : decode b_S_orderGates 51 = .ok (.getfield 22, 3) := by decide +kernel
theorem d_S_orderGates_54 : decode b_S_orderGates 54 = .ok (.getfield 43, 3) := by decide +kernel
theorem d_S_orderGates_57 : decode b_S_orderGates 57 = .ok (.if_icmp .ge 76, 3) := by decide +kernel
theorem d_S_orderGates_60 : decode b_S_orderGates 60 = .ok (.iconst 0, 1) := by decide +kernel
theorem d_S_orderGates_61 : decode b_S_orderGates 61 = .ok (.istore_n 2, 1) := by decide +kernel
theorem d_S_orderGates_62 : decode b_S_orderGates 62 = .ok (.iload_n 2, 1) := by decide +kernel
theorem d_S_orderGates_63 : decode b_S_orderGates 63 = .ok (.aload_n 0, 1) := by decide +kernel
theorem d_S_orderGates_64 : decode b_S_orderGates 64 = .ok (.getfield 22, 3) := by decide +kernel
theorem d_S_orderGates_67 : decode b_S_orderGates 67 = .ok (.getfield 43, 3) := by decide +kernel
theorem d_S_orderGates_70 : decode b_S_orderGates 70 = .ok (.if_icmp .ge 57, 3) := by decide +kernel
theorem d_S_orderGates_73 : decode b_S_orderGates 73 = .ok (.aload_n 0, 1) := by decide +kernel
theorem d_S_orderGates_74 : decode b_S_orderGates 74 = .ok (.iload_n 2, 1) := by decide +kernel
theorem d_S_orderGates_75 : decode b_S_orderGates 75 = .ok (.invokevirtual 46, 3) := by decide +kernel
theorem d_S_orderGates_78 : decode b_S_orderGates 78 = .ok (.ifCond .eq 43, 3) := by decide +kernel
theorem d_S_orderGates_81 : decode b_S_orderGates 81 = .ok (.aload_n 0, 1) := by decide +kernel
theorem d_S_orderGates_82 : decode b_S_orderGates 82 = .ok (.getfield 18, 3) := by decide +kernel
theorem d_S_orderGates_85 : decode b_S_orderGates 85 = .ok (.aload_n 0, 1) := by decide +kernel
theorem d_S_orderGates_86 : decode b_S_orderGates 86 = .ok (.getfield 30, 3) := by decide +kernel
theorem d_S_orderGates_89 : decode b_S_orderGates 89 = .ok (.iload_n 2, 1) := by decide +kernel
theorem d_S_orderGates_90 : decode b_S_orderGates 90 = .ok (.iastore, 1) := by decide +kernel
theorem d_S_orderGates_91 : decode b_S_orderGates 91 = .ok (.aload_n 0, 1) := by decide +kernel
theorem d_S_orderGates_92 : decode b_S_orderGates 92 = .ok (.dup, 1) := by decide +kernel
theorem d_S_orderGates_93 : decode b_S_orderGates 93 = .ok (.getfield 30, 3) := by decide +kernel
theorem d_S_orderGates_96 : decode b_S_orderGates 96 = .ok (.iconst 1, 1) := by decide +kernel
theorem d_S_orderGates_97 : decode b_S_orderGates 97 = .ok (.iadd, 1) := by decide +kernel
theorem d_S_orderGates_98 : decode b_S_orderGates 98 = .ok (.putfield 30, 3) := by decide +kernel
theorem d_S_orderGates_101 : decode b_S_orderGates 101 = .ok (.aload_n 0, 1) := by decide +kernel
theorem d_S_orderGates_102 : decode b_S_orderGates 102 = .ok (.dup, 1) := by decide +kernel
theorem d_S_orderGates_103 : decode b_S_orderGates 103 = .ok (.getfield 34, 3) := by decide +kernel
theorem d_S_orderGates_106 : decode b_S_orderGates 106 = .ok (.iconst 1, 1) := by decide +kernel
theorem d_S_orderGates_107 : decode b_S_orderGates 107 = .ok (.aload_n 0, 1) := by decide +kernel
theorem d_S_orderGates_108 : decode b_S_orderGates 108 = .ok (.getfield 22, 3) := by decide +kernel
theorem d_S_orderGates_111 : decode b_S_orderGates 111 = .ok (.getfield 49, 3) := by decide +kernel
theorem d_S_orderGates_114 : decode b_S_orderGates 114 = .ok (.iload_n 2, 1) := by decide +kernel
theorem d_S_orderGates_115 : decode b_S_orderGates 115 = .ok (.iaload, 1) := by decide +kernel
theorem d_S_orderGates_116 : decode b_S_orderGates 116 = .ok (.ishl, 1) := by decide +kernel
theorem d_S_orderGates_117 : decode b_S_orderGates 117 = .ok (.ior, 1) := by decide +kernel
theorem d_S_orderGates_118 : decode b_S_orderGates 118 = .ok (.putfield 34, 3) := by decide +kernel
theorem d_S_orderGates_121 : decode b_S_orderGates 121 = .ok (.iinc 2 1, 3) := by decide +kernel
theorem d_S_orderGates_124 : decode b_S_orderGates 124 = .ok (.goto (-62), 3) := by decide +kernel
theorem d_S_orderGates_127 : decode b_S_orderGates 127 = .ok (.iinc 1 1, 3) := by decide +kernel
theorem d_S_orderGates_130 : decode b_S_orderGates 130 = .ok (.goto (-81), 3) := by decide +kernel
theorem d_S_orderGates_133 : decode b_S_orderGates 133 = .ok (.return_, 1) := by decide +kernel
theorem d_S_isReady_0 : decode b_S_isReady 0 = .ok (.aload_n 0, 1) := by decide +kernel
theorem d_S_isReady_1 : decode b_S_isReady 1 = .ok (.aload_n 0, 1) := by decide +kernel
theorem d_S_isReady_2 : decode b_S_isReady 2 = .ok (.getfield 22, 3) := by decide +kernel
theorem d_S_isReady_5 : decode b_S_isReady 5 = .ok (.getfield 49, 3) := by decide +kernel
theorem d_S_isReady_8 : decode b_S_isReady 8 = .ok (.iload_n 1, 1) := by decide +kernel
theorem d_S_isReady_9 : decode b_S_isReady 9 = .ok (.iaload, 1) := by decide +kernel
theorem d_S_isReady_10 : decode b_S_isReady 10 = .ok (.invokevirtual 52, 3) := by decide +kernel
theorem d_S_isReady_13 : decode b_S_isReady 13 = .ok (.ifCond .ne 39, 3) := by decide +kernel
theorem d_S_isReady_16 : decode b_S_isReady 16 = .ok (.aload_n 0, 1) := by decide +kernel
theorem d_S_isReady_17 : decode b_S_isReady 17 = .ok (.aload_n 0, 1) := by decide +kernel
theorem d_S_isReady_18 : decode b_S_isReady 18 = .ok (.getfield 22, 3) := by decide +kernel
theorem d_S_isReady_21 : decode b_S_isReady 21 = .ok (.getfield 55, 3) := by decide +kernel
theorem d_S_isReady_24 : decode b_S_isReady 24 = .ok (.iload_n 1, 1) := by decide +kernel
theorem d_S_isReady_25 : decode b_S_isReady 25 = .ok (.iaload, 1) := by decide +kernel
theorem d_S_isReady_26 : decode b_S_isReady 26 = .ok (.invokevirtual 52, 3) := by decide +kernel
theorem d_S_isReady_29 : decode b_S_isReady 29 = .ok (.ifCond .eq 23, 3) := by decide +kernel
theorem d_S_isReady_32 : decode b_S_isReady 32 = .ok (.aload_n 0, 1) := by decide +kernel
theorem d_S_isReady_33 : decode b_S_isReady 33 = .ok (.aload_n 0, 1) := by decide +kernel
theorem d_S_isReady_34 : decode b_S_isReady 34 = .ok (.getfield 22, 3) := by decide +kernel
theorem d_S_isReady_37 : decode b_S_isReady 37 = .ok (.getfield 58, 3) := by decide +kernel
theorem d_S_isReady_40 : decode b_S_isReady 40 = .ok (.iload_n 1, 1) := by decide +kernel
theorem d_S_isReady_41 : decode b_S_isReady 41 = .ok (.iaload, 1) := by decide +kernel
theorem d_S_isReady_42 : decode b_S_isReady 42 = .ok (.invokevirtual 52, 3) := by decide +kernel
theorem d_S_isReady_45 : decode b_S_isReady 45 = .ok (.ifCond .eq 7, 3) := by decide +kernel
theorem d_S_isReady_48 : decode b_S_isReady 48 = .ok (.iconst 1, 1) := by decide +kernel
theorem d_S_isReady_49 : decode b_S_isReady 49 = .ok (.goto 4, 3) := by decide +kernel
theorem d_S_isReady_52 : decode b_S_isReady 52 = .ok (.iconst 0, 1) := by decide +kernel
theorem d_S_isReady_53 : decode b_S_isReady 53 = .ok (.ireturn, 1) := by decide +kernel
theorem d_S_isSettled_0 : decode b_S_isSettled 0 = .ok (.aload_n 0, 1) := by decide +kernel
theorem d_S_isSettled_1 : decode b_S_isSettled 1 = .ok (.getfield 34, 3) := by decide +kernel
theorem d_S_isSettled_4 : decode b_S_isSettled 4 = .ok (.iload_n 1, 1) := by decide +kernel
theorem d_S_isSettled_5 : decode b_S_isSettled 5 = .ok (.invokestatic 61, 3) := by decide +kernel
theorem d_S_isSettled_8 : decode b_S_isSettled 8 = .ok (.iconst 1, 1) := by decide +kernel
theorem d_S_isSettled_9 : decode b_S_isSettled 9 = .ok (.if_icmp .ne 7, 3) := by decide +kernel
theorem d_S_isSettled_12 : decode b_S_isSettled 12 = .ok (.iconst 1, 1) := by decide +kernel
theorem d_S_isSettled_13 : decode b_S_isSettled 13 = .ok (.goto 4, 3) := by decide +kernel
theorem d_S_isSettled_16 : decode b_S_isSettled 16 = .ok (.iconst 0, 1) := by decide +kernel
theorem d_S_isSettled_17 : decode b_S_isSettled 17 = .ok (.ireturn, 1) := by decide +kernel
theorem d_S_allSettled_0 : decode b_S_allSettled 0 = .ok (.aload_n 0, 1) := by decide +kernel
theorem d_S_allSettled_1 : decode b_S_allSettled 1 = .ok (.getfield 30, 3) := by decide +kernel
theorem d_S_allSettled_4 : decode b_S_allSettled 4 = .ok (.aload_n 0, 1) := by decide +kernel
theorem d_S_allSettled_5 : decode b_S_allSettled 5 = .ok (.getfield 22, 3) := by decide +kernel
theorem d_S_allSettled_8 : decode b_S_allSettled 8 = .ok (.getfield 43, 3) := by decide +kernel
theorem d_S_allSettled_11 : decode b_S_allSettled 11 = .ok (.if_icmp .ne 7, 3) := by decide +kernel
theorem d_S_allSettled_14 : decode b_S_allSettled 14 = .ok (.iconst 1, 1) := by decide +kernel
theorem d_S_allSettled_15 : decode b_S_allSettled 15 = .ok (.goto 4, 3) := by decide +kernel
theorem d_S_allSettled_18 : decode b_S_allSettled 18 = .ok (.iconst 0, 1) := by decide +kernel
theorem d_S_allSettled_19 : decode b_S_allSettled 19 = .ok (.ireturn, 1) := by decide +kernel
theorem d_S_arrivalAt_0 : decode b_S_arrivalAt 0 = .ok (.iconst 0, 1) := by decide +kernel
theorem d_S_arrivalAt_1 : decode b_S_arrivalAt 1 = .ok (.istore_n 2, 1) := by decide +kernel
theorem d_S_arrivalAt_2 : decode b_S_arrivalAt 2 = .ok (.iload_n 2, 1) := by decide +kernel
theorem d_S_arrivalAt_3 : decode b_S_arrivalAt 3 = .ok (.bipush 12, 2) := by decide +kernel
theorem d_S_arrivalAt_5 : decode b_S_arrivalAt 5 = .ok (.if_icmp .ge 16, 3) := by decide +kernel
theorem d_S_arrivalAt_8 : decode b_S_arrivalAt 8 = .ok (.aload_n 0, 1) := by decide +kernel
theorem d_S_arrivalAt_9 : decode b_S_arrivalAt 9 = .ok (.getfield 15, 3) := by decide +kernel
theorem d_S_arrivalAt_12 : decode b_S_arrivalAt 12 = .ok (.iload_n 2, 1) := by decide +kernel
theorem d_S_arrivalAt_13 : decode b_S_arrivalAt 13 = .ok (.dconst 0, 1) := by decide +kernel
theorem d_S_arrivalAt_14 : decode b_S_arrivalAt 14 = .ok (.dastore, 1) := by decide +kernel
theorem d_S_arrivalAt_15 : decode b_S_arrivalAt 15 = .ok (.iinc 2 1, 3) := by decide +kernel
theorem d_S_arrivalAt_18 : decode b_S_arrivalAt 18 = .ok (.goto (-16), 3) := by decide +kernel
theorem d_S_arrivalAt_21 : decode b_S_arrivalAt 21 = .ok (.iconst 0, 1) := by decide +kernel
theorem d_S_arrivalAt_22 : decode b_S_arrivalAt 22 = .ok (.istore_n 2, 1) := by decide +kernel
theorem d_S_arrivalAt_23 : decode b_S_arrivalAt 23 = .ok (.iload_n 2, 1) := by decide +kernel
theorem d_S_arrivalAt_24 : decode b_S_arrivalAt 24 = .ok (.aload_n 0, 1) := by decide +kernel
theorem d_S_arrivalAt_25 : decode b_S_arrivalAt 25 = .ok (.getfield 30, 3) := by decide +kernel
theorem d_S_arrivalAt_28 : decode b_S_arrivalAt 28 = .ok (.if_icmp .ge 94, 3) := by decide +kernel
theorem d_S_arrivalAt_31 : decode b_S_arrivalAt 31 = .ok (.aload_n 0, 1) := by decide +kernel
theorem d_S_arrivalAt_32 : decode b_S_arrivalAt 32 = .ok (.getfield 18, 3) := by decide +kernel
theorem d_S_arrivalAt_35 : decode b_S_arrivalAt 35 = .ok (.iload_n 2, 1) := by decide +kernel
theorem d_S_arrivalAt_36 : decode b_S_arrivalAt 36 = .ok (.iaload, 1) := by decide +kernel
theorem d_S_arrivalAt_37 : decode b_S_arrivalAt 37 = .ok (.istore_n 3, 1) := by decide +kernel
theorem d_S_arrivalAt_38 : decode b_S_arrivalAt 38 = .ok (.aload_n 0, 1) := by decide +kernel
theorem d_S_arrivalAt_39 : decode b_S_arrivalAt 39 = .ok (.aload_n 0, 1) := by decide +kernel
theorem d_S_arrivalAt_40 : decode b_S_arrivalAt 40 = .ok (.getfield 22, 3) := by decide +kernel
theorem d_S_arrivalAt_43 : decode b_S_arrivalAt 43 = .ok (.getfield 55, 3) := by decide +kernel
theorem d_S_arrivalAt_46 : decode b_S_arrivalAt 46 = .ok (.iload_n 3, 1) := by decide +kernel
theorem d_S_arrivalAt_47 : decode b_S_arrivalAt 47 = .ok (.iaload, 1) := by decide +kernel
theorem d_S_arrivalAt_48 : decode b_S_arrivalAt 48 = .ok (.invokevirtual 65, 3) := by decide +kernel
theorem d_S_arrivalAt_51 : decode b_S_arrivalAt 51 = .ok (.dstore 4, 2) := by decide +kernel
theorem d_S_arrivalAt_53 : decode b_S_arrivalAt 53 = .ok (.aload_n 0, 1) := by decide +kernel
theorem d_S_arrivalAt_54 : decode b_S_arrivalAt 54 = .ok (.aload_n 0, 1) := by decide +kernel
theorem d_S_arrivalAt_55 : decode b_S_arrivalAt 55 = .ok (.getfield 22, 3) := by decide +kernel
theorem d_S_arrivalAt_58 : decode b_S_arrivalAt 58 = .ok (.getfield 58, 3) := by decide +kernel
theorem d_S_arrivalAt_61 : decode b_S_arrivalAt 61 = .ok (.iload_n 3, 1) := by decide +kernel
theorem d_S_arrivalAt_62 : decode b_S_arrivalAt 62 = .ok (.iaload, 1) := by decide +kernel
theorem d_S_arrivalAt_63 : decode b_S_arrivalAt 63 = .ok (.invokevirtual 65, 3) := by decide +kernel
theorem d_S_arrivalAt_66 : decode b_S_arrivalAt 66 = .ok (.dstore 6, 2) := by decide +kernel
theorem d_S_arrivalAt_68 : decode b_S_arrivalAt 68 = .ok (.dload 6, 2) := by decide +kernel
theorem d_S_arrivalAt_70 : decode b_S_arrivalAt 70 = .ok (.dload 4, 2) := by decide +kernel
theorem d_S_arrivalAt_72 : decode b_S_arrivalAt 72 = .ok (.dcmp .l, 1) := by decide +kernel
theorem d_S_arrivalAt_73 : decode b_S_arrivalAt 73 = .ok (.ifCond .le 8, 3) := by decide +kernel
theorem d_S_arrivalAt_76 : decode b_S_arrivalAt 76 = .ok (.dload 6, 2) := by decide +kernel
theorem d_S_arrivalAt_78 : decode b_S_arrivalAt 78 = .ok (.goto 5, 3) := by decide +kernel
theorem d_S_arrivalAt_81 : decode b_S_arrivalAt 81 = .ok (.dload 4, 2) := by decide +kernel
theorem d_S_arrivalAt_83 : decode b_S_arrivalAt 83 = .ok (.dstore 8, 2) := by decide +kernel
theorem d_S_arrivalAt_85 : decode b_S_arrivalAt 85 = .ok (.aload_n 0, 1) := by decide +kernel
theorem d_S_arrivalAt_86 : decode b_S_arrivalAt 86 = .ok (.getfield 15, 3) := by decide +kernel
theorem d_S_arrivalAt_89 : decode b_S_arrivalAt 89 = .ok (.aload_n 0, 1) := by decide +kernel
theorem d_S_arrivalAt_90 : decode b_S_arrivalAt 90 = .ok (.getfield 22, 3) := by decide +kernel
theorem d_S_arrivalAt_93 : decode b_S_arrivalAt 93 = .ok (.getfield 49, 3) := by decide +kernel
theorem d_S_arrivalAt_96 : decode b_S_arrivalAt 96 = .ok (.iload_n 3, 1) := by decide +kernel
theorem d_S_arrivalAt_97 : decode b_S_arrivalAt 97 = .ok (.iaload, 1) := by decide +kernel
theorem d_S_arrivalAt_98 : decode b_S_arrivalAt 98 = .ok (.dload 8, 2) := by decide +kernel
theorem d_S_arrivalAt_100 : decode b_S_arrivalAt 100 = .ok (.aload_n 0, 1) := by decide +kernel
theorem d_S_arrivalAt_101 : decode b_S_arrivalAt 101 = .ok (.getfield 9, 3) := by decide +kernel
theorem d_S_arrivalAt_104 : decode b_S_arrivalAt 104 = .ok (.aload_n 0, 1) := by decide +kernel
theorem d_S_arrivalAt_105 : decode b_S_arrivalAt 105 = .ok (.getfield 22, 3) := by decide +kernel
theorem d_S_arrivalAt_108 : decode b_S_arrivalAt 108 = .ok (.getfield 69, 3) := by decide +kernel
theorem d_S_arrivalAt_111 : decode b_S_arrivalAt 111 = .ok (.iload_n 3, 1) := by decide +kernel
theorem d_S_arrivalAt_112 : decode b_S_arrivalAt 112 = .ok (.iaload, 1) := by decide +kernel
theorem d_S_arrivalAt_113 : decode b_S_arrivalAt 113 = .ok (.daload, 1) := by decide +kernel
theorem d_S_arrivalAt_114 : decode b_S_arrivalAt 114 = .ok (.dadd, 1) := by decide +kernel
theorem d_S_arrivalAt_115 : decode b_S_arrivalAt 115 = .ok (.dastore, 1) := by decide +kernel
theorem d_S_arrivalAt_116 : decode b_S_arrivalAt 116 = .ok (.iinc 2 1, 3) := by decide +kernel
theorem d_S_arrivalAt_119 : decode b_S_arrivalAt 119 = .ok (.goto (-96), 3) := by decide +kernel
theorem d_S_arrivalAt_122 : decode b_S_arrivalAt 122 = .ok (.aload_n 0, 1) := by decide +kernel
theorem d_S_arrivalAt_123 : decode b_S_arrivalAt 123 = .ok (.getfield 15, 3) := by decide +kernel
theorem d_S_arrivalAt_126 : decode b_S_arrivalAt 126 = .ok (.iload_n 1, 1) := by decide +kernel
theorem d_S_arrivalAt_127 : decode b_S_arrivalAt 127 = .ok (.daload, 1) := by decide +kernel
theorem d_S_arrivalAt_128 : decode b_S_arrivalAt 128 = .ok (.dreturn, 1) := by decide +kernel
theorem d_S_arrivalBehind_0 : decode b_S_arrivalBehind 0 = .ok (.aload_n 0, 1) := by decide +kernel
theorem d_S_arrivalBehind_1 : decode b_S_arrivalBehind 1 = .ok (.getfield 15, 3) := by decide +kernel
theorem d_S_arrivalBehind_4 : decode b_S_arrivalBehind 4 = .ok (.iload_n 1, 1) := by decide +kernel
theorem d_S_arrivalBehind_5 : decode b_S_arrivalBehind 5 = .ok (.daload, 1) := by decide +kernel
theorem d_S_arrivalBehind_6 : decode b_S_arrivalBehind 6 = .ok (.aload_n 0, 1) := by decide +kernel
theorem d_S_arrivalBehind_7 : decode b_S_arrivalBehind 7 = .ok (.getfield 26, 3) := by decide +kernel
theorem d_S_arrivalBehind_10 : decode b_S_arrivalBehind 10 = .ok (.iload_n 1, 1) := by decide +kernel
theorem d_S_arrivalBehind_11 : decode b_S_arrivalBehind 11 = .ok (.invokevirtual 72, 3) := by decide +kernel
theorem d_S_arrivalBehind_14 : decode b_S_arrivalBehind 14 = .ok (.dadd, 1) := by decide +kernel
theorem d_S_arrivalBehind_15 : decode b_S_arrivalBehind 15 = .ok (.dreturn, 1) := by decide +kernel
theorem d_S_levels_0 : decode b_S_levels 0 = .ok (.iconst 0, 1) := by decide +kernel
theorem d_S_levels_1 : decode b_S_levels 1 = .ok (.istore_n 2, 1) := by decide +kernel
theorem d_S_levels_2 : decode b_S_levels 2 = .ok (.iconst 0, 1) := by decide +kernel
theorem d_S_levels_3 : decode b_S_levels 3 = .ok (.istore_n 3, 1) := by decide +kernel
theorem d_S_levels_4 : decode b_S_levels 4 = .ok (.iload_n 3, 1) := by decide +kernel
theorem d_S_levels_5 : decode b_S_levels 5 = .ok (.bipush 12, 2) := by decide +kernel
theorem d_S_levels_7 : decode b_S_levels 7 = .ok (.if_icmp .ge 30, 3) := by decide +kernel
theorem d_S_levels_10 : decode b_S_levels 10 = .ok (.aload_n 0, 1) := by decide +kernel
theorem d_S_levels_11 : decode b_S_levels 11 = .ok (.getfield 22, 3) := by decide +kernel
theorem d_S_levels_14 : decode b_S_levels 14 = .ok (.iload_n 3, 1) := by decide +kernel
theorem d_S_levels_15 : decode b_S_levels 15 = .ok (.invokevirtual 37, 3) := by decide +kernel
theorem d_S_levels_18 : decode b_S_levels 18 = .ok (.ifCond .ne 13, 3) := by decide +kernel
theorem d_S_levels_21 : decode b_S_levels 21 = .ok (.iload_n 2, 1) := by decide +kernel
theorem d_S_levels_22 : decode b_S_levels 22 = .ok (.iload_n 1, 1) := by decide +kernel
theorem d_S_levels_23 : decode b_S_levels 23 = .ok (.iload_n 3, 1) := by decide +kernel
theorem d_S_levels_24 : decode b_S_levels 24 = .ok (.invokestatic 61, 3) := by decide +kernel
theorem d_S_levels_27 : decode b_S_levels 27 = .ok (.iload_n 3, 1) := by decide +kernel
theorem d_S_levels_28 : decode b_S_levels 28 = .ok (.ishl, 1) := by decide +kernel
theorem d_S_levels_29 : decode b_S_levels 29 = .ok (.ior, 1) := by decide +kernel
theorem d_S_levels_30 : decode b_S_levels 30 = .ok (.istore_n 2, 1) := by decide +kernel
theorem d_S_levels_31 : decode b_S_levels 31 = .ok (.iinc 3 1, 3) := by decide +kernel
theorem d_S_levels_34 : decode b_S_levels 34 = .ok (.goto (-30), 3) := by decide +kernel
theorem d_S_levels_37 : decode b_S_levels 37 = .ok (.iconst 0, 1) := by decide +kernel
theorem d_S_levels_38 : decode b_S_levels 38 = .ok (.istore_n 3, 1) := by decide +kernel
theorem d_S_levels_39 : decode b_S_levels 39 = .ok (.iload_n 3, 1) := by decide +kernel
theorem d_S_levels_40 : decode b_S_levels 40 = .ok (.aload_n 0, 1) := by decide +kernel
theorem d_S_levels_41 : decode b_S_levels 41 = .ok (.getfield 30, 3) := by decide +kernel
theorem d_S_levels_44 : decode b_S_levels 44 = .ok (.if_icmp .ge 80, 3) := by decide +kernel
theorem d_S_levels_47 : decode b_S_levels 47 = .ok (.aload_n 0, 1) := by decide +kernel
theorem d_S_levels_48 : decode b_S_levels 48 = .ok (.getfield 18, 3) := by decide +kernel
theorem d_S_levels_51 : decode b_S_levels 51 = .ok (.iload_n 3, 1) := by decide +kernel
theorem d_S_levels_52 : decode b_S_levels 52 = .ok (.iaload, 1) := by decide +kernel
theorem d_S_levels_53 : decode b_S_levels 53 = .ok (.istore 4, 2) := by decide +kernel
theorem d_S_levels_55 : decode b_S_levels 55 = .ok (.iload_n 2, 1) := by decide +kernel
theorem d_S_levels_56 : decode b_S_levels 56 = .ok (.aload_n 0, 1) := by decide +kernel
theorem d_S_levels_57 : decode b_S_levels 57 = .ok (.getfield 22, 3) := by decide +kernel
theorem d_S_levels_60 : decode b_S_levels 60 = .ok (.getfield 55, 3) := by decide +kernel
theorem d_S_levels_63 : decode b_S_levels 63 = .ok (.iload 4, 2) := by decide +kernel
theorem d_S_levels_65 : decode b_S_levels 65 = .ok (.iaload, 1) := by decide +kernel
theorem d_S_levels_66 : decode b_S_levels 66 = .ok (.invokestatic 61, 3) := by decide +kernel
theorem d_S_levels_69 : decode b_S_levels 69 = .ok (.istore 5, 2) := by decide +kernel
theorem d_S_levels_71 : decode b_S_levels 71 = .ok (.iload_n 2, 1) := by decide +kernel
theorem d_S_levels_72 : decode b_S_levels 72 = .ok (.aload_n 0, 1) := by decide +kernel
theorem d_S_levels_73 : decode b_S_levels 73 = .ok (.getfield 22, 3) := by decide +kernel
theorem d_S_levels_76 : decode b_S_levels 76 = .ok (.getfield 58, 3) := by decide +kernel
theorem d_S_levels_79 : decode b_S_levels 79 = .ok (.iload 4, 2) := by decide +kernel
theorem d_S_levels_81 : decode b_S_levels 81 = .ok (.iaload, 1) := by decide +kernel
theorem d_S_levels_82 : decode b_S_levels 82 = .ok (.invokestatic 61, 3) := by decide +kernel
theorem d_S_levels_85 : decode b_S_levels 85 = .ok (.istore 6, 2) := by decide +kernel
theorem d_S_levels_87 : decode b_S_levels 87 = .ok (.iload_n 2, 1) := by decide +kernel
theorem d_S_levels_88 : decode b_S_levels 88 = .ok (.aload_n 0, 1) := by decide +kernel
theorem d_S_levels_89 : decode b_S_levels 89 = .ok (.getfield 22, 3) := by decide +kernel
theorem d_S_levels_92 : decode b_S_levels 92 = .ok (.getfield 69, 3) := by decide +kernel
theorem d_S_levels_95 : decode b_S_levels 95 = .ok (.iload 4, 2) := by decide +kernel
theorem d_S_levels_97 : decode b_S_levels 97 = .ok (.iaload, 1) := by decide +kernel
theorem d_S_levels_98 : decode b_S_levels 98 = .ok (.iload 5, 2) := by decide +kernel
theorem d_S_levels_100 : decode b_S_levels 100 = .ok (.iload 6, 2) := by decide +kernel
theorem d_S_levels_102 : decode b_S_levels 102 = .ok (.invokestatic 77, 3) := by decide +kernel
theorem d_S_levels_105 : decode b_S_levels 105 = .ok (.aload_n 0, 1) := by decide +kernel
theorem d_S_levels_106 : decode b_S_levels 106 = .ok (.getfield 22, 3) := by decide +kernel
theorem d_S_levels_109 : decode b_S_levels 109 = .ok (.getfield 49, 3) := by decide +kernel
theorem d_S_levels_112 : decode b_S_levels 112 = .ok (.iload 4, 2) := by decide +kernel
theorem d_S_levels_114 : decode b_S_levels 114 = .ok (.iaload, 1) := by decide +kernel
theorem d_S_levels_115 : decode b_S_levels 115 = .ok (.ishl, 1) := by decide +kernel
theorem d_S_levels_116 : decode b_S_levels 116 = .ok (.ior, 1) := by decide +kernel
theorem d_S_levels_117 : decode b_S_levels 117 = .ok (.istore_n 2, 1) := by decide +kernel
theorem d_S_levels_118 : decode b_S_levels 118 = .ok (.iinc 3 1, 3) := by decide +kernel
theorem d_S_levels_121 : decode b_S_levels 121 = .ok (.goto (-82), 3) := by decide +kernel
theorem d_S_levels_124 : decode b_S_levels 124 = .ok (.iload_n 2, 1) := by decide +kernel
theorem d_S_levels_125 : decode b_S_levels 125 = .ok (.ireturn, 1) := by decide +kernel
theorem d_S_bit_0 : decode b_S_bit 0 = .ok (.iload_n 0, 1) := by decide +kernel
theorem d_S_bit_1 : decode b_S_bit 1 = .ok (.iload_n 1, 1) := by decide +kernel
theorem d_S_bit_2 : decode b_S_bit 2 = .ok (.ishr, 1) := by decide +kernel
theorem d_S_bit_3 : decode b_S_bit 3 = .ok (.iconst 1, 1) := by decide +kernel
theorem d_S_bit_4 : decode b_S_bit 4 = .ok (.iand, 1) := by decide +kernel
theorem d_S_bit_5 : decode b_S_bit 5 = .ok (.ireturn, 1) := by decide +kernel
theorem d_S_output_0 : decode b_S_output 0 = .ok (.iload_n 0, 1) := by decide +kernel
theorem d_S_output_1 : decode b_S_output 1 = .ok (.tableswitch 39 0 2 #[27, 31, 33], 27) := by decide +kernel
theorem d_S_output_28 : decode b_S_output 28 = .ok (.iconst 1, 1) := by decide +kernel
theorem d_S_output_29 : decode b_S_output 29 = .ok (.iload_n 1, 1) := by decide +kernel
theorem d_S_output_30 : decode b_S_output 30 = .ok (.isub, 1) := by decide +kernel
theorem d_S_output_31 : decode b_S_output 31 = .ok (.ireturn, 1) := by decide +kernel
theorem d_S_output_32 : decode b_S_output 32 = .ok (.iload_n 1, 1) := by decide +kernel
theorem d_S_output_33 : decode b_S_output 33 = .ok (.ireturn, 1) := by decide +kernel
theorem d_S_output_34 : decode b_S_output 34 = .ok (.iconst 1, 1) := by decide +kernel
theorem d_S_output_35 : decode b_S_output 35 = .ok (.iload_n 1, 1) := by decide +kernel
theorem d_S_output_36 : decode b_S_output 36 = .ok (.iload_n 2, 1) := by decide +kernel
theorem d_S_output_37 : decode b_S_output 37 = .ok (.iand, 1) := by decide +kernel
theorem d_S_output_38 : decode b_S_output 38 = .ok (.isub, 1) := by decide +kernel
theorem d_S_output_39 : decode b_S_output 39 = .ok (.ireturn, 1) := by decide +kernel
theorem d_S_output_40 : decode b_S_output 40 = .ok (.iconst 1, 1) := by decide +kernel
theorem d_S_output_41 : decode b_S_output 41 = .ok (.iload_n 1, 1) := by decide +kernel
theorem d_S_output_42 : decode b_S_output 42 = .ok (.iload_n 2, 1) := by decide +kernel
theorem d_S_output_43 : decode b_S_output 43 = .ok (.ior, 1) := by decide +kernel
theorem d_S_output_44 : decode b_S_output 44 = .ok (.isub, 1) := by decide +kernel
theorem d_S_output_45 : decode b_S_output 45 = .ok (.ireturn, 1) := by decide +kernel
end
section
theorem d_M_init_0 : decode b_M_init 0 = .ok (.aload_n 0, 1) := by decide +kernel
theorem d_M_init_1 : decode b_M_init 1 = .ok (.invokespecial 1, 3) := by decide +kernel
theorem d_M_init_4 : decode b_M_init 4 = .ok (.aload_n 0, 1) := by decide +kernel
theorem d_M_init_5 : decode b_M_init 5 = .ok (.iconst (-1), 1) := by decide +kernel
theorem d_M_init_6 : decode b_M_init 6 = .ok (.putfield 9, 3) := by decide +kernel
theorem d_M_init_9 : decode b_M_init 9 = .ok (.aload_n 0, 1) := by decide +kernel
theorem d_M_init_10 : decode b_M_init 10 = .ok (.bipush 12, 2) := by decide +kernel
theorem d_M_init_12 : decode b_M_init 12 = .ok (.newarray .int, 2) := by decide +kernel
theorem d_M_init_14 : decode b_M_init 14 = .ok (.putfield 13, 3) := by decide +kernel
theorem d_M_init_17 : decode b_M_init 17 = .ok (.aload_n 0, 1) := by decide +kernel
theorem d_M_init_18 : decode b_M_init 18 = .ok (.bipush 12, 2) := by decide +kernel
theorem d_M_init_20 : decode b_M_init 20 = .ok (.newarray .int, 2) := by decide +kernel
theorem d_M_init_22 : decode b_M_init 22 = .ok (.putfield 17, 3) := by decide +kernel
theorem d_M_init_25 : decode b_M_init 25 = .ok (.aload_n 0, 1) := by decide +kernel
theorem d_M_init_26 : decode b_M_init 26 = .ok (.bipush 12, 2) := by decide +kernel
theorem d_M_init_28 : decode b_M_init 28 = .ok (.newarray .int, 2) := by decide +kernel
theorem d_M_init_30 : decode b_M_init 30 = .ok (.putfield 20, 3) := by decide +kernel
theorem d_M_init_33 : decode b_M_init 33 = .ok (.aload_n 0, 1) := by decide +kernel
theorem d_M_init_34 : decode b_M_init 34 = .ok (.bipush 12, 2) := by decide +kernel
theorem d_M_init_36 : decode b_M_init 36 = .ok (.newarray .int, 2) := by decide +kernel
theorem d_M_init_38 : decode b_M_init 38 = .ok (.putfield 23, 3) := by decide +kernel
theorem d_M_init_41 : decode b_M_init 41 = .ok (.aload_n 0, 1) := by decide +kernel
theorem d_M_init_42 : decode b_M_init 42 = .ok (.bipush 12, 2) := by decide +kernel
theorem d_M_init_44 : decode b_M_init 44 = .ok (.newarray .int, 2) := by decide +kernel
theorem d_M_init_46 : decode b_M_init 46 = .ok (.putfield 26, 3) := by decide +kernel
theorem d_M_init_49 : decode b_M_init 49 = .ok (.aload_n 0, 1) := by decide +kernel
theorem d_M_init_50 : decode b_M_init 50 = .ok (.bipush 12, 2) := by decide +kernel
theorem d_M_init_52 : decode b_M_init 52 = .ok (.newarray .int, 2) := by decide +kernel
theorem d_M_init_54 : decode b_M_init 54 = .ok (.putfield 29, 3) := by decide +kernel
theorem d_M_init_57 : decode b_M_init 57 = .ok (.aload_n 0, 1) := by decide +kernel
theorem d_M_init_58 : decode b_M_init 58 = .ok (.iconst 2, 1) := by decide +kernel
theorem d_M_init_59 : decode b_M_init 59 = .ok (.newarray .int, 2) := by decide +kernel
theorem d_M_init_61 : decode b_M_init 61 = .ok (.dup, 1) := by decide +kernel
theorem d_M_init_62 : decode b_M_init 62 = .ok (.iconst 0, 1) := by decide +kernel
theorem d_M_init_63 : decode b_M_init 63 = .ok (.iconst 1, 1) := by decide +kernel
theorem d_M_init_64 : decode b_M_init 64 = .ok (.iastore, 1) := by decide +kernel
theorem d_M_init_65 : decode b_M_init 65 = .ok (.dup, 1) := by decide +kernel
theorem d_M_init_66 : decode b_M_init 66 = .ok (.iconst 1, 1) := by decide +kernel
theorem d_M_init_67 : decode b_M_init 67 = .ok (.iconst 1, 1) := by decide +kernel
theorem d_M_init_68 : decode b_M_init 68 = .ok (.iastore, 1) := by decide +kernel
theorem d_M_init_69 : decode b_M_init 69 = .ok (.putfield 32, 3) := by decide +kernel
theorem d_M_init_72 : decode b_M_init 72 = .ok (.aload_n 0, 1) := by decide +kernel
theorem d_M_init_73 : decode b_M_init 73 = .ok (.iconst 4, 1) := by decide +kernel
theorem d_M_init_74 : decode b_M_init 74 = .ok (.newarray .double, 2) := by decide +kernel
theorem d_M_init_76 : decode b_M_init 76 = .ok (.dup, 1) := by decide +kernel
theorem d_M_init_77 : decode b_M_init 77 = .ok (.iconst 0, 1) := by decide +kernel
theorem d_M_init_78 : decode b_M_init 78 = .ok (.dconst 1, 1) := by decide +kernel
theorem d_M_init_79 : decode b_M_init 79 = .ok (.dastore, 1) := by decide +kernel
theorem d_M_init_80 : decode b_M_init 80 = .ok (.dup, 1) := by decide +kernel
theorem d_M_init_81 : decode b_M_init 81 = .ok (.iconst 1, 1) := by decide +kernel
theorem d_M_init_82 : decode b_M_init 82 = .ok (.dconst 1, 1) := by decide +kernel
theorem d_M_init_83 : decode b_M_init 83 = .ok (.dastore, 1) := by decide +kernel
theorem d_M_init_84 : decode b_M_init 84 = .ok (.dup, 1) := by decide +kernel
theorem d_M_init_85 : decode b_M_init 85 = .ok (.iconst 2, 1) := by decide +kernel
theorem d_M_init_86 : decode b_M_init 86 = .ok (.dconst 1, 1) := by decide +kernel
theorem d_M_init_87 : decode b_M_init 87 = .ok (.dastore, 1) := by decide +kernel
theorem d_M_init_88 : decode b_M_init 88 = .ok (.dup, 1) := by decide +kernel
theorem d_M_init_89 : decode b_M_init 89 = .ok (.iconst 3, 1) := by decide +kernel
theorem d_M_init_90 : decode b_M_init 90 = .ok (.dconst 1, 1) := by decide +kernel
theorem d_M_init_91 : decode b_M_init 91 = .ok (.dastore, 1) := by decide +kernel
theorem d_M_init_92 : decode b_M_init 92 = .ok (.putfield 35, 3) := by decide +kernel
theorem d_M_init_95 : decode b_M_init 95 = .ok (.aload_n 0, 1) := by decide +kernel
theorem d_M_init_96 : decode b_M_init 96 = .ok (.bipush 12, 2) := by decide +kernel
theorem d_M_init_98 : decode b_M_init 98 = .ok (.newarray .int, 2) := by decide +kernel
theorem d_M_init_100 : decode b_M_init 100 = .ok (.putfield 39, 3) := by decide +kernel
theorem d_M_init_103 : decode b_M_init 103 = .ok (.aload_n 0, 1) := by decide +kernel
theorem d_M_init_104 : decode b_M_init 104 = .ok (.sipush 264, 3) := by decide +kernel
theorem d_M_init_107 : decode b_M_init 107 = .ok (.newarray .int, 2) := by decide +kernel
theorem d_M_init_109 : decode b_M_init 109 = .ok (.putfield 42, 3) := by decide +kernel
theorem d_M_init_112 : decode b_M_init 112 = .ok (.aload_n 0, 1) := by decide +kernel
theorem d_M_init_113 : decode b_M_init 113 = .ok (.sipush 528, 3) := by decide +kernel
theorem d_M_init_116 : decode b_M_init 116 = .ok (.newarray .int, 2) := by decide +kernel
theorem d_M_init_118 : decode b_M_init 118 = .ok (.putfield 45, 3) := by decide +kernel
theorem d_M_init_121 : decode b_M_init 121 = .ok (.aload_n 0, 1) := by decide +kernel
theorem d_M_init_122 : decode b_M_init 122 = .ok (.bipush 12, 2) := by decide +kernel
theorem d_M_init_124 : decode b_M_init 124 = .ok (.newarray .double, 2) := by decide +kernel
theorem d_M_init_126 : decode b_M_init 126 = .ok (.putfield 48, 3) := by decide +kernel
theorem d_M_init_129 : decode b_M_init 129 = .ok (.aload_n 0, 1) := by decide +kernel
theorem d_M_init_130 : decode b_M_init 130 = .ok (.bipush 12, 2) := by decide +kernel
theorem d_M_init_132 : decode b_M_init 132 = .ok (.newarray .boolean, 2) := by decide +kernel
theorem d_M_init_134 : decode b_M_init 134 = .ok (.putfield 51, 3) := by decide +kernel
theorem d_M_init_137 : decode b_M_init 137 = .ok (.return_, 1) := by decide +kernel
theorem d_M_thrown_0 : decode b_M_thrown 0 = .ok (.aload_n 0, 1) := by decide +kernel
theorem d_M_thrown_1 : decode b_M_thrown 1 = .ok (.getfield 55, 3) := by decide +kernel
theorem d_M_thrown_4 : decode b_M_thrown 4 = .ok (.ireturn, 1) := by decide +kernel
theorem d_M_in_0 : decode b_M_in 0 = .ok (.iload_n 0, 1) := by decide +kernel
theorem d_M_in_1 : decode b_M_in 1 = .ok (.iload_n 1, 1) := by decide +kernel
theorem d_M_in_2 : decode b_M_in 2 = .ok (.if_icmp .lt 12, 3) := by decide +kernel
theorem d_M_in_5 : decode b_M_in 5 = .ok (.iload_n 0, 1) := by decide +kernel
theorem d_M_in_6 : decode b_M_in 6 = .ok (.iload_n 2, 1) := by decide +kernel
theorem d_M_in_7 : decode b_M_in 7 = .ok (.if_icmp .gt 7, 3) := by decide +kernel
theorem d_M_in_10 : decode b_M_in 10 = .ok (.iconst 1, 1) := by decide +kernel
theorem d_M_in_11 : decode b_M_in 11 = .ok (.goto 4, 3) := by decide +kernel
theorem d_M_in_14 : decode b_M_in 14 = .ok (.iconst 0, 1) := by decide +kernel
theorem d_M_in_15 : decode b_M_in 15 = .ok (.ireturn, 1) := by decide +kernel
theorem d_M_refuse_0 : decode b_M_refuse 0 = .ok (.aload_n 0, 1) := by decide +kernel
theorem d_M_refuse_1 : decode b_M_refuse 1 = .ok (.iload_n 1, 1) := by decide +kernel
theorem d_M_refuse_2 : decode b_M_refuse 2 = .ok (.putfield 55, 3) := by decide +kernel
theorem d_M_refuse_5 : decode b_M_refuse 5 = .ok (.iconst 0, 1) := by decide +kernel
theorem d_M_refuse_6 : decode b_M_refuse 6 = .ok (.ireturn, 1) := by decide +kernel
theorem d_M_pinsOf_0 : decode b_M_pinsOf 0 = .ok (.aload_n 0, 1) := by decide +kernel
theorem d_M_pinsOf_1 : decode b_M_pinsOf 1 = .ok (.getfield 13, 3) := by decide +kernel
theorem d_M_pinsOf_4 : decode b_M_pinsOf 4 = .ok (.iload_n 1, 1) := by decide +kernel
theorem d_M_pinsOf_5 : decode b_M_pinsOf 5 = .ok (.iaload, 1) := by decide +kernel
theorem d_M_pinsOf_6 : decode b_M_pinsOf 6 = .ok (.iconst 2, 1) := by decide +kernel
theorem d_M_pinsOf_7 : decode b_M_pinsOf 7 = .ok (.if_icmp .ge 7, 3) := by decide +kernel
theorem d_M_pinsOf_10 : decode b_M_pinsOf 10 = .ok (.iconst 2, 1) := by decide +kernel
theorem d_M_pinsOf_11 : decode b_M_pinsOf 11 = .ok (.goto 4, 3) := by decide +kernel
theorem d_M_pinsOf_14 : decode b_M_pinsOf 14 = .ok (.iconst 3, 1) := by decide +kernel
theorem d_M_pinsOf_15 : decode b_M_pinsOf 15 = .ok (.ireturn, 1) := by decide +kernel
theorem d_M_netOf_0 : decode b_M_netOf 0 = .ok (.iload_n 2, 1) := by decide +kernel
theorem d_M_netOf_1 : decode b_M_netOf 1 = .ok (.aload_n 0, 1) := by decide +kernel
theorem d_M_netOf_2 : decode b_M_netOf 2 = .ok (.iload_n 1, 1) := by decide +kernel
theorem d_M_netOf_3 : decode b_M_netOf 3 = .ok (.invokevirtual 58, 3) := by decide +kernel
theorem d_M_netOf_6 : decode b_M_netOf 6 = .ok (.iconst 1, 1) := by decide +kernel
theorem d_M_netOf_7 : decode b_M_netOf 7 = .ok (.isub, 1) := by decide +kernel
theorem d_M_netOf_8 : decode b_M_netOf 8 = .ok (.if_icmp .ne 12, 3) := by decide +kernel
theorem d_M_netOf_11 : decode b_M_netOf 11 = .ok (.aload_n 0, 1) := by decide +kernel
theorem d_M_netOf_12 : decode b_M_netOf 12 = .ok (.getfield 23, 3) := by decide +kernel
theorem d_M_netOf_15 : decode b_M_netOf 15 = .ok (.iload_n 1, 1) := by decide +kernel
theorem d_M_netOf_16 : decode b_M_netOf 16 = .ok (.iaload, 1) := by decide +kernel
theorem d_M_netOf_17 : decode b_M_netOf 17 = .ok (.goto 22, 3) := by decide +kernel
theorem d_M_netOf_20 : decode b_M_netOf 20 = .ok (.iload_n 2, 1) := by decide +kernel
theorem d_M_netOf_21 : decode b_M_netOf 21 = .ok (.ifCond .ne 12, 3) := by decide +kernel
theorem d_M_netOf_24 : decode b_M_netOf 24 = .ok (.aload_n 0, 1) := by decide +kernel
theorem d_M_netOf_25 : decode b_M_netOf 25 = .ok (.getfield 17, 3) := by decide +kernel
theorem d_M_netOf_28 : decode b_M_netOf 28 = .ok (.iload_n 1, 1) := by decide +kernel
theorem d_M_netOf_29 : decode b_M_netOf 29 = .ok (.iaload, 1) := by decide +kernel
theorem d_M_netOf_30 : decode b_M_netOf 30 = .ok (.goto 9, 3) := by decide +kernel
theorem d_M_netOf_33 : decode b_M_netOf 33 = .ok (.aload_n 0, 1) := by decide +kernel
theorem d_M_netOf_34 : decode b_M_netOf 34 = .ok (.getfield 20, 3) := by decide +kernel
theorem d_M_netOf_37 : decode b_M_netOf 37 = .ok (.iload_n 1, 1) := by decide +kernel
theorem d_M_netOf_38 : decode b_M_netOf 38 = .ok (.iaload, 1) := by decide +kernel
theorem d_M_netOf_39 : decode b_M_netOf 39 = .ok (.ireturn, 1) := by decide +kernel
theorem d_M_driver_0 : decode b_M_driver 0 = .ok (.iconst 0, 1) := by decide +kernel
theorem d_M_driver_1 : decode b_M_driver 1 = .ok (.istore_n 2, 1) := by decide +kernel
theorem d_M_driver_2 : decode b_M_driver 2 = .ok (.iload_n 2, 1) := by decide +kernel
theorem d_M_driver_3 : decode b_M_driver 3 = .ok (.aload_n 0, 1) := by decide +kernel
theorem d_M_driver_4 : decode b_M_driver 4 = .ok (.getfield 62, 3) := by decide +kernel
theorem d_M_driver_7 : decode b_M_driver 7 = .ok (.if_icmp .ge 21, 3) := by decide +kernel
theorem d_M_driver_10 : decode b_M_driver 10 = .ok (.aload_n 0, 1) := by decide +kernel
theorem d_M_driver_11 : decode b_M_driver 11 = .ok (.getfield 23, 3) := by decide +kernel
theorem d_M_driver_14 : decode b_M_driver 14 = .ok (.iload_n 2, 1) := by decide +kernel
theorem d_M_driver_15 : decode b_M_driver 15 = .ok (.iaload, 1) := by decide +kernel
theorem d_M_driver_16 : decode b_M_driver 16 = .ok (.iload_n 1, 1) := by decide +kernel
theorem d_M_driver_17 : decode b_M_driver 17 = .ok (.if_icmp .ne 5, 3) := by decide +kernel
theorem d_M_driver_20 : decode b_M_driver 20 = .ok (.iload_n 2, 1) := by decide +kernel
theorem d_M_driver_21 : decode b_M_driver 21 = .ok (.ireturn, 1) := by decide +kernel
theorem d_M_driver_22 : decode b_M_driver 22 = .ok (.iinc 2 1, 3) := by decide +kernel
theorem d_M_driver_25 : decode b_M_driver 25 = .ok (.goto (-23), 3) := by decide +kernel
theorem d_M_driver_28 : decode b_M_driver 28 = .ok (.iconst (-1), 1) := by decide +kernel
theorem d_M_driver_29 : decode b_M_driver 29 = .ok (.ireturn, 1) := by decide +kernel
theorem d_M_gate_0 : decode b_M_gate 0 = .ok (.iload_n 1, 1) := by decide +kernel
theorem d_M_gate_1 : decode b_M_gate 1 = .ok (.iconst 0, 1) := by decide +kernel
theorem d_M_gate_2 : decode b_M_gate 2 = .ok (.iconst 3, 1) := by decide +kernel
theorem d_M_gate_3 : decode b_M_gate 3 = .ok (.invokestatic 65, 3) := by decide +kernel
theorem d_M_gate_6 : decode b_M_gate 6 = .ok (.ifCond .eq 49, 3) := by decide +kernel
theorem d_M_gate_9 : decode b_M_gate 9 = .ok (.iload_n 2, 1) := by decide +kernel
theorem d_M_gate_10 : decode b_M_gate 10 = .ok (.iconst 0, 1) := by decide +kernel
theorem d_M_gate_11 : decode b_M_gate 11 = .ok (.bipush 11, 2) := by decide +kernel
theorem d_M_gate_13 : decode b_M_gate 13 = .ok (.invokestatic 65, 3) := by decide +kernel
theorem d_M_gate_16 : decode b_M_gate 16 = .ok (.ifCond .eq 39, 3) := by decide +kernel
theorem d_M_gate_19 : decode b_M_gate 19 = .ok (.iload_n 1, 1) := by decide +kernel
theorem d_M_gate_20 : decode b_M_gate 20 = .ok (.iconst 1, 1) := by decide +kernel
theorem d_M_gate_21 : decode b_M_gate 21 = .ok (.if_icmp .le 13, 3) := by decide +kernel
theorem d_M_gate_24 : decode b_M_gate 24 = .ok (.iload_n 3, 1) := by decide +kernel
theorem d_M_gate_25 : decode b_M_gate 25 = .ok (.iconst 0, 1) := by decide +kernel
theorem d_M_gate_26 : decode b_M_gate 26 = .ok (.bipush 11, 2) := by decide +kernel
theorem d_M_gate_28 : decode b_M_gate 28 = .ok (.invokestatic 65, 3) := by decide +kernel
theorem d_M_gate_31 : decode b_M_gate 31 = .ok (.ifCond .eq 24, 3) := by decide +kernel
theorem d_M_gate_34 : decode b_M_gate 34 = .ok (.iload 4, 2) := by decide +kernel
theorem d_M_gate_36 : decode b_M_gate 36 = .ok (.iconst 0, 1) := by decide +kernel
theorem d_M_gate_37 : decode b_M_gate 37 = .ok (.bipush 11, 2) := by decide +kernel
theorem d_M_gate_39 : decode b_M_gate 39 = .ok (.invokestatic 65, 3) := by decide +kernel
theorem d_M_gate_42 : decode b_M_gate 42 = .ok (.ifCond .eq 13, 3) := by decide +kernel
theorem d_M_gate_45 : decode b_M_gate 45 = .ok (.iload 5, 2) := by decide +kernel
theorem d_M_gate_47 : decode b_M_gate 47 = .ok (.iconst 0, 1) := by decide +kernel
theorem d_M_gate_48 : decode b_M_gate 48 = .ok (.iconst 1, 1) := by decide +kernel
theorem d_M_gate_49 : decode b_M_gate 49 = .ok (.invokestatic 65, 3) := by decide +kernel
theorem d_M_gate_52 : decode b_M_gate 52 = .ok (.ifCond .ne 9, 3) := by decide +kernel
theorem d_M_gate_55 : decode b_M_gate 55 = .ok (.aload_n 0, 1) := by decide +kernel
theorem d_M_gate_56 : decode b_M_gate 56 = .ok (.iconst 1, 1) := by decide +kernel
theorem d_M_gate_57 : decode b_M_gate 57 = .ok (.invokevirtual 69, 3) := by decide +kernel
theorem d_M_gate_60 : decode b_M_gate 60 = .ok (.ireturn, 1) := by decide +kernel
theorem d_M_gate_61 : decode b_M_gate 61 = .ok (.iload_n 1, 1) := by decide +kernel
theorem d_M_gate_62 : decode b_M_gate 62 = .ok (.iconst 2, 1) := by decide +kernel
theorem d_M_gate_63 : decode b_M_gate 63 = .ok (.if_icmp .ge 7, 3) := by decide +kernel
theorem d_M_gate_66 : decode b_M_gate 66 = .ok (.iconst 2, 1) := by decide +kernel
theorem d_M_gate_67 : decode b_M_gate 67 = .ok (.goto 4, 3) := by decide +kernel
theorem d_M_gate_70 : decode b_M_gate 70 = .ok (.iconst 3, 1) := by decide +kernel
theorem d_M_gate_71 : decode b_M_gate 71 = .ok (.istore 6, 2) := by decide +kernel
theorem d_M_gate_73 : decode b_M_gate 73 = .ok (.aload_n 0, 1) := by decide +kernel
theorem d_M_gate_74 : decode b_M_gate 74 = .ok (.getfield 62, 3) := by decide +kernel
theorem d_M_gate_77 : decode b_M_gate 77 = .ok (.bipush 12, 2) := by decide +kernel
theorem d_M_gate_79 : decode b_M_gate 79 = .ok (.if_icmp .eq 28, 3) := by decide +kernel
theorem d_M_gate_82 : decode b_M_gate 82 = .ok (.aload_n 0, 1) := by decide +kernel
theorem d_M_gate_83 : decode b_M_gate 83 = .ok (.getfield 32, 3) := by decide +kernel
theorem d_M_gate_86 : decode b_M_gate 86 = .ok (.iload 5, 2) := by decide +kernel
theorem d_M_gate_88 : decode b_M_gate 88 = .ok (.iaload, 1) := by decide +kernel
theorem d_M_gate_89 : decode b_M_gate 89 = .ok (.iload 6, 2) := by decide +kernel
theorem d_M_gate_91 : decode b_M_gate 91 = .ok (.iadd, 1) := by decide +kernel
theorem d_M_gate_92 : decode b_M_gate 92 = .ok (.bipush 24, 2) := by decide +kernel
theorem d_M_gate_94 : decode b_M_gate 94 = .ok (.if_icmp .gt 13, 3) := by decide +kernel
theorem d_M_gate_97 : decode b_M_gate 97 = .ok (.aload_n 0, 1) := by decide +kernel
theorem d_M_gate_98 : decode b_M_gate 98 = .ok (.iload 4, 2) := by decide +kernel
theorem d_M_gate_100 : decode b_M_gate 100 = .ok (.invokevirtual 72, 3) := by decide +kernel
theorem d_M_gate_103 : decode b_M_gate 103 = .ok (.iconst (-1), 1) := by decide +kernel
theorem d_M_gate_104 : decode b_M_gate 104 = .ok (.if_icmp .eq 9, 3) := by decide +kernel
theorem d_M_gate_107 : decode b_M_gate 107 = .ok (.aload_n 0, 1) := by decide +kernel
theorem d_M_gate_108 : decode b_M_gate 108 = .ok (.iconst 2, 1) := by decide +kernel
theorem d_M_gate_109 : decode b_M_gate 109 = .ok (.invokevirtual 69, 3) := by decide +kernel
theorem d_M_gate_112 : decode b_M_gate 112 = .ok (.ireturn, 1) := by decide +kernel
theorem d_M_gate_113 : decode b_M_gate 113 = .ok (.aload_n 0, 1) := by decide +kernel
theorem d_M_gate_114 : decode b_M_gate 114 = .ok (.iconst 0, 1) := by decide +kernel
theorem d_M_gate_115 : decode b_M_gate 115 = .ok (.putfield 55, 3) := by decide +kernel
theorem d_M_gate_118 : decode b_M_gate 118 = .ok (.aload_n 0, 1) := by decide +kernel
theorem d_M_gate_119 : decode b_M_gate 119 = .ok (.getfield 13, 3) := by decide +kernel
theorem d_M_gate_122 : decode b_M_gate 122 = .ok (.aload_n 0, 1) := by decide +kernel
theorem d_M_gate_123 : decode b_M_gate 123 = .ok (.getfield 62, 3) := by decide +kernel
theorem d_M_gate_126 : decode b_M_gate 126 = .ok (.iload_n 1, 1) := by decide +kernel
theorem d_M_gate_127 : decode b_M_gate 127 = .ok (.iastore, 1) := by decide +kernel
theorem d_M_gate_128 : decode b_M_gate 128 = .ok (.aload_n 0, 1) := by decide +kernel
theorem d_M_gate_129 : decode b_M_gate 129 = .ok (.getfield 17, 3) := by decide +kernel
theorem d_M_gate_132 : decode b_M_gate 132 = .ok (.aload_n 0, 1) := by decide +kernel
theorem d_M_gate_133 : decode b_M_gate 133 = .ok (.getfield 62, 3) := by decide +kernel
theorem d_M_gate_136 : decode b_M_gate 136 = .ok (.iload_n 2, 1) := by decide +kernel
theorem d_M_gate_137 : decode b_M_gate 137 = .ok (.iastore, 1) := by decide +kernel
theorem d_M_gate_138 : decode b_M_gate 138 = .ok (.aload_n 0, 1) := by decide +kernel
theorem d_M_gate_139 : decode b_M_gate 139 = .ok (.getfield 20, 3) := by decide +kernel
theorem d_M_gate_142 : decode b_M_gate 142 = .ok (.aload_n 0, 1) := by decide +kernel
theorem d_M_gate_143 : decode b_M_gate 143 = .ok (.getfield 62, 3) := by decide +kernel
theorem d_M_gate_146 : decode b_M_gate 146 = .ok (.iload_n 1, 1) := by decide +kernel
theorem d_M_gate_147 : decode b_M_gate 147 = .ok (.iconst 1, 1) := by decide +kernel
theorem d_M_gate_148 : decode b_M_gate 148 = .ok (.if_icmp .le 7, 3) := by decide +kernel
theorem d_M_gate_151 : decode b_M_gate 151 = .ok (.iload_n 3, 1) := by decide +kernel
theorem d_M_gate_152 : decode b_M_gate 152 = .ok (.goto 4, 3) := by decide +kernel
theorem d_M_gate_155 : decode b_M_gate 155 = .ok (.iconst (-1), 1) := by decide +kernel
theorem d_M_gate_156 : decode b_M_gate 156 = .ok (.iastore, 1) := by decide +kernel
theorem d_M_gate_157 : decode b_M_gate 157 = .ok (.aload_n 0, 1) := by decide +kernel
theorem d_M_gate_158 : decode b_M_gate 158 = .ok (.getfield 23, 3) := by decide +kernel
theorem d_M_gate_161 : decode b_M_gate 161 = .ok (.aload_n 0, 1) := by decide +kernel
theorem d_M_gate_162 : decode b_M_gate 162 = .ok (.getfield 62, 3) := by decide +kernel
theorem d_M_gate_165 : decode b_M_gate 165 = .ok (.iload 4, 2) := by decide +kernel
theorem d_M_gate_167 : decode b_M_gate 167 = .ok (.iastore, 1) := by decide +kernel
theorem d_M_gate_168 : decode b_M_gate 168 = .ok (.aload_n 0, 1) := by decide +kernel
theorem d_M_gate_169 : decode b_M_gate 169 = .ok (.getfield 26, 3) := by decide +kernel
theorem d_M_gate_172 : decode b_M_gate 172 = .ok (.aload_n 0, 1) := by decide +kernel
theorem d_M_gate_173 : decode b_M_gate 173 = .ok (.getfield 62, 3) := by decide +kernel
theorem d_M_gate_176 : decode b_M_gate 176 = .ok (.iload 5, 2) := by decide +kernel
theorem d_M_gate_178 : decode b_M_gate 178 = .ok (.iastore, 1) := by decide +kernel
theorem d_M_gate_179 : decode b_M_gate 179 = .ok (.aload_n 0, 1) := by decide +kernel
theorem d_M_gate_180 : decode b_M_gate 180 = .ok (.getfield 29, 3) := by decide +kernel
theorem d_M_gate_183 : decode b_M_gate 183 = .ok (.aload_n 0, 1) := by decide +kernel
theorem d_M_gate_184 : decode b_M_gate 184 = .ok (.getfield 62, 3) := by decide +kernel
theorem d_M_gate_187 : decode b_M_gate 187 = .ok (.aload_n 0, 1) := by decide +kernel
theorem d_M_gate_188 : decode b_M_gate 188 = .ok (.getfield 32, 3) := by decide +kernel
theorem d_M_gate_191 : decode b_M_gate 191 = .ok (.iload 5, 2) := by decide +kernel
theorem d_M_gate_193 : decode b_M_gate 193 = .ok (.iaload, 1) := by decide +kernel
theorem d_M_gate_194 : decode b_M_gate 194 = .ok (.iastore, 1) := by decide +kernel
theorem d_M_gate_195 : decode b_M_gate 195 = .ok (.aload_n 0, 1) := by decide +kernel
theorem d_M_gate_196 : decode b_M_gate 196 = .ok (.getfield 32, 3) := by decide +kernel
theorem d_M_gate_199 : decode b_M_gate 199 = .ok (.iload 5, 2) := by decide +kernel
theorem d_M_gate_201 : decode b_M_gate 201 = .ok (.dup2, 1) := by decide +kernel
theorem d_M_gate_202 : decode b_M_gate 202 = .ok (.iaload, 1) := by decide +kernel
theorem d_M_gate_203 : decode b_M_gate 203 = .ok (.iload 6, 2) := by decide +kernel
theorem d_M_gate_205 : decode b_M_gate 205 = .ok (.iconst 1, 1) := by decide +kernel
theorem d_M_gate_206 : decode b_M_gate 206 = .ok (.iadd, 1) := by decide +kernel
theorem d_M_gate_207 : decode b_M_gate 207 = .ok (.iadd, 1) := by decide +kernel
theorem d_M_gate_208 : decode b_M_gate 208 = .ok (.iastore, 1) := by decide +kernel
theorem d_M_gate_209 : decode b_M_gate 209 = .ok (.aload_n 0, 1) := by decide +kernel
theorem d_M_gate_210 : decode b_M_gate 210 = .ok (.dup, 1) := by decide +kernel
theorem d_M_gate_211 : decode b_M_gate 211 = .ok (.getfield 62, 3) := by decide +kernel
theorem d_M_gate_214 : decode b_M_gate 214 = .ok (.iconst 1, 1) := by decide +kernel
theorem d_M_gate_215 : decode b_M_gate 215 = .ok (.iadd, 1) := by decide +kernel
theorem d_M_gate_216 : decode b_M_gate 216 = .ok (.putfield 62, 3) := by decide +kernel
theorem d_M_gate_219 : decode b_M_gate 219 = .ok (.aload_n 0, 1) := by decide +kernel
theorem d_M_gate_220 : decode b_M_gate 220 = .ok (.iconst (-1), 1) := by decide +kernel
theorem d_M_gate_221 : decode b_M_gate 221 = .ok (.putfield 9, 3) := by decide +kernel
theorem d_M_gate_224 : decode b_M_gate 224 = .ok (.aload_n 0, 1) := by decide +kernel
theorem d_M_gate_225 : decode b_M_gate 225 = .ok (.getfield 62, 3) := by decide +kernel
theorem d_M_gate_228 : decode b_M_gate 228 = .ok (.iconst 1, 1) := by decide +kernel
theorem d_M_gate_229 : decode b_M_gate 229 = .ok (.isub, 1) := by decide +kernel
theorem d_M_gate_230 : decode b_M_gate 230 = .ok (.ireturn, 1) := by decide +kernel
theorem d_M_clear_0 : decode b_M_clear 0 = .ok (.aload_n 0, 1) := by decide +kernel
theorem d_M_clear_1 : decode b_M_clear 1 = .ok (.iconst 0, 1) := by decide +kernel
theorem d_M_clear_2 : decode b_M_clear 2 = .ok (.putfield 55, 3) := by decide +kernel
theorem d_M_clear_5 : decode b_M_clear 5 = .ok (.aload_n 0, 1) := by decide +kernel
theorem d_M_clear_6 : decode b_M_clear 6 = .ok (.getfield 62, 3) := by decide +kernel
theorem d_M_clear_9 : decode b_M_clear 9 = .ok (.istore_n 1, 1) := by decide +kernel
theorem d_M_clear_10 : decode b_M_clear 10 = .ok (.aload_n 0, 1) := by decide +kernel
theorem d_M_clear_11 : decode b_M_clear 11 = .ok (.iconst 0, 1) := by decide +kernel
theorem d_M_clear_12 : decode b_M_clear 12 = .ok (.putfield 62, 3) := by decide +kernel
theorem d_M_clear_15 : decode b_M_clear 15 = .ok (.aload_n 0, 1) := by decide +kernel
theorem d_M_clear_16 : decode b_M_clear 16 = .ok (.getfield 32, 3) := by decide +kernel
theorem d_M_clear_19 : decode b_M_clear 19 = .ok (.iconst 0, 1) := by decide +kernel
theorem d_M_clear_20 : decode b_M_clear 20 = .ok (.iconst 1, 1) := by decide +kernel
theorem d_M_clear_21 : decode b_M_clear 21 = .ok (.iastore, 1) := by decide +kernel
theorem d_M_clear_22 : decode b_M_clear 22 = .ok (.aload_n 0, 1) := by decide +kernel
theorem d_M_clear_23 : decode b_M_clear 23 = .ok (.getfield 32, 3) := by decide +kernel
theorem d_M_clear_26 : decode b_M_clear 26 = .ok (.iconst 1, 1) := by decide +kernel
theorem d_M_clear_27 : decode b_M_clear 27 = .ok (.iconst 1, 1) := by decide +kernel
theorem d_M_clear_28 : decode b_M_clear 28 = .ok (.iastore, 1) := by decide +kernel
theorem d_M_clear_29 : decode b_M_clear 29 = .ok (.aload_n 0, 1) := by decide +kernel
theorem d_M_clear_30 : decode b_M_clear 30 = .ok (.iconst (-1), 1) := by decide +kernel
theorem d_M_clear_31 : decode b_M_clear 31 = .ok (.putfield 9, 3) := by decide +kernel
theorem d_M_clear_34 : decode b_M_clear 34 = .ok (.iload_n 1, 1) := by decide +kernel
theorem d_M_clear_35 : decode b_M_clear 35 = .ok (.ireturn, 1) := by decide +kernel
theorem d_M_pins_0 : decode b_M_pins 0 = .ok (.iconst 0, 1) := by decide +kernel
theorem d_M_pins_1 : decode b_M_pins 1 = .ok (.istore_n 2, 1) := by decide +kernel
theorem d_M_pins_2 : decode b_M_pins 2 = .ok (.iconst 0, 1) := by decide +kernel
theorem d_M_pins_3 : decode b_M_pins 3 = .ok (.istore_n 3, 1) := by decide +kernel
theorem d_M_pins_4 : decode b_M_pins 4 = .ok (.iload_n 3, 1) := by decide +kernel
theorem d_M_pins_5 : decode b_M_pins 5 = .ok (.aload_n 0, 1) := by decide +kernel
theorem d_M_pins_6 : decode b_M_pins 6 = .ok (.getfield 62, 3) := by decide +kernel
theorem d_M_pins_9 : decode b_M_pins 9 = .ok (.if_icmp .ge 42, 3) := by decide +kernel
theorem d_M_pins_12 : decode b_M_pins 12 = .ok (.iconst 0, 1) := by decide +kernel
theorem d_M_pins_13 : decode b_M_pins 13 = .ok (.istore 4, 2) := by decide +kernel
theorem d_M_pins_15 : decode b_M_pins 15 = .ok (.iload 4, 2) := by decide +kernel
theorem d_M_pins_17 : decode b_M_pins 17 = .ok (.aload_n 0, 1) := by decide +kernel
theorem d_M_pins_18 : decode b_M_pins 18 = .ok (.iload_n 3, 1) := by decide +kernel
theorem d_M_pins_19 : decode b_M_pins 19 = .ok (.invokevirtual 58, 3) := by decide +kernel
theorem d_M_pins_22 : decode b_M_pins 22 = .ok (.if_icmp .ge 23, 3) := by decide +kernel
theorem d_M_pins_25 : decode b_M_pins 25 = .ok (.aload_n 0, 1) := by decide +kernel
theorem d_M_pins_26 : decode b_M_pins 26 = .ok (.iload_n 3, 1) := by decide +kernel
theorem d_M_pins_27 : decode b_M_pins 27 = .ok (.iload 4, 2) := by decide +kernel
theorem d_M_pins_29 : decode b_M_pins 29 = .ok (.invokevirtual 75, 3) := by decide +kernel
theorem d_M_pins_32 : decode b_M_pins 32 = .ok (.iload_n 1, 1) := by decide +kernel
theorem d_M_pins_33 : decode b_M_pins 33 = .ok (.if_icmp .ne 6, 3) := by decide +kernel
theorem d_M_pins_36 : decode b_M_pins 36 = .ok (.iinc 2 1, 3) := by decide +kernel
theorem d_M_pins_39 : decode b_M_pins 39 = .ok (.iinc 4 1, 3) := by decide +kernel
theorem d_M_pins_42 : decode b_M_pins 42 = .ok (.goto (-27), 3) := by decide +kernel
theorem d_M_pins_45 : decode b_M_pins 45 = .ok (.iinc 3 1, 3) := by decide +kernel
theorem d_M_pins_48 : decode b_M_pins 48 = .ok (.goto (-44), 3) := by decide +kernel
theorem d_M_pins_51 : decode b_M_pins 51 = .ok (.iload_n 2, 1) := by decide +kernel
theorem d_M_pins_52 : decode b_M_pins 52 = .ok (.ireturn, 1) := by decide +kernel
theorem d_M_hasPad_0 : decode b_M_hasPad 0 = .ok (.aload_n 0, 1) := by decide +kernel
theorem d_M_hasPad_1 : decode b_M_hasPad 1 = .ok (.iload_n 1, 1) := by decide +kernel
theorem d_M_hasPad_2 : decode b_M_hasPad 2 = .ok (.invokevirtual 72, 3) := by decide +kernel
theorem d_M_hasPad_5 : decode b_M_hasPad 5 = .ok (.iconst (-1), 1) := by decide +kernel
theorem d_M_hasPad_6 : decode b_M_hasPad 6 = .ok (.if_icmp .ne 15, 3) := by decide +kernel
theorem d_M_hasPad_9 : decode b_M_hasPad 9 = .ok (.aload_n 0, 1) := by decide +kernel
theorem d_M_hasPad_10 : decode b_M_hasPad 10 = .ok (.iload_n 1, 1) := by decide +kernel
theorem d_M_hasPad_11 : decode b_M_hasPad 11 = .ok (.invokevirtual 79, 3) := by decide +kernel
theorem d_M_hasPad_14 : decode b_M_hasPad 14 = .ok (.ifCond .le 7, 3) := by decide +kernel
theorem d_M_hasPad_17 : decode b_M_hasPad 17 = .ok (.iconst 1, 1) := by decide +kernel
theorem d_M_hasPad_18 : decode b_M_hasPad 18 = .ok (.goto 4, 3) := by decide +kernel
theorem d_M_hasPad_21 : decode b_M_hasPad 21 = .ok (.iconst 0, 1) := by decide +kernel
theorem d_M_hasPad_22 : decode b_M_hasPad 22 = .ok (.ireturn, 1) := by decide +kernel
theorem d_M_isWired_0 : decode b_M_isWired 0 = .ok (.aload_n 0, 1) := by decide +kernel
theorem d_M_isWired_1 : decode b_M_isWired 1 = .ok (.iload_n 1, 1) := by decide +kernel
theorem d_M_isWired_2 : decode b_M_isWired 2 = .ok (.invokevirtual 79, 3) := by decide +kernel
theorem d_M_isWired_5 : decode b_M_isWired 5 = .ok (.iconst 1, 1) := by decide +kernel
theorem d_M_isWired_6 : decode b_M_isWired 6 = .ok (.if_icmp .gt 11, 3) := by decide +kernel
theorem d_M_isWired_9 : decode b_M_isWired 9 = .ok (.aload_n 0, 1) := by decide +kernel
theorem d_M_isWired_10 : decode b_M_isWired 10 = .ok (.iload_n 1, 1) := by decide +kernel
theorem d_M_isWired_11 : decode b_M_isWired 11 = .ok (.invokevirtual 82, 3) := by decide +kernel
theorem d_M_isWired_14 : decode b_M_isWired 14 = .ok (.ifCond .eq 7, 3) := by decide +kernel
theorem d_M_isWired_17 : decode b_M_isWired 17 = .ok (.iconst 1, 1) := by decide +kernel
theorem d_M_isWired_18 : decode b_M_isWired 18 = .ok (.goto 4, 3) := by decide +kernel
theorem d_M_isWired_21 : decode b_M_isWired 21 = .ok (.iconst 0, 1) := by decide +kernel
theorem d_M_isWired_22 : decode b_M_isWired 22 = .ok (.ireturn, 1) := by decide +kernel
theorem d_M_left_0 : decode b_M_left 0 = .ok (.aload_n 0, 1) := by decide +kernel
theorem d_M_left_1 : decode b_M_left 1 = .ok (.iload_n 1, 1) := by decide +kernel
theorem d_M_left_2 : decode b_M_left 2 = .ok (.invokevirtual 82, 3) := by decide +kernel
theorem d_M_left_5 : decode b_M_left 5 = .ok (.ifCond .eq 7, 3) := by decide +kernel
theorem d_M_left_8 : decode b_M_left 8 = .ok (.iconst 0, 1) := by decide +kernel
theorem d_M_left_9 : decode b_M_left 9 = .ok (.goto 5, 3) := by decide +kernel
theorem d_M_left_12 : decode b_M_left 12 = .ok (.bipush 24, 2) := by decide +kernel
theorem d_M_left_14 : decode b_M_left 14 = .ok (.istore_n 2, 1) := by decide +kernel
theorem d_M_left_15 : decode b_M_left 15 = .ok (.iconst 0, 1) := by decide +kernel
theorem d_M_left_16 : decode b_M_left 16 = .ok (.istore_n 3, 1) := by decide +kernel
theorem d_M_left_17 : decode b_M_left 17 = .ok (.iload_n 3, 1) := by decide +kernel
theorem d_M_left_18 : decode b_M_left 18 = .ok (.aload_n 0, 1) := by decide +kernel
theorem d_M_left_19 : decode b_M_left 19 = .ok (.getfield 62, 3) := by decide +kernel
theorem d_M_left_22 : decode b_M_left 22 = .ok (.if_icmp .ge 62, 3) := by decide +kernel
theorem d_M_left_25 : decode b_M_left 25 = .ok (.iconst 0, 1) := by decide +kernel
theorem d_M_left_26 : decode b_M_left 26 = .ok (.istore 4, 2) := by decide +kernel
theorem d_M_left_28 : decode b_M_left 28 = .ok (.iload 4, 2) := by decide +kernel
theorem d_M_left_30 : decode b_M_left 30 = .ok (.aload_n 0, 1) := by decide +kernel
theorem d_M_left_31 : decode b_M_left 31 = .ok (.iload_n 3, 1) := by decide +kernel
theorem d_M_left_32 : decode b_M_left 32 = .ok (.invokevirtual 58, 3) := by decide +kernel
theorem d_M_left_35 : decode b_M_left 35 = .ok (.if_icmp .ge 43, 3) := by decide +kernel
theorem d_M_left_38 : decode b_M_left 38 = .ok (.aload_n 0, 1) := by decide +kernel
theorem d_M_left_39 : decode b_M_left 39 = .ok (.iload_n 3, 1) := by decide +kernel
theorem d_M_left_40 : decode b_M_left 40 = .ok (.iload 4, 2) := by decide +kernel
theorem d_M_left_42 : decode b_M_left 42 = .ok (.invokevirtual 75, 3) := by decide +kernel
theorem d_M_left_45 : decode b_M_left 45 = .ok (.iload_n 1, 1) := by decide +kernel
theorem d_M_left_46 : decode b_M_left 46 = .ok (.if_icmp .ne 26, 3) := by decide +kernel
theorem d_M_left_49 : decode b_M_left 49 = .ok (.aload_n 0, 1) := by decide +kernel
theorem d_M_left_50 : decode b_M_left 50 = .ok (.getfield 29, 3) := by decide +kernel
theorem d_M_left_53 : decode b_M_left 53 = .ok (.iload_n 3, 1) := by decide +kernel
theorem d_M_left_54 : decode b_M_left 54 = .ok (.iaload, 1) := by decide +kernel
theorem d_M_left_55 : decode b_M_left 55 = .ok (.iload 4, 2) := by decide +kernel
theorem d_M_left_57 : decode b_M_left 57 = .ok (.iadd, 1) := by decide +kernel
theorem d_M_left_58 : decode b_M_left 58 = .ok (.iload_n 2, 1) := by decide +kernel
theorem d_M_left_59 : decode b_M_left 59 = .ok (.if_icmp .ge 13, 3) := by decide +kernel
theorem d_M_left_62 : decode b_M_left 62 = .ok (.aload_n 0, 1) := by decide +kernel
theorem d_M_left_63 : decode b_M_left 63 = .ok (.getfield 29, 3) := by decide +kernel
theorem d_M_left_66 : decode b_M_left 66 = .ok (.iload_n 3, 1) := by decide +kernel
theorem d_M_left_67 : decode b_M_left 67 = .ok (.iaload, 1) := by decide +kernel
theorem d_M_left_68 : decode b_M_left 68 = .ok (.iload 4, 2) := by decide +kernel
theorem d_M_left_70 : decode b_M_left 70 = .ok (.iadd, 1) := by decide +kernel
theorem d_M_left_71 : decode b_M_left 71 = .ok (.istore_n 2, 1) := by decide +kernel
theorem d_M_left_72 : decode b_M_left 72 = .ok (.iinc 4 1, 3) := by decide +kernel
theorem d_M_left_75 : decode b_M_left 75 = .ok (.goto (-47), 3) := by decide +kernel
theorem d_M_left_78 : decode b_M_left 78 = .ok (.iinc 3 1, 3) := by decide +kernel
theorem d_M_left_81 : decode b_M_left 81 = .ok (.goto (-64), 3) := by decide +kernel
theorem d_M_left_84 : decode b_M_left 84 = .ok (.iload_n 2, 1) := by decide +kernel
theorem d_M_left_85 : decode b_M_left 85 = .ok (.ireturn, 1) := by decide +kernel
theorem d_M_right_0 : decode b_M_right 0 = .ok (.iconst 0, 1) := by decide +kernel
theorem d_M_right_1 : decode b_M_right 1 = .ok (.istore_n 2, 1) := by decide +kernel
theorem d_M_right_2 : decode b_M_right 2 = .ok (.iconst 0, 1) := by decide +kernel
theorem d_M_right_3 : decode b_M_right 3 = .ok (.istore_n 3, 1) := by decide +kernel
theorem d_M_right_4 : decode b_M_right 4 = .ok (.iload_n 3, 1) := by decide +kernel
theorem d_M_right_5 : decode b_M_right 5 = .ok (.aload_n 0, 1) := by decide +kernel
theorem d_M_right_6 : decode b_M_right 6 = .ok (.getfield 62, 3) := by decide +kernel
theorem d_M_right_9 : decode b_M_right 9 = .ok (.if_icmp .ge 62, 3) := by decide +kernel
theorem d_M_right_12 : decode b_M_right 12 = .ok (.iconst 0, 1) := by decide +kernel
theorem d_M_right_13 : decode b_M_right 13 = .ok (.istore 4, 2) := by decide +kernel
theorem d_M_right_15 : decode b_M_right 15 = .ok (.iload 4, 2) := by decide +kernel
theorem d_M_right_17 : decode b_M_right 17 = .ok (.aload_n 0, 1) := by decide +kernel
theorem d_M_right_18 : decode b_M_right 18 = .ok (.iload_n 3, 1) := by decide +kernel
theorem d_M_right_19 : decode b_M_right 19 = .ok (.invokevirtual 58, 3) := by decide +kernel
theorem d_M_right_22 : decode b_M_right 22 = .ok (.if_icmp .ge 43, 3) := by decide +kernel
theorem d_M_right_25 : decode b_M_right 25 = .ok (.aload_n 0, 1) := by decide +kernel
theorem d_M_right_26 : decode b_M_right 26 = .ok (.iload_n 3, 1) := by decide +kernel
theorem d_M_right_27 : decode b_M_right 27 = .ok (.iload 4, 2) := by decide +kernel
theorem d_M_right_29 : decode b_M_right 29 = .ok (.invokevirtual 75, 3) := by decide +kernel
theorem d_M_right_32 : decode b_M_right 32 = .ok (.iload_n 1, 1) := by decide +kernel
theorem d_M_right_33 : decode b_M_right 33 = .ok (.if_icmp .ne 26, 3) := by decide +kernel
theorem d_M_right_36 : decode b_M_right 36 = .ok (.aload_n 0, 1) := by decide +kernel
theorem d_M_right_37 : decode b_M_right 37 = .ok (.getfield 29, 3) := by decide +kernel
theorem d_M_right_40 : decode b_M_right 40 = .ok (.iload_n 3, 1) := by decide +kernel
theorem d_M_right_41 : decode b_M_right 41 = .ok (.iaload, 1) := by decide +kernel
theorem d_M_right_42 : decode b_M_right 42 = .ok (.iload 4, 2) := by decide +kernel
theorem d_M_right_44 : decode b_M_right 44 = .ok (.iadd, 1) := by decide +kernel
theorem d_M_right_45 : decode b_M_right 45 = .ok (.iload_n 2, 1) := by decide +kernel
theorem d_M_right_46 : decode b_M_right 46 = .ok (.if_icmp .le 13, 3) := by decide +kernel
theorem d_M_right_49 : decode b_M_right 49 = .ok (.aload_n 0, 1) := by decide +kernel
theorem d_M_right_50 : decode b_M_right 50 = .ok (.getfield 29, 3) := by decide +kernel
theorem d_M_right_53 : decode b_M_right 53 = .ok (.iload_n 3, 1) := by decide +kernel
theorem d_M_right_54 : decode b_M_right 54 = .ok (.iaload, 1) := by decide +kernel
theorem d_M_right_55 : decode b_M_right 55 = .ok (.iload 4, 2) := by decide +kernel
theorem d_M_right_57 : decode b_M_right 57 = .ok (.iadd, 1) := by decide +kernel
theorem d_M_right_58 : decode b_M_right 58 = .ok (.istore_n 2, 1) := by decide +kernel
theorem d_M_right_59 : decode b_M_right 59 = .ok (.iinc 4 1, 3) := by decide +kernel
theorem d_M_right_62 : decode b_M_right 62 = .ok (.goto (-47), 3) := by decide +kernel
theorem d_M_right_65 : decode b_M_right 65 = .ok (.iinc 3 1, 3) := by decide +kernel
theorem d_M_right_68 : decode b_M_right 68 = .ok (.goto (-64), 3) := by decide +kernel
theorem d_M_right_71 : decode b_M_right 71 = .ok (.iload_n 2, 1) := by decide +kernel
theorem d_M_right_72 : decode b_M_right 72 = .ok (.ireturn, 1) := by decide +kernel
theorem d_M_at_0 : decode b_M_at 0 = .ok (.iconst 0, 1) := by decide +kernel
theorem d_M_at_1 : decode b_M_at 1 = .ok (.istore_n 3, 1) := by decide +kernel
theorem d_M_at_2 : decode b_M_at 2 = .ok (.iload_n 3, 1) := by decide +kernel
theorem d_M_at_3 : decode b_M_at 3 = .ok (.aload_n 0, 1) := by decide +kernel
theorem d_M_at_4 : decode b_M_at 4 = .ok (.getfield 62, 3) := by decide +kernel
theorem d_M_at_7 : decode b_M_at 7 = .ok (.if_icmp .ge 55, 3) := by decide +kernel
theorem d_M_at_10 : decode b_M_at 10 = .ok (.aload_n 0, 1) := by decide +kernel
theorem d_M_at_11 : decode b_M_at 11 = .ok (.getfield 26, 3) := by decide +kernel
theorem d_M_at_14 : decode b_M_at 14 = .ok (.iload_n 3, 1) := by decide +kernel
theorem d_M_at_15 : decode b_M_at 15 = .ok (.iaload, 1) := by decide +kernel
theorem d_M_at_16 : decode b_M_at 16 = .ok (.iload_n 1, 1) := by decide +kernel
theorem d_M_at_17 : decode b_M_at 17 = .ok (.if_icmp .ne 39, 3) := by decide +kernel
theorem d_M_at_20 : decode b_M_at 20 = .ok (.iload_n 2, 1) := by decide +kernel
theorem d_M_at_21 : decode b_M_at 21 = .ok (.aload_n 0, 1) := by decide +kernel
theorem d_M_at_22 : decode b_M_at 22 = .ok (.getfield 29, 3) := by decide +kernel
theorem d_M_at_25 : decode b_M_at 25 = .ok (.iload_n 3, 1) := by decide +kernel
theorem d_M_at_26 : decode b_M_at 26 = .ok (.iaload, 1) := by decide +kernel
theorem d_M_at_27 : decode b_M_at 27 = .ok (.isub, 1) := by decide +kernel
theorem d_M_at_28 : decode b_M_at 28 = .ok (.iconst 0, 1) := by decide +kernel
theorem d_M_at_29 : decode b_M_at 29 = .ok (.aload_n 0, 1) := by decide +kernel
theorem d_M_at_30 : decode b_M_at 30 = .ok (.iload_n 3, 1) := by decide +kernel
theorem d_M_at_31 : decode b_M_at 31 = .ok (.invokevirtual 58, 3) := by decide +kernel
theorem d_M_at_34 : decode b_M_at 34 = .ok (.iconst 1, 1) := by decide +kernel
theorem d_M_at_35 : decode b_M_at 35 = .ok (.isub, 1) := by decide +kernel
theorem d_M_at_36 : decode b_M_at 36 = .ok (.invokestatic 65, 3) := by decide +kernel
theorem d_M_at_39 : decode b_M_at 39 = .ok (.ifCond .eq 17, 3) := by decide +kernel
theorem d_M_at_42 : decode b_M_at 42 = .ok (.aload_n 0, 1) := by decide +kernel
theorem d_M_at_43 : decode b_M_at 43 = .ok (.iload_n 3, 1) := by decide +kernel
theorem d_M_at_44 : decode b_M_at 44 = .ok (.iload_n 2, 1) := by decide +kernel
theorem d_M_at_45 : decode b_M_at 45 = .ok (.aload_n 0, 1) := by decide +kernel
theorem d_M_at_46 : decode b_M_at 46 = .ok (.getfield 29, 3) := by decide +kernel
theorem d_M_at_49 : decode b_M_at 49 = .ok (.iload_n 3, 1) := by decide +kernel
theorem d_M_at_50 : decode b_M_at 50 = .ok (.iaload, 1) := by decide +kernel
theorem d_M_at_51 : decode b_M_at 51 = .ok (.isub, 1) := by decide +kernel
theorem d_M_at_52 : decode b_M_at 52 = .ok (.invokevirtual 75, 3) := by decide +kernel
theorem d_M_at_55 : decode b_M_at 55 = .ok (.ireturn, 1) := by decide +kernel
theorem d_M_at_56 : decode b_M_at 56 = .ok (.iinc 3 1, 3) := by decide +kernel
theorem d_M_at_59 : decode b_M_at 59 = .ok (.goto (-57), 3) := by decide +kernel
theorem d_M_at_62 : decode b_M_at 62 = .ok (.iconst (-1), 1) := by decide +kernel
theorem d_M_at_63 : decode b_M_at 63 = .ok (.ireturn, 1) := by decide +kernel
theorem d_M_isFree_0 : decode b_M_isFree 0 = .ok (.iconst 1, 1) := by decide +kernel
theorem d_M_isFree_1 : decode b_M_isFree 1 = .ok (.istore_n 3, 1) := by decide +kernel
theorem d_M_isFree_2 : decode b_M_isFree 2 = .ok (.iload_n 3, 1) := by decide +kernel
theorem d_M_isFree_3 : decode b_M_isFree 3 = .ok (.bipush 24, 2) := by decide +kernel
theorem d_M_isFree_5 : decode b_M_isFree 5 = .ok (.if_icmp .ge 74, 3) := by decide +kernel
theorem d_M_isFree_8 : decode b_M_isFree 8 = .ok (.aload_n 0, 1) := by decide +kernel
theorem d_M_isFree_9 : decode b_M_isFree 9 = .ok (.iconst 0, 1) := by decide +kernel
theorem d_M_isFree_10 : decode b_M_isFree 10 = .ok (.iload_n 3, 1) := by decide +kernel
theorem d_M_isFree_11 : decode b_M_isFree 11 = .ok (.invokevirtual 86, 3) := by decide +kernel
theorem d_M_isFree_14 : decode b_M_isFree 14 = .ok (.istore 4, 2) := by decide +kernel
theorem d_M_isFree_16 : decode b_M_isFree 16 = .ok (.aload_n 0, 1) := by decide +kernel
theorem d_M_isFree_17 : decode b_M_isFree 17 = .ok (.iconst 1, 1) := by decide +kernel
theorem d_M_isFree_18 : decode b_M_isFree 18 = .ok (.iload_n 3, 1) := by decide +kernel
theorem d_M_isFree_19 : decode b_M_isFree 19 = .ok (.invokevirtual 86, 3) := by decide +kernel
theorem d_M_isFree_22 : decode b_M_isFree 22 = .ok (.iload_n 1, 1) := by decide +kernel
theorem d_M_isFree_23 : decode b_M_isFree 23 = .ok (.if_icmp .ne 50, 3) := by decide +kernel
theorem d_M_isFree_26 : decode b_M_isFree 26 = .ok (.iload 4, 2) := by decide +kernel
theorem d_M_isFree_28 : decode b_M_isFree 28 = .ok (.iconst (-1), 1) := by decide +kernel
theorem d_M_isFree_29 : decode b_M_isFree 29 = .ok (.if_icmp .eq 44, 3) := by decide +kernel
theorem d_M_isFree_32 : decode b_M_isFree 32 = .ok (.iload 4, 2) := by decide +kernel
theorem d_M_isFree_34 : decode b_M_isFree 34 = .ok (.iload_n 1, 1) := by decide +kernel
theorem d_M_isFree_35 : decode b_M_isFree 35 = .ok (.if_icmp .eq 38, 3) := by decide +kernel
theorem d_M_isFree_38 : decode b_M_isFree 38 = .ok (.aload_n 0, 1) := by decide +kernel
theorem d_M_isFree_39 : decode b_M_isFree 39 = .ok (.iload 4, 2) := by decide +kernel
theorem d_M_isFree_41 : decode b_M_isFree 41 = .ok (.invokevirtual 89, 3) := by decide +kernel
theorem d_M_isFree_44 : decode b_M_isFree 44 = .ok (.ifCond .ne 6, 3) := by decide +kernel
theorem d_M_isFree_47 : decode b_M_isFree 47 = .ok (.goto 26, 3) := by decide +kernel
theorem d_M_isFree_50 : decode b_M_isFree 50 = .ok (.aload_n 0, 1) := by decide +kernel
theorem d_M_isFree_51 : decode b_M_isFree 51 = .ok (.getfield 39, 3) := by decide +kernel
theorem d_M_isFree_54 : decode b_M_isFree 54 = .ok (.iload 4, 2) := by decide +kernel
theorem d_M_isFree_56 : decode b_M_isFree 56 = .ok (.iaload, 1) := by decide +kernel
theorem d_M_isFree_57 : decode b_M_isFree 57 = .ok (.ifCond .eq 14, 3) := by decide +kernel
theorem d_M_isFree_60 : decode b_M_isFree 60 = .ok (.aload_n 0, 1) := by decide +kernel
theorem d_M_isFree_61 : decode b_M_isFree 61 = .ok (.getfield 39, 3) := by decide +kernel
theorem d_M_isFree_64 : decode b_M_isFree 64 = .ok (.iload 4, 2) := by decide +kernel
theorem d_M_isFree_66 : decode b_M_isFree 66 = .ok (.iaload, 1) := by decide +kernel
theorem d_M_isFree_67 : decode b_M_isFree 67 = .ok (.iload_n 2, 1) := by decide +kernel
theorem d_M_isFree_68 : decode b_M_isFree 68 = .ok (.if_icmp .lt 5, 3) := by decide +kernel
theorem d_M_isFree_71 : decode b_M_isFree 71 = .ok (.iconst 0, 1) := by decide +kernel
theorem d_M_isFree_72 : decode b_M_isFree 72 = .ok (.ireturn, 1) := by decide +kernel
theorem d_M_isFree_73 : decode b_M_isFree 73 = .ok (.iinc 3 1, 3) := by decide +kernel
theorem d_M_isFree_76 : decode b_M_isFree 76 = .ok (.goto (-74), 3) := by decide +kernel
theorem d_M_isFree_79 : decode b_M_isFree 79 = .ok (.iconst 1, 1) := by decide +kernel
theorem d_M_isFree_80 : decode b_M_isFree 80 = .ok (.ireturn, 1) := by decide +kernel
theorem d_M_waiting_0 : decode b_M_waiting 0 = .ok (.iconst 0, 1) := by decide +kernel
theorem d_M_waiting_1 : decode b_M_waiting 1 = .ok (.istore_n 1, 1) := by decide +kernel
theorem d_M_waiting_2 : decode b_M_waiting 2 = .ok (.iconst 0, 1) := by decide +kernel
theorem d_M_waiting_3 : decode b_M_waiting 3 = .ok (.istore_n 2, 1) := by decide +kernel
theorem d_M_waiting_4 : decode b_M_waiting 4 = .ok (.iload_n 2, 1) := by decide +kernel
theorem d_M_waiting_5 : decode b_M_waiting 5 = .ok (.bipush 12, 2) := by decide +kernel
theorem d_M_waiting_7 : decode b_M_waiting 7 = .ok (.if_icmp .ge 29, 3) := by decide +kernel
theorem d_M_waiting_10 : decode b_M_waiting 10 = .ok (.aload_n 0, 1) := by decide +kernel
theorem d_M_waiting_11 : decode b_M_waiting 11 = .ok (.iload_n 2, 1) := by decide +kernel
theorem d_M_waiting_12 : decode b_M_waiting 12 = .ok (.invokevirtual 89, 3) := by decide +kernel
theorem d_M_waiting_15 : decode b_M_waiting 15 = .ok (.ifCond .eq 15, 3) := by decide +kernel
theorem d_M_waiting_18 : decode b_M_waiting 18 = .ok (.aload_n 0, 1) := by decide +kernel
theorem d_M_waiting_19 : decode b_M_waiting 19 = .ok (.getfield 39, 3) := by decide +kernel
theorem d_M_waiting_22 : decode b_M_waiting 22 = .ok (.iload_n 2, 1) := by decide +kernel
theorem d_M_waiting_23 : decode b_M_waiting 23 = .ok (.iaload, 1) := by decide +kernel
theorem d_M_waiting_24 : decode b_M_waiting 24 = .ok (.ifCond .ne 6, 3) := by decide +kernel
theorem d_M_waiting_27 : decode b_M_waiting 27 = .ok (.iinc 1 1, 3) := by decide +kernel
theorem d_M_waiting_30 : decode b_M_waiting 30 = .ok (.iinc 2 1, 3) := by decide +kernel
theorem d_M_waiting_33 : decode b_M_waiting 33 = .ok (.goto (-29), 3) := by decide +kernel
theorem d_M_waiting_36 : decode b_M_waiting 36 = .ok (.iload_n 1, 1) := by decide +kernel
theorem d_M_waiting_37 : decode b_M_waiting 37 = .ok (.ireturn, 1) := by decide +kernel
theorem d_M_give_0 : decode b_M_give 0 = .ok (.iconst 0, 1) := by decide +kernel
theorem d_M_give_1 : decode b_M_give 1 = .ok (.istore_n 2, 1) := by decide +kernel
theorem d_M_give_2 : decode b_M_give 2 = .ok (.iconst (-1), 1) := by decide +kernel
theorem d_M_give_3 : decode b_M_give 3 = .ok (.istore_n 3, 1) := by decide +kernel
theorem d_M_give_4 : decode b_M_give 4 = .ok (.iconst 0, 1) := by decide +kernel
theorem d_M_give_5 : decode b_M_give 5 = .ok (.istore 4, 2) := by decide +kernel
theorem d_M_give_7 : decode b_M_give 7 = .ok (.iconst 0, 1) := by decide +kernel
theorem d_M_give_8 : decode b_M_give 8 = .ok (.istore 5, 2) := by decide +kernel
theorem d_M_give_10 : decode b_M_give 10 = .ok (.iload 5, 2) := by decide +kernel
theorem d_M_give_12 : decode b_M_give 12 = .ok (.bipush 12, 2) := by decide +kernel
theorem d_M_give_14 : decode b_M_give 14 = .ok (.if_icmp .ge 139, 3) := by decide +kernel
theorem d_M_give_17 : decode b_M_give 17 = .ok (.iconst (-1), 1) := by decide +kernel
theorem d_M_give_18 : decode b_M_give 18 = .ok (.istore 6, 2) := by decide +kernel
theorem d_M_give_20 : decode b_M_give 20 = .ok (.iconst 0, 1) := by decide +kernel
theorem d_M_give_21 : decode b_M_give 21 = .ok (.istore 7, 2) := by decide +kernel
theorem d_M_give_23 : decode b_M_give 23 = .ok (.iload 7, 2) := by decide +kernel
theorem d_M_give_25 : decode b_M_give 25 = .ok (.bipush 12, 2) := by decide +kernel
theorem d_M_give_27 : decode b_M_give 27 = .ok (.if_icmp .ge 62, 3) := by decide +kernel
theorem d_M_give_30 : decode b_M_give 30 = .ok (.aload_n 0, 1) := by decide +kernel
theorem d_M_give_31 : decode b_M_give 31 = .ok (.iload 7, 2) := by decide +kernel
theorem d_M_give_33 : decode b_M_give 33 = .ok (.invokevirtual 89, 3) := by decide +kernel
theorem d_M_give_36 : decode b_M_give 36 = .ok (.ifCond .eq 47, 3) := by decide +kernel
theorem d_M_give_39 : decode b_M_give 39 = .ok (.aload_n 0, 1) := by decide +kernel
theorem d_M_give_40 : decode b_M_give 40 = .ok (.getfield 39, 3) := by decide +kernel
theorem d_M_give_43 : decode b_M_give 43 = .ok (.iload 7, 2) := by decide +kernel
theorem d_M_give_45 : decode b_M_give 45 = .ok (.iaload, 1) := by decide +kernel
theorem d_M_give_46 : decode b_M_give 46 = .ok (.ifCond .ne 37, 3) := by decide +kernel
theorem d_M_give_49 : decode b_M_give 49 = .ok (.iload 4, 2) := by decide +kernel
theorem d_M_give_51 : decode b_M_give 51 = .ok (.iload 7, 2) := by decide +kernel
theorem d_M_give_53 : decode b_M_give 53 = .ok (.ishr, 1) := by decide +kernel
theorem d_M_give_54 : decode b_M_give 54 = .ok (.iconst 1, 1) := by decide +kernel
theorem d_M_give_55 : decode b_M_give 55 = .ok (.iand, 1) := by decide +kernel
theorem d_M_give_56 : decode b_M_give 56 = .ok (.ifCond .ne 27, 3) := by decide +kernel
theorem d_M_give_59 : decode b_M_give 59 = .ok (.iload 6, 2) := by decide +kernel
theorem d_M_give_61 : decode b_M_give 61 = .ok (.ifCond .lt 18, 3) := by decide +kernel
theorem d_M_give_64 : decode b_M_give 64 = .ok (.aload_n 0, 1) := by decide +kernel
theorem d_M_give_65 : decode b_M_give 65 = .ok (.iload 7, 2) := by decide +kernel
theorem d_M_give_67 : decode b_M_give 67 = .ok (.invokevirtual 92, 3) := by decide +kernel
theorem d_M_give_70 : decode b_M_give 70 = .ok (.aload_n 0, 1) := by decide +kernel
theorem d_M_give_71 : decode b_M_give 71 = .ok (.iload 6, 2) := by decide +kernel
theorem d_M_give_73 : decode b_M_give 73 = .ok (.invokevirtual 92, 3) := by decide +kernel
theorem d_M_give_76 : decode b_M_give 76 = .ok (.if_icmp .ge 7, 3) := by decide +kernel
theorem d_M_give_79 : decode b_M_give 79 = .ok (.iload 7, 2) := by decide +kernel
theorem d_M_give_81 : decode b_M_give 81 = .ok (.istore 6, 2) := by decide +kernel
theorem d_M_give_83 : decode b_M_give 83 = .ok (.iinc 7 1, 3) := by decide +kernel
theorem d_M_give_86 : decode b_M_give 86 = .ok (.goto (-63), 3) := by decide +kernel
theorem d_M_give_89 : decode b_M_give 89 = .ok (.iload 6, 2) := by decide +kernel
theorem d_M_give_91 : decode b_M_give 91 = .ok (.iconst (-1), 1) := by decide +kernel
theorem d_M_give_92 : decode b_M_give 92 = .ok (.if_icmp .ne 5, 3) := by decide +kernel
theorem d_M_give_95 : decode b_M_give 95 = .ok (.iload_n 2, 1) := by decide +kernel
theorem d_M_give_96 : decode b_M_give 96 = .ok (.ireturn, 1) := by decide +kernel
theorem d_M_give_97 : decode b_M_give 97 = .ok (.iload 4, 2) := by decide +kernel
theorem d_M_give_99 : decode b_M_give 99 = .ok (.iconst 1, 1) := by decide +kernel
theorem d_M_give_100 : decode b_M_give 100 = .ok (.iload 6, 2) := by decide +kernel
theorem d_M_give_102 : decode b_M_give 102 = .ok (.ishl, 1) := by decide +kernel
theorem d_M_give_103 : decode b_M_give 103 = .ok (.ior, 1) := by decide +kernel
theorem d_M_give_104 : decode b_M_give 104 = .ok (.istore 4, 2) := by decide +kernel
theorem d_M_give_106 : decode b_M_give 106 = .ok (.aload_n 0, 1) := by decide +kernel
theorem d_M_give_107 : decode b_M_give 107 = .ok (.iload 6, 2) := by decide +kernel
theorem d_M_give_109 : decode b_M_give 109 = .ok (.invokevirtual 92, 3) := by decide +kernel
theorem d_M_give_112 : decode b_M_give 112 = .ok (.iload_n 3, 1) := by decide +kernel
theorem d_M_give_113 : decode b_M_give 113 = .ok (.if_icmp .le 34, 3) := by decide +kernel
theorem d_M_give_116 : decode b_M_give 116 = .ok (.aload_n 0, 1) := by decide +kernel
theorem d_M_give_117 : decode b_M_give 117 = .ok (.iload 6, 2) := by decide +kernel
theorem d_M_give_119 : decode b_M_give 119 = .ok (.iload_n 1, 1) := by decide +kernel
theorem d_M_give_120 : decode b_M_give 120 = .ok (.invokevirtual 95, 3) := by decide +kernel
theorem d_M_give_123 : decode b_M_give 123 = .ok (.ifCond .ne 6, 3) := by decide +kernel
theorem d_M_give_126 : decode b_M_give 126 = .ok (.goto 21, 3) := by decide +kernel
theorem d_M_give_129 : decode b_M_give 129 = .ok (.aload_n 0, 1) := by decide +kernel
theorem d_M_give_130 : decode b_M_give 130 = .ok (.getfield 39, 3) := by decide +kernel
theorem d_M_give_133 : decode b_M_give 133 = .ok (.iload 6, 2) := by decide +kernel
theorem d_M_give_135 : decode b_M_give 135 = .ok (.iload_n 1, 1) := by decide +kernel
theorem d_M_give_136 : decode b_M_give 136 = .ok (.iastore, 1) := by decide +kernel
theorem d_M_give_137 : decode b_M_give 137 = .ok (.aload_n 0, 1) := by decide +kernel
theorem d_M_give_138 : decode b_M_give 138 = .ok (.iload 6, 2) := by decide +kernel
theorem d_M_give_140 : decode b_M_give 140 = .ok (.invokevirtual 99, 3) := by decide +kernel
theorem d_M_give_143 : decode b_M_give 143 = .ok (.istore_n 3, 1) := by decide +kernel
theorem d_M_give_144 : decode b_M_give 144 = .ok (.iinc 2 1, 3) := by decide +kernel
theorem d_M_give_147 : decode b_M_give 147 = .ok (.iinc 5 1, 3) := by decide +kernel
theorem d_M_give_150 : decode b_M_give 150 = .ok (.goto (-140), 3) := by decide +kernel
theorem d_M_give_153 : decode b_M_give 153 = .ok (.iload_n 2, 1) := by decide +kernel
theorem d_M_give_154 : decode b_M_give 154 = .ok (.ireturn, 1) := by decide +kernel
theorem d_M_route_0 : decode b_M_route 0 = .ok (.iconst 0, 1) := by decide +kernel
theorem d_M_route_1 : decode b_M_route 1 = .ok (.istore_n 1, 1) := by decide +kernel
theorem d_M_route_2 : decode b_M_route 2 = .ok (.aload_n 0, 1) := by decide +kernel
theorem d_M_route_3 : decode b_M_route 3 = .ok (.iconst (-1), 1) := by decide +kernel
theorem d_M_route_4 : decode b_M_route 4 = .ok (.putfield 9, 3) := by decide +kernel
theorem d_M_route_7 : decode b_M_route 7 = .ok (.iconst 0, 1) := by decide +kernel
theorem d_M_route_8 : decode b_M_route 8 = .ok (.istore_n 2, 1) := by decide +kernel
theorem d_M_route_9 : decode b_M_route 9 = .ok (.iload_n 2, 1) := by decide +kernel
theorem d_M_route_10 : decode b_M_route 10 = .ok (.bipush 12, 2) := by decide +kernel
theorem d_M_route_12 : decode b_M_route 12 = .ok (.if_icmp .ge 16, 3) := by decide +kernel
theorem d_M_route_15 : decode b_M_route 15 = .ok (.aload_n 0, 1) := by decide +kernel
theorem d_M_route_16 : decode b_M_route 16 = .ok (.getfield 39, 3) := by decide +kernel
theorem d_M_route_19 : decode b_M_route 19 = .ok (.iload_n 2, 1) := by decide +kernel
theorem d_M_route_20 : decode b_M_route 20 = .ok (.iconst 0, 1) := by decide +kernel
theorem d_M_route_21 : decode b_M_route 21 = .ok (.iastore, 1) := by decide +kernel
theorem d_M_route_22 : decode b_M_route 22 = .ok (.iinc 2 1, 3) := by decide +kernel
theorem d_M_route_25 : decode b_M_route 25 = .ok (.goto (-16), 3) := by decide +kernel
theorem d_M_route_28 : decode b_M_route 28 = .ok (.aload_n 0, 1) := by decide +kernel
theorem d_M_route_29 : decode b_M_route 29 = .ok (.invokevirtual 102, 3) := by decide +kernel
theorem d_M_route_32 : decode b_M_route 32 = .ok (.ifCond .le 32, 3) := by decide +kernel
theorem d_M_route_35 : decode b_M_route 35 = .ok (.iinc 1 1, 3) := by decide +kernel
theorem d_M_route_38 : decode b_M_route 38 = .ok (.iload_n 1, 1) := by decide +kernel
theorem d_M_route_39 : decode b_M_route 39 = .ok (.bipush 9, 2) := by decide +kernel
theorem d_M_route_41 : decode b_M_route 41 = .ok (.if_icmp .le 9, 3) := by decide +kernel
theorem d_M_route_44 : decode b_M_route 44 = .ok (.aload_n 0, 1) := by decide +kernel
theorem d_M_route_45 : decode b_M_route 45 = .ok (.iconst 1, 1) := by decide +kernel
theorem d_M_route_46 : decode b_M_route 46 = .ok (.invokevirtual 69, 3) := by decide +kernel
theorem d_M_route_49 : decode b_M_route 49 = .ok (.ireturn, 1) := by decide +kernel
theorem d_M_route_50 : decode b_M_route 50 = .ok (.aload_n 0, 1) := by decide +kernel
theorem d_M_route_51 : decode b_M_route 51 = .ok (.iload_n 1, 1) := by decide +kernel
theorem d_M_route_52 : decode b_M_route 52 = .ok (.invokevirtual 106, 3) := by decide +kernel
theorem d_M_route_55 : decode b_M_route 55 = .ok (.ifCond .ne (-27), 3) := by decide +kernel
theorem d_M_route_58 : decode b_M_route 58 = .ok (.aload_n 0, 1) := by decide +kernel
theorem d_M_route_59 : decode b_M_route 59 = .ok (.iconst 2, 1) := by decide +kernel
theorem d_M_route_60 : decode b_M_route 60 = .ok (.invokevirtual 69, 3) := by decide +kernel
theorem d_M_route_63 : decode b_M_route 63 = .ok (.ireturn, 1) := by decide +kernel
theorem d_M_route_64 : decode b_M_route 64 = .ok (.aload_n 0, 1) := by decide +kernel
theorem d_M_route_65 : decode b_M_route 65 = .ok (.iconst 0, 1) := by decide +kernel
theorem d_M_route_66 : decode b_M_route 66 = .ok (.putfield 55, 3) := by decide +kernel
theorem d_M_route_69 : decode b_M_route 69 = .ok (.aload_n 0, 1) := by decide +kernel
theorem d_M_route_70 : decode b_M_route 70 = .ok (.iload_n 1, 1) := by decide +kernel
theorem d_M_route_71 : decode b_M_route 71 = .ok (.putfield 9, 3) := by decide +kernel
theorem d_M_route_74 : decode b_M_route 74 = .ok (.aload_n 0, 1) := by decide +kernel
theorem d_M_route_75 : decode b_M_route 75 = .ok (.invokevirtual 109, 3) := by decide +kernel
theorem d_M_route_78 : decode b_M_route 78 = .ok (.aload_n 0, 1) := by decide +kernel
theorem d_M_route_79 : decode b_M_route 79 = .ok (.getfield 9, 3) := by decide +kernel
theorem d_M_route_82 : decode b_M_route 82 = .ok (.ireturn, 1) := by decide +kernel
theorem d_M_mark_0 : decode b_M_mark 0 = .ok (.aload_n 0, 1) := by decide +kernel
theorem d_M_mark_1 : decode b_M_mark 1 = .ok (.getfield 42, 3) := by decide +kernel
theorem d_M_mark_4 : decode b_M_mark 4 = .ok (.bipush 24, 2) := by decide +kernel
theorem d_M_mark_6 : decode b_M_mark 6 = .ok (.iload_n 1, 1) := by decide +kernel
theorem d_M_mark_7 : decode b_M_mark 7 = .ok (.imul, 1) := by decide +kernel
theorem d_M_mark_8 : decode b_M_mark 8 = .ok (.iload_n 2, 1) := by decide +kernel
theorem d_M_mark_9 : decode b_M_mark 9 = .ok (.iadd, 1) := by decide +kernel
theorem d_M_mark_10 : decode b_M_mark 10 = .ok (.dup2, 1) := by decide +kernel
theorem d_M_mark_11 : decode b_M_mark 11 = .ok (.iaload, 1) := by decide +kernel
theorem d_M_mark_12 : decode b_M_mark 12 = .ok (.iload_n 3, 1) := by decide +kernel
theorem d_M_mark_13 : decode b_M_mark 13 = .ok (.ior, 1) := by decide +kernel
theorem d_M_mark_14 : decode b_M_mark 14 = .ok (.iastore, 1) := by decide +kernel
theorem d_M_mark_15 : decode b_M_mark 15 = .ok (.return_, 1) := by decide +kernel
theorem d_M_draw_0 : decode b_M_draw 0 = .ok (.iconst 0, 1) := by decide +kernel
theorem d_M_draw_1 : decode b_M_draw 1 = .ok (.istore_n 1, 1) := by decide +kernel
theorem d_M_draw_2 : decode b_M_draw 2 = .ok (.iload_n 1, 1) := by decide +kernel
theorem d_M_draw_3 : decode b_M_draw 3 = .ok (.sipush 264, 3) := by decide +kernel
theorem d_M_draw_6 : decode b_M_draw 6 = .ok (.if_icmp .ge 16, 3) := by decide +kernel
theorem d_M_draw_9 : decode b_M_draw 9 = .ok (.aload_n 0, 1) := by decide +kernel
theorem d_M_draw_10 : decode b_M_draw 10 = .ok (.getfield 42, 3) := by decide +kernel
theorem d_M_draw_13 : decode b_M_draw 13 = .ok (.iload_n 1, 1) := by decide +kernel
theorem d_M_draw_14 : decode b_M_draw 14 = .ok (.iconst 0, 1) := by decide +kernel
theorem d_M_draw_15 : decode b_M_draw 15 = .ok (.iastore, 1) := by decide +kernel
theorem d_M_draw_16 : decode b_M_draw 16 = .ok (.iinc 1 1, 3) := by decide +kernel
theorem d_M_draw_19 : decode b_M_draw 19 = .ok (.goto (-17), 3) := by decide +kernel
theorem d_M_draw_22 : decode b_M_draw 22 = .ok (.iconst 0, 1) := by decide +kernel
theorem d_M_draw_23 : decode b_M_draw 23 = .ok (.istore_n 1, 1) := by decide +kernel
theorem d_M_draw_24 : decode b_M_draw 24 = .ok (.iload_n 1, 1) := by decide +kernel
theorem d_M_draw_25 : decode b_M_draw 25 = .ok (.bipush 12, 2) := by decide +kernel
theorem d_M_draw_27 : decode b_M_draw 27 = .ok (.if_icmp .ge 51, 3) := by decide +kernel
theorem d_M_draw_30 : decode b_M_draw 30 = .ok (.aload_n 0, 1) := by decide +kernel
theorem d_M_draw_31 : decode b_M_draw 31 = .ok (.getfield 39, 3) := by decide +kernel
theorem d_M_draw_34 : decode b_M_draw 34 = .ok (.iload_n 1, 1) := by decide +kernel
theorem d_M_draw_35 : decode b_M_draw 35 = .ok (.iaload, 1) := by decide +kernel
theorem d_M_draw_36 : decode b_M_draw 36 = .ok (.istore_n 2, 1) := by decide +kernel
theorem d_M_draw_37 : decode b_M_draw 37 = .ok (.iload_n 2, 1) := by decide +kernel
theorem d_M_draw_38 : decode b_M_draw 38 = .ok (.ifCond .ne 6, 3) := by decide +kernel
theorem d_M_draw_41 : decode b_M_draw 41 = .ok (.goto 31, 3) := by decide +kernel
theorem d_M_draw_44 : decode b_M_draw 44 = .ok (.aload_n 0, 1) := by decide +kernel
theorem d_M_draw_45 : decode b_M_draw 45 = .ok (.iload_n 1, 1) := by decide +kernel
theorem d_M_draw_46 : decode b_M_draw 46 = .ok (.invokevirtual 92, 3) := by decide +kernel
theorem d_M_draw_49 : decode b_M_draw 49 = .ok (.istore_n 3, 1) := by decide +kernel
theorem d_M_draw_50 : decode b_M_draw 50 = .ok (.iload_n 3, 1) := by decide +kernel
theorem d_M_draw_51 : decode b_M_draw 51 = .ok (.aload_n 0, 1) := by decide +kernel
theorem d_M_draw_52 : decode b_M_draw 52 = .ok (.iload_n 1, 1) := by decide +kernel
theorem d_M_draw_53 : decode b_M_draw 53 = .ok (.invokevirtual 99, 3) := by decide +kernel
theorem d_M_draw_56 : decode b_M_draw 56 = .ok (.if_icmp .ge 16, 3) := by decide +kernel
theorem d_M_draw_59 : decode b_M_draw 59 = .ok (.aload_n 0, 1) := by decide +kernel
theorem d_M_draw_60 : decode b_M_draw 60 = .ok (.iload_n 2, 1) := by decide +kernel
theorem d_M_draw_61 : decode b_M_draw 61 = .ok (.iload_n 3, 1) := by decide +kernel
theorem d_M_draw_62 : decode b_M_draw 62 = .ok (.iconst 1, 1) := by decide +kernel
theorem d_M_draw_63 : decode b_M_draw 63 = .ok (.invokevirtual 112, 3) := by decide +kernel
theorem d_M_draw_66 : decode b_M_draw 66 = .ok (.iinc 3 1, 3) := by decide +kernel
theorem d_M_draw_69 : decode b_M_draw 69 = .ok (.goto (-19), 3) := by decide +kernel
theorem d_M_draw_72 : decode b_M_draw 72 = .ok (.iinc 1 1, 3) := by decide +kernel
theorem d_M_draw_75 : decode b_M_draw 75 = .ok (.goto (-51), 3) := by decide +kernel
theorem d_M_draw_78 : decode b_M_draw 78 = .ok (.iconst 0, 1) := by decide +kernel
theorem d_M_draw_79 : decode b_M_draw 79 = .ok (.istore_n 1, 1) := by decide +kernel
theorem d_M_draw_80 : decode b_M_draw 80 = .ok (.iload_n 1, 1) := by decide +kernel
theorem d_M_draw_81 : decode b_M_draw 81 = .ok (.aload_n 0, 1) := by decide +kernel
theorem d_M_draw_82 : decode b_M_draw 82 = .ok (.getfield 62, 3) := by decide +kernel
theorem d_M_draw_85 : decode b_M_draw 85 = .ok (.if_icmp .ge 118, 3) := by decide +kernel
theorem d_M_draw_88 : decode b_M_draw 88 = .ok (.iconst 0, 1) := by decide +kernel
theorem d_M_draw_89 : decode b_M_draw 89 = .ok (.istore_n 2, 1) := by decide +kernel
theorem d_M_draw_90 : decode b_M_draw 90 = .ok (.iload_n 2, 1) := by decide +kernel
theorem d_M_draw_91 : decode b_M_draw 91 = .ok (.aload_n 0, 1) := by decide +kernel
theorem d_M_draw_92 : decode b_M_draw 92 = .ok (.iload_n 1, 1) := by decide +kernel
theorem d_M_draw_93 : decode b_M_draw 93 = .ok (.invokevirtual 58, 3) := by decide +kernel
theorem d_M_draw_96 : decode b_M_draw 96 = .ok (.if_icmp .ge 101, 3) := by decide +kernel
theorem d_M_draw_99 : decode b_M_draw 99 = .ok (.aload_n 0, 1) := by decide +kernel
theorem d_M_draw_100 : decode b_M_draw 100 = .ok (.getfield 39, 3) := by decide +kernel
theorem d_M_draw_103 : decode b_M_draw 103 = .ok (.aload_n 0, 1) := by decide +kernel
theorem d_M_draw_104 : decode b_M_draw 104 = .ok (.iload_n 1, 1) := by decide +kernel
theorem d_M_draw_105 : decode b_M_draw 105 = .ok (.iload_n 2, 1) := by decide +kernel
theorem d_M_draw_106 : decode b_M_draw 106 = .ok (.invokevirtual 75, 3) := by decide +kernel
theorem d_M_draw_109 : decode b_M_draw 109 = .ok (.iaload, 1) := by decide +kernel
theorem d_M_draw_110 : decode b_M_draw 110 = .ok (.istore_n 3, 1) := by decide +kernel
theorem d_M_draw_111 : decode b_M_draw 111 = .ok (.aload_n 0, 1) := by decide +kernel
theorem d_M_draw_112 : decode b_M_draw 112 = .ok (.getfield 29, 3) := by decide +kernel
theorem d_M_draw_115 : decode b_M_draw 115 = .ok (.iload_n 1, 1) := by decide +kernel
theorem d_M_draw_116 : decode b_M_draw 116 = .ok (.iaload, 1) := by decide +kernel
theorem d_M_draw_117 : decode b_M_draw 117 = .ok (.iload_n 2, 1) := by decide +kernel
theorem d_M_draw_118 : decode b_M_draw 118 = .ok (.iadd, 1) := by decide +kernel
theorem d_M_draw_119 : decode b_M_draw 119 = .ok (.istore 4, 2) := by decide +kernel
theorem d_M_draw_121 : decode b_M_draw 121 = .ok (.iload_n 3, 1) := by decide +kernel
theorem d_M_draw_122 : decode b_M_draw 122 = .ok (.ifCond .ne 6, 3) := by decide +kernel
theorem d_M_draw_125 : decode b_M_draw 125 = .ok (.goto 66, 3) := by decide +kernel
theorem d_M_draw_128 : decode b_M_draw 128 = .ok (.aload_n 0, 1) := by decide +kernel
theorem d_M_draw_129 : decode b_M_draw 129 = .ok (.iload_n 3, 1) := by decide +kernel
theorem d_M_draw_130 : decode b_M_draw 130 = .ok (.iload 4, 2) := by decide +kernel
theorem d_M_draw_132 : decode b_M_draw 132 = .ok (.iconst 4, 1) := by decide +kernel
theorem d_M_draw_133 : decode b_M_draw 133 = .ok (.invokevirtual 112, 3) := by decide +kernel
theorem d_M_draw_136 : decode b_M_draw 136 = .ok (.aload_n 0, 1) := by decide +kernel
theorem d_M_draw_137 : decode b_M_draw 137 = .ok (.getfield 26, 3) := by decide +kernel
theorem d_M_draw_140 : decode b_M_draw 140 = .ok (.iload_n 1, 1) := by decide +kernel
theorem d_M_draw_141 : decode b_M_draw 141 = .ok (.iaload, 1) := by decide +kernel
theorem d_M_draw_142 : decode b_M_draw 142 = .ok (.ifCond .ne 7, 3) := by decide +kernel
theorem d_M_draw_145 : decode b_M_draw 145 = .ok (.iconst 0, 1) := by decide +kernel
theorem d_M_draw_146 : decode b_M_draw 146 = .ok (.goto 4, 3) := by decide +kernel
theorem d_M_draw_149 : decode b_M_draw 149 = .ok (.iload_n 3, 1) := by decide +kernel
theorem d_M_draw_150 : decode b_M_draw 150 = .ok (.istore 5, 2) := by decide +kernel
theorem d_M_draw_152 : decode b_M_draw 152 = .ok (.iload 5, 2) := by decide +kernel
theorem d_M_draw_154 : decode b_M_draw 154 = .ok (.aload_n 0, 1) := by decide +kernel
theorem d_M_draw_155 : decode b_M_draw 155 = .ok (.getfield 26, 3) := by decide +kernel
theorem d_M_draw_158 : decode b_M_draw 158 = .ok (.iload_n 1, 1) := by decide +kernel
theorem d_M_draw_159 : decode b_M_draw 159 = .ok (.iaload, 1) := by decide +kernel
theorem d_M_draw_160 : decode b_M_draw 160 = .ok (.ifCond .ne 7, 3) := by decide +kernel
theorem d_M_draw_163 : decode b_M_draw 163 = .ok (.iload_n 3, 1) := by decide +kernel
theorem d_M_draw_164 : decode b_M_draw 164 = .ok (.goto 9, 3) := by decide +kernel
theorem d_M_draw_167 : decode b_M_draw 167 = .ok (.aload_n 0, 1) := by decide +kernel
theorem d_M_draw_168 : decode b_M_draw 168 = .ok (.getfield 9, 3) := by decide +kernel
theorem d_M_draw_171 : decode b_M_draw 171 = .ok (.iconst 1, 1) := by decide +kernel
theorem d_M_draw_172 : decode b_M_draw 172 = .ok (.iadd, 1) := by decide +kernel
theorem d_M_draw_173 : decode b_M_draw 173 = .ok (.if_icmp .ge 18, 3) := by decide +kernel
theorem d_M_draw_176 : decode b_M_draw 176 = .ok (.aload_n 0, 1) := by decide +kernel
theorem d_M_draw_177 : decode b_M_draw 177 = .ok (.iload 5, 2) := by decide +kernel
theorem d_M_draw_179 : decode b_M_draw 179 = .ok (.iload 4, 2) := by decide +kernel
theorem d_M_draw_181 : decode b_M_draw 181 = .ok (.iconst 2, 1) := by decide +kernel
theorem d_M_draw_182 : decode b_M_draw 182 = .ok (.invokevirtual 112, 3) := by decide +kernel
theorem d_M_draw_185 : decode b_M_draw 185 = .ok (.iinc 5 1, 3) := by decide +kernel
theorem d_M_draw_188 : decode b_M_draw 188 = .ok (.goto (-36), 3) := by decide +kernel
theorem d_M_draw_191 : decode b_M_draw 191 = .ok (.iinc 2 1, 3) := by decide +kernel
theorem d_M_draw_194 : decode b_M_draw 194 = .ok (.goto (-104), 3) := by decide +kernel
theorem d_M_draw_197 : decode b_M_draw 197 = .ok (.iinc 1 1, 3) := by decide +kernel
theorem d_M_draw_200 : decode b_M_draw 200 = .ok (.goto (-120), 3) := by decide +kernel
theorem d_M_draw_203 : decode b_M_draw 203 = .ok (.return_, 1) := by decide +kernel
theorem d_M_isPin_0 : decode b_M_isPin 0 = .ok (.iload_n 1, 1) := by decide +kernel
theorem d_M_isPin_1 : decode b_M_isPin 1 = .ok (.iconst 0, 1) := by decide +kernel
theorem d_M_isPin_2 : decode b_M_isPin 2 = .ok (.aload_n 0, 1) := by decide +kernel
theorem d_M_isPin_3 : decode b_M_isPin 3 = .ok (.getfield 62, 3) := by decide +kernel
theorem d_M_isPin_6 : decode b_M_isPin 6 = .ok (.iconst 1, 1) := by decide +kernel
theorem d_M_isPin_7 : decode b_M_isPin 7 = .ok (.isub, 1) := by decide +kernel
theorem d_M_isPin_8 : decode b_M_isPin 8 = .ok (.invokestatic 65, 3) := by decide +kernel
theorem d_M_isPin_11 : decode b_M_isPin 11 = .ok (.ifCond .eq 22, 3) := by decide +kernel
theorem d_M_isPin_14 : decode b_M_isPin 14 = .ok (.iload_n 2, 1) := by decide +kernel
theorem d_M_isPin_15 : decode b_M_isPin 15 = .ok (.iconst 0, 1) := by decide +kernel
theorem d_M_isPin_16 : decode b_M_isPin 16 = .ok (.aload_n 0, 1) := by decide +kernel
theorem d_M_isPin_17 : decode b_M_isPin 17 = .ok (.iload_n 1, 1) := by decide +kernel
theorem d_M_isPin_18 : decode b_M_isPin 18 = .ok (.invokevirtual 58, 3) := by decide +kernel
theorem d_M_isPin_21 : decode b_M_isPin 21 = .ok (.iconst 1, 1) := by decide +kernel
theorem d_M_isPin_22 : decode b_M_isPin 22 = .ok (.isub, 1) := by decide +kernel
theorem d_M_isPin_23 : decode b_M_isPin 23 = .ok (.invokestatic 65, 3) := by decide +kernel
theorem d_M_isPin_26 : decode b_M_isPin 26 = .ok (.ifCond .eq 7, 3) := by decide +kernel
theorem d_M_isPin_29 : decode b_M_isPin 29 = .ok (.iconst 1, 1) := by decide +kernel
theorem d_M_isPin_30 : decode b_M_isPin 30 = .ok (.goto 4, 3) := by decide +kernel
theorem d_M_isPin_33 : decode b_M_isPin 33 = .ok (.iconst 0, 1) := by decide +kernel
theorem d_M_isPin_34 : decode b_M_isPin 34 = .ok (.ireturn, 1) := by decide +kernel
theorem d_M_column_0 : decode b_M_column 0 = .ok (.aload_n 0, 1) := by decide +kernel
theorem d_M_column_1 : decode b_M_column 1 = .ok (.iload_n 1, 1) := by decide +kernel
theorem d_M_column_2 : decode b_M_column 2 = .ok (.iload_n 2, 1) := by decide +kernel
theorem d_M_column_3 : decode b_M_column 3 = .ok (.invokevirtual 116, 3) := by decide +kernel
theorem d_M_column_6 : decode b_M_column 6 = .ok (.ifCond .ne 9, 3) := by decide +kernel
theorem d_M_column_9 : decode b_M_column 9 = .ok (.aload_n 0, 1) := by decide +kernel
theorem d_M_column_10 : decode b_M_column 10 = .ok (.iconst 1, 1) := by decide +kernel
theorem d_M_column_11 : decode b_M_column 11 = .ok (.invokevirtual 69, 3) := by decide +kernel
theorem d_M_column_14 : decode b_M_column 14 = .ok (.ireturn, 1) := by decide +kernel
theorem d_M_column_15 : decode b_M_column 15 = .ok (.aload_n 0, 1) := by decide +kernel
theorem d_M_column_16 : decode b_M_column 16 = .ok (.iconst 0, 1) := by decide +kernel
theorem d_M_column_17 : decode b_M_column 17 = .ok (.putfield 55, 3) := by decide +kernel
theorem d_M_column_20 : decode b_M_column 20 = .ok (.aload_n 0, 1) := by decide +kernel
theorem d_M_column_21 : decode b_M_column 21 = .ok (.getfield 29, 3) := by decide +kernel
theorem d_M_column_24 : decode b_M_column 24 = .ok (.iload_n 1, 1) := by decide +kernel
theorem d_M_column_25 : decode b_M_column 25 = .ok (.iaload, 1) := by decide +kernel
theorem d_M_column_26 : decode b_M_column 26 = .ok (.iload_n 2, 1) := by decide +kernel
theorem d_M_column_27 : decode b_M_column 27 = .ok (.iadd, 1) := by decide +kernel
theorem d_M_column_28 : decode b_M_column 28 = .ok (.ireturn, 1) := by decide +kernel
theorem d_M_lengthOf_0 : decode b_M_lengthOf 0 = .ok (.aload_n 0, 1) := by decide +kernel
theorem d_M_lengthOf_1 : decode b_M_lengthOf 1 = .ok (.getfield 9, 3) := by decide +kernel
theorem d_M_lengthOf_4 : decode b_M_lengthOf 4 = .ok (.iconst (-1), 1) := by decide +kernel
theorem d_M_lengthOf_5 : decode b_M_lengthOf 5 = .ok (.if_icmp .ne 7, 3) := by decide +kernel
theorem d_M_lengthOf_8 : decode b_M_lengthOf 8 = .ok (.iconst 0, 1) := by decide +kernel
theorem d_M_lengthOf_9 : decode b_M_lengthOf 9 = .ok (.goto 9, 3) := by decide +kernel
theorem d_M_lengthOf_12 : decode b_M_lengthOf 12 = .ok (.aload_n 0, 1) := by decide +kernel
theorem d_M_lengthOf_13 : decode b_M_lengthOf 13 = .ok (.getfield 39, 3) := by decide +kernel
theorem d_M_lengthOf_16 : decode b_M_lengthOf 16 = .ok (.iload_n 1, 1) := by decide +kernel
theorem d_M_lengthOf_17 : decode b_M_lengthOf 17 = .ok (.iaload, 1) := by decide +kernel
theorem d_M_lengthOf_18 : decode b_M_lengthOf 18 = .ok (.istore_n 2, 1) := by decide +kernel
theorem d_M_lengthOf_19 : decode b_M_lengthOf 19 = .ok (.iconst 0, 1) := by decide +kernel
theorem d_M_lengthOf_20 : decode b_M_lengthOf 20 = .ok (.istore_n 3, 1) := by decide +kernel
theorem d_M_lengthOf_21 : decode b_M_lengthOf 21 = .ok (.iload_n 2, 1) := by decide +kernel
theorem d_M_lengthOf_22 : decode b_M_lengthOf 22 = .ok (.ifCond .eq 11, 3) := by decide +kernel
theorem d_M_lengthOf_25 : decode b_M_lengthOf 25 = .ok (.aload_n 0, 1) := by decide +kernel
theorem d_M_lengthOf_26 : decode b_M_lengthOf 26 = .ok (.iload_n 1, 1) := by decide +kernel
theorem d_M_lengthOf_27 : decode b_M_lengthOf 27 = .ok (.invokevirtual 89, 3) := by decide +kernel
theorem d_M_lengthOf_30 : decode b_M_lengthOf 30 = .ok (.ifCond .ne 5, 3) := by decide +kernel
theorem d_M_lengthOf_33 : decode b_M_lengthOf 33 = .ok (.iconst 0, 1) := by decide +kernel
theorem d_M_lengthOf_34 : decode b_M_lengthOf 34 = .ok (.ireturn, 1) := by decide +kernel
theorem d_M_lengthOf_35 : decode b_M_lengthOf 35 = .ok (.iconst 0, 1) := by decide +kernel
theorem d_M_lengthOf_36 : decode b_M_lengthOf 36 = .ok (.istore 4, 2) := by decide +kernel
theorem d_M_lengthOf_38 : decode b_M_lengthOf 38 = .ok (.iload 4, 2) := by decide +kernel
theorem d_M_lengthOf_40 : decode b_M_lengthOf 40 = .ok (.aload_n 0, 1) := by decide +kernel
theorem d_M_lengthOf_41 : decode b_M_lengthOf 41 = .ok (.getfield 62, 3) := by decide +kernel
theorem d_M_lengthOf_44 : decode b_M_lengthOf 44 = .ok (.if_icmp .ge 66, 3) := by decide +kernel
theorem d_M_lengthOf_47 : decode b_M_lengthOf 47 = .ok (.iconst 0, 1) := by decide +kernel
theorem d_M_lengthOf_48 : decode b_M_lengthOf 48 = .ok (.istore 5, 2) := by decide +kernel
theorem d_M_lengthOf_50 : decode b_M_lengthOf 50 = .ok (.iload 5, 2) := by decide +kernel
theorem d_M_lengthOf_52 : decode b_M_lengthOf 52 = .ok (.aload_n 0, 1) := by decide +kernel
theorem d_M_lengthOf_53 : decode b_M_lengthOf 53 = .ok (.iload 4, 2) := by decide +kernel
theorem d_M_lengthOf_55 : decode b_M_lengthOf 55 = .ok (.invokevirtual 58, 3) := by decide +kernel
theorem d_M_lengthOf_58 : decode b_M_lengthOf 58 = .ok (.if_icmp .ge 46, 3) := by decide +kernel
theorem d_M_lengthOf_61 : decode b_M_lengthOf 61 = .ok (.aload_n 0, 1) := by decide +kernel
theorem d_M_lengthOf_62 : decode b_M_lengthOf 62 = .ok (.iload 4, 2) := by decide +kernel
theorem d_M_lengthOf_64 : decode b_M_lengthOf 64 = .ok (.iload 5, 2) := by decide +kernel
theorem d_M_lengthOf_66 : decode b_M_lengthOf 66 = .ok (.invokevirtual 75, 3) := by decide +kernel
theorem d_M_lengthOf_69 : decode b_M_lengthOf 69 = .ok (.iload_n 1, 1) := by decide +kernel
theorem d_M_lengthOf_70 : decode b_M_lengthOf 70 = .ok (.if_icmp .ne 28, 3) := by decide +kernel
theorem d_M_lengthOf_73 : decode b_M_lengthOf 73 = .ok (.iload_n 3, 1) := by decide +kernel
theorem d_M_lengthOf_74 : decode b_M_lengthOf 74 = .ok (.aload_n 0, 1) := by decide +kernel
theorem d_M_lengthOf_75 : decode b_M_lengthOf 75 = .ok (.getfield 26, 3) := by decide +kernel
theorem d_M_lengthOf_78 : decode b_M_lengthOf 78 = .ok (.iload 4, 2) := by decide +kernel
theorem d_M_lengthOf_80 : decode b_M_lengthOf 80 = .ok (.iaload, 1) := by decide +kernel
theorem d_M_lengthOf_81 : decode b_M_lengthOf 81 = .ok (.ifCond .ne 7, 3) := by decide +kernel
theorem d_M_lengthOf_84 : decode b_M_lengthOf 84 = .ok (.iload_n 2, 1) := by decide +kernel
theorem d_M_lengthOf_85 : decode b_M_lengthOf 85 = .ok (.goto 11, 3) := by decide +kernel
theorem d_M_lengthOf_88 : decode b_M_lengthOf 88 = .ok (.aload_n 0, 1) := by decide +kernel
theorem d_M_lengthOf_89 : decode b_M_lengthOf 89 = .ok (.getfield 9, 3) := by decide +kernel
theorem d_M_lengthOf_92 : decode b_M_lengthOf 92 = .ok (.iconst 1, 1) := by decide +kernel
theorem d_M_lengthOf_93 : decode b_M_lengthOf 93 = .ok (.iadd, 1) := by decide +kernel
theorem d_M_lengthOf_94 : decode b_M_lengthOf 94 = .ok (.iload_n 2, 1) := by decide +kernel
theorem d_M_lengthOf_95 : decode b_M_lengthOf 95 = .ok (.isub, 1) := by decide +kernel
theorem d_M_lengthOf_96 : decode b_M_lengthOf 96 = .ok (.iadd, 1) := by decide +kernel
theorem d_M_lengthOf_97 : decode b_M_lengthOf 97 = .ok (.istore_n 3, 1) := by decide +kernel
theorem d_M_lengthOf_98 : decode b_M_lengthOf 98 = .ok (.iinc 5 1, 3) := by decide +kernel
theorem d_M_lengthOf_101 : decode b_M_lengthOf 101 = .ok (.goto (-51), 3) := by decide +kernel
theorem d_M_lengthOf_104 : decode b_M_lengthOf 104 = .ok (.iinc 4 1, 3) := by decide +kernel
theorem d_M_lengthOf_107 : decode b_M_lengthOf 107 = .ok (.goto (-69), 3) := by decide +kernel
theorem d_M_lengthOf_110 : decode b_M_lengthOf 110 = .ok (.iload_n 3, 1) := by decide +kernel
theorem d_M_lengthOf_111 : decode b_M_lengthOf 111 = .ok (.aload_n 0, 1) := by decide +kernel
theorem d_M_lengthOf_112 : decode b_M_lengthOf 112 = .ok (.iload_n 1, 1) := by decide +kernel
theorem d_M_lengthOf_113 : decode b_M_lengthOf 113 = .ok (.invokevirtual 99, 3) := by decide +kernel
theorem d_M_lengthOf_116 : decode b_M_lengthOf 116 = .ok (.iadd, 1) := by decide +kernel
theorem d_M_lengthOf_117 : decode b_M_lengthOf 117 = .ok (.aload_n 0, 1) := by decide +kernel
theorem d_M_lengthOf_118 : decode b_M_lengthOf 118 = .ok (.iload_n 1, 1) := by decide +kernel
theorem d_M_lengthOf_119 : decode b_M_lengthOf 119 = .ok (.invokevirtual 92, 3) := by decide +kernel
theorem d_M_lengthOf_122 : decode b_M_lengthOf 122 = .ok (.isub, 1) := by decide +kernel
theorem d_M_lengthOf_123 : decode b_M_lengthOf 123 = .ok (.ireturn, 1) := by decide +kernel
theorem d_M_net_0 : decode b_M_net 0 = .ok (.iload_n 1, 1) := by decide +kernel
theorem d_M_net_1 : decode b_M_net 1 = .ok (.iconst 0, 1) := by decide +kernel
theorem d_M_net_2 : decode b_M_net 2 = .ok (.bipush 11, 2) := by decide +kernel
theorem d_M_net_4 : decode b_M_net 4 = .ok (.invokestatic 65, 3) := by decide +kernel
theorem d_M_net_7 : decode b_M_net 7 = .ok (.ifCond .eq 13, 3) := by decide +kernel
theorem d_M_net_10 : decode b_M_net 10 = .ok (.iload_n 2, 1) := by decide +kernel
theorem d_M_net_11 : decode b_M_net 11 = .ok (.iconst 0, 1) := by decide +kernel
theorem d_M_net_12 : decode b_M_net 12 = .ok (.bipush 6, 2) := by decide +kernel
theorem d_M_net_14 : decode b_M_net 14 = .ok (.invokestatic 65, 3) := by decide +kernel
theorem d_M_net_17 : decode b_M_net 17 = .ok (.ifCond .ne 9, 3) := by decide +kernel
theorem d_M_net_20 : decode b_M_net 20 = .ok (.aload_n 0, 1) := by decide +kernel
theorem d_M_net_21 : decode b_M_net 21 = .ok (.iconst 1, 1) := by decide +kernel
theorem d_M_net_22 : decode b_M_net 22 = .ok (.invokevirtual 69, 3) := by decide +kernel
theorem d_M_net_25 : decode b_M_net 25 = .ok (.ireturn, 1) := by decide +kernel
theorem d_M_net_26 : decode b_M_net 26 = .ok (.aload_n 0, 1) := by decide +kernel
theorem d_M_net_27 : decode b_M_net 27 = .ok (.iconst 0, 1) := by decide +kernel
theorem d_M_net_28 : decode b_M_net 28 = .ok (.putfield 55, 3) := by decide +kernel
theorem d_M_net_31 : decode b_M_net 31 = .ok (.iload_n 2, 1) := by decide +kernel
theorem d_M_net_32 : decode b_M_net 32 = .ok (.tableswitch 121 0 5 #[40, 46, 52, 66, 84, 102], 40) := by decide +kernel
theorem d_M_net_72 : decode b_M_net 72 = .ok (.aload_n 0, 1) := by decide +kernel
theorem d_M_net_73 : decode b_M_net 73 = .ok (.iload_n 1, 1) := by decide +kernel
theorem d_M_net_74 : decode b_M_net 74 = .ok (.invokevirtual 79, 3) := by decide +kernel
theorem d_M_net_77 : decode b_M_net 77 = .ok (.ireturn, 1) := by decide +kernel
theorem d_M_net_78 : decode b_M_net 78 = .ok (.aload_n 0, 1) := by decide +kernel
theorem d_M_net_79 : decode b_M_net 79 = .ok (.iload_n 1, 1) := by decide +kernel
theorem d_M_net_80 : decode b_M_net 80 = .ok (.invokevirtual 72, 3) := by decide +kernel
theorem d_M_net_83 : decode b_M_net 83 = .ok (.ireturn, 1) := by decide +kernel
theorem d_M_net_84 : decode b_M_net 84 = .ok (.aload_n 0, 1) := by decide +kernel
theorem d_M_net_85 : decode b_M_net 85 = .ok (.iload_n 1, 1) := by decide +kernel
theorem d_M_net_86 : decode b_M_net 86 = .ok (.invokevirtual 82, 3) := by decide +kernel
theorem d_M_net_89 : decode b_M_net 89 = .ok (.ifCond .eq 7, 3) := by decide +kernel
theorem d_M_net_92 : decode b_M_net 92 = .ok (.iconst 1, 1) := by decide +kernel
theorem d_M_net_93 : decode b_M_net 93 = .ok (.goto 4, 3) := by decide +kernel
theorem d_M_net_96 : decode b_M_net 96 = .ok (.iconst 0, 1) := by decide +kernel
theorem d_M_net_97 : decode b_M_net 97 = .ok (.ireturn, 1) := by decide +kernel
theorem d_M_net_98 : decode b_M_net 98 = .ok (.aload_n 0, 1) := by decide +kernel
theorem d_M_net_99 : decode b_M_net 99 = .ok (.iload_n 1, 1) := by decide +kernel
theorem d_M_net_100 : decode b_M_net 100 = .ok (.invokevirtual 89, 3) := by decide +kernel
theorem d_M_net_103 : decode b_M_net 103 = .ok (.ifCond .eq 11, 3) := by decide +kernel
theorem d_M_net_106 : decode b_M_net 106 = .ok (.aload_n 0, 1) := by decide +kernel
theorem d_M_net_107 : decode b_M_net 107 = .ok (.iload_n 1, 1) := by decide +kernel
theorem d_M_net_108 : decode b_M_net 108 = .ok (.invokevirtual 92, 3) := by decide +kernel
theorem d_M_net_111 : decode b_M_net 111 = .ok (.goto 4, 3) := by decide +kernel
theorem d_M_net_114 : decode b_M_net 114 = .ok (.iconst (-1), 1) := by decide +kernel
theorem d_M_net_115 : decode b_M_net 115 = .ok (.ireturn, 1) := by decide +kernel
theorem d_M_net_116 : decode b_M_net 116 = .ok (.aload_n 0, 1) := by decide +kernel
theorem d_M_net_117 : decode b_M_net 117 = .ok (.iload_n 1, 1) := by decide +kernel
theorem d_M_net_118 : decode b_M_net 118 = .ok (.invokevirtual 89, 3) := by decide +kernel
theorem d_M_net_121 : decode b_M_net 121 = .ok (.ifCond .eq 11, 3) := by decide +kernel
theorem d_M_net_124 : decode b_M_net 124 = .ok (.aload_n 0, 1) := by decide +kernel
theorem d_M_net_125 : decode b_M_net 125 = .ok (.iload_n 1, 1) := by decide +kernel
theorem d_M_net_126 : decode b_M_net 126 = .ok (.invokevirtual 99, 3) := by decide +kernel
theorem d_M_net_129 : decode b_M_net 129 = .ok (.goto 4, 3) := by decide +kernel
theorem d_M_net_132 : decode b_M_net 132 = .ok (.iconst (-1), 1) := by decide +kernel
theorem d_M_net_133 : decode b_M_net 133 = .ok (.ireturn, 1) := by decide +kernel
theorem d_M_net_134 : decode b_M_net 134 = .ok (.aload_n 0, 1) := by decide +kernel
theorem d_M_net_135 : decode b_M_net 135 = .ok (.getfield 9, 3) := by decide +kernel
theorem d_M_net_138 : decode b_M_net 138 = .ok (.iconst (-1), 1) := by decide +kernel
theorem d_M_net_139 : decode b_M_net 139 = .ok (.if_icmp .ne 7, 3) := by decide +kernel
theorem d_M_net_142 : decode b_M_net 142 = .ok (.iconst 0, 1) := by decide +kernel
theorem d_M_net_143 : decode b_M_net 143 = .ok (.goto 9, 3) := by decide +kernel
theorem d_M_net_146 : decode b_M_net 146 = .ok (.aload_n 0, 1) := by decide +kernel
theorem d_M_net_147 : decode b_M_net 147 = .ok (.getfield 39, 3) := by decide +kernel
theorem d_M_net_150 : decode b_M_net 150 = .ok (.iload_n 1, 1) := by decide +kernel
theorem d_M_net_151 : decode b_M_net 151 = .ok (.iaload, 1) := by decide +kernel
theorem d_M_net_152 : decode b_M_net 152 = .ok (.ireturn, 1) := by decide +kernel
theorem d_M_net_153 : decode b_M_net 153 = .ok (.aload_n 0, 1) := by decide +kernel
theorem d_M_net_154 : decode b_M_net 154 = .ok (.iload_n 1, 1) := by decide +kernel
theorem d_M_net_155 : decode b_M_net 155 = .ok (.invokevirtual 119, 3) := by decide +kernel
theorem d_M_net_158 : decode b_M_net 158 = .ok (.ireturn, 1) := by decide +kernel
theorem d_M_isPoint_0 : decode b_M_isPoint 0 = .ok (.iload_n 1, 1) := by decide +kernel
theorem d_M_isPoint_1 : decode b_M_isPoint 1 = .ok (.iconst 0, 1) := by decide +kernel
theorem d_M_isPoint_2 : decode b_M_isPoint 2 = .ok (.aload_n 0, 1) := by decide +kernel
theorem d_M_isPoint_3 : decode b_M_isPoint 3 = .ok (.getfield 9, 3) := by decide +kernel
theorem d_M_isPoint_6 : decode b_M_isPoint 6 = .ok (.iconst 1, 1) := by decide +kernel
theorem d_M_isPoint_7 : decode b_M_isPoint 7 = .ok (.iadd, 1) := by decide +kernel
theorem d_M_isPoint_8 : decode b_M_isPoint 8 = .ok (.invokestatic 65, 3) := by decide +kernel
theorem d_M_isPoint_11 : decode b_M_isPoint 11 = .ok (.ifCond .eq 17, 3) := by decide +kernel
theorem d_M_isPoint_14 : decode b_M_isPoint 14 = .ok (.iload_n 2, 1) := by decide +kernel
theorem d_M_isPoint_15 : decode b_M_isPoint 15 = .ok (.iconst 0, 1) := by decide +kernel
theorem d_M_isPoint_16 : decode b_M_isPoint 16 = .ok (.bipush 23, 2) := by decide +kernel
theorem d_M_isPoint_18 : decode b_M_isPoint 18 = .ok (.invokestatic 65, 3) := by decide +kernel
theorem d_M_isPoint_21 : decode b_M_isPoint 21 = .ok (.ifCond .eq 7, 3) := by decide +kernel
theorem d_M_isPoint_24 : decode b_M_isPoint 24 = .ok (.iconst 1, 1) := by decide +kernel
theorem d_M_isPoint_25 : decode b_M_isPoint 25 = .ok (.goto 4, 3) := by decide +kernel
theorem d_M_isPoint_28 : decode b_M_isPoint 28 = .ok (.iconst 0, 1) := by decide +kernel
theorem d_M_isPoint_29 : decode b_M_isPoint 29 = .ok (.ireturn, 1) := by decide +kernel
theorem d_M_mask_0 : decode b_M_mask 0 = .ok (.aload_n 0, 1) := by decide +kernel
theorem d_M_mask_1 : decode b_M_mask 1 = .ok (.getfield 9, 3) := by decide +kernel
theorem d_M_mask_4 : decode b_M_mask 4 = .ok (.iconst (-1), 1) := by decide +kernel
theorem d_M_mask_5 : decode b_M_mask 5 = .ok (.if_icmp .ne 9, 3) := by decide +kernel
theorem d_M_mask_8 : decode b_M_mask 8 = .ok (.aload_n 0, 1) := by decide +kernel
theorem d_M_mask_9 : decode b_M_mask 9 = .ok (.iconst 1, 1) := by decide +kernel
theorem d_M_mask_10 : decode b_M_mask 10 = .ok (.invokevirtual 69, 3) := by decide +kernel
theorem d_M_mask_13 : decode b_M_mask 13 = .ok (.ireturn, 1) := by decide +kernel
theorem d_M_mask_14 : decode b_M_mask 14 = .ok (.aload_n 0, 1) := by decide +kernel
theorem d_M_mask_15 : decode b_M_mask 15 = .ok (.iload_n 1, 1) := by decide +kernel
theorem d_M_mask_16 : decode b_M_mask 16 = .ok (.iload_n 2, 1) := by decide +kernel
theorem d_M_mask_17 : decode b_M_mask 17 = .ok (.invokevirtual 122, 3) := by decide +kernel
theorem d_M_mask_20 : decode b_M_mask 20 = .ok (.ifCond .ne 9, 3) := by decide +kernel
theorem d_M_mask_23 : decode b_M_mask 23 = .ok (.aload_n 0, 1) := by decide +kernel
theorem d_M_mask_24 : decode b_M_mask 24 = .ok (.iconst 2, 1) := by decide +kernel
theorem d_M_mask_25 : decode b_M_mask 25 = .ok (.invokevirtual 69, 3) := by decide +kernel
theorem d_M_mask_28 : decode b_M_mask 28 = .ok (.ireturn, 1) := by decide +kernel
theorem d_M_mask_29 : decode b_M_mask 29 = .ok (.aload_n 0, 1) := by decide +kernel
theorem d_M_mask_30 : decode b_M_mask 30 = .ok (.iconst 0, 1) := by decide +kernel
theorem d_M_mask_31 : decode b_M_mask 31 = .ok (.putfield 55, 3) := by decide +kernel
theorem d_M_mask_34 : decode b_M_mask 34 = .ok (.aload_n 0, 1) := by decide +kernel
theorem d_M_mask_35 : decode b_M_mask 35 = .ok (.getfield 42, 3) := by decide +kernel
theorem d_M_mask_38 : decode b_M_mask 38 = .ok (.bipush 24, 2) := by decide +kernel
theorem d_M_mask_40 : decode b_M_mask 40 = .ok (.iload_n 1, 1) := by decide +kernel
theorem d_M_mask_41 : decode b_M_mask 41 = .ok (.imul, 1) := by decide +kernel
theorem d_M_mask_42 : decode b_M_mask 42 = .ok (.iload_n 2, 1) := by decide +kernel
theorem d_M_mask_43 : decode b_M_mask 43 = .ok (.iadd, 1) := by decide +kernel
theorem d_M_mask_44 : decode b_M_mask 44 = .ok (.iaload, 1) := by decide +kernel
theorem d_M_mask_45 : decode b_M_mask 45 = .ok (.ireturn, 1) := by decide +kernel
theorem d_M_damage_0 : decode b_M_damage 0 = .ok (.iload_n 3, 1) := by decide +kernel
theorem d_M_damage_1 : decode b_M_damage 1 = .ok (.iconst 0, 1) := by decide +kernel
theorem d_M_damage_2 : decode b_M_damage 2 = .ok (.bipush 7, 2) := by decide +kernel
theorem d_M_damage_4 : decode b_M_damage 4 = .ok (.invokestatic 65, 3) := by decide +kernel
theorem d_M_damage_7 : decode b_M_damage 7 = .ok (.ifCond .ne 9, 3) := by decide +kernel
theorem d_M_damage_10 : decode b_M_damage 10 = .ok (.aload_n 0, 1) := by decide +kernel
theorem d_M_damage_11 : decode b_M_damage 11 = .ok (.iconst 1, 1) := by decide +kernel
theorem d_M_damage_12 : decode b_M_damage 12 = .ok (.invokevirtual 69, 3) := by decide +kernel
theorem d_M_damage_15 : decode b_M_damage 15 = .ok (.ireturn, 1) := by decide +kernel
theorem d_M_damage_16 : decode b_M_damage 16 = .ok (.aload_n 0, 1) := by decide +kernel
theorem d_M_damage_17 : decode b_M_damage 17 = .ok (.getfield 9, 3) := by decide +kernel
theorem d_M_damage_20 : decode b_M_damage 20 = .ok (.iconst (-1), 1) := by decide +kernel
theorem d_M_damage_21 : decode b_M_damage 21 = .ok (.if_icmp .ne 9, 3) := by decide +kernel
theorem d_M_damage_24 : decode b_M_damage 24 = .ok (.aload_n 0, 1) := by decide +kernel
theorem d_M_damage_25 : decode b_M_damage 25 = .ok (.iconst 2, 1) := by decide +kernel
theorem d_M_damage_26 : decode b_M_damage 26 = .ok (.invokevirtual 69, 3) := by decide +kernel
theorem d_M_damage_29 : decode b_M_damage 29 = .ok (.ireturn, 1) := by decide +kernel
theorem d_M_damage_30 : decode b_M_damage 30 = .ok (.aload_n 0, 1) := by decide +kernel
theorem d_M_damage_31 : decode b_M_damage 31 = .ok (.iload_n 1, 1) := by decide +kernel
theorem d_M_damage_32 : decode b_M_damage 32 = .ok (.iload_n 2, 1) := by decide +kernel
theorem d_M_damage_33 : decode b_M_damage 33 = .ok (.invokevirtual 122, 3) := by decide +kernel
theorem d_M_damage_36 : decode b_M_damage 36 = .ok (.ifCond .ne 9, 3) := by decide +kernel
theorem d_M_damage_39 : decode b_M_damage 39 = .ok (.aload_n 0, 1) := by decide +kernel
theorem d_M_damage_40 : decode b_M_damage 40 = .ok (.iconst 3, 1) := by decide +kernel
theorem d_M_damage_41 : decode b_M_damage 41 = .ok (.invokevirtual 69, 3) := by decide +kernel
theorem d_M_damage_44 : decode b_M_damage 44 = .ok (.ireturn, 1) := by decide +kernel
theorem d_M_damage_45 : decode b_M_damage 45 = .ok (.aload_n 0, 1) := by decide +kernel
theorem d_M_damage_46 : decode b_M_damage 46 = .ok (.iconst 0, 1) := by decide +kernel
theorem d_M_damage_47 : decode b_M_damage 47 = .ok (.putfield 55, 3) := by decide +kernel
theorem d_M_damage_50 : decode b_M_damage 50 = .ok (.aload_n 0, 1) := by decide +kernel
theorem d_M_damage_51 : decode b_M_damage 51 = .ok (.getfield 42, 3) := by decide +kernel
theorem d_M_damage_54 : decode b_M_damage 54 = .ok (.bipush 24, 2) := by decide +kernel
theorem d_M_damage_56 : decode b_M_damage 56 = .ok (.iload_n 1, 1) := by decide +kernel
theorem d_M_damage_57 : decode b_M_damage 57 = .ok (.imul, 1) := by decide +kernel
theorem d_M_damage_58 : decode b_M_damage 58 = .ok (.iload_n 2, 1) := by decide +kernel
theorem d_M_damage_59 : decode b_M_damage 59 = .ok (.iadd, 1) := by decide +kernel
theorem d_M_damage_60 : decode b_M_damage 60 = .ok (.iaload, 1) := by decide +kernel
theorem d_M_damage_61 : decode b_M_damage 61 = .ok (.istore 4, 2) := by decide +kernel
theorem d_M_damage_63 : decode b_M_damage 63 = .ok (.aload_n 0, 1) := by decide +kernel
theorem d_M_damage_64 : decode b_M_damage 64 = .ok (.getfield 42, 3) := by decide +kernel
theorem d_M_damage_67 : decode b_M_damage 67 = .ok (.bipush 24, 2) := by decide +kernel
theorem d_M_damage_69 : decode b_M_damage 69 = .ok (.iload_n 1, 1) := by decide +kernel
theorem d_M_damage_70 : decode b_M_damage 70 = .ok (.imul, 1) := by decide +kernel
theorem d_M_damage_71 : decode b_M_damage 71 = .ok (.iload_n 2, 1) := by decide +kernel
theorem d_M_damage_72 : decode b_M_damage 72 = .ok (.iadd, 1) := by decide +kernel
theorem d_M_damage_73 : decode b_M_damage 73 = .ok (.iload_n 3, 1) := by decide +kernel
theorem d_M_damage_74 : decode b_M_damage 74 = .ok (.iastore, 1) := by decide +kernel
theorem d_M_damage_75 : decode b_M_damage 75 = .ok (.iload 4, 2) := by decide +kernel
theorem d_M_damage_77 : decode b_M_damage 77 = .ok (.ireturn, 1) := by decide +kernel
theorem d_M_join_0 : decode b_M_join 0 = .ok (.aload_n 0, 1) := by decide +kernel
theorem d_M_join_1 : decode b_M_join 1 = .ok (.getfield 45, 3) := by decide +kernel
theorem d_M_join_4 : decode b_M_join 4 = .ok (.iload_n 1, 1) := by decide +kernel
theorem d_M_join_5 : decode b_M_join 5 = .ok (.iaload, 1) := by decide +kernel
theorem d_M_join_6 : decode b_M_join 6 = .ok (.aload_n 0, 1) := by decide +kernel
theorem d_M_join_7 : decode b_M_join 7 = .ok (.getfield 45, 3) := by decide +kernel
theorem d_M_join_10 : decode b_M_join 10 = .ok (.iload_n 2, 1) := by decide +kernel
theorem d_M_join_11 : decode b_M_join 11 = .ok (.iaload, 1) := by decide +kernel
theorem d_M_join_12 : decode b_M_join 12 = .ok (.if_icmp .ne 5, 3) := by decide +kernel
theorem d_M_join_15 : decode b_M_join 15 = .ok (.iconst 0, 1) := by decide +kernel
theorem d_M_join_16 : decode b_M_join 16 = .ok (.ireturn, 1) := by decide +kernel
theorem d_M_join_17 : decode b_M_join 17 = .ok (.aload_n 0, 1) := by decide +kernel
theorem d_M_join_18 : decode b_M_join 18 = .ok (.getfield 45, 3) := by decide +kernel
theorem d_M_join_21 : decode b_M_join 21 = .ok (.iload_n 1, 1) := by decide +kernel
theorem d_M_join_22 : decode b_M_join 22 = .ok (.iaload, 1) := by decide +kernel
theorem d_M_join_23 : decode b_M_join 23 = .ok (.aload_n 0, 1) := by decide +kernel
theorem d_M_join_24 : decode b_M_join 24 = .ok (.getfield 45, 3) := by decide +kernel
theorem d_M_join_27 : decode b_M_join 27 = .ok (.iload_n 2, 1) := by decide +kernel
theorem d_M_join_28 : decode b_M_join 28 = .ok (.iaload, 1) := by decide +kernel
theorem d_M_join_29 : decode b_M_join 29 = .ok (.if_icmp .ge 12, 3) := by decide +kernel
theorem d_M_join_32 : decode b_M_join 32 = .ok (.aload_n 0, 1) := by decide +kernel
theorem d_M_join_33 : decode b_M_join 33 = .ok (.getfield 45, 3) := by decide +kernel
theorem d_M_join_36 : decode b_M_join 36 = .ok (.iload_n 1, 1) := by decide +kernel
theorem d_M_join_37 : decode b_M_join 37 = .ok (.iaload, 1) := by decide +kernel
theorem d_M_join_38 : decode b_M_join 38 = .ok (.goto 9, 3) := by decide +kernel
theorem d_M_join_41 : decode b_M_join 41 = .ok (.aload_n 0, 1) := by decide +kernel
theorem d_M_join_42 : decode b_M_join 42 = .ok (.getfield 45, 3) := by decide +kernel
theorem d_M_join_45 : decode b_M_join 45 = .ok (.iload_n 2, 1) := by decide +kernel
theorem d_M_join_46 : decode b_M_join 46 = .ok (.iaload, 1) := by decide +kernel
theorem d_M_join_47 : decode b_M_join 47 = .ok (.istore_n 3, 1) := by decide +kernel
theorem d_M_join_48 : decode b_M_join 48 = .ok (.aload_n 0, 1) := by decide +kernel
theorem d_M_join_49 : decode b_M_join 49 = .ok (.getfield 45, 3) := by decide +kernel
theorem d_M_join_52 : decode b_M_join 52 = .ok (.iload_n 1, 1) := by decide +kernel
theorem d_M_join_53 : decode b_M_join 53 = .ok (.iload_n 3, 1) := by decide +kernel
theorem d_M_join_54 : decode b_M_join 54 = .ok (.iastore, 1) := by decide +kernel
theorem d_M_join_55 : decode b_M_join 55 = .ok (.aload_n 0, 1) := by decide +kernel
theorem d_M_join_56 : decode b_M_join 56 = .ok (.getfield 45, 3) := by decide +kernel
theorem d_M_join_59 : decode b_M_join 59 = .ok (.iload_n 2, 1) := by decide +kernel
theorem d_M_join_60 : decode b_M_join 60 = .ok (.iload_n 3, 1) := by decide +kernel
theorem d_M_join_61 : decode b_M_join 61 = .ok (.iastore, 1) := by decide +kernel
theorem d_M_join_62 : decode b_M_join 62 = .ok (.iconst 1, 1) := by decide +kernel
theorem d_M_join_63 : decode b_M_join 63 = .ok (.ireturn, 1) := by decide +kernel
theorem d_M_find_0 : decode b_M_find 0 = .ok (.bipush 24, 2) := by decide +kernel
theorem d_M_find_2 : decode b_M_find 2 = .ok (.aload_n 0, 1) := by decide +kernel
theorem d_M_find_3 : decode b_M_find 3 = .ok (.getfield 9, 3) := by decide +kernel
theorem d_M_find_6 : decode b_M_find 6 = .ok (.iconst 2, 1) := by decide +kernel
theorem d_M_find_7 : decode b_M_find 7 = .ok (.iadd, 1) := by decide +kernel
theorem d_M_find_8 : decode b_M_find 8 = .ok (.imul, 1) := by decide +kernel
theorem d_M_find_9 : decode b_M_find 9 = .ok (.istore_n 1, 1) := by decide +kernel
theorem d_M_find_10 : decode b_M_find 10 = .ok (.iconst 1, 1) := by decide +kernel
theorem d_M_find_11 : decode b_M_find 11 = .ok (.istore_n 2, 1) := by decide +kernel
theorem d_M_find_12 : decode b_M_find 12 = .ok (.iconst 0, 1) := by decide +kernel
theorem d_M_find_13 : decode b_M_find 13 = .ok (.istore_n 3, 1) := by decide +kernel
theorem d_M_find_14 : decode b_M_find 14 = .ok (.iload_n 3, 1) := by decide +kernel
theorem d_M_find_15 : decode b_M_find 15 = .ok (.iconst 2, 1) := by decide +kernel
theorem d_M_find_16 : decode b_M_find 16 = .ok (.iload_n 1, 1) := by decide +kernel
theorem d_M_find_17 : decode b_M_find 17 = .ok (.imul, 1) := by decide +kernel
theorem d_M_find_18 : decode b_M_find 18 = .ok (.if_icmp .ge 16, 3) := by decide +kernel
theorem d_M_find_21 : decode b_M_find 21 = .ok (.aload_n 0, 1) := by decide +kernel
theorem d_M_find_22 : decode b_M_find 22 = .ok (.getfield 45, 3) := by decide +kernel
theorem d_M_find_25 : decode b_M_find 25 = .ok (.iload_n 3, 1) := by decide +kernel
theorem d_M_find_26 : decode b_M_find 26 = .ok (.iload_n 3, 1) := by decide +kernel
theorem d_M_find_27 : decode b_M_find 27 = .ok (.iastore, 1) := by decide +kernel
theorem d_M_find_28 : decode b_M_find 28 = .ok (.iinc 3 1, 3) := by decide +kernel
theorem d_M_find_31 : decode b_M_find 31 = .ok (.goto (-17), 3) := by decide +kernel
theorem d_M_find_34 : decode b_M_find 34 = .ok (.iload_n 2, 1) := by decide +kernel
theorem d_M_find_35 : decode b_M_find 35 = .ok (.ifCond .eq 53, 3) := by decide +kernel
theorem d_M_find_38 : decode b_M_find 38 = .ok (.iconst 0, 1) := by decide +kernel
theorem d_M_find_39 : decode b_M_find 39 = .ok (.istore_n 2, 1) := by decide +kernel
theorem d_M_find_40 : decode b_M_find 40 = .ok (.iconst 0, 1) := by decide +kernel
theorem d_M_find_41 : decode b_M_find 41 = .ok (.istore_n 3, 1) := by decide +kernel
theorem d_M_find_42 : decode b_M_find 42 = .ok (.iload_n 3, 1) := by decide +kernel
theorem d_M_find_43 : decode b_M_find 43 = .ok (.iload_n 1, 1) := by decide +kernel
theorem d_M_find_44 : decode b_M_find 44 = .ok (.if_icmp .ge 18, 3) := by decide +kernel
theorem d_M_find_47 : decode b_M_find 47 = .ok (.iload_n 2, 1) := by decide +kernel
theorem d_M_find_48 : decode b_M_find 48 = .ok (.aload_n 0, 1) := by decide +kernel
theorem d_M_find_49 : decode b_M_find 49 = .ok (.iload_n 3, 1) := by decide +kernel
theorem d_M_find_50 : decode b_M_find 50 = .ok (.iload_n 1, 1) := by decide +kernel
theorem d_M_find_51 : decode b_M_find 51 = .ok (.invokevirtual 125, 3) := by decide +kernel
theorem d_M_find_54 : decode b_M_find 54 = .ok (.ior, 1) := by decide +kernel
theorem d_M_find_55 : decode b_M_find 55 = .ok (.istore_n 2, 1) := by decide +kernel
theorem d_M_find_56 : decode b_M_find 56 = .ok (.iinc 3 1, 3) := by decide +kernel
theorem d_M_find_59 : decode b_M_find 59 = .ok (.goto (-17), 3) := by decide +kernel
theorem d_M_find_62 : decode b_M_find 62 = .ok (.iload_n 1, 1) := by decide +kernel
theorem d_M_find_63 : decode b_M_find 63 = .ok (.iconst 1, 1) := by decide +kernel
theorem d_M_find_64 : decode b_M_find 64 = .ok (.isub, 1) := by decide +kernel
theorem d_M_find_65 : decode b_M_find 65 = .ok (.istore_n 3, 1) := by decide +kernel
theorem d_M_find_66 : decode b_M_find 66 = .ok (.iload_n 3, 1) := by decide +kernel
theorem d_M_find_67 : decode b_M_find 67 = .ok (.ifCond .lt 18, 3) := by decide +kernel
theorem d_M_find_70 : decode b_M_find 70 = .ok (.iload_n 2, 1) := by decide +kernel
theorem d_M_find_71 : decode b_M_find 71 = .ok (.aload_n 0, 1) := by decide +kernel
theorem d_M_find_72 : decode b_M_find 72 = .ok (.iload_n 3, 1) := by decide +kernel
theorem d_M_find_73 : decode b_M_find 73 = .ok (.iload_n 1, 1) := by decide +kernel
theorem d_M_find_74 : decode b_M_find 74 = .ok (.invokevirtual 125, 3) := by decide +kernel
theorem d_M_find_77 : decode b_M_find 77 = .ok (.ior, 1) := by decide +kernel
theorem d_M_find_78 : decode b_M_find 78 = .ok (.istore_n 2, 1) := by decide +kernel
theorem d_M_find_79 : decode b_M_find 79 = .ok (.iinc 3 (-1), 3) := by decide +kernel
theorem d_M_find_82 : decode b_M_find 82 = .ok (.goto (-16), 3) := by decide +kernel
theorem d_M_find_85 : decode b_M_find 85 = .ok (.goto (-51), 3) := by decide +kernel
theorem d_M_find_88 : decode b_M_find 88 = .ok (.return_, 1) := by decide +kernel
theorem d_M_joinAt_0 : decode b_M_joinAt 0 = .ok (.iconst 0, 1) := by decide +kernel
theorem d_M_joinAt_1 : decode b_M_joinAt 1 = .ok (.istore_n 3, 1) := by decide +kernel
theorem d_M_joinAt_2 : decode b_M_joinAt 2 = .ok (.aload_n 0, 1) := by decide +kernel
theorem d_M_joinAt_3 : decode b_M_joinAt 3 = .ok (.getfield 42, 3) := by decide +kernel
theorem d_M_joinAt_6 : decode b_M_joinAt 6 = .ok (.iload_n 1, 1) := by decide +kernel
theorem d_M_joinAt_7 : decode b_M_joinAt 7 = .ok (.iaload, 1) := by decide +kernel
theorem d_M_joinAt_8 : decode b_M_joinAt 8 = .ok (.iconst 1, 1) := by decide +kernel
theorem d_M_joinAt_9 : decode b_M_joinAt 9 = .ok (.iand, 1) := by decide +kernel
theorem d_M_joinAt_10 : decode b_M_joinAt 10 = .ok (.ifCond .eq 25, 3) := by decide +kernel
theorem d_M_joinAt_13 : decode b_M_joinAt 13 = .ok (.iload_n 1, 1) := by decide +kernel
theorem d_M_joinAt_14 : decode b_M_joinAt 14 = .ok (.bipush 24, 2) := by decide +kernel
theorem d_M_joinAt_16 : decode b_M_joinAt 16 = .ok (.irem, 1) := by decide +kernel
theorem d_M_joinAt_17 : decode b_M_joinAt 17 = .ok (.bipush 23, 2) := by decide +kernel
theorem d_M_joinAt_19 : decode b_M_joinAt 19 = .ok (.if_icmp .ge 16, 3) := by decide +kernel
theorem d_M_joinAt_22 : decode b_M_joinAt 22 = .ok (.aload_n 0, 1) := by decide +kernel
theorem d_M_joinAt_23 : decode b_M_joinAt 23 = .ok (.iconst 2, 1) := by decide +kernel
theorem d_M_joinAt_24 : decode b_M_joinAt 24 = .ok (.iload_n 1, 1) := by decide +kernel
theorem d_M_joinAt_25 : decode b_M_joinAt 25 = .ok (.imul, 1) := by decide +kernel
theorem d_M_joinAt_26 : decode b_M_joinAt 26 = .ok (.iconst 2, 1) := by decide +kernel
theorem d_M_joinAt_27 : decode b_M_joinAt 27 = .ok (.iload_n 1, 1) := by decide +kernel
theorem d_M_joinAt_28 : decode b_M_joinAt 28 = .ok (.imul, 1) := by decide +kernel
theorem d_M_joinAt_29 : decode b_M_joinAt 29 = .ok (.iconst 2, 1) := by decide +kernel
theorem d_M_joinAt_30 : decode b_M_joinAt 30 = .ok (.iadd, 1) := by decide +kernel
theorem d_M_joinAt_31 : decode b_M_joinAt 31 = .ok (.invokevirtual 128, 3) := by decide +kernel
theorem d_M_joinAt_34 : decode b_M_joinAt 34 = .ok (.istore_n 3, 1) := by decide +kernel
theorem d_M_joinAt_35 : decode b_M_joinAt 35 = .ok (.aload_n 0, 1) := by decide +kernel
theorem d_M_joinAt_36 : decode b_M_joinAt 36 = .ok (.getfield 42, 3) := by decide +kernel
theorem d_M_joinAt_39 : decode b_M_joinAt 39 = .ok (.iload_n 1, 1) := by decide +kernel
theorem d_M_joinAt_40 : decode b_M_joinAt 40 = .ok (.iaload, 1) := by decide +kernel
theorem d_M_joinAt_41 : decode b_M_joinAt 41 = .ok (.iconst 2, 1) := by decide +kernel
theorem d_M_joinAt_42 : decode b_M_joinAt 42 = .ok (.iand, 1) := by decide +kernel
theorem d_M_joinAt_43 : decode b_M_joinAt 43 = .ok (.ifCond .eq 31, 3) := by decide +kernel
theorem d_M_joinAt_46 : decode b_M_joinAt 46 = .ok (.iload_n 1, 1) := by decide +kernel
theorem d_M_joinAt_47 : decode b_M_joinAt 47 = .ok (.bipush 24, 2) := by decide +kernel
theorem d_M_joinAt_49 : decode b_M_joinAt 49 = .ok (.iadd, 1) := by decide +kernel
theorem d_M_joinAt_50 : decode b_M_joinAt 50 = .ok (.iload_n 2, 1) := by decide +kernel
theorem d_M_joinAt_51 : decode b_M_joinAt 51 = .ok (.if_icmp .ge 23, 3) := by decide +kernel
theorem d_M_joinAt_54 : decode b_M_joinAt 54 = .ok (.iload_n 3, 1) := by decide +kernel
theorem d_M_joinAt_55 : decode b_M_joinAt 55 = .ok (.aload_n 0, 1) := by decide +kernel
theorem d_M_joinAt_56 : decode b_M_joinAt 56 = .ok (.iconst 2, 1) := by decide +kernel
theorem d_M_joinAt_57 : decode b_M_joinAt 57 = .ok (.iload_n 1, 1) := by decide +kernel
theorem d_M_joinAt_58 : decode b_M_joinAt 58 = .ok (.imul, 1) := by decide +kernel
theorem d_M_joinAt_59 : decode b_M_joinAt 59 = .ok (.iconst 1, 1) := by decide +kernel
theorem d_M_joinAt_60 : decode b_M_joinAt 60 = .ok (.iadd, 1) := by decide +kernel
theorem d_M_joinAt_61 : decode b_M_joinAt 61 = .ok (.iconst 2, 1) := by decide +kernel
theorem d_M_joinAt_62 : decode b_M_joinAt 62 = .ok (.iload_n 1, 1) := by decide +kernel
theorem d_M_joinAt_63 : decode b_M_joinAt 63 = .ok (.bipush 24, 2) := by decide +kernel
theorem d_M_joinAt_65 : decode b_M_joinAt 65 = .ok (.iadd, 1) := by decide +kernel
theorem d_M_joinAt_66 : decode b_M_joinAt 66 = .ok (.imul, 1) := by decide +kernel
theorem d_M_joinAt_67 : decode b_M_joinAt 67 = .ok (.iconst 1, 1) := by decide +kernel
theorem d_M_joinAt_68 : decode b_M_joinAt 68 = .ok (.iadd, 1) := by decide +kernel
theorem d_M_joinAt_69 : decode b_M_joinAt 69 = .ok (.invokevirtual 128, 3) := by decide +kernel
theorem d_M_joinAt_72 : decode b_M_joinAt 72 = .ok (.ior, 1) := by decide +kernel
theorem d_M_joinAt_73 : decode b_M_joinAt 73 = .ok (.istore_n 3, 1) := by decide +kernel
theorem d_M_joinAt_74 : decode b_M_joinAt 74 = .ok (.aload_n 0, 1) := by decide +kernel
theorem d_M_joinAt_75 : decode b_M_joinAt 75 = .ok (.getfield 42, 3) := by decide +kernel
theorem d_M_joinAt_78 : decode b_M_joinAt 78 = .ok (.iload_n 1, 1) := by decide +kernel
theorem d_M_joinAt_79 : decode b_M_joinAt 79 = .ok (.iaload, 1) := by decide +kernel
theorem d_M_joinAt_80 : decode b_M_joinAt 80 = .ok (.iconst 4, 1) := by decide +kernel
theorem d_M_joinAt_81 : decode b_M_joinAt 81 = .ok (.iand, 1) := by decide +kernel
theorem d_M_joinAt_82 : decode b_M_joinAt 82 = .ok (.ifCond .eq 18, 3) := by decide +kernel
theorem d_M_joinAt_85 : decode b_M_joinAt 85 = .ok (.iload_n 3, 1) := by decide +kernel
theorem d_M_joinAt_86 : decode b_M_joinAt 86 = .ok (.aload_n 0, 1) := by decide +kernel
theorem d_M_joinAt_87 : decode b_M_joinAt 87 = .ok (.iconst 2, 1) := by decide +kernel
theorem d_M_joinAt_88 : decode b_M_joinAt 88 = .ok (.iload_n 1, 1) := by decide +kernel
theorem d_M_joinAt_89 : decode b_M_joinAt 89 = .ok (.imul, 1) := by decide +kernel
theorem d_M_joinAt_90 : decode b_M_joinAt 90 = .ok (.iconst 2, 1) := by decide +kernel
theorem d_M_joinAt_91 : decode b_M_joinAt 91 = .ok (.iload_n 1, 1) := by decide +kernel
theorem d_M_joinAt_92 : decode b_M_joinAt 92 = .ok (.imul, 1) := by decide +kernel
theorem d_M_joinAt_93 : decode b_M_joinAt 93 = .ok (.iconst 1, 1) := by decide +kernel
theorem d_M_joinAt_94 : decode b_M_joinAt 94 = .ok (.iadd, 1) := by decide +kernel
theorem d_M_joinAt_95 : decode b_M_joinAt 95 = .ok (.invokevirtual 128, 3) := by decide +kernel
theorem d_M_joinAt_98 : decode b_M_joinAt 98 = .ok (.ior, 1) := by decide +kernel
theorem d_M_joinAt_99 : decode b_M_joinAt 99 = .ok (.istore_n 3, 1) := by decide +kernel
theorem d_M_joinAt_100 : decode b_M_joinAt 100 = .ok (.iload_n 3, 1) := by decide +kernel
theorem d_M_joinAt_101 : decode b_M_joinAt 101 = .ok (.ireturn, 1) := by decide +kernel
theorem d_M_pinAt_0 : decode b_M_pinAt 0 = .ok (.aload_n 0, 1) := by decide +kernel
theorem d_M_pinAt_1 : decode b_M_pinAt 1 = .ok (.getfield 45, 3) := by decide +kernel
theorem d_M_pinAt_4 : decode b_M_pinAt 4 = .ok (.iconst 2, 1) := by decide +kernel
theorem d_M_pinAt_5 : decode b_M_pinAt 5 = .ok (.bipush 24, 2) := by decide +kernel
theorem d_M_pinAt_7 : decode b_M_pinAt 7 = .ok (.aload_n 0, 1) := by decide +kernel
theorem d_M_pinAt_8 : decode b_M_pinAt 8 = .ok (.getfield 26, 3) := by decide +kernel
theorem d_M_pinAt_11 : decode b_M_pinAt 11 = .ok (.iload_n 1, 1) := by decide +kernel
theorem d_M_pinAt_12 : decode b_M_pinAt 12 = .ok (.iaload, 1) := by decide +kernel
theorem d_M_pinAt_13 : decode b_M_pinAt 13 = .ok (.ifCond .ne 7, 3) := by decide +kernel
theorem d_M_pinAt_16 : decode b_M_pinAt 16 = .ok (.iconst 0, 1) := by decide +kernel
theorem d_M_pinAt_17 : decode b_M_pinAt 17 = .ok (.goto 9, 3) := by decide +kernel
theorem d_M_pinAt_20 : decode b_M_pinAt 20 = .ok (.aload_n 0, 1) := by decide +kernel
theorem d_M_pinAt_21 : decode b_M_pinAt 21 = .ok (.getfield 9, 3) := by decide +kernel
theorem d_M_pinAt_24 : decode b_M_pinAt 24 = .ok (.iconst 1, 1) := by decide +kernel
theorem d_M_pinAt_25 : decode b_M_pinAt 25 = .ok (.iadd, 1) := by decide +kernel
theorem d_M_pinAt_26 : decode b_M_pinAt 26 = .ok (.imul, 1) := by decide +kernel
theorem d_M_pinAt_27 : decode b_M_pinAt 27 = .ok (.aload_n 0, 1) := by decide +kernel
theorem d_M_pinAt_28 : decode b_M_pinAt 28 = .ok (.getfield 29, 3) := by decide +kernel
theorem d_M_pinAt_31 : decode b_M_pinAt 31 = .ok (.iload_n 1, 1) := by decide +kernel
theorem d_M_pinAt_32 : decode b_M_pinAt 32 = .ok (.iaload, 1) := by decide +kernel
theorem d_M_pinAt_33 : decode b_M_pinAt 33 = .ok (.iadd, 1) := by decide +kernel
theorem d_M_pinAt_34 : decode b_M_pinAt 34 = .ok (.iload_n 2, 1) := by decide +kernel
theorem d_M_pinAt_35 : decode b_M_pinAt 35 = .ok (.iadd, 1) := by decide +kernel
theorem d_M_pinAt_36 : decode b_M_pinAt 36 = .ok (.imul, 1) := by decide +kernel
theorem d_M_pinAt_37 : decode b_M_pinAt 37 = .ok (.iconst 1, 1) := by decide +kernel
theorem d_M_pinAt_38 : decode b_M_pinAt 38 = .ok (.iadd, 1) := by decide +kernel
theorem d_M_pinAt_39 : decode b_M_pinAt 39 = .ok (.iaload, 1) := by decide +kernel
theorem d_M_pinAt_40 : decode b_M_pinAt 40 = .ok (.ireturn, 1) := by decide +kernel
theorem d_M_joined_0 : decode b_M_joined 0 = .ok (.aload_n 0, 1) := by decide +kernel
theorem d_M_joined_1 : decode b_M_joined 1 = .ok (.aload_n 0, 1) := by decide +kernel
theorem d_M_joined_2 : decode b_M_joined 2 = .ok (.getfield 9, 3) := by decide +kernel
theorem d_M_joined_5 : decode b_M_joined 5 = .ok (.iconst (-1), 1) := by decide +kernel
theorem d_M_joined_6 : decode b_M_joined 6 = .ok (.if_icmp .ne 7, 3) := by decide +kernel
theorem d_M_joined_9 : decode b_M_joined 9 = .ok (.iconst 1, 1) := by decide +kernel
theorem d_M_joined_10 : decode b_M_joined 10 = .ok (.goto 27, 3) := by decide +kernel
theorem d_M_joined_13 : decode b_M_joined 13 = .ok (.aload_n 0, 1) := by decide +kernel
theorem d_M_joined_14 : decode b_M_joined 14 = .ok (.iload_n 1, 1) := by decide +kernel
theorem d_M_joined_15 : decode b_M_joined 15 = .ok (.iload_n 2, 1) := by decide +kernel
theorem d_M_joined_16 : decode b_M_joined 16 = .ok (.invokevirtual 116, 3) := by decide +kernel
theorem d_M_joined_19 : decode b_M_joined 19 = .ok (.ifCond .eq 13, 3) := by decide +kernel
theorem d_M_joined_22 : decode b_M_joined 22 = .ok (.aload_n 0, 1) := by decide +kernel
theorem d_M_joined_23 : decode b_M_joined 23 = .ok (.iload_n 3, 1) := by decide +kernel
theorem d_M_joined_24 : decode b_M_joined 24 = .ok (.iload 4, 2) := by decide +kernel
theorem d_M_joined_26 : decode b_M_joined 26 = .ok (.invokevirtual 116, 3) := by decide +kernel
theorem d_M_joined_29 : decode b_M_joined 29 = .ok (.ifCond .ne 7, 3) := by decide +kernel
theorem d_M_joined_32 : decode b_M_joined 32 = .ok (.iconst 2, 1) := by decide +kernel
theorem d_M_joined_33 : decode b_M_joined 33 = .ok (.goto 4, 3) := by decide +kernel
theorem d_M_joined_36 : decode b_M_joined 36 = .ok (.iconst 0, 1) := by decide +kernel
theorem d_M_joined_37 : decode b_M_joined 37 = .ok (.putfield 55, 3) := by decide +kernel
theorem d_M_joined_40 : decode b_M_joined 40 = .ok (.aload_n 0, 1) := by decide +kernel
theorem d_M_joined_41 : decode b_M_joined 41 = .ok (.getfield 55, 3) := by decide +kernel
theorem d_M_joined_44 : decode b_M_joined 44 = .ok (.ifCond .le 5, 3) := by decide +kernel
theorem d_M_joined_47 : decode b_M_joined 47 = .ok (.iconst 0, 1) := by decide +kernel
theorem d_M_joined_48 : decode b_M_joined 48 = .ok (.ireturn, 1) := by decide +kernel
theorem d_M_joined_49 : decode b_M_joined 49 = .ok (.aload_n 0, 1) := by decide +kernel
theorem d_M_joined_50 : decode b_M_joined 50 = .ok (.invokevirtual 131, 3) := by decide +kernel
theorem d_M_joined_53 : decode b_M_joined 53 = .ok (.aload_n 0, 1) := by decide +kernel
theorem d_M_joined_54 : decode b_M_joined 54 = .ok (.iload_n 1, 1) := by decide +kernel
theorem d_M_joined_55 : decode b_M_joined 55 = .ok (.iload_n 2, 1) := by decide +kernel
theorem d_M_joined_56 : decode b_M_joined 56 = .ok (.invokevirtual 134, 3) := by decide +kernel
theorem d_M_joined_59 : decode b_M_joined 59 = .ok (.aload_n 0, 1) := by decide +kernel
theorem d_M_joined_60 : decode b_M_joined 60 = .ok (.iload_n 3, 1) := by decide +kernel
theorem d_M_joined_61 : decode b_M_joined 61 = .ok (.iload 4, 2) := by decide +kernel
theorem d_M_joined_63 : decode b_M_joined 63 = .ok (.invokevirtual 134, 3) := by decide +kernel
theorem d_M_joined_66 : decode b_M_joined 66 = .ok (.if_icmp .ne 7, 3) := by decide +kernel
theorem d_M_joined_69 : decode b_M_joined 69 = .ok (.iconst 1, 1) := by decide +kernel
theorem d_M_joined_70 : decode b_M_joined 70 = .ok (.goto 4, 3) := by decide +kernel
theorem d_M_joined_73 : decode b_M_joined 73 = .ok (.iconst 0, 1) := by decide +kernel
theorem d_M_joined_74 : decode b_M_joined 74 = .ok (.ireturn, 1) := by decide +kernel
theorem d_M_place_0 : decode b_M_place 0 = .ok (.iload_n 2, 1) := by decide +kernel
theorem d_M_place_1 : decode b_M_place 1 = .ok (.istore_n 3, 1) := by decide +kernel
theorem d_M_place_2 : decode b_M_place 2 = .ok (.iconst 0, 1) := by decide +kernel
theorem d_M_place_3 : decode b_M_place 3 = .ok (.istore 4, 2) := by decide +kernel
theorem d_M_place_5 : decode b_M_place 5 = .ok (.iload 4, 2) := by decide +kernel
theorem d_M_place_7 : decode b_M_place 7 = .ok (.aload_n 0, 1) := by decide +kernel
theorem d_M_place_8 : decode b_M_place 8 = .ok (.getfield 62, 3) := by decide +kernel
theorem d_M_place_11 : decode b_M_place 11 = .ok (.if_icmp .ge 60, 3) := by decide +kernel
theorem d_M_place_14 : decode b_M_place 14 = .ok (.iconst 0, 1) := by decide +kernel
theorem d_M_place_15 : decode b_M_place 15 = .ok (.istore 5, 2) := by decide +kernel
theorem d_M_place_17 : decode b_M_place 17 = .ok (.iload 5, 2) := by decide +kernel
theorem d_M_place_19 : decode b_M_place 19 = .ok (.aload_n 0, 1) := by decide +kernel
theorem d_M_place_20 : decode b_M_place 20 = .ok (.iload 4, 2) := by decide +kernel
theorem d_M_place_22 : decode b_M_place 22 = .ok (.invokevirtual 58, 3) := by decide +kernel
theorem d_M_place_25 : decode b_M_place 25 = .ok (.if_icmp .ge 40, 3) := by decide +kernel
theorem d_M_place_28 : decode b_M_place 28 = .ok (.aload_n 0, 1) := by decide +kernel
theorem d_M_place_29 : decode b_M_place 29 = .ok (.iload 4, 2) := by decide +kernel
theorem d_M_place_31 : decode b_M_place 31 = .ok (.iload 5, 2) := by decide +kernel
theorem d_M_place_33 : decode b_M_place 33 = .ok (.invokevirtual 75, 3) := by decide +kernel
theorem d_M_place_36 : decode b_M_place 36 = .ok (.iload_n 1, 1) := by decide +kernel
theorem d_M_place_37 : decode b_M_place 37 = .ok (.if_icmp .eq 6, 3) := by decide +kernel
theorem d_M_place_40 : decode b_M_place 40 = .ok (.goto 19, 3) := by decide +kernel
theorem d_M_place_43 : decode b_M_place 43 = .ok (.iload_n 3, 1) := by decide +kernel
theorem d_M_place_44 : decode b_M_place 44 = .ok (.ifCond .ne 12, 3) := by decide +kernel
theorem d_M_place_47 : decode b_M_place 47 = .ok (.aload_n 0, 1) := by decide +kernel
theorem d_M_place_48 : decode b_M_place 48 = .ok (.iload 4, 2) := by decide +kernel
theorem d_M_place_50 : decode b_M_place 50 = .ok (.iload 5, 2) := by decide +kernel
theorem d_M_place_52 : decode b_M_place 52 = .ok (.invokevirtual 134, 3) := by decide +kernel
theorem d_M_place_55 : decode b_M_place 55 = .ok (.ireturn, 1) := by decide +kernel
theorem d_M_place_56 : decode b_M_place 56 = .ok (.iinc 3 (-1), 3) := by decide +kernel
theorem d_M_place_59 : decode b_M_place 59 = .ok (.iinc 5 1, 3) := by decide +kernel
theorem d_M_place_62 : decode b_M_place 62 = .ok (.goto (-45), 3) := by decide +kernel
theorem d_M_place_65 : decode b_M_place 65 = .ok (.iinc 4 1, 3) := by decide +kernel
theorem d_M_place_68 : decode b_M_place 68 = .ok (.goto (-63), 3) := by decide +kernel
theorem d_M_place_71 : decode b_M_place 71 = .ok (.iload_n 3, 1) := by decide +kernel
theorem d_M_place_72 : decode b_M_place 72 = .ok (.ifCond .ne 28, 3) := by decide +kernel
theorem d_M_place_75 : decode b_M_place 75 = .ok (.aload_n 0, 1) := by decide +kernel
theorem d_M_place_76 : decode b_M_place 76 = .ok (.iload_n 1, 1) := by decide +kernel
theorem d_M_place_77 : decode b_M_place 77 = .ok (.invokevirtual 82, 3) := by decide +kernel
theorem d_M_place_80 : decode b_M_place 80 = .ok (.ifCond .eq 20, 3) := by decide +kernel
theorem d_M_place_83 : decode b_M_place 83 = .ok (.aload_n 0, 1) := by decide +kernel
theorem d_M_place_84 : decode b_M_place 84 = .ok (.getfield 45, 3) := by decide +kernel
theorem d_M_place_87 : decode b_M_place 87 = .ok (.bipush 48, 2) := by decide +kernel
theorem d_M_place_89 : decode b_M_place 89 = .ok (.aload_n 0, 1) := by decide +kernel
theorem d_M_place_90 : decode b_M_place 90 = .ok (.getfield 39, 3) := by decide +kernel
theorem d_M_place_93 : decode b_M_place 93 = .ok (.iload_n 1, 1) := by decide +kernel
theorem d_M_place_94 : decode b_M_place 94 = .ok (.iaload, 1) := by decide +kernel
theorem d_M_place_95 : decode b_M_place 95 = .ok (.imul, 1) := by decide +kernel
theorem d_M_place_96 : decode b_M_place 96 = .ok (.iaload, 1) := by decide +kernel
theorem d_M_place_97 : decode b_M_place 97 = .ok (.goto 4, 3) := by decide +kernel
theorem d_M_place_100 : decode b_M_place 100 = .ok (.iconst (-1), 1) := by decide +kernel
theorem d_M_place_101 : decode b_M_place 101 = .ok (.ireturn, 1) := by decide +kernel
theorem d_M_isOpen_0 : decode b_M_isOpen 0 = .ok (.iconst 1, 1) := by decide +kernel
theorem d_M_isOpen_1 : decode b_M_isOpen 1 = .ok (.istore_n 2, 1) := by decide +kernel
theorem d_M_isOpen_2 : decode b_M_isOpen 2 = .ok (.aload_n 0, 1) := by decide +kernel
theorem d_M_isOpen_3 : decode b_M_isOpen 3 = .ok (.iload_n 1, 1) := by decide +kernel
theorem d_M_isOpen_4 : decode b_M_isOpen 4 = .ok (.iload_n 2, 1) := by decide +kernel
theorem d_M_isOpen_5 : decode b_M_isOpen 5 = .ok (.invokevirtual 137, 3) := by decide +kernel
theorem d_M_isOpen_8 : decode b_M_isOpen 8 = .ok (.iconst (-1), 1) := by decide +kernel
theorem d_M_isOpen_9 : decode b_M_isOpen 9 = .ok (.if_icmp .eq 26, 3) := by decide +kernel
theorem d_M_isOpen_12 : decode b_M_isOpen 12 = .ok (.aload_n 0, 1) := by decide +kernel
theorem d_M_isOpen_13 : decode b_M_isOpen 13 = .ok (.iload_n 1, 1) := by decide +kernel
theorem d_M_isOpen_14 : decode b_M_isOpen 14 = .ok (.iload_n 2, 1) := by decide +kernel
theorem d_M_isOpen_15 : decode b_M_isOpen 15 = .ok (.invokevirtual 137, 3) := by decide +kernel
theorem d_M_isOpen_18 : decode b_M_isOpen 18 = .ok (.aload_n 0, 1) := by decide +kernel
theorem d_M_isOpen_19 : decode b_M_isOpen 19 = .ok (.iload_n 1, 1) := by decide +kernel
theorem d_M_isOpen_20 : decode b_M_isOpen 20 = .ok (.iconst 0, 1) := by decide +kernel
theorem d_M_isOpen_21 : decode b_M_isOpen 21 = .ok (.invokevirtual 137, 3) := by decide +kernel
theorem d_M_isOpen_24 : decode b_M_isOpen 24 = .ok (.if_icmp .eq 5, 3) := by decide +kernel
theorem d_M_isOpen_27 : decode b_M_isOpen 27 = .ok (.iconst 1, 1) := by decide +kernel
theorem d_M_isOpen_28 : decode b_M_isOpen 28 = .ok (.ireturn, 1) := by decide +kernel
theorem d_M_isOpen_29 : decode b_M_isOpen 29 = .ok (.iinc 2 1, 3) := by decide +kernel
theorem d_M_isOpen_32 : decode b_M_isOpen 32 = .ok (.goto (-30), 3) := by decide +kernel
theorem d_M_isOpen_35 : decode b_M_isOpen 35 = .ok (.iconst 0, 1) := by decide +kernel
theorem d_M_isOpen_36 : decode b_M_isOpen 36 = .ok (.ireturn, 1) := by decide +kernel
theorem d_M_isShort_0 : decode b_M_isShort 0 = .ok (.iconst 0, 1) := by decide +kernel
theorem d_M_isShort_1 : decode b_M_isShort 1 = .ok (.istore_n 3, 1) := by decide +kernel
theorem d_M_isShort_2 : decode b_M_isShort 2 = .ok (.aload_n 0, 1) := by decide +kernel
theorem d_M_isShort_3 : decode b_M_isShort 3 = .ok (.iload_n 1, 1) := by decide +kernel
theorem d_M_isShort_4 : decode b_M_isShort 4 = .ok (.iload_n 3, 1) := by decide +kernel
theorem d_M_isShort_5 : decode b_M_isShort 5 = .ok (.invokevirtual 137, 3) := by decide +kernel
theorem d_M_isShort_8 : decode b_M_isShort 8 = .ok (.iconst (-1), 1) := by decide +kernel
theorem d_M_isShort_9 : decode b_M_isShort 9 = .ok (.if_icmp .eq 47, 3) := by decide +kernel
theorem d_M_isShort_12 : decode b_M_isShort 12 = .ok (.iconst 0, 1) := by decide +kernel
theorem d_M_isShort_13 : decode b_M_isShort 13 = .ok (.istore 4, 2) := by decide +kernel
theorem d_M_isShort_15 : decode b_M_isShort 15 = .ok (.aload_n 0, 1) := by decide +kernel
theorem d_M_isShort_16 : decode b_M_isShort 16 = .ok (.iload_n 2, 1) := by decide +kernel
theorem d_M_isShort_17 : decode b_M_isShort 17 = .ok (.iload 4, 2) := by decide +kernel
theorem d_M_isShort_19 : decode b_M_isShort 19 = .ok (.invokevirtual 137, 3) := by decide +kernel
theorem d_M_isShort_22 : decode b_M_isShort 22 = .ok (.iconst (-1), 1) := by decide +kernel
theorem d_M_isShort_23 : decode b_M_isShort 23 = .ok (.if_icmp .eq 27, 3) := by decide +kernel
theorem d_M_isShort_26 : decode b_M_isShort 26 = .ok (.aload_n 0, 1) := by decide +kernel
theorem d_M_isShort_27 : decode b_M_isShort 27 = .ok (.iload_n 1, 1) := by decide +kernel
theorem d_M_isShort_28 : decode b_M_isShort 28 = .ok (.iload_n 3, 1) := by decide +kernel
theorem d_M_isShort_29 : decode b_M_isShort 29 = .ok (.invokevirtual 137, 3) := by decide +kernel
theorem d_M_isShort_32 : decode b_M_isShort 32 = .ok (.aload_n 0, 1) := by decide +kernel
theorem d_M_isShort_33 : decode b_M_isShort 33 = .ok (.iload_n 2, 1) := by decide +kernel
theorem d_M_isShort_34 : decode b_M_isShort 34 = .ok (.iload 4, 2) := by decide +kernel
theorem d_M_isShort_36 : decode b_M_isShort 36 = .ok (.invokevirtual 137, 3) := by decide +kernel
theorem d_M_isShort_39 : decode b_M_isShort 39 = .ok (.if_icmp .ne 5, 3) := by decide +kernel
theorem d_M_isShort_42 : decode b_M_isShort 42 = .ok (.iconst 1, 1) := by decide +kernel
theorem d_M_isShort_43 : decode b_M_isShort 43 = .ok (.ireturn, 1) := by decide +kernel
theorem d_M_isShort_44 : decode b_M_isShort 44 = .ok (.iinc 4 1, 3) := by decide +kernel
theorem d_M_isShort_47 : decode b_M_isShort 47 = .ok (.goto (-32), 3) := by decide +kernel
theorem d_M_isShort_50 : decode b_M_isShort 50 = .ok (.iinc 3 1, 3) := by decide +kernel
theorem d_M_isShort_53 : decode b_M_isShort 53 = .ok (.goto (-51), 3) := by decide +kernel
theorem d_M_isShort_56 : decode b_M_isShort 56 = .ok (.iconst 0, 1) := by decide +kernel
theorem d_M_isShort_57 : decode b_M_isShort 57 = .ok (.ireturn, 1) := by decide +kernel
theorem d_M_faults_0 : decode b_M_faults 0 = .ok (.aload_n 0, 1) := by decide +kernel
theorem d_M_faults_1 : decode b_M_faults 1 = .ok (.getfield 9, 3) := by decide +kernel
theorem d_M_faults_4 : decode b_M_faults 4 = .ok (.iconst (-1), 1) := by decide +kernel
theorem d_M_faults_5 : decode b_M_faults 5 = .ok (.if_icmp .ne 9, 3) := by decide +kernel
theorem d_M_faults_8 : decode b_M_faults 8 = .ok (.aload_n 0, 1) := by decide +kernel
theorem d_M_faults_9 : decode b_M_faults 9 = .ok (.iconst 1, 1) := by decide +kernel
theorem d_M_faults_10 : decode b_M_faults 10 = .ok (.invokevirtual 69, 3) := by decide +kernel
theorem d_M_faults_13 : decode b_M_faults 13 = .ok (.ireturn, 1) := by decide +kernel
theorem d_M_faults_14 : decode b_M_faults 14 = .ok (.aload_n 0, 1) := by decide +kernel
theorem d_M_faults_15 : decode b_M_faults 15 = .ok (.iconst 0, 1) := by decide +kernel
theorem d_M_faults_16 : decode b_M_faults 16 = .ok (.putfield 55, 3) := by decide +kernel
theorem d_M_faults_19 : decode b_M_faults 19 = .ok (.iconst 0, 1) := by decide +kernel
theorem d_M_faults_20 : decode b_M_faults 20 = .ok (.istore_n 2, 1) := by decide +kernel
theorem d_M_faults_21 : decode b_M_faults 21 = .ok (.aload_n 0, 1) := by decide +kernel
theorem d_M_faults_22 : decode b_M_faults 22 = .ok (.invokevirtual 131, 3) := by decide +kernel
theorem d_M_faults_25 : decode b_M_faults 25 = .ok (.iconst 0, 1) := by decide +kernel
theorem d_M_faults_26 : decode b_M_faults 26 = .ok (.istore_n 3, 1) := by decide +kernel
theorem d_M_faults_27 : decode b_M_faults 27 = .ok (.iload_n 3, 1) := by decide +kernel
theorem d_M_faults_28 : decode b_M_faults 28 = .ok (.bipush 12, 2) := by decide +kernel
theorem d_M_faults_30 : decode b_M_faults 30 = .ok (.if_icmp .ge 76, 3) := by decide +kernel
theorem d_M_faults_33 : decode b_M_faults 33 = .ok (.aload_n 0, 1) := by decide +kernel
theorem d_M_faults_34 : decode b_M_faults 34 = .ok (.iload_n 3, 1) := by decide +kernel
theorem d_M_faults_35 : decode b_M_faults 35 = .ok (.invokevirtual 89, 3) := by decide +kernel
theorem d_M_faults_38 : decode b_M_faults 38 = .ok (.ifCond .ne 6, 3) := by decide +kernel
theorem d_M_faults_41 : decode b_M_faults 41 = .ok (.goto 59, 3) := by decide +kernel
theorem d_M_faults_44 : decode b_M_faults 44 = .ok (.iload_n 1, 1) := by decide +kernel
theorem d_M_faults_45 : decode b_M_faults 45 = .ok (.ifCond .ne 14, 3) := by decide +kernel
theorem d_M_faults_48 : decode b_M_faults 48 = .ok (.aload_n 0, 1) := by decide +kernel
theorem d_M_faults_49 : decode b_M_faults 49 = .ok (.iload_n 3, 1) := by decide +kernel
theorem d_M_faults_50 : decode b_M_faults 50 = .ok (.invokevirtual 140, 3) := by decide +kernel
theorem d_M_faults_53 : decode b_M_faults 53 = .ok (.ifCond .eq 6, 3) := by decide +kernel
theorem d_M_faults_56 : decode b_M_faults 56 = .ok (.iinc 2 1, 3) := by decide +kernel
theorem d_M_faults_59 : decode b_M_faults 59 = .ok (.iconst 0, 1) := by decide +kernel
theorem d_M_faults_60 : decode b_M_faults 60 = .ok (.istore 4, 2) := by decide +kernel
theorem d_M_faults_62 : decode b_M_faults 62 = .ok (.iload 4, 2) := by decide +kernel
theorem d_M_faults_64 : decode b_M_faults 64 = .ok (.iload_n 3, 1) := by decide +kernel
theorem d_M_faults_65 : decode b_M_faults 65 = .ok (.if_icmp .ge 35, 3) := by decide +kernel
theorem d_M_faults_68 : decode b_M_faults 68 = .ok (.iload_n 1, 1) := by decide +kernel
theorem d_M_faults_69 : decode b_M_faults 69 = .ok (.ifCond .eq 31, 3) := by decide +kernel
theorem d_M_faults_72 : decode b_M_faults 72 = .ok (.aload_n 0, 1) := by decide +kernel
theorem d_M_faults_73 : decode b_M_faults 73 = .ok (.iload 4, 2) := by decide +kernel
theorem d_M_faults_75 : decode b_M_faults 75 = .ok (.invokevirtual 89, 3) := by decide +kernel
theorem d_M_faults_78 : decode b_M_faults 78 = .ok (.ifCond .eq 16, 3) := by decide +kernel
theorem d_M_faults_81 : decode b_M_faults 81 = .ok (.aload_n 0, 1) := by decide +kernel
theorem d_M_faults_82 : decode b_M_faults 82 = .ok (.iload_n 3, 1) := by decide +kernel
theorem d_M_faults_83 : decode b_M_faults 83 = .ok (.iload 4, 2) := by decide +kernel
theorem d_M_faults_85 : decode b_M_faults 85 = .ok (.invokevirtual 143, 3) := by decide +kernel
theorem d_M_faults_88 : decode b_M_faults 88 = .ok (.ifCond .eq 6, 3) := by decide +kernel
theorem d_M_faults_91 : decode b_M_faults 91 = .ok (.iinc 2 1, 3) := by decide +kernel
theorem d_M_faults_94 : decode b_M_faults 94 = .ok (.iinc 4 1, 3) := by decide +kernel
theorem d_M_faults_97 : decode b_M_faults 97 = .ok (.goto (-35), 3) := by decide +kernel
theorem d_M_faults_100 : decode b_M_faults 100 = .ok (.iinc 3 1, 3) := by decide +kernel
theorem d_M_faults_103 : decode b_M_faults 103 = .ok (.goto (-76), 3) := by decide +kernel
theorem d_M_faults_106 : decode b_M_faults 106 = .ok (.iload_n 2, 1) := by decide +kernel
theorem d_M_faults_107 : decode b_M_faults 107 = .ok (.ireturn, 1) := by decide +kernel
theorem d_M_time_0 : decode b_M_time 0 = .ok (.iload_n 1, 1) := by decide +kernel
theorem d_M_time_1 : decode b_M_time 1 = .ok (.iconst 0, 1) := by decide +kernel
theorem d_M_time_2 : decode b_M_time 2 = .ok (.iconst 3, 1) := by decide +kernel
theorem d_M_time_3 : decode b_M_time 3 = .ok (.invokestatic 65, 3) := by decide +kernel
theorem d_M_time_6 : decode b_M_time 6 = .ok (.ifCond .eq 17, 3) := by decide +kernel
theorem d_M_time_9 : decode b_M_time 9 = .ok (.dload_n 2, 1) := by decide +kernel
theorem d_M_time_10 : decode b_M_time 10 = .ok (.dconst 0, 1) := by decide +kernel
theorem d_M_time_11 : decode b_M_time 11 = .ok (.dcmp .l, 1) := by decide +kernel
theorem d_M_time_12 : decode b_M_time 12 = .ok (.ifCond .lt 11, 3) := by decide +kernel
theorem d_M_time_15 : decode b_M_time 15 = .ok (.dload_n 2, 1) := by decide +kernel
theorem d_M_time_16 : decode b_M_time 16 = .ok (.ldc2_w 146, 3) := by decide +kernel
theorem d_M_time_19 : decode b_M_time 19 = .ok (.dcmp .g, 1) := by decide +kernel
theorem d_M_time_20 : decode b_M_time 20 = .ok (.ifCond .le 10, 3) := by decide +kernel
theorem d_M_time_23 : decode b_M_time 23 = .ok (.aload_n 0, 1) := by decide +kernel
theorem d_M_time_24 : decode b_M_time 24 = .ok (.iconst 1, 1) := by decide +kernel
theorem d_M_time_25 : decode b_M_time 25 = .ok (.invokevirtual 69, 3) := by decide +kernel
theorem d_M_time_28 : decode b_M_time 28 = .ok (.i2d, 1) := by decide +kernel
theorem d_M_time_29 : decode b_M_time 29 = .ok (.dreturn, 1) := by decide +kernel
theorem d_M_time_30 : decode b_M_time 30 = .ok (.aload_n 0, 1) := by decide +kernel
theorem d_M_time_31 : decode b_M_time 31 = .ok (.iconst 0, 1) := by decide +kernel
theorem d_M_time_32 : decode b_M_time 32 = .ok (.putfield 55, 3) := by decide +kernel
theorem d_M_time_35 : decode b_M_time 35 = .ok (.aload_n 0, 1) := by decide +kernel
theorem d_M_time_36 : decode b_M_time 36 = .ok (.getfield 35, 3) := by decide +kernel
theorem d_M_time_39 : decode b_M_time 39 = .ok (.iload_n 1, 1) := by decide +kernel
theorem d_M_time_40 : decode b_M_time 40 = .ok (.daload, 1) := by decide +kernel
theorem d_M_time_41 : decode b_M_time 41 = .ok (.dstore 4, 2) := by decide +kernel
theorem d_M_time_43 : decode b_M_time 43 = .ok (.aload_n 0, 1) := by decide +kernel
theorem d_M_time_44 : decode b_M_time 44 = .ok (.getfield 35, 3) := by decide +kernel
theorem d_M_time_47 : decode b_M_time 47 = .ok (.iload_n 1, 1) := by decide +kernel
theorem d_M_time_48 : decode b_M_time 48 = .ok (.dload_n 2, 1) := by decide +kernel
theorem d_M_time_49 : decode b_M_time 49 = .ok (.dastore, 1) := by decide +kernel
theorem d_M_time_50 : decode b_M_time 50 = .ok (.dload 4, 2) := by decide +kernel
theorem d_M_time_52 : decode b_M_time 52 = .ok (.dreturn, 1) := by decide +kernel
theorem d_M_delayOf_0 : decode b_M_delayOf 0 = .ok (.aload_n 0, 1) := by decide +kernel
theorem d_M_delayOf_1 : decode b_M_delayOf 1 = .ok (.iload_n 1, 1) := by decide +kernel
theorem d_M_delayOf_2 : decode b_M_delayOf 2 = .ok (.invokevirtual 119, 3) := by decide +kernel
theorem d_M_delayOf_5 : decode b_M_delayOf 5 = .ok (.i2d, 1) := by decide +kernel
theorem d_M_delayOf_6 : decode b_M_delayOf 6 = .ok (.dstore_n 2, 1) := by decide +kernel
theorem d_M_delayOf_7 : decode b_M_delayOf 7 = .ok (.dload_n 2, 1) := by decide +kernel
theorem d_M_delayOf_8 : decode b_M_delayOf 8 = .ok (.dconst 0, 1) := by decide +kernel
theorem d_M_delayOf_9 : decode b_M_delayOf 9 = .ok (.dcmp .l, 1) := by decide +kernel
theorem d_M_delayOf_10 : decode b_M_delayOf 10 = .ok (.ifCond .ne 7, 3) := by decide +kernel
theorem d_M_delayOf_13 : decode b_M_delayOf 13 = .ok (.dconst 0, 1) := by decide +kernel
theorem d_M_delayOf_14 : decode b_M_delayOf 14 = .ok (.goto 21, 3) := by decide +kernel
theorem d_M_delayOf_17 : decode b_M_delayOf 17 = .ok (.ldc2_w 148, 3) := by decide +kernel
theorem d_M_delayOf_20 : decode b_M_delayOf 20 = .ok (.dload_n 2, 1) := by decide +kernel
theorem d_M_delayOf_21 : decode b_M_delayOf 21 = .ok (.dmul, 1) := by decide +kernel
theorem d_M_delayOf_22 : decode b_M_delayOf 22 = .ok (.ldc2_w 150, 3) := by decide +kernel
theorem d_M_delayOf_25 : decode b_M_delayOf 25 = .ok (.dload_n 2, 1) := by decide +kernel
theorem d_M_delayOf_26 : decode b_M_delayOf 26 = .ok (.dmul, 1) := by decide +kernel
theorem d_M_delayOf_27 : decode b_M_delayOf 27 = .ok (.aload_n 0, 1) := by decide +kernel
theorem d_M_delayOf_28 : decode b_M_delayOf 28 = .ok (.iload_n 1, 1) := by decide +kernel
theorem d_M_delayOf_29 : decode b_M_delayOf 29 = .ok (.invokevirtual 79, 3) := by decide +kernel
theorem d_M_delayOf_32 : decode b_M_delayOf 32 = .ok (.i2d, 1) := by decide +kernel
theorem d_M_delayOf_33 : decode b_M_delayOf 33 = .ok (.dadd, 1) := by decide +kernel
theorem d_M_delayOf_34 : decode b_M_delayOf 34 = .ok (.dmul, 1) := by decide +kernel
theorem d_M_delayOf_35 : decode b_M_delayOf 35 = .ok (.dreturn, 1) := by decide +kernel
theorem d_M_delay_0 : decode b_M_delay 0 = .ok (.iload_n 1, 1) := by decide +kernel
theorem d_M_delay_1 : decode b_M_delay 1 = .ok (.iconst 0, 1) := by decide +kernel
theorem d_M_delay_2 : decode b_M_delay 2 = .ok (.bipush 11, 2) := by decide +kernel
theorem d_M_delay_4 : decode b_M_delay 4 = .ok (.invokestatic 65, 3) := by decide +kernel
theorem d_M_delay_7 : decode b_M_delay 7 = .ok (.ifCond .ne 10, 3) := by decide +kernel
theorem d_M_delay_10 : decode b_M_delay 10 = .ok (.aload_n 0, 1) := by decide +kernel
theorem d_M_delay_11 : decode b_M_delay 11 = .ok (.iconst 1, 1) := by decide +kernel
theorem d_M_delay_12 : decode b_M_delay 12 = .ok (.invokevirtual 69, 3) := by decide +kernel
theorem d_M_delay_15 : decode b_M_delay 15 = .ok (.i2d, 1) := by decide +kernel
theorem d_M_delay_16 : decode b_M_delay 16 = .ok (.dreturn, 1) := by decide +kernel
theorem d_M_delay_17 : decode b_M_delay 17 = .ok (.aload_n 0, 1) := by decide +kernel
theorem d_M_delay_18 : decode b_M_delay 18 = .ok (.getfield 9, 3) := by decide +kernel
theorem d_M_delay_21 : decode b_M_delay 21 = .ok (.iconst (-1), 1) := by decide +kernel
theorem d_M_delay_22 : decode b_M_delay 22 = .ok (.if_icmp .ne 10, 3) := by decide +kernel
theorem d_M_delay_25 : decode b_M_delay 25 = .ok (.aload_n 0, 1) := by decide +kernel
theorem d_M_delay_26 : decode b_M_delay 26 = .ok (.iconst 2, 1) := by decide +kernel
theorem d_M_delay_27 : decode b_M_delay 27 = .ok (.invokevirtual 69, 3) := by decide +kernel
theorem d_M_delay_30 : decode b_M_delay 30 = .ok (.i2d, 1) := by decide +kernel
theorem d_M_delay_31 : decode b_M_delay 31 = .ok (.dreturn, 1) := by decide +kernel
theorem d_M_delay_32 : decode b_M_delay 32 = .ok (.aload_n 0, 1) := by decide +kernel
theorem d_M_delay_33 : decode b_M_delay 33 = .ok (.iconst 0, 1) := by decide +kernel
theorem d_M_delay_34 : decode b_M_delay 34 = .ok (.putfield 55, 3) := by decide +kernel
theorem d_M_delay_37 : decode b_M_delay 37 = .ok (.aload_n 0, 1) := by decide +kernel
theorem d_M_delay_38 : decode b_M_delay 38 = .ok (.iload_n 1, 1) := by decide +kernel
theorem d_M_delay_39 : decode b_M_delay 39 = .ok (.invokevirtual 152, 3) := by decide +kernel
theorem d_M_delay_42 : decode b_M_delay 42 = .ok (.dreturn, 1) := by decide +kernel
theorem d_M_isReady_0 : decode b_M_isReady 0 = .ok (.aload_n 0, 1) := by decide +kernel
theorem d_M_isReady_1 : decode b_M_isReady 1 = .ok (.iload_n 1, 1) := by decide +kernel
theorem d_M_isReady_2 : decode b_M_isReady 2 = .ok (.invokevirtual 72, 3) := by decide +kernel
theorem d_M_isReady_5 : decode b_M_isReady 5 = .ok (.istore_n 2, 1) := by decide +kernel
theorem d_M_isReady_6 : decode b_M_isReady 6 = .ok (.iload_n 2, 1) := by decide +kernel
theorem d_M_isReady_7 : decode b_M_isReady 7 = .ok (.iconst (-1), 1) := by decide +kernel
theorem d_M_isReady_8 : decode b_M_isReady 8 = .ok (.if_icmp .eq 41, 3) := by decide +kernel
theorem d_M_isReady_11 : decode b_M_isReady 11 = .ok (.aload_n 0, 1) := by decide +kernel
theorem d_M_isReady_12 : decode b_M_isReady 12 = .ok (.getfield 51, 3) := by decide +kernel
theorem d_M_isReady_15 : decode b_M_isReady 15 = .ok (.aload_n 0, 1) := by decide +kernel
theorem d_M_isReady_16 : decode b_M_isReady 16 = .ok (.getfield 17, 3) := by decide +kernel
theorem d_M_isReady_19 : decode b_M_isReady 19 = .ok (.iload_n 2, 1) := by decide +kernel
theorem d_M_isReady_20 : decode b_M_isReady 20 = .ok (.iaload, 1) := by decide +kernel
theorem d_M_isReady_21 : decode b_M_isReady 21 = .ok (.baload, 1) := by decide +kernel
theorem d_M_isReady_22 : decode b_M_isReady 22 = .ok (.ifCond .eq 31, 3) := by decide +kernel
theorem d_M_isReady_25 : decode b_M_isReady 25 = .ok (.aload_n 0, 1) := by decide +kernel
theorem d_M_isReady_26 : decode b_M_isReady 26 = .ok (.getfield 13, 3) := by decide +kernel
theorem d_M_isReady_29 : decode b_M_isReady 29 = .ok (.iload_n 2, 1) := by decide +kernel
theorem d_M_isReady_30 : decode b_M_isReady 30 = .ok (.iaload, 1) := by decide +kernel
theorem d_M_isReady_31 : decode b_M_isReady 31 = .ok (.iconst 2, 1) := by decide +kernel
theorem d_M_isReady_32 : decode b_M_isReady 32 = .ok (.if_icmp .lt 17, 3) := by decide +kernel
theorem d_M_isReady_35 : decode b_M_isReady 35 = .ok (.aload_n 0, 1) := by decide +kernel
theorem d_M_isReady_36 : decode b_M_isReady 36 = .ok (.getfield 51, 3) := by decide +kernel
theorem d_M_isReady_39 : decode b_M_isReady 39 = .ok (.aload_n 0, 1) := by decide +kernel
theorem d_M_isReady_40 : decode b_M_isReady 40 = .ok (.getfield 20, 3) := by decide +kernel
theorem d_M_isReady_43 : decode b_M_isReady 43 = .ok (.iload_n 2, 1) := by decide +kernel
theorem d_M_isReady_44 : decode b_M_isReady 44 = .ok (.iaload, 1) := by decide +kernel
theorem d_M_isReady_45 : decode b_M_isReady 45 = .ok (.baload, 1) := by decide +kernel
theorem d_M_isReady_46 : decode b_M_isReady 46 = .ok (.ifCond .eq 7, 3) := by decide +kernel
theorem d_M_isReady_49 : decode b_M_isReady 49 = .ok (.iconst 1, 1) := by decide +kernel
theorem d_M_isReady_50 : decode b_M_isReady 50 = .ok (.goto 4, 3) := by decide +kernel
theorem d_M_isReady_53 : decode b_M_isReady 53 = .ok (.iconst 0, 1) := by decide +kernel
theorem d_M_isReady_54 : decode b_M_isReady 54 = .ok (.ireturn, 1) := by decide +kernel
theorem d_M_arrival_0 : decode b_M_arrival 0 = .ok (.iload_n 1, 1) := by decide +kernel
theorem d_M_arrival_1 : decode b_M_arrival 1 = .ok (.iconst 0, 1) := by decide +kernel
theorem d_M_arrival_2 : decode b_M_arrival 2 = .ok (.bipush 11, 2) := by decide +kernel
theorem d_M_arrival_4 : decode b_M_arrival 4 = .ok (.invokestatic 65, 3) := by decide +kernel
theorem d_M_arrival_7 : decode b_M_arrival 7 = .ok (.ifCond .ne 10, 3) := by decide +kernel
theorem d_M_arrival_10 : decode b_M_arrival 10 = .ok (.aload_n 0, 1) := by decide +kernel
theorem d_M_arrival_11 : decode b_M_arrival 11 = .ok (.iconst 1, 1) := by decide +kernel
theorem d_M_arrival_12 : decode b_M_arrival 12 = .ok (.invokevirtual 69, 3) := by decide +kernel
theorem d_M_arrival_15 : decode b_M_arrival 15 = .ok (.i2d, 1) := by decide +kernel
theorem d_M_arrival_16 : decode b_M_arrival 16 = .ok (.dreturn, 1) := by decide +kernel
theorem d_M_arrival_17 : decode b_M_arrival 17 = .ok (.aload_n 0, 1) := by decide +kernel
theorem d_M_arrival_18 : decode b_M_arrival 18 = .ok (.getfield 9, 3) := by decide +kernel
theorem d_M_arrival_21 : decode b_M_arrival 21 = .ok (.iconst (-1), 1) := by decide +kernel
theorem d_M_arrival_22 : decode b_M_arrival 22 = .ok (.if_icmp .ne 10, 3) := by decide +kernel
theorem d_M_arrival_25 : decode b_M_arrival 25 = .ok (.aload_n 0, 1) := by decide +kernel
theorem d_M_arrival_26 : decode b_M_arrival 26 = .ok (.iconst 2, 1) := by decide +kernel
theorem d_M_arrival_27 : decode b_M_arrival 27 = .ok (.invokevirtual 69, 3) := by decide +kernel
theorem d_M_arrival_30 : decode b_M_arrival 30 = .ok (.i2d, 1) := by decide +kernel
theorem d_M_arrival_31 : decode b_M_arrival 31 = .ok (.dreturn, 1) := by decide +kernel
theorem d_M_arrival_32 : decode b_M_arrival 32 = .ok (.iconst 0, 1) := by decide +kernel
theorem d_M_arrival_33 : decode b_M_arrival 33 = .ok (.istore_n 2, 1) := by decide +kernel
theorem d_M_arrival_34 : decode b_M_arrival 34 = .ok (.iload_n 2, 1) := by decide +kernel
theorem d_M_arrival_35 : decode b_M_arrival 35 = .ok (.bipush 12, 2) := by decide +kernel
theorem d_M_arrival_37 : decode b_M_arrival 37 = .ok (.if_icmp .ge 16, 3) := by decide +kernel
theorem d_M_arrival_40 : decode b_M_arrival 40 = .ok (.aload_n 0, 1) := by decide +kernel
theorem d_M_arrival_41 : decode b_M_arrival 41 = .ok (.getfield 51, 3) := by decide +kernel
theorem d_M_arrival_44 : decode b_M_arrival 44 = .ok (.iload_n 2, 1) := by decide +kernel
theorem d_M_arrival_45 : decode b_M_arrival 45 = .ok (.iconst 0, 1) := by decide +kernel
theorem d_M_arrival_46 : decode b_M_arrival 46 = .ok (.bastore, 1) := by decide +kernel
theorem d_M_arrival_47 : decode b_M_arrival 47 = .ok (.iinc 2 1, 3) := by decide +kernel
theorem d_M_arrival_50 : decode b_M_arrival 50 = .ok (.goto (-16), 3) := by decide +kernel
theorem d_M_arrival_53 : decode b_M_arrival 53 = .ok (.iconst 0, 1) := by decide +kernel
theorem d_M_arrival_54 : decode b_M_arrival 54 = .ok (.istore_n 2, 1) := by decide +kernel
theorem d_M_arrival_55 : decode b_M_arrival 55 = .ok (.iload_n 2, 1) := by decide +kernel
theorem d_M_arrival_56 : decode b_M_arrival 56 = .ok (.bipush 13, 2) := by decide +kernel
theorem d_M_arrival_58 : decode b_M_arrival 58 = .ok (.if_icmp .ge 169, 3) := by decide +kernel
theorem d_M_arrival_61 : decode b_M_arrival 61 = .ok (.iconst 0, 1) := by decide +kernel
theorem d_M_arrival_62 : decode b_M_arrival 62 = .ok (.istore_n 3, 1) := by decide +kernel
theorem d_M_arrival_63 : decode b_M_arrival 63 = .ok (.iload_n 3, 1) := by decide +kernel
theorem d_M_arrival_64 : decode b_M_arrival 64 = .ok (.bipush 12, 2) := by decide +kernel
theorem d_M_arrival_66 : decode b_M_arrival 66 = .ok (.if_icmp .ge 155, 3) := by decide +kernel
theorem d_M_arrival_69 : decode b_M_arrival 69 = .ok (.aload_n 0, 1) := by decide +kernel
theorem d_M_arrival_70 : decode b_M_arrival 70 = .ok (.getfield 51, 3) := by decide +kernel
theorem d_M_arrival_73 : decode b_M_arrival 73 = .ok (.iload_n 3, 1) := by decide +kernel
theorem d_M_arrival_74 : decode b_M_arrival 74 = .ok (.baload, 1) := by decide +kernel
theorem d_M_arrival_75 : decode b_M_arrival 75 = .ok (.ifCond .ne 140, 3) := by decide +kernel
theorem d_M_arrival_78 : decode b_M_arrival 78 = .ok (.aload_n 0, 1) := by decide +kernel
theorem d_M_arrival_79 : decode b_M_arrival 79 = .ok (.iload_n 3, 1) := by decide +kernel
theorem d_M_arrival_80 : decode b_M_arrival 80 = .ok (.invokevirtual 156, 3) := by decide +kernel
theorem d_M_arrival_83 : decode b_M_arrival 83 = .ok (.ifCond .ne 6, 3) := by decide +kernel
theorem d_M_arrival_86 : decode b_M_arrival 86 = .ok (.goto 129, 3) := by decide +kernel
theorem d_M_arrival_89 : decode b_M_arrival 89 = .ok (.aload_n 0, 1) := by decide +kernel
theorem d_M_arrival_90 : decode b_M_arrival 90 = .ok (.getfield 51, 3) := by decide +kernel
theorem d_M_arrival_93 : decode b_M_arrival 93 = .ok (.iload_n 3, 1) := by decide +kernel
theorem d_M_arrival_94 : decode b_M_arrival 94 = .ok (.iconst 1, 1) := by decide +kernel
theorem d_M_arrival_95 : decode b_M_arrival 95 = .ok (.bastore, 1) := by decide +kernel
theorem d_M_arrival_96 : decode b_M_arrival 96 = .ok (.aload_n 0, 1) := by decide +kernel
theorem d_M_arrival_97 : decode b_M_arrival 97 = .ok (.getfield 48, 3) := by decide +kernel
theorem d_M_arrival_100 : decode b_M_arrival 100 = .ok (.iload_n 3, 1) := by decide +kernel
theorem d_M_arrival_101 : decode b_M_arrival 101 = .ok (.dconst 0, 1) := by decide +kernel
theorem d_M_arrival_102 : decode b_M_arrival 102 = .ok (.dastore, 1) := by decide +kernel
theorem d_M_arrival_103 : decode b_M_arrival 103 = .ok (.aload_n 0, 1) := by decide +kernel
theorem d_M_arrival_104 : decode b_M_arrival 104 = .ok (.iload_n 3, 1) := by decide +kernel
theorem d_M_arrival_105 : decode b_M_arrival 105 = .ok (.invokevirtual 72, 3) := by decide +kernel
theorem d_M_arrival_108 : decode b_M_arrival 108 = .ok (.istore 4, 2) := by decide +kernel
theorem d_M_arrival_110 : decode b_M_arrival 110 = .ok (.iload 4, 2) := by decide +kernel
theorem d_M_arrival_112 : decode b_M_arrival 112 = .ok (.iconst (-1), 1) := by decide +kernel
theorem d_M_arrival_113 : decode b_M_arrival 113 = .ok (.if_icmp .ne 6, 3) := by decide +kernel
theorem d_M_arrival_116 : decode b_M_arrival 116 = .ok (.goto 99, 3) := by decide +kernel
theorem d_M_arrival_119 : decode b_M_arrival 119 = .ok (.aload_n 0, 1) := by decide +kernel
theorem d_M_arrival_120 : decode b_M_arrival 120 = .ok (.getfield 48, 3) := by decide +kernel
theorem d_M_arrival_123 : decode b_M_arrival 123 = .ok (.aload_n 0, 1) := by decide +kernel
theorem d_M_arrival_124 : decode b_M_arrival 124 = .ok (.getfield 17, 3) := by decide +kernel
theorem d_M_arrival_127 : decode b_M_arrival 127 = .ok (.iload 4, 2) := by decide +kernel
theorem d_M_arrival_129 : decode b_M_arrival 129 = .ok (.iaload, 1) := by decide +kernel
theorem d_M_arrival_130 : decode b_M_arrival 130 = .ok (.daload, 1) := by decide +kernel
theorem d_M_arrival_131 : decode b_M_arrival 131 = .ok (.aload_n 0, 1) := by decide +kernel
theorem d_M_arrival_132 : decode b_M_arrival 132 = .ok (.aload_n 0, 1) := by decide +kernel
theorem d_M_arrival_133 : decode b_M_arrival 133 = .ok (.getfield 17, 3) := by decide +kernel
theorem d_M_arrival_136 : decode b_M_arrival 136 = .ok (.iload 4, 2) := by decide +kernel
theorem d_M_arrival_138 : decode b_M_arrival 138 = .ok (.iaload, 1) := by decide +kernel
theorem d_M_arrival_139 : decode b_M_arrival 139 = .ok (.invokevirtual 152, 3) := by decide +kernel
theorem d_M_arrival_142 : decode b_M_arrival 142 = .ok (.dadd, 1) := by decide +kernel
theorem d_M_arrival_143 : decode b_M_arrival 143 = .ok (.dstore 5, 2) := by decide +kernel
theorem d_M_arrival_145 : decode b_M_arrival 145 = .ok (.aload_n 0, 1) := by decide +kernel
theorem d_M_arrival_146 : decode b_M_arrival 146 = .ok (.getfield 13, 3) := by decide +kernel
theorem d_M_arrival_149 : decode b_M_arrival 149 = .ok (.iload 4, 2) := by decide +kernel
theorem d_M_arrival_151 : decode b_M_arrival 151 = .ok (.iaload, 1) := by decide +kernel
theorem d_M_arrival_152 : decode b_M_arrival 152 = .ok (.iconst 1, 1) := by decide +kernel
theorem d_M_arrival_153 : decode b_M_arrival 153 = .ok (.if_icmp .le 41, 3) := by decide +kernel
theorem d_M_arrival_156 : decode b_M_arrival 156 = .ok (.aload_n 0, 1) := by decide +kernel
theorem d_M_arrival_157 : decode b_M_arrival 157 = .ok (.getfield 48, 3) := by decide +kernel
theorem d_M_arrival_160 : decode b_M_arrival 160 = .ok (.aload_n 0, 1) := by decide +kernel
theorem d_M_arrival_161 : decode b_M_arrival 161 = .ok (.getfield 20, 3) := by decide +kernel
theorem d_M_arrival_164 : decode b_M_arrival 164 = .ok (.iload 4, 2) := by decide +kernel
theorem d_M_arrival_166 : decode b_M_arrival 166 = .ok (.iaload, 1) := by decide +kernel
theorem d_M_arrival_167 : decode b_M_arrival 167 = .ok (.daload, 1) := by decide +kernel
theorem d_M_arrival_168 : decode b_M_arrival 168 = .ok (.aload_n 0, 1) := by decide +kernel
theorem d_M_arrival_169 : decode b_M_arrival 169 = .ok (.aload_n 0, 1) := by decide +kernel
theorem d_M_arrival_170 : decode b_M_arrival 170 = .ok (.getfield 20, 3) := by decide +kernel
theorem d_M_arrival_173 : decode b_M_arrival 173 = .ok (.iload 4, 2) := by decide +kernel
theorem d_M_arrival_175 : decode b_M_arrival 175 = .ok (.iaload, 1) := by decide +kernel
theorem d_M_arrival_176 : decode b_M_arrival 176 = .ok (.invokevirtual 152, 3) := by decide +kernel
theorem d_M_arrival_179 : decode b_M_arrival 179 = .ok (.dadd, 1) := by decide +kernel
theorem d_M_arrival_180 : decode b_M_arrival 180 = .ok (.dstore 7, 2) := by decide +kernel
theorem d_M_arrival_182 : decode b_M_arrival 182 = .ok (.dload 7, 2) := by decide +kernel
theorem d_M_arrival_184 : decode b_M_arrival 184 = .ok (.dload 5, 2) := by decide +kernel
theorem d_M_arrival_186 : decode b_M_arrival 186 = .ok (.dcmp .l, 1) := by decide +kernel
theorem d_M_arrival_187 : decode b_M_arrival 187 = .ok (.ifCond .le 7, 3) := by decide +kernel
theorem d_M_arrival_190 : decode b_M_arrival 190 = .ok (.dload 7, 2) := by decide +kernel
theorem d_M_arrival_192 : decode b_M_arrival 192 = .ok (.dstore 5, 2) := by decide +kernel
theorem d_M_arrival_194 : decode b_M_arrival 194 = .ok (.aload_n 0, 1) := by decide +kernel
theorem d_M_arrival_195 : decode b_M_arrival 195 = .ok (.getfield 48, 3) := by decide +kernel
theorem d_M_arrival_198 : decode b_M_arrival 198 = .ok (.iload_n 3, 1) := by decide +kernel
theorem d_M_arrival_199 : decode b_M_arrival 199 = .ok (.dload 5, 2) := by decide +kernel
theorem d_M_arrival_201 : decode b_M_arrival 201 = .ok (.aload_n 0, 1) := by decide +kernel
theorem d_M_arrival_202 : decode b_M_arrival 202 = .ok (.getfield 35, 3) := by decide +kernel
theorem d_M_arrival_205 : decode b_M_arrival 205 = .ok (.aload_n 0, 1) := by decide +kernel
theorem d_M_arrival_206 : decode b_M_arrival 206 = .ok (.getfield 13, 3) := by decide +kernel
theorem d_M_arrival_209 : decode b_M_arrival 209 = .ok (.iload 4, 2) := by decide +kernel
theorem d_M_arrival_211 : decode b_M_arrival 211 = .ok (.iaload, 1) := by decide +kernel
theorem d_M_arrival_212 : decode b_M_arrival 212 = .ok (.daload, 1) := by decide +kernel
theorem d_M_arrival_213 : decode b_M_arrival 213 = .ok (.dadd, 1) := by decide +kernel
theorem d_M_arrival_214 : decode b_M_arrival 214 = .ok (.dastore, 1) := by decide +kernel
theorem d_M_arrival_215 : decode b_M_arrival 215 = .ok (.iinc 3 1, 3) := by decide +kernel
theorem d_M_arrival_218 : decode b_M_arrival 218 = .ok (.goto (-155), 3) := by decide +kernel
theorem d_M_arrival_221 : decode b_M_arrival 221 = .ok (.iinc 2 1, 3) := by decide +kernel
theorem d_M_arrival_224 : decode b_M_arrival 224 = .ok (.goto (-169), 3) := by decide +kernel
theorem d_M_arrival_227 : decode b_M_arrival 227 = .ok (.aload_n 0, 1) := by decide +kernel
theorem d_M_arrival_228 : decode b_M_arrival 228 = .ok (.getfield 51, 3) := by decide +kernel
theorem d_M_arrival_231 : decode b_M_arrival 231 = .ok (.iload_n 1, 1) := by decide +kernel
theorem d_M_arrival_232 : decode b_M_arrival 232 = .ok (.baload, 1) := by decide +kernel
theorem d_M_arrival_233 : decode b_M_arrival 233 = .ok (.ifCond .ne 10, 3) := by decide +kernel
theorem d_M_arrival_236 : decode b_M_arrival 236 = .ok (.aload_n 0, 1) := by decide +kernel
theorem d_M_arrival_237 : decode b_M_arrival 237 = .ok (.iconst 3, 1) := by decide +kernel
theorem d_M_arrival_238 : decode b_M_arrival 238 = .ok (.invokevirtual 69, 3) := by decide +kernel
theorem d_M_arrival_241 : decode b_M_arrival 241 = .ok (.i2d, 1) := by decide +kernel
theorem d_M_arrival_242 : decode b_M_arrival 242 = .ok (.dreturn, 1) := by decide +kernel
theorem d_M_arrival_243 : decode b_M_arrival 243 = .ok (.aload_n 0, 1) := by decide +kernel
theorem d_M_arrival_244 : decode b_M_arrival 244 = .ok (.iconst 0, 1) := by decide +kernel
theorem d_M_arrival_245 : decode b_M_arrival 245 = .ok (.putfield 55, 3) := by decide +kernel
theorem d_M_arrival_248 : decode b_M_arrival 248 = .ok (.aload_n 0, 1) := by decide +kernel
theorem d_M_arrival_249 : decode b_M_arrival 249 = .ok (.getfield 48, 3) := by decide +kernel
theorem d_M_arrival_252 : decode b_M_arrival 252 = .ok (.iload_n 1, 1) := by decide +kernel
theorem d_M_arrival_253 : decode b_M_arrival 253 = .ok (.daload, 1) := by decide +kernel
theorem d_M_arrival_254 : decode b_M_arrival 254 = .ok (.dreturn, 1) := by decide +kernel
theorem d_M_simulate_0 : decode b_M_simulate 0 = .ok (.iconst 0, 1) := by decide +kernel
theorem d_M_simulate_1 : decode b_M_simulate 1 = .ok (.istore_n 2, 1) := by decide +kernel
theorem d_M_simulate_2 : decode b_M_simulate 2 = .ok (.iconst 0, 1) := by decide +kernel
theorem d_M_simulate_3 : decode b_M_simulate 3 = .ok (.istore_n 3, 1) := by decide +kernel
theorem d_M_simulate_4 : decode b_M_simulate 4 = .ok (.iconst 0, 1) := by decide +kernel
theorem d_M_simulate_5 : decode b_M_simulate 5 = .ok (.istore 4, 2) := by decide +kernel
theorem d_M_simulate_7 : decode b_M_simulate 7 = .ok (.iload 4, 2) := by decide +kernel
theorem d_M_simulate_9 : decode b_M_simulate 9 = .ok (.bipush 12, 2) := by decide +kernel
theorem d_M_simulate_11 : decode b_M_simulate 11 = .ok (.if_icmp .ge 17, 3) := by decide +kernel
theorem d_M_simulate_14 : decode b_M_simulate 14 = .ok (.aload_n 0, 1) := by decide +kernel
theorem d_M_simulate_15 : decode b_M_simulate 15 = .ok (.getfield 51, 3) := by decide +kernel
theorem d_M_simulate_18 : decode b_M_simulate 18 = .ok (.iload 4, 2) := by decide +kernel
theorem d_M_simulate_20 : decode b_M_simulate 20 = .ok (.iconst 0, 1) := by decide +kernel
theorem d_M_simulate_21 : decode b_M_simulate 21 = .ok (.bastore, 1) := by decide +kernel
theorem d_M_simulate_22 : decode b_M_simulate 22 = .ok (.iinc 4 1, 3) := by decide +kernel
theorem d_M_simulate_25 : decode b_M_simulate 25 = .ok (.goto (-18), 3) := by decide +kernel
theorem d_M_simulate_28 : decode b_M_simulate 28 = .ok (.iconst 0, 1) := by decide +kernel
theorem d_M_simulate_29 : decode b_M_simulate 29 = .ok (.istore 4, 2) := by decide +kernel
theorem d_M_simulate_31 : decode b_M_simulate 31 = .ok (.iload 4, 2) := by decide +kernel
theorem d_M_simulate_33 : decode b_M_simulate 33 = .ok (.bipush 13, 2) := by decide +kernel
theorem d_M_simulate_35 : decode b_M_simulate 35 = .ok (.if_icmp .ge 192, 3) := by decide +kernel
theorem d_M_simulate_38 : decode b_M_simulate 38 = .ok (.iconst 0, 1) := by decide +kernel
theorem d_M_simulate_39 : decode b_M_simulate 39 = .ok (.istore 5, 2) := by decide +kernel
theorem d_M_simulate_41 : decode b_M_simulate 41 = .ok (.iload 5, 2) := by decide +kernel
theorem d_M_simulate_43 : decode b_M_simulate 43 = .ok (.bipush 12, 2) := by decide +kernel
theorem d_M_simulate_45 : decode b_M_simulate 45 = .ok (.if_icmp .ge 176, 3) := by decide +kernel
theorem d_M_simulate_48 : decode b_M_simulate 48 = .ok (.aload_n 0, 1) := by decide +kernel
theorem d_M_simulate_49 : decode b_M_simulate 49 = .ok (.getfield 51, 3) := by decide +kernel
theorem d_M_simulate_52 : decode b_M_simulate 52 = .ok (.iload 5, 2) := by decide +kernel
theorem d_M_simulate_54 : decode b_M_simulate 54 = .ok (.baload, 1) := by decide +kernel
theorem d_M_simulate_55 : decode b_M_simulate 55 = .ok (.ifCond .ne 160, 3) := by decide +kernel
theorem d_M_simulate_58 : decode b_M_simulate 58 = .ok (.aload_n 0, 1) := by decide +kernel
theorem d_M_simulate_59 : decode b_M_simulate 59 = .ok (.iload 5, 2) := by decide +kernel
theorem d_M_simulate_61 : decode b_M_simulate 61 = .ok (.invokevirtual 156, 3) := by decide +kernel
theorem d_M_simulate_64 : decode b_M_simulate 64 = .ok (.ifCond .ne 6, 3) := by decide +kernel
theorem d_M_simulate_67 : decode b_M_simulate 67 = .ok (.goto 148, 3) := by decide +kernel
theorem d_M_simulate_70 : decode b_M_simulate 70 = .ok (.aload_n 0, 1) := by decide +kernel
theorem d_M_simulate_71 : decode b_M_simulate 71 = .ok (.getfield 51, 3) := by decide +kernel
theorem d_M_simulate_74 : decode b_M_simulate 74 = .ok (.iload 5, 2) := by decide +kernel
theorem d_M_simulate_76 : decode b_M_simulate 76 = .ok (.iconst 1, 1) := by decide +kernel
theorem d_M_simulate_77 : decode b_M_simulate 77 = .ok (.bastore, 1) := by decide +kernel
theorem d_M_simulate_78 : decode b_M_simulate 78 = .ok (.iinc 3 1, 3) := by decide +kernel
theorem d_M_simulate_81 : decode b_M_simulate 81 = .ok (.aload_n 0, 1) := by decide +kernel
theorem d_M_simulate_82 : decode b_M_simulate 82 = .ok (.iload 5, 2) := by decide +kernel
theorem d_M_simulate_84 : decode b_M_simulate 84 = .ok (.invokevirtual 72, 3) := by decide +kernel
theorem d_M_simulate_87 : decode b_M_simulate 87 = .ok (.istore 6, 2) := by decide +kernel
theorem d_M_simulate_89 : decode b_M_simulate 89 = .ok (.iload_n 1, 1) := by decide +kernel
theorem d_M_simulate_90 : decode b_M_simulate 90 = .ok (.iload 5, 2) := by decide +kernel
theorem d_M_simulate_92 : decode b_M_simulate 92 = .ok (.ishr, 1) := by decide +kernel
theorem d_M_simulate_93 : decode b_M_simulate 93 = .ok (.iconst 1, 1) := by decide +kernel
theorem d_M_simulate_94 : decode b_M_simulate 94 = .ok (.iand, 1) := by decide +kernel
theorem d_M_simulate_95 : decode b_M_simulate 95 = .ok (.istore 7, 2) := by decide +kernel
theorem d_M_simulate_97 : decode b_M_simulate 97 = .ok (.iload 6, 2) := by decide +kernel
theorem d_M_simulate_99 : decode b_M_simulate 99 = .ok (.iconst (-1), 1) := by decide +kernel
theorem d_M_simulate_100 : decode b_M_simulate 100 = .ok (.if_icmp .eq 107, 3) := by decide +kernel
theorem d_M_simulate_103 : decode b_M_simulate 103 = .ok (.iload_n 2, 1) := by decide +kernel
theorem d_M_simulate_104 : decode b_M_simulate 104 = .ok (.aload_n 0, 1) := by decide +kernel
theorem d_M_simulate_105 : decode b_M_simulate 105 = .ok (.getfield 17, 3) := by decide +kernel
theorem d_M_simulate_108 : decode b_M_simulate 108 = .ok (.iload 6, 2) := by decide +kernel
theorem d_M_simulate_110 : decode b_M_simulate 110 = .ok (.iaload, 1) := by decide +kernel
theorem d_M_simulate_111 : decode b_M_simulate 111 = .ok (.ishr, 1) := by decide +kernel
theorem d_M_simulate_112 : decode b_M_simulate 112 = .ok (.iconst 1, 1) := by decide +kernel
theorem d_M_simulate_113 : decode b_M_simulate 113 = .ok (.iand, 1) := by decide +kernel
theorem d_M_simulate_114 : decode b_M_simulate 114 = .ok (.istore 8, 2) := by decide +kernel
theorem d_M_simulate_116 : decode b_M_simulate 116 = .ok (.aload_n 0, 1) := by decide +kernel
theorem d_M_simulate_117 : decode b_M_simulate 117 = .ok (.getfield 13, 3) := by decide +kernel
theorem d_M_simulate_120 : decode b_M_simulate 120 = .ok (.iload 6, 2) := by decide +kernel
theorem d_M_simulate_122 : decode b_M_simulate 122 = .ok (.iaload, 1) := by decide +kernel
theorem d_M_simulate_123 : decode b_M_simulate 123 = .ok (.iconst 1, 1) := by decide +kernel
theorem d_M_simulate_124 : decode b_M_simulate 124 = .ok (.if_icmp .le 17, 3) := by decide +kernel
theorem d_M_simulate_127 : decode b_M_simulate 127 = .ok (.iload_n 2, 1) := by decide +kernel
theorem d_M_simulate_128 : decode b_M_simulate 128 = .ok (.aload_n 0, 1) := by decide +kernel
theorem d_M_simulate_129 : decode b_M_simulate 129 = .ok (.getfield 20, 3) := by decide +kernel
theorem d_M_simulate_132 : decode b_M_simulate 132 = .ok (.iload 6, 2) := by decide +kernel
theorem d_M_simulate_134 : decode b_M_simulate 134 = .ok (.iaload, 1) := by decide +kernel
theorem d_M_simulate_135 : decode b_M_simulate 135 = .ok (.ishr, 1) := by decide +kernel
theorem d_M_simulate_136 : decode b_M_simulate 136 = .ok (.iconst 1, 1) := by decide +kernel
theorem d_M_simulate_137 : decode b_M_simulate 137 = .ok (.iand, 1) := by decide +kernel
theorem d_M_simulate_138 : decode b_M_simulate 138 = .ok (.goto 4, 3) := by decide +kernel
theorem d_M_simulate_141 : decode b_M_simulate 141 = .ok (.iconst 0, 1) := by decide +kernel
theorem d_M_simulate_142 : decode b_M_simulate 142 = .ok (.istore 9, 2) := by decide +kernel
theorem d_M_simulate_144 : decode b_M_simulate 144 = .ok (.aload_n 0, 1) := by decide +kernel
theorem d_M_simulate_145 : decode b_M_simulate 145 = .ok (.getfield 13, 3) := by decide +kernel
theorem d_M_simulate_148 : decode b_M_simulate 148 = .ok (.iload 6, 2) := by decide +kernel
theorem d_M_simulate_150 : decode b_M_simulate 150 = .ok (.iaload, 1) := by decide +kernel
theorem d_M_simulate_151 : decode b_M_simulate 151 = .ok (.ifCond .ne 10, 3) := by decide +kernel
theorem d_M_simulate_154 : decode b_M_simulate 154 = .ok (.iconst 1, 1) := by decide +kernel
theorem d_M_simulate_155 : decode b_M_simulate 155 = .ok (.iload 8, 2) := by decide +kernel
theorem d_M_simulate_157 : decode b_M_simulate 157 = .ok (.isub, 1) := by decide +kernel
theorem d_M_simulate_158 : decode b_M_simulate 158 = .ok (.goto 47, 3) := by decide +kernel
theorem d_M_simulate_161 : decode b_M_simulate 161 = .ok (.aload_n 0, 1) := by decide +kernel
theorem d_M_simulate_162 : decode b_M_simulate 162 = .ok (.getfield 13, 3) := by decide +kernel
theorem d_M_simulate_165 : decode b_M_simulate 165 = .ok (.iload 6, 2) := by decide +kernel
theorem d_M_simulate_167 : decode b_M_simulate 167 = .ok (.iaload, 1) := by decide +kernel
theorem d_M_simulate_168 : decode b_M_simulate 168 = .ok (.iconst 1, 1) := by decide +kernel
theorem d_M_simulate_169 : decode b_M_simulate 169 = .ok (.if_icmp .ne 8, 3) := by decide +kernel
theorem d_M_simulate_172 : decode b_M_simulate 172 = .ok (.iload 8, 2) := by decide +kernel
theorem d_M_simulate_174 : decode b_M_simulate 174 = .ok (.goto 31, 3) := by decide +kernel
theorem d_M_simulate_177 : decode b_M_simulate 177 = .ok (.aload_n 0, 1) := by decide +kernel
theorem d_M_simulate_178 : decode b_M_simulate 178 = .ok (.getfield 13, 3) := by decide +kernel
theorem d_M_simulate_181 : decode b_M_simulate 181 = .ok (.iload 6, 2) := by decide +kernel
theorem d_M_simulate_183 : decode b_M_simulate 183 = .ok (.iaload, 1) := by decide +kernel
theorem d_M_simulate_184 : decode b_M_simulate 184 = .ok (.iconst 2, 1) := by decide +kernel
theorem d_M_simulate_185 : decode b_M_simulate 185 = .ok (.if_icmp .ne 13, 3) := by decide +kernel
theorem d_M_simulate_188 : decode b_M_simulate 188 = .ok (.iconst 1, 1) := by decide +kernel
theorem d_M_simulate_189 : decode b_M_simulate 189 = .ok (.iload 8, 2) := by decide +kernel
theorem d_M_simulate_191 : decode b_M_simulate 191 = .ok (.iload 9, 2) := by decide +kernel
theorem d_M_simulate_193 : decode b_M_simulate 193 = .ok (.iand, 1) := by decide +kernel
theorem d_M_simulate_194 : decode b_M_simulate 194 = .ok (.isub, 1) := by decide +kernel
theorem d_M_simulate_195 : decode b_M_simulate 195 = .ok (.goto 10, 3) := by decide +kernel
theorem d_M_simulate_198 : decode b_M_simulate 198 = .ok (.iconst 1, 1) := by decide +kernel
theorem d_M_simulate_199 : decode b_M_simulate 199 = .ok (.iload 8, 2) := by decide +kernel
theorem d_M_simulate_201 : decode b_M_simulate 201 = .ok (.iload 9, 2) := by decide +kernel
theorem d_M_simulate_203 : decode b_M_simulate 203 = .ok (.ior, 1) := by decide +kernel
theorem d_M_simulate_204 : decode b_M_simulate 204 = .ok (.isub, 1) := by decide +kernel
theorem d_M_simulate_205 : decode b_M_simulate 205 = .ok (.istore 7, 2) := by decide +kernel
theorem d_M_simulate_207 : decode b_M_simulate 207 = .ok (.iload_n 2, 1) := by decide +kernel
theorem d_M_simulate_208 : decode b_M_simulate 208 = .ok (.iload 7, 2) := by decide +kernel
theorem d_M_simulate_210 : decode b_M_simulate 210 = .ok (.iload 5, 2) := by decide +kernel
theorem d_M_simulate_212 : decode b_M_simulate 212 = .ok (.ishl, 1) := by decide +kernel
theorem d_M_simulate_213 : decode b_M_simulate 213 = .ok (.ior, 1) := by decide +kernel
theorem d_M_simulate_214 : decode b_M_simulate 214 = .ok (.istore_n 2, 1) := by decide +kernel
theorem d_M_simulate_215 : decode b_M_simulate 215 = .ok (.iinc 5 1, 3) := by decide +kernel
theorem d_M_simulate_218 : decode b_M_simulate 218 = .ok (.goto (-177), 3) := by decide +kernel
theorem d_M_simulate_221 : decode b_M_simulate 221 = .ok (.iinc 4 1, 3) := by decide +kernel
theorem d_M_simulate_224 : decode b_M_simulate 224 = .ok (.goto (-193), 3) := by decide +kernel
theorem d_M_simulate_227 : decode b_M_simulate 227 = .ok (.iload_n 3, 1) := by decide +kernel
theorem d_M_simulate_228 : decode b_M_simulate 228 = .ok (.bipush 12, 2) := by decide +kernel
theorem d_M_simulate_230 : decode b_M_simulate 230 = .ok (.if_icmp .ge 9, 3) := by decide +kernel
theorem d_M_simulate_233 : decode b_M_simulate 233 = .ok (.aload_n 0, 1) := by decide +kernel
theorem d_M_simulate_234 : decode b_M_simulate 234 = .ok (.iconst 1, 1) := by decide +kernel
theorem d_M_simulate_235 : decode b_M_simulate 235 = .ok (.invokevirtual 69, 3) := by decide +kernel
theorem d_M_simulate_238 : decode b_M_simulate 238 = .ok (.ireturn, 1) := by decide +kernel
theorem d_M_simulate_239 : decode b_M_simulate 239 = .ok (.aload_n 0, 1) := by decide +kernel
theorem d_M_simulate_240 : decode b_M_simulate 240 = .ok (.iconst 0, 1) := by decide +kernel
theorem d_M_simulate_241 : decode b_M_simulate 241 = .ok (.putfield 55, 3) := by decide +kernel
theorem d_M_simulate_244 : decode b_M_simulate 244 = .ok (.iload_n 2, 1) := by decide +kernel
theorem d_M_simulate_245 : decode b_M_simulate 245 = .ok (.ireturn, 1) := by decide +kernel
theorem d_M_count_0 : decode b_M_count 0 = .ok (.iload_n 1, 1) := by decide +kernel
theorem d_M_count_1 : decode b_M_count 1 = .ok (.iconst 0, 1) := by decide +kernel
theorem d_M_count_2 : decode b_M_count 2 = .ok (.iconst 5, 1) := by decide +kernel
theorem d_M_count_3 : decode b_M_count 3 = .ok (.invokestatic 65, 3) := by decide +kernel
theorem d_M_count_6 : decode b_M_count 6 = .ok (.ifCond .ne 9, 3) := by decide +kernel
theorem d_M_count_9 : decode b_M_count 9 = .ok (.aload_n 0, 1) := by decide +kernel
theorem d_M_count_10 : decode b_M_count 10 = .ok (.iconst 1, 1) := by decide +kernel
theorem d_M_count_11 : decode b_M_count 11 = .ok (.invokevirtual 69, 3) := by decide +kernel
theorem d_M_count_14 : decode b_M_count 14 = .ok (.ireturn, 1) := by decide +kernel
theorem d_M_count_15 : decode b_M_count 15 = .ok (.aload_n 0, 1) := by decide +kernel
theorem d_M_count_16 : decode b_M_count 16 = .ok (.iconst 0, 1) := by decide +kernel
theorem d_M_count_17 : decode b_M_count 17 = .ok (.putfield 55, 3) := by decide +kernel
theorem d_M_count_20 : decode b_M_count 20 = .ok (.iconst 0, 1) := by decide +kernel
theorem d_M_count_21 : decode b_M_count 21 = .ok (.istore_n 2, 1) := by decide +kernel
theorem d_M_count_22 : decode b_M_count 22 = .ok (.iload_n 1, 1) := by decide +kernel
theorem d_M_count_23 : decode b_M_count 23 = .ok (.ifCond .ne 8, 3) := by decide +kernel
theorem d_M_count_26 : decode b_M_count 26 = .ok (.aload_n 0, 1) := by decide +kernel
theorem d_M_count_27 : decode b_M_count 27 = .ok (.getfield 62, 3) := by decide +kernel
theorem d_M_count_30 : decode b_M_count 30 = .ok (.ireturn, 1) := by decide +kernel
theorem d_M_count_31 : decode b_M_count 31 = .ok (.iload_n 1, 1) := by decide +kernel
theorem d_M_count_32 : decode b_M_count 32 = .ok (.iconst 1, 1) := by decide +kernel
theorem d_M_count_33 : decode b_M_count 33 = .ok (.if_icmp .ne 30, 3) := by decide +kernel
theorem d_M_count_36 : decode b_M_count 36 = .ok (.iconst 0, 1) := by decide +kernel
theorem d_M_count_37 : decode b_M_count 37 = .ok (.istore_n 3, 1) := by decide +kernel
theorem d_M_count_38 : decode b_M_count 38 = .ok (.iload_n 3, 1) := by decide +kernel
theorem d_M_count_39 : decode b_M_count 39 = .ok (.bipush 12, 2) := by decide +kernel
theorem d_M_count_41 : decode b_M_count 41 = .ok (.if_icmp .ge 20, 3) := by decide +kernel
theorem d_M_count_44 : decode b_M_count 44 = .ok (.aload_n 0, 1) := by decide +kernel
theorem d_M_count_45 : decode b_M_count 45 = .ok (.iload_n 3, 1) := by decide +kernel
theorem d_M_count_46 : decode b_M_count 46 = .ok (.invokevirtual 89, 3) := by decide +kernel
theorem d_M_count_49 : decode b_M_count 49 = .ok (.ifCond .eq 6, 3) := by decide +kernel
theorem d_M_count_52 : decode b_M_count 52 = .ok (.iinc 2 1, 3) := by decide +kernel
theorem d_M_count_55 : decode b_M_count 55 = .ok (.iinc 3 1, 3) := by decide +kernel
theorem d_M_count_58 : decode b_M_count 58 = .ok (.goto (-20), 3) := by decide +kernel
theorem d_M_count_61 : decode b_M_count 61 = .ok (.iload_n 2, 1) := by decide +kernel
theorem d_M_count_62 : decode b_M_count 62 = .ok (.ireturn, 1) := by decide +kernel
theorem d_M_count_63 : decode b_M_count 63 = .ok (.aload_n 0, 1) := by decide +kernel
theorem d_M_count_64 : decode b_M_count 64 = .ok (.getfield 9, 3) := by decide +kernel
theorem d_M_count_67 : decode b_M_count 67 = .ok (.iconst (-1), 1) := by decide +kernel
theorem d_M_count_68 : decode b_M_count 68 = .ok (.if_icmp .ne 5, 3) := by decide +kernel
theorem d_M_count_71 : decode b_M_count 71 = .ok (.iconst 0, 1) := by decide +kernel
theorem d_M_count_72 : decode b_M_count 72 = .ok (.ireturn, 1) := by decide +kernel
theorem d_M_count_73 : decode b_M_count 73 = .ok (.iload_n 1, 1) := by decide +kernel
theorem d_M_count_74 : decode b_M_count 74 = .ok (.iconst 2, 1) := by decide +kernel
theorem d_M_count_75 : decode b_M_count 75 = .ok (.if_icmp .ne 8, 3) := by decide +kernel
theorem d_M_count_78 : decode b_M_count 78 = .ok (.aload_n 0, 1) := by decide +kernel
theorem d_M_count_79 : decode b_M_count 79 = .ok (.getfield 9, 3) := by decide +kernel
theorem d_M_count_82 : decode b_M_count 82 = .ok (.ireturn, 1) := by decide +kernel
theorem d_M_count_83 : decode b_M_count 83 = .ok (.iconst 0, 1) := by decide +kernel
theorem d_M_count_84 : decode b_M_count 84 = .ok (.istore_n 3, 1) := by decide +kernel
theorem d_M_count_85 : decode b_M_count 85 = .ok (.iload_n 3, 1) := by decide +kernel
theorem d_M_count_86 : decode b_M_count 86 = .ok (.bipush 24, 2) := by decide +kernel
theorem d_M_count_88 : decode b_M_count 88 = .ok (.aload_n 0, 1) := by decide +kernel
theorem d_M_count_89 : decode b_M_count 89 = .ok (.getfield 9, 3) := by decide +kernel
theorem d_M_count_92 : decode b_M_count 92 = .ok (.iconst 2, 1) := by decide +kernel
theorem d_M_count_93 : decode b_M_count 93 = .ok (.iadd, 1) := by decide +kernel
theorem d_M_count_94 : decode b_M_count 94 = .ok (.imul, 1) := by decide +kernel
theorem d_M_count_95 : decode b_M_count 95 = .ok (.if_icmp .ge 28, 3) := by decide +kernel
theorem d_M_count_98 : decode b_M_count 98 = .ok (.aload_n 0, 1) := by decide +kernel
theorem d_M_count_99 : decode b_M_count 99 = .ok (.getfield 42, 3) := by decide +kernel
theorem d_M_count_102 : decode b_M_count 102 = .ok (.iload_n 3, 1) := by decide +kernel
theorem d_M_count_103 : decode b_M_count 103 = .ok (.iaload, 1) := by decide +kernel
theorem d_M_count_104 : decode b_M_count 104 = .ok (.iload_n 1, 1) := by decide +kernel
theorem d_M_count_105 : decode b_M_count 105 = .ok (.iconst 3, 1) := by decide +kernel
theorem d_M_count_106 : decode b_M_count 106 = .ok (.isub, 1) := by decide +kernel
theorem d_M_count_107 : decode b_M_count 107 = .ok (.ishr, 1) := by decide +kernel
theorem d_M_count_108 : decode b_M_count 108 = .ok (.iconst 1, 1) := by decide +kernel
theorem d_M_count_109 : decode b_M_count 109 = .ok (.iand, 1) := by decide +kernel
theorem d_M_count_110 : decode b_M_count 110 = .ok (.iconst 1, 1) := by decide +kernel
theorem d_M_count_111 : decode b_M_count 111 = .ok (.if_icmp .ne 6, 3) := by decide +kernel
theorem d_M_count_114 : decode b_M_count 114 = .ok (.iinc 2 1, 3) := by decide +kernel
theorem d_M_count_117 : decode b_M_count 117 = .ok (.iinc 3 1, 3) := by decide +kernel
theorem d_M_count_120 : decode b_M_count 120 = .ok (.goto (-35), 3) := by decide +kernel
theorem d_M_count_123 : decode b_M_count 123 = .ok (.iload_n 2, 1) := by decide +kernel
theorem d_M_count_124 : decode b_M_count 124 = .ok (.ireturn, 1) := by decide +kernel
end
section
theorem d_L_gate_0 : decode b_L_gate 0 = .ok (.aload 6, 2) := by decide +kernel
theorem d_L_gate_2 : decode b_L_gate 2 = .ok (.iconst 0, 1) := by decide +kernel
theorem d_L_gate_3 : decode b_L_gate 3 = .ok (.aload_n 0, 1) := by decide +kernel
theorem d_L_gate_4 : decode b_L_gate 4 = .ok (.iload_n 1, 1) := by decide +kernel
theorem d_L_gate_5 : decode b_L_gate 5 = .ok (.iload_n 2, 1) := by decide +kernel
theorem d_L_gate_6 : decode b_L_gate 6 = .ok (.iload_n 3, 1) := by decide +kernel
theorem d_L_gate_7 : decode b_L_gate 7 = .ok (.iload 4, 2) := by decide +kernel
theorem d_L_gate_9 : decode b_L_gate 9 = .ok (.iload 5, 2) := by decide +kernel
theorem d_L_gate_11 : decode b_L_gate 11 = .ok (.invokevirtual 7, 3) := by decide +kernel
theorem d_L_gate_14 : decode b_L_gate 14 = .ok (.i2l, 1) := by decide +kernel
theorem d_L_gate_15 : decode b_L_gate 15 = .ok (.lastore, 1) := by decide +kernel
theorem d_L_gate_16 : decode b_L_gate 16 = .ok (.goto 11, 3) := by decide +kernel
theorem d_L_gate_19 : decode b_L_gate 19 = .ok (.astore 7, 2) := by decide +kernel
theorem d_L_gate_21 : decode b_L_gate 21 = .ok (.iconst 1, 1) := by decide +kernel
theorem d_L_gate_22 : decode b_L_gate 22 = .ok (.ireturn, 1) := by decide +kernel
theorem d_L_gate_23 : decode b_L_gate 23 = .ok (.astore 7, 2) := by decide +kernel
theorem d_L_gate_25 : decode b_L_gate 25 = .ok (.iconst 2, 1) := by decide +kernel
theorem d_L_gate_26 : decode b_L_gate 26 = .ok (.ireturn, 1) := by decide +kernel
theorem d_L_gate_27 : decode b_L_gate 27 = .ok (.iconst 0, 1) := by decide +kernel
theorem d_L_gate_28 : decode b_L_gate 28 = .ok (.ireturn, 1) := by decide +kernel
theorem d_L_route_0 : decode b_L_route 0 = .ok (.aload_n 1, 1) := by decide +kernel
theorem d_L_route_1 : decode b_L_route 1 = .ok (.iconst 0, 1) := by decide +kernel
theorem d_L_route_2 : decode b_L_route 2 = .ok (.aload_n 0, 1) := by decide +kernel
theorem d_L_route_3 : decode b_L_route 3 = .ok (.invokevirtual 17, 3) := by decide +kernel
theorem d_L_route_6 : decode b_L_route 6 = .ok (.i2l, 1) := by decide +kernel
theorem d_L_route_7 : decode b_L_route 7 = .ok (.lastore, 1) := by decide +kernel
theorem d_L_route_8 : decode b_L_route 8 = .ok (.goto 9, 3) := by decide +kernel
theorem d_L_route_11 : decode b_L_route 11 = .ok (.astore_n 2, 1) := by decide +kernel
theorem d_L_route_12 : decode b_L_route 12 = .ok (.iconst 1, 1) := by decide +kernel
theorem d_L_route_13 : decode b_L_route 13 = .ok (.ireturn, 1) := by decide +kernel
theorem d_L_route_14 : decode b_L_route 14 = .ok (.astore_n 2, 1) := by decide +kernel
theorem d_L_route_15 : decode b_L_route 15 = .ok (.iconst 2, 1) := by decide +kernel
theorem d_L_route_16 : decode b_L_route 16 = .ok (.ireturn, 1) := by decide +kernel
theorem d_L_route_17 : decode b_L_route 17 = .ok (.iconst 0, 1) := by decide +kernel
theorem d_L_route_18 : decode b_L_route 18 = .ok (.ireturn, 1) := by decide +kernel
theorem d_L_column_0 : decode b_L_column 0 = .ok (.aload_n 3, 1) := by decide +kernel
theorem d_L_column_1 : decode b_L_column 1 = .ok (.iconst 0, 1) := by decide +kernel
theorem d_L_column_2 : decode b_L_column 2 = .ok (.aload_n 0, 1) := by decide +kernel
theorem d_L_column_3 : decode b_L_column 3 = .ok (.iload_n 1, 1) := by decide +kernel
theorem d_L_column_4 : decode b_L_column 4 = .ok (.iload_n 2, 1) := by decide +kernel
theorem d_L_column_5 : decode b_L_column 5 = .ok (.invokevirtual 23, 3) := by decide +kernel
theorem d_L_column_8 : decode b_L_column 8 = .ok (.i2l, 1) := by decide +kernel
theorem d_L_column_9 : decode b_L_column 9 = .ok (.lastore, 1) := by decide +kernel
theorem d_L_column_10 : decode b_L_column 10 = .ok (.goto 7, 3) := by decide +kernel
theorem d_L_column_13 : decode b_L_column 13 = .ok (.astore 4, 2) := by decide +kernel
theorem d_L_column_15 : decode b_L_column 15 = .ok (.iconst 1, 1) := by decide +kernel
theorem d_L_column_16 : decode b_L_column 16 = .ok (.ireturn, 1) := by decide +kernel
theorem d_L_column_17 : decode b_L_column 17 = .ok (.iconst 0, 1) := by decide +kernel
theorem d_L_column_18 : decode b_L_column 18 = .ok (.ireturn, 1) := by decide +kernel
theorem d_L_net_0 : decode b_L_net 0 = .ok (.aload_n 3, 1) := by decide +kernel
theorem d_L_net_1 : decode b_L_net 1 = .ok (.iconst 0, 1) := by decide +kernel
theorem d_L_net_2 : decode b_L_net 2 = .ok (.aload_n 0, 1) := by decide +kernel
theorem d_L_net_3 : decode b_L_net 3 = .ok (.iload_n 1, 1) := by decide +kernel
theorem d_L_net_4 : decode b_L_net 4 = .ok (.iload_n 2, 1) := by decide +kernel
theorem d_L_net_5 : decode b_L_net 5 = .ok (.invokevirtual 29, 3) := by decide +kernel
theorem d_L_net_8 : decode b_L_net 8 = .ok (.i2l, 1) := by decide +kernel
theorem d_L_net_9 : decode b_L_net 9 = .ok (.lastore, 1) := by decide +kernel
theorem d_L_net_10 : decode b_L_net 10 = .ok (.goto 7, 3) := by decide +kernel
theorem d_L_net_13 : decode b_L_net 13 = .ok (.astore 4, 2) := by decide +kernel
theorem d_L_net_15 : decode b_L_net 15 = .ok (.iconst 1, 1) := by decide +kernel
theorem d_L_net_16 : decode b_L_net 16 = .ok (.ireturn, 1) := by decide +kernel
theorem d_L_net_17 : decode b_L_net 17 = .ok (.iconst 0, 1) := by decide +kernel
theorem d_L_net_18 : decode b_L_net 18 = .ok (.ireturn, 1) := by decide +kernel
theorem d_L_mask_0 : decode b_L_mask 0 = .ok (.aload_n 3, 1) := by decide +kernel
theorem d_L_mask_1 : decode b_L_mask 1 = .ok (.iconst 0, 1) := by decide +kernel
theorem d_L_mask_2 : decode b_L_mask 2 = .ok (.aload_n 0, 1) := by decide +kernel
theorem d_L_mask_3 : decode b_L_mask 3 = .ok (.iload_n 1, 1) := by decide +kernel
theorem d_L_mask_4 : decode b_L_mask 4 = .ok (.iload_n 2, 1) := by decide +kernel
theorem d_L_mask_5 : decode b_L_mask 5 = .ok (.invokevirtual 32, 3) := by decide +kernel
theorem d_L_mask_8 : decode b_L_mask 8 = .ok (.i2l, 1) := by decide +kernel
theorem d_L_mask_9 : decode b_L_mask 9 = .ok (.lastore, 1) := by decide +kernel
theorem d_L_mask_10 : decode b_L_mask 10 = .ok (.goto 11, 3) := by decide +kernel
theorem d_L_mask_13 : decode b_L_mask 13 = .ok (.astore 4, 2) := by decide +kernel
theorem d_L_mask_15 : decode b_L_mask 15 = .ok (.iconst 1, 1) := by decide +kernel
theorem d_L_mask_16 : decode b_L_mask 16 = .ok (.ireturn, 1) := by decide +kernel
theorem d_L_mask_17 : decode b_L_mask 17 = .ok (.astore 4, 2) := by decide +kernel
theorem d_L_mask_19 : decode b_L_mask 19 = .ok (.iconst 2, 1) := by decide +kernel
theorem d_L_mask_20 : decode b_L_mask 20 = .ok (.ireturn, 1) := by decide +kernel
theorem d_L_mask_21 : decode b_L_mask 21 = .ok (.iconst 0, 1) := by decide +kernel
theorem d_L_mask_22 : decode b_L_mask 22 = .ok (.ireturn, 1) := by decide +kernel
theorem d_L_damage_0 : decode b_L_damage 0 = .ok (.aload 4, 2) := by decide +kernel
theorem d_L_damage_2 : decode b_L_damage 2 = .ok (.iconst 0, 1) := by decide +kernel
theorem d_L_damage_3 : decode b_L_damage 3 = .ok (.aload_n 0, 1) := by decide +kernel
theorem d_L_damage_4 : decode b_L_damage 4 = .ok (.iload_n 1, 1) := by decide +kernel
theorem d_L_damage_5 : decode b_L_damage 5 = .ok (.iload_n 2, 1) := by decide +kernel
theorem d_L_damage_6 : decode b_L_damage 6 = .ok (.iload_n 3, 1) := by decide +kernel
theorem d_L_damage_7 : decode b_L_damage 7 = .ok (.invokevirtual 35, 3) := by decide +kernel
theorem d_L_damage_10 : decode b_L_damage 10 = .ok (.i2l, 1) := by decide +kernel
theorem d_L_damage_11 : decode b_L_damage 11 = .ok (.lastore, 1) := by decide +kernel
theorem d_L_damage_12 : decode b_L_damage 12 = .ok (.goto 15, 3) := by decide +kernel
theorem d_L_damage_15 : decode b_L_damage 15 = .ok (.astore 5, 2) := by decide +kernel
theorem d_L_damage_17 : decode b_L_damage 17 = .ok (.iconst 1, 1) := by decide +kernel
theorem d_L_damage_18 : decode b_L_damage 18 = .ok (.ireturn, 1) := by decide +kernel
theorem d_L_damage_19 : decode b_L_damage 19 = .ok (.astore 5, 2) := by decide +kernel
theorem d_L_damage_21 : decode b_L_damage 21 = .ok (.iconst 2, 1) := by decide +kernel
theorem d_L_damage_22 : decode b_L_damage 22 = .ok (.ireturn, 1) := by decide +kernel
theorem d_L_damage_23 : decode b_L_damage 23 = .ok (.astore 5, 2) := by decide +kernel
theorem d_L_damage_25 : decode b_L_damage 25 = .ok (.iconst 3, 1) := by decide +kernel
theorem d_L_damage_26 : decode b_L_damage 26 = .ok (.ireturn, 1) := by decide +kernel
theorem d_L_damage_27 : decode b_L_damage 27 = .ok (.iconst 0, 1) := by decide +kernel
theorem d_L_damage_28 : decode b_L_damage 28 = .ok (.ireturn, 1) := by decide +kernel
theorem d_L_joined_0 : decode b_L_joined 0 = .ok (.aload 5, 2) := by decide +kernel
theorem d_L_joined_2 : decode b_L_joined 2 = .ok (.iconst 0, 1) := by decide +kernel
theorem d_L_joined_3 : decode b_L_joined 3 = .ok (.aload_n 0, 1) := by decide +kernel
theorem d_L_joined_4 : decode b_L_joined 4 = .ok (.iload_n 1, 1) := by decide +kernel
theorem d_L_joined_5 : decode b_L_joined 5 = .ok (.iload_n 2, 1) := by decide +kernel
theorem d_L_joined_6 : decode b_L_joined 6 = .ok (.iload_n 3, 1) := by decide +kernel
theorem d_L_joined_7 : decode b_L_joined 7 = .ok (.iload 4, 2) := by decide +kernel
theorem d_L_joined_9 : decode b_L_joined 9 = .ok (.invokevirtual 39, 3) := by decide +kernel
theorem d_L_joined_12 : decode b_L_joined 12 = .ok (.ifCond .eq 7, 3) := by decide +kernel
theorem d_L_joined_15 : decode b_L_joined 15 = .ok (.lconst 1, 1) := by decide +kernel
theorem d_L_joined_16 : decode b_L_joined 16 = .ok (.goto 4, 3) := by decide +kernel
theorem d_L_joined_19 : decode b_L_joined 19 = .ok (.lconst 0, 1) := by decide +kernel
theorem d_L_joined_20 : decode b_L_joined 20 = .ok (.lastore, 1) := by decide +kernel
theorem d_L_joined_21 : decode b_L_joined 21 = .ok (.goto 11, 3) := by decide +kernel
theorem d_L_joined_24 : decode b_L_joined 24 = .ok (.astore 6, 2) := by decide +kernel
theorem d_L_joined_26 : decode b_L_joined 26 = .ok (.iconst 1, 1) := by decide +kernel
theorem d_L_joined_27 : decode b_L_joined 27 = .ok (.ireturn, 1) := by decide +kernel
theorem d_L_joined_28 : decode b_L_joined 28 = .ok (.astore 6, 2) := by decide +kernel
theorem d_L_joined_30 : decode b_L_joined 30 = .ok (.iconst 2, 1) := by decide +kernel
theorem d_L_joined_31 : decode b_L_joined 31 = .ok (.ireturn, 1) := by decide +kernel
theorem d_L_joined_32 : decode b_L_joined 32 = .ok (.iconst 0, 1) := by decide +kernel
theorem d_L_joined_33 : decode b_L_joined 33 = .ok (.ireturn, 1) := by decide +kernel
theorem d_L_faults_0 : decode b_L_faults 0 = .ok (.aload_n 2, 1) := by decide +kernel
theorem d_L_faults_1 : decode b_L_faults 1 = .ok (.iconst 0, 1) := by decide +kernel
theorem d_L_faults_2 : decode b_L_faults 2 = .ok (.aload_n 0, 1) := by decide +kernel
theorem d_L_faults_3 : decode b_L_faults 3 = .ok (.iload_n 1, 1) := by decide +kernel
theorem d_L_faults_4 : decode b_L_faults 4 = .ok (.invokevirtual 43, 3) := by decide +kernel
theorem d_L_faults_7 : decode b_L_faults 7 = .ok (.i2l, 1) := by decide +kernel
theorem d_L_faults_8 : decode b_L_faults 8 = .ok (.lastore, 1) := by decide +kernel
theorem d_L_faults_9 : decode b_L_faults 9 = .ok (.goto 6, 3) := by decide +kernel
theorem d_L_faults_12 : decode b_L_faults 12 = .ok (.astore_n 3, 1) := by decide +kernel
theorem d_L_faults_13 : decode b_L_faults 13 = .ok (.iconst 1, 1) := by decide +kernel
theorem d_L_faults_14 : decode b_L_faults 14 = .ok (.ireturn, 1) := by decide +kernel
theorem d_L_faults_15 : decode b_L_faults 15 = .ok (.iconst 0, 1) := by decide +kernel
theorem d_L_faults_16 : decode b_L_faults 16 = .ok (.ireturn, 1) := by decide +kernel
theorem d_L_time_0 : decode b_L_time 0 = .ok (.aload 4, 2) := by decide +kernel
theorem d_L_time_2 : decode b_L_time 2 = .ok (.iconst 0, 1) := by decide +kernel
theorem d_L_time_3 : decode b_L_time 3 = .ok (.aload_n 0, 1) := by decide +kernel
theorem d_L_time_4 : decode b_L_time 4 = .ok (.iload_n 1, 1) := by decide +kernel
theorem d_L_time_5 : decode b_L_time 5 = .ok (.dload_n 2, 1) := by decide +kernel
theorem d_L_time_6 : decode b_L_time 6 = .ok (.invokevirtual 47, 3) := by decide +kernel
theorem d_L_time_9 : decode b_L_time 9 = .ok (.dastore, 1) := by decide +kernel
theorem d_L_time_10 : decode b_L_time 10 = .ok (.goto 7, 3) := by decide +kernel
theorem d_L_time_13 : decode b_L_time 13 = .ok (.astore 5, 2) := by decide +kernel
theorem d_L_time_15 : decode b_L_time 15 = .ok (.iconst 1, 1) := by decide +kernel
theorem d_L_time_16 : decode b_L_time 16 = .ok (.ireturn, 1) := by decide +kernel
theorem d_L_time_17 : decode b_L_time 17 = .ok (.iconst 0, 1) := by decide +kernel
theorem d_L_time_18 : decode b_L_time 18 = .ok (.ireturn, 1) := by decide +kernel
theorem d_L_delay_0 : decode b_L_delay 0 = .ok (.aload_n 2, 1) := by decide +kernel
theorem d_L_delay_1 : decode b_L_delay 1 = .ok (.iconst 0, 1) := by decide +kernel
theorem d_L_delay_2 : decode b_L_delay 2 = .ok (.aload_n 0, 1) := by decide +kernel
theorem d_L_delay_3 : decode b_L_delay 3 = .ok (.iload_n 1, 1) := by decide +kernel
theorem d_L_delay_4 : decode b_L_delay 4 = .ok (.invokevirtual 51, 3) := by decide +kernel
theorem d_L_delay_7 : decode b_L_delay 7 = .ok (.dastore, 1) := by decide +kernel
theorem d_L_delay_8 : decode b_L_delay 8 = .ok (.goto 9, 3) := by decide +kernel
theorem d_L_delay_11 : decode b_L_delay 11 = .ok (.astore_n 3, 1) := by decide +kernel
theorem d_L_delay_12 : decode b_L_delay 12 = .ok (.iconst 1, 1) := by decide +kernel
theorem d_L_delay_13 : decode b_L_delay 13 = .ok (.ireturn, 1) := by decide +kernel
theorem d_L_delay_14 : decode b_L_delay 14 = .ok (.astore_n 3, 1) := by decide +kernel
theorem d_L_delay_15 : decode b_L_delay 15 = .ok (.iconst 2, 1) := by decide +kernel
theorem d_L_delay_16 : decode b_L_delay 16 = .ok (.ireturn, 1) := by decide +kernel
theorem d_L_delay_17 : decode b_L_delay 17 = .ok (.iconst 0, 1) := by decide +kernel
theorem d_L_delay_18 : decode b_L_delay 18 = .ok (.ireturn, 1) := by decide +kernel
theorem d_L_arrival_0 : decode b_L_arrival 0 = .ok (.aload_n 2, 1) := by decide +kernel
theorem d_L_arrival_1 : decode b_L_arrival 1 = .ok (.iconst 0, 1) := by decide +kernel
theorem d_L_arrival_2 : decode b_L_arrival 2 = .ok (.aload_n 0, 1) := by decide +kernel
theorem d_L_arrival_3 : decode b_L_arrival 3 = .ok (.iload_n 1, 1) := by decide +kernel
theorem d_L_arrival_4 : decode b_L_arrival 4 = .ok (.invokevirtual 55, 3) := by decide +kernel
theorem d_L_arrival_7 : decode b_L_arrival 7 = .ok (.dastore, 1) := by decide +kernel
theorem d_L_arrival_8 : decode b_L_arrival 8 = .ok (.goto 12, 3) := by decide +kernel
theorem d_L_arrival_11 : decode b_L_arrival 11 = .ok (.astore_n 3, 1) := by decide +kernel
theorem d_L_arrival_12 : decode b_L_arrival 12 = .ok (.iconst 1, 1) := by decide +kernel
theorem d_L_arrival_13 : decode b_L_arrival 13 = .ok (.ireturn, 1) := by decide +kernel
theorem d_L_arrival_14 : decode b_L_arrival 14 = .ok (.astore_n 3, 1) := by decide +kernel
theorem d_L_arrival_15 : decode b_L_arrival 15 = .ok (.iconst 2, 1) := by decide +kernel
theorem d_L_arrival_16 : decode b_L_arrival 16 = .ok (.ireturn, 1) := by decide +kernel
theorem d_L_arrival_17 : decode b_L_arrival 17 = .ok (.astore_n 3, 1) := by decide +kernel
theorem d_L_arrival_18 : decode b_L_arrival 18 = .ok (.iconst 3, 1) := by decide +kernel
theorem d_L_arrival_19 : decode b_L_arrival 19 = .ok (.ireturn, 1) := by decide +kernel
theorem d_L_arrival_20 : decode b_L_arrival 20 = .ok (.iconst 0, 1) := by decide +kernel
theorem d_L_arrival_21 : decode b_L_arrival 21 = .ok (.ireturn, 1) := by decide +kernel
theorem d_L_simulate_0 : decode b_L_simulate 0 = .ok (.aload_n 2, 1) := by decide +kernel
theorem d_L_simulate_1 : decode b_L_simulate 1 = .ok (.iconst 0, 1) := by decide +kernel
theorem d_L_simulate_2 : decode b_L_simulate 2 = .ok (.aload_n 0, 1) := by decide +kernel
theorem d_L_simulate_3 : decode b_L_simulate 3 = .ok (.iload_n 1, 1) := by decide +kernel
theorem d_L_simulate_4 : decode b_L_simulate 4 = .ok (.invokevirtual 60, 3) := by decide +kernel
theorem d_L_simulate_7 : decode b_L_simulate 7 = .ok (.i2l, 1) := by decide +kernel
theorem d_L_simulate_8 : decode b_L_simulate 8 = .ok (.lastore, 1) := by decide +kernel
theorem d_L_simulate_9 : decode b_L_simulate 9 = .ok (.goto 6, 3) := by decide +kernel
theorem d_L_simulate_12 : decode b_L_simulate 12 = .ok (.astore_n 3, 1) := by decide +kernel
theorem d_L_simulate_13 : decode b_L_simulate 13 = .ok (.iconst 1, 1) := by decide +kernel
theorem d_L_simulate_14 : decode b_L_simulate 14 = .ok (.ireturn, 1) := by decide +kernel
theorem d_L_simulate_15 : decode b_L_simulate 15 = .ok (.iconst 0, 1) := by decide +kernel
theorem d_L_simulate_16 : decode b_L_simulate 16 = .ok (.ireturn, 1) := by decide +kernel
theorem d_L_count_0 : decode b_L_count 0 = .ok (.aload_n 2, 1) := by decide +kernel
theorem d_L_count_1 : decode b_L_count 1 = .ok (.iconst 0, 1) := by decide +kernel
theorem d_L_count_2 : decode b_L_count 2 = .ok (.aload_n 0, 1) := by decide +kernel
theorem d_L_count_3 : decode b_L_count 3 = .ok (.iload_n 1, 1) := by decide +kernel
theorem d_L_count_4 : decode b_L_count 4 = .ok (.invokevirtual 64, 3) := by decide +kernel
theorem d_L_count_7 : decode b_L_count 7 = .ok (.i2l, 1) := by decide +kernel
theorem d_L_count_8 : decode b_L_count 8 = .ok (.lastore, 1) := by decide +kernel
theorem d_L_count_9 : decode b_L_count 9 = .ok (.goto 6, 3) := by decide +kernel
theorem d_L_count_12 : decode b_L_count 12 = .ok (.astore_n 3, 1) := by decide +kernel
theorem d_L_count_13 : decode b_L_count 13 = .ok (.iconst 1, 1) := by decide +kernel
theorem d_L_count_14 : decode b_L_count 14 = .ok (.ireturn, 1) := by decide +kernel
theorem d_L_count_15 : decode b_L_count 15 = .ok (.iconst 0, 1) := by decide +kernel
theorem d_L_count_16 : decode b_L_count 16 = .ok (.ireturn, 1) := by decide +kernel
theorem d_JI_bitCount_0 : decode b_JI_bitCount 0 = .ok (.iload_n 0, 1) := by decide +kernel
theorem d_JI_bitCount_1 : decode b_JI_bitCount 1 = .ok (.iload_n 0, 1) := by decide +kernel
theorem d_JI_bitCount_2 : decode b_JI_bitCount 2 = .ok (.iconst 1, 1) := by decide +kernel
theorem d_JI_bitCount_3 : decode b_JI_bitCount 3 = .ok (.iushr, 1) := by decide +kernel
theorem d_JI_bitCount_4 : decode b_JI_bitCount 4 = .ok (.ldc_w 265, 3) := by decide +kernel
theorem d_JI_bitCount_7 : decode b_JI_bitCount 7 = .ok (.iand, 1) := by decide +kernel
theorem d_JI_bitCount_8 : decode b_JI_bitCount 8 = .ok (.isub, 1) := by decide +kernel
theorem d_JI_bitCount_9 : decode b_JI_bitCount 9 = .ok (.istore_n 0, 1) := by decide +kernel
theorem d_JI_bitCount_10 : decode b_JI_bitCount 10 = .ok (.iload_n 0, 1) := by decide +kernel
theorem d_JI_bitCount_11 : decode b_JI_bitCount 11 = .ok (.ldc_w 266, 3) := by decide +kernel
theorem d_JI_bitCount_14 : decode b_JI_bitCount 14 = .ok (.iand, 1) := by decide +kernel
theorem d_JI_bitCount_15 : decode b_JI_bitCount 15 = .ok (.iload_n 0, 1) := by decide +kernel
theorem d_JI_bitCount_16 : decode b_JI_bitCount 16 = .ok (.iconst 2, 1) := by decide +kernel
theorem d_JI_bitCount_17 : decode b_JI_bitCount 17 = .ok (.iushr, 1) := by decide +kernel
theorem d_JI_bitCount_18 : decode b_JI_bitCount 18 = .ok (.ldc_w 266, 3) := by decide +kernel
theorem d_JI_bitCount_21 : decode b_JI_bitCount 21 = .ok (.iand, 1) := by decide +kernel
theorem d_JI_bitCount_22 : decode b_JI_bitCount 22 = .ok (.iadd, 1) := by decide +kernel
theorem d_JI_bitCount_23 : decode b_JI_bitCount 23 = .ok (.istore_n 0, 1) := by decide +kernel
theorem d_JI_bitCount_24 : decode b_JI_bitCount 24 = .ok (.iload_n 0, 1) := by decide +kernel
theorem d_JI_bitCount_25 : decode b_JI_bitCount 25 = .ok (.iload_n 0, 1) := by decide +kernel
theorem d_JI_bitCount_26 : decode b_JI_bitCount 26 = .ok (.iconst 4, 1) := by decide +kernel
theorem d_JI_bitCount_27 : decode b_JI_bitCount 27 = .ok (.iushr, 1) := by decide +kernel
theorem d_JI_bitCount_28 : decode b_JI_bitCount 28 = .ok (.iadd, 1) := by decide +kernel
theorem d_JI_bitCount_29 : decode b_JI_bitCount 29 = .ok (.ldc_w 267, 3) := by decide +kernel
theorem d_JI_bitCount_32 : decode b_JI_bitCount 32 = .ok (.iand, 1) := by decide +kernel
theorem d_JI_bitCount_33 : decode b_JI_bitCount 33 = .ok (.istore_n 0, 1) := by decide +kernel
theorem d_JI_bitCount_34 : decode b_JI_bitCount 34 = .ok (.iload_n 0, 1) := by decide +kernel
theorem d_JI_bitCount_35 : decode b_JI_bitCount 35 = .ok (.iload_n 0, 1) := by decide +kernel
theorem d_JI_bitCount_36 : decode b_JI_bitCount 36 = .ok (.bipush 8, 2) := by decide +kernel
theorem d_JI_bitCount_38 : decode b_JI_bitCount 38 = .ok (.iushr, 1) := by decide +kernel
theorem d_JI_bitCount_39 : decode b_JI_bitCount 39 = .ok (.iadd, 1) := by decide +kernel
theorem d_JI_bitCount_40 : decode b_JI_bitCount 40 = .ok (.istore_n 0, 1) := by decide +kernel
theorem d_JI_bitCount_41 : decode b_JI_bitCount 41 = .ok (.iload_n 0, 1) := by decide +kernel
theorem d_JI_bitCount_42 : decode b_JI_bitCount 42 = .ok (.iload_n 0, 1) := by decide +kernel
theorem d_JI_bitCount_43 : decode b_JI_bitCount 43 = .ok (.bipush 16, 2) := by decide +kernel
theorem d_JI_bitCount_45 : decode b_JI_bitCount 45 = .ok (.iushr, 1) := by decide +kernel
theorem d_JI_bitCount_46 : decode b_JI_bitCount 46 = .ok (.iadd, 1) := by decide +kernel
theorem d_JI_bitCount_47 : decode b_JI_bitCount 47 = .ok (.istore_n 0, 1) := by decide +kernel
theorem d_JI_bitCount_48 : decode b_JI_bitCount 48 = .ok (.iload_n 0, 1) := by decide +kernel
theorem d_JI_bitCount_49 : decode b_JI_bitCount 49 = .ok (.bipush 63, 2) := by decide +kernel
theorem d_JI_bitCount_51 : decode b_JI_bitCount 51 = .ok (.iand, 1) := by decide +kernel
theorem d_JI_bitCount_52 : decode b_JI_bitCount 52 = .ok (.ireturn, 1) := by decide +kernel
theorem d_JA_fill_0 : decode b_JA_fill 0 = .ok (.iconst 0, 1) := by decide +kernel
theorem d_JA_fill_1 : decode b_JA_fill 1 = .ok (.istore_n 2, 1) := by decide +kernel
theorem d_JA_fill_2 : decode b_JA_fill 2 = .ok (.aload_n 0, 1) := by decide +kernel
theorem d_JA_fill_3 : decode b_JA_fill 3 = .ok (.arraylength, 1) := by decide +kernel
theorem d_JA_fill_4 : decode b_JA_fill 4 = .ok (.istore_n 3, 1) := by decide +kernel
theorem d_JA_fill_5 : decode b_JA_fill 5 = .ok (.iload_n 2, 1) := by decide +kernel
theorem d_JA_fill_6 : decode b_JA_fill 6 = .ok (.iload_n 3, 1) := by decide +kernel
theorem d_JA_fill_7 : decode b_JA_fill 7 = .ok (.if_icmp .ge 13, 3) := by decide +kernel
theorem d_JA_fill_10 : decode b_JA_fill 10 = .ok (.aload_n 0, 1) := by decide +kernel
theorem d_JA_fill_11 : decode b_JA_fill 11 = .ok (.iload_n 2, 1) := by decide +kernel
theorem d_JA_fill_12 : decode b_JA_fill 12 = .ok (.iload_n 1, 1) := by decide +kernel
theorem d_JA_fill_13 : decode b_JA_fill 13 = .ok (.iastore, 1) := by decide +kernel
theorem d_JA_fill_14 : decode b_JA_fill 14 = .ok (.iinc 2 1, 3) := by decide +kernel
theorem d_JA_fill_17 : decode b_JA_fill 17 = .ok (.goto (-12), 3) := by decide +kernel
theorem d_JA_fill_20 : decode b_JA_fill 20 = .ok (.return_, 1) := by decide +kernel
end
section
theorem d_L_law_0 : decode b_L_law 0 = .ok (.new 8, 3) := by decide +kernel
theorem d_L_law_3 : decode b_L_law 3 = .ok (.dup, 1) := by decide +kernel
theorem d_L_law_4 : decode b_L_law 4 = .ok (.invokespecial 67, 3) := by decide +kernel
theorem d_L_law_7 : decode b_L_law 7 = .ok (.astore_n 1, 1) := by decide +kernel
theorem d_L_law_8 : decode b_L_law 8 = .ok (.new 68, 3) := by decide +kernel
theorem d_L_law_11 : decode b_L_law 11 = .ok (.dup, 1) := by decide +kernel
theorem d_L_law_12 : decode b_L_law 12 = .ok (.invokespecial 70, 3) := by decide +kernel
theorem d_L_law_15 : decode b_L_law 15 = .ok (.astore_n 2, 1) := by decide +kernel
theorem d_L_law_16 : decode b_L_law 16 = .ok (.iconst 1, 1) := by decide +kernel
theorem d_L_law_17 : decode b_L_law 17 = .ok (.newarray .long, 2) := by decide +kernel
theorem d_L_law_19 : decode b_L_law 19 = .ok (.astore_n 3, 1) := by decide +kernel
theorem d_L_law_20 : decode b_L_law 20 = .ok (.iconst 1, 1) := by decide +kernel
theorem d_L_law_21 : decode b_L_law 21 = .ok (.newarray .double, 2) := by decide +kernel
theorem d_L_law_23 : decode b_L_law 23 = .ok (.astore 4, 2) := by decide +kernel
theorem d_L_law_25 : decode b_L_law 25 = .ok (.iconst 0, 1) := by decide +kernel
theorem d_L_law_26 : decode b_L_law 26 = .ok (.istore 5, 2) := by decide +kernel
theorem d_L_law_28 : decode b_L_law 28 = .ok (.iload 5, 2) := by decide +kernel
theorem d_L_law_30 : decode b_L_law 30 = .ok (.aload_n 0, 1) := by decide +kernel
theorem d_L_law_31 : decode b_L_law 31 = .ok (.arraylength, 1) := by decide +kernel
theorem d_L_law_32 : decode b_L_law 32 = .ok (.bipush 6, 2) := by decide +kernel
theorem d_L_law_34 : decode b_L_law 34 = .ok (.isub, 1) := by decide +kernel
theorem d_L_law_35 : decode b_L_law 35 = .ok (.if_icmp .gt 1068, 3) := by decide +kernel
theorem d_L_law_38 : decode b_L_law 38 = .ok (.aload_n 0, 1) := by decide +kernel
theorem d_L_law_39 : decode b_L_law 39 = .ok (.iload 5, 2) := by decide +kernel
theorem d_L_law_41 : decode b_L_law 41 = .ok (.iaload, 1) := by decide +kernel
theorem d_L_law_42 : decode b_L_law 42 = .ok (.bipush 15, 2) := by decide +kernel
theorem d_L_law_44 : decode b_L_law 44 = .ok (.iand, 1) := by decide +kernel
theorem d_L_law_45 : decode b_L_law 45 = .ok (.tableswitch 1052 0 13 #[71, 175, 188, 232, 300, 368, 436, 516, 615, 687, 786, 863, 940, 996], 71) := by decide +kernel
theorem d_L_law_116 : decode b_L_law 116 = .ok (.aload_n 1, 1) := by decide +kernel
theorem d_L_law_117 : decode b_L_law 117 = .ok (.aload_n 0, 1) := by decide +kernel
theorem d_L_law_118 : decode b_L_law 118 = .ok (.iload 5, 2) := by decide +kernel
theorem d_L_law_120 : decode b_L_law 120 = .ok (.iconst 1, 1) := by decide +kernel
theorem d_L_law_121 : decode b_L_law 121 = .ok (.iadd, 1) := by decide +kernel
theorem d_L_law_122 : decode b_L_law 122 = .ok (.iaload, 1) := by decide +kernel
theorem d_L_law_123 : decode b_L_law 123 = .ok (.aload_n 0, 1) := by decide +kernel
theorem d_L_law_124 : decode b_L_law 124 = .ok (.iload 5, 2) := by decide +kernel
theorem d_L_law_126 : decode b_L_law 126 = .ok (.iconst 2, 1) := by decide +kernel
theorem d_L_law_127 : decode b_L_law 127 = .ok (.iadd, 1) := by decide +kernel
theorem d_L_law_128 : decode b_L_law 128 = .ok (.iaload, 1) := by decide +kernel
theorem d_L_law_129 : decode b_L_law 129 = .ok (.aload_n 0, 1) := by decide +kernel
theorem d_L_law_130 : decode b_L_law 130 = .ok (.iload 5, 2) := by decide +kernel
theorem d_L_law_132 : decode b_L_law 132 = .ok (.iconst 3, 1) := by decide +kernel
theorem d_L_law_133 : decode b_L_law 133 = .ok (.iadd, 1) := by decide +kernel
theorem d_L_law_134 : decode b_L_law 134 = .ok (.iaload, 1) := by decide +kernel
theorem d_L_law_135 : decode b_L_law 135 = .ok (.aload_n 0, 1) := by decide +kernel
theorem d_L_law_136 : decode b_L_law 136 = .ok (.iload 5, 2) := by decide +kernel
theorem d_L_law_138 : decode b_L_law 138 = .ok (.iconst 4, 1) := by decide +kernel
theorem d_L_law_139 : decode b_L_law 139 = .ok (.iadd, 1) := by decide +kernel
theorem d_L_law_140 : decode b_L_law 140 = .ok (.iaload, 1) := by decide +kernel
theorem d_L_law_141 : decode b_L_law 141 = .ok (.aload_n 0, 1) := by decide +kernel
theorem d_L_law_142 : decode b_L_law 142 = .ok (.iload 5, 2) := by decide +kernel
theorem d_L_law_144 : decode b_L_law 144 = .ok (.iconst 5, 1) := by decide +kernel
theorem d_L_law_145 : decode b_L_law 145 = .ok (.iadd, 1) := by decide +kernel
theorem d_L_law_146 : decode b_L_law 146 = .ok (.iaload, 1) := by decide +kernel
theorem d_L_law_147 : decode b_L_law 147 = .ok (.aload_n 3, 1) := by decide +kernel
theorem d_L_law_148 : decode b_L_law 148 = .ok (.invokestatic 71, 3) := by decide +kernel
theorem d_L_law_151 : decode b_L_law 151 = .ok (.istore 6, 2) := by decide +kernel
theorem d_L_law_153 : decode b_L_law 153 = .ok (.aload_n 2, 1) := by decide +kernel
theorem d_L_law_154 : decode b_L_law 154 = .ok (.aload_n 0, 1) := by decide +kernel
theorem d_L_law_155 : decode b_L_law 155 = .ok (.iload 5, 2) := by decide +kernel
theorem d_L_law_157 : decode b_L_law 157 = .ok (.iconst 1, 1) := by decide +kernel
theorem d_L_law_158 : decode b_L_law 158 = .ok (.iadd, 1) := by decide +kernel
theorem d_L_law_159 : decode b_L_law 159 = .ok (.iaload, 1) := by decide +kernel
theorem d_L_law_160 : decode b_L_law 160 = .ok (.aload_n 0, 1) := by decide +kernel
theorem d_L_law_161 : decode b_L_law 161 = .ok (.iload 5, 2) := by decide +kernel
theorem d_L_law_163 : decode b_L_law 163 = .ok (.iconst 2, 1) := by decide +kernel
theorem d_L_law_164 : decode b_L_law 164 = .ok (.iadd, 1) := by decide +kernel
theorem d_L_law_165 : decode b_L_law 165 = .ok (.iaload, 1) := by decide +kernel
theorem d_L_law_166 : decode b_L_law 166 = .ok (.aload_n 0, 1) := by decide +kernel
theorem d_L_law_167 : decode b_L_law 167 = .ok (.iload 5, 2) := by decide +kernel
theorem d_L_law_169 : decode b_L_law 169 = .ok (.iconst 3, 1) := by decide +kernel
theorem d_L_law_170 : decode b_L_law 170 = .ok (.iadd, 1) := by decide +kernel
theorem d_L_law_171 : decode b_L_law 171 = .ok (.iaload, 1) := by decide +kernel
theorem d_L_law_172 : decode b_L_law 172 = .ok (.aload_n 0, 1) := by decide +kernel
theorem d_L_law_173 : decode b_L_law 173 = .ok (.iload 5, 2) := by decide +kernel
theorem d_L_law_175 : decode b_L_law 175 = .ok (.iconst 4, 1) := by decide +kernel
theorem d_L_law_176 : decode b_L_law 176 = .ok (.iadd, 1) := by decide +kernel
theorem d_L_law_177 : decode b_L_law 177 = .ok (.iaload, 1) := by decide +kernel
theorem d_L_law_178 : decode b_L_law 178 = .ok (.aload_n 0, 1) := by decide +kernel
theorem d_L_law_179 : decode b_L_law 179 = .ok (.iload 5, 2) := by decide +kernel
theorem d_L_law_181 : decode b_L_law 181 = .ok (.iconst 5, 1) := by decide +kernel
theorem d_L_law_182 : decode b_L_law 182 = .ok (.iadd, 1) := by decide +kernel
theorem d_L_law_183 : decode b_L_law 183 = .ok (.iaload, 1) := by decide +kernel
theorem d_L_law_184 : decode b_L_law 184 = .ok (.invokevirtual 76, 3) := by decide +kernel
theorem d_L_law_187 : decode b_L_law 187 = .ok (.istore 7, 2) := by decide +kernel
theorem d_L_law_189 : decode b_L_law 189 = .ok (.aload_n 2, 1) := by decide +kernel
theorem d_L_law_190 : decode b_L_law 190 = .ok (.invokevirtual 77, 3) := by decide +kernel
theorem d_L_law_193 : decode b_L_law 193 = .ok (.iload 6, 2) := by decide +kernel
theorem d_L_law_195 : decode b_L_law 195 = .ok (.if_icmp .eq 5, 3) := by decide +kernel
theorem d_L_law_198 : decode b_L_law 198 = .ok (.iconst 0, 1) := by decide +kernel
theorem d_L_law_199 : decode b_L_law 199 = .ok (.ireturn, 1) := by decide +kernel
theorem d_L_law_200 : decode b_L_law 200 = .ok (.iload 6, 2) := by decide +kernel
theorem d_L_law_202 : decode b_L_law 202 = .ok (.ifCond .ne 15, 3) := by decide +kernel
theorem d_L_law_205 : decode b_L_law 205 = .ok (.aload_n 3, 1) := by decide +kernel
theorem d_L_law_206 : decode b_L_law 206 = .ok (.iconst 0, 1) := by decide +kernel
theorem d_L_law_207 : decode b_L_law 207 = .ok (.laload, 1) := by decide +kernel
theorem d_L_law_208 : decode b_L_law 208 = .ok (.iload 7, 2) := by decide +kernel
theorem d_L_law_210 : decode b_L_law 210 = .ok (.i2l, 1) := by decide +kernel
theorem d_L_law_211 : decode b_L_law 211 = .ok (.lcmp, 1) := by decide +kernel
theorem d_L_law_212 : decode b_L_law 212 = .ok (.ifCond .eq 5, 3) := by decide +kernel
theorem d_L_law_215 : decode b_L_law 215 = .ok (.iconst 0, 1) := by decide +kernel
theorem d_L_law_216 : decode b_L_law 216 = .ok (.ireturn, 1) := by decide +kernel
theorem d_L_law_217 : decode b_L_law 217 = .ok (.goto 880, 3) := by decide +kernel
theorem d_L_law_220 : decode b_L_law 220 = .ok (.aload_n 1, 1) := by decide +kernel
theorem d_L_law_221 : decode b_L_law 221 = .ok (.invokevirtual 80, 3) := by decide +kernel
theorem d_L_law_224 : decode b_L_law 224 = .ok (.aload_n 2, 1) := by decide +kernel
theorem d_L_law_225 : decode b_L_law 225 = .ok (.invokevirtual 83, 3) := by decide +kernel
theorem d_L_law_228 : decode b_L_law 228 = .ok (.if_icmp .eq 869, 3) := by decide +kernel
theorem d_L_law_231 : decode b_L_law 231 = .ok (.iconst 0, 1) := by decide +kernel
theorem d_L_law_232 : decode b_L_law 232 = .ok (.ireturn, 1) := by decide +kernel
theorem d_L_law_233 : decode b_L_law 233 = .ok (.aload_n 1, 1) := by decide +kernel
theorem d_L_law_234 : decode b_L_law 234 = .ok (.aload_n 3, 1) := by decide +kernel
theorem d_L_law_235 : decode b_L_law 235 = .ok (.invokestatic 84, 3) := by decide +kernel
theorem d_L_law_238 : decode b_L_law 238 = .ok (.istore 6, 2) := by decide +kernel
theorem d_L_law_240 : decode b_L_law 240 = .ok (.aload_n 2, 1) := by decide +kernel
theorem d_L_law_241 : decode b_L_law 241 = .ok (.invokevirtual 87, 3) := by decide +kernel
theorem d_L_law_244 : decode b_L_law 244 = .ok (.istore 7, 2) := by decide +kernel
theorem d_L_law_246 : decode b_L_law 246 = .ok (.aload_n 2, 1) := by decide +kernel
theorem d_L_law_247 : decode b_L_law 247 = .ok (.invokevirtual 77, 3) := by decide +kernel
theorem d_L_law_250 : decode b_L_law 250 = .ok (.iload 6, 2) := by decide +kernel
theorem d_L_law_252 : decode b_L_law 252 = .ok (.if_icmp .eq 5, 3) := by decide +kernel
theorem d_L_law_255 : decode b_L_law 255 = .ok (.iconst 0, 1) := by decide +kernel
theorem d_L_law_256 : decode b_L_law 256 = .ok (.ireturn, 1) := by decide +kernel
theorem d_L_law_257 : decode b_L_law 257 = .ok (.iload 6, 2) := by decide +kernel
theorem d_L_law_259 : decode b_L_law 259 = .ok (.ifCond .ne 15, 3) := by decide +kernel
theorem d_L_law_262 : decode b_L_law 262 = .ok (.aload_n 3, 1) := by decide +kernel
theorem d_L_law_263 : decode b_L_law 263 = .ok (.iconst 0, 1) := by decide +kernel
theorem d_L_law_264 : decode b_L_law 264 = .ok (.laload, 1) := by decide +kernel
theorem d_L_law_265 : decode b_L_law 265 = .ok (.iload 7, 2) := by decide +kernel
theorem d_L_law_267 : decode b_L_law 267 = .ok (.i2l, 1) := by decide +kernel
theorem d_L_law_268 : decode b_L_law 268 = .ok (.lcmp, 1) := by decide +kernel
theorem d_L_law_269 : decode b_L_law 269 = .ok (.ifCond .eq 5, 3) := by decide +kernel
theorem d_L_law_272 : decode b_L_law 272 = .ok (.iconst 0, 1) := by decide +kernel
theorem d_L_law_273 : decode b_L_law 273 = .ok (.ireturn, 1) := by decide +kernel
theorem d_L_law_274 : decode b_L_law 274 = .ok (.goto 823, 3) := by decide +kernel
theorem d_L_law_277 : decode b_L_law 277 = .ok (.aload_n 1, 1) := by decide +kernel
theorem d_L_law_278 : decode b_L_law 278 = .ok (.aload_n 0, 1) := by decide +kernel
theorem d_L_law_279 : decode b_L_law 279 = .ok (.iload 5, 2) := by decide +kernel
theorem d_L_law_281 : decode b_L_law 281 = .ok (.iconst 1, 1) := by decide +kernel
theorem d_L_law_282 : decode b_L_law 282 = .ok (.iadd, 1) := by decide +kernel
theorem d_L_law_283 : decode b_L_law 283 = .ok (.iaload, 1) := by decide +kernel
theorem d_L_law_284 : decode b_L_law 284 = .ok (.aload_n 0, 1) := by decide +kernel
theorem d_L_law_285 : decode b_L_law 285 = .ok (.iload 5, 2) := by decide +kernel
theorem d_L_law_287 : decode b_L_law 287 = .ok (.iconst 2, 1) := by decide +kernel
theorem d_L_law_288 : decode b_L_law 288 = .ok (.iadd, 1) := by decide +kernel
theorem d_L_law_289 : decode b_L_law 289 = .ok (.iaload, 1) := by decide +kernel
theorem d_L_law_290 : decode b_L_law 290 = .ok (.aload_n 3, 1) := by decide +kernel
theorem d_L_law_291 : decode b_L_law 291 = .ok (.invokestatic 88, 3) := by decide +kernel
theorem d_L_law_294 : decode b_L_law 294 = .ok (.istore 6, 2) := by decide +kernel
theorem d_L_law_296 : decode b_L_law 296 = .ok (.aload_n 2, 1) := by decide +kernel
theorem d_L_law_297 : decode b_L_law 297 = .ok (.aload_n 0, 1) := by decide +kernel
theorem d_L_law_298 : decode b_L_law 298 = .ok (.iload 5, 2) := by decide +kernel
theorem d_L_law_300 : decode b_L_law 300 = .ok (.iconst 1, 1) := by decide +kernel
theorem d_L_law_301 : decode b_L_law 301 = .ok (.iadd, 1) := by decide +kernel
theorem d_L_law_302 : decode b_L_law 302 = .ok (.iaload, 1) := by decide +kernel
theorem d_L_law_303 : decode b_L_law 303 = .ok (.aload_n 0, 1) := by decide +kernel
theorem d_L_law_304 : decode b_L_law 304 = .ok (.iload 5, 2) := by decide +kernel
theorem d_L_law_306 : decode b_L_law 306 = .ok (.iconst 2, 1) := by decide +kernel
theorem d_L_law_307 : decode b_L_law 307 = .ok (.iadd, 1) := by decide +kernel
theorem d_L_law_308 : decode b_L_law 308 = .ok (.iaload, 1) := by decide +kernel
theorem d_L_law_309 : decode b_L_law 309 = .ok (.invokevirtual 91, 3) := by decide +kernel
theorem d_L_law_312 : decode b_L_law 312 = .ok (.istore 7, 2) := by decide +kernel
theorem d_L_law_314 : decode b_L_law 314 = .ok (.aload_n 2, 1) := by decide +kernel
theorem d_L_law_315 : decode b_L_law 315 = .ok (.invokevirtual 77, 3) := by decide +kernel
theorem d_L_law_318 : decode b_L_law 318 = .ok (.iload 6, 2) := by decide +kernel
theorem d_L_law_320 : decode b_L_law 320 = .ok (.if_icmp .eq 5, 3) := by decide +kernel
theorem d_L_law_323 : decode b_L_law 323 = .ok (.iconst 0, 1) := by decide +kernel
theorem d_L_law_324 : decode b_L_law 324 = .ok (.ireturn, 1) := by decide +kernel
theorem d_L_law_325 : decode b_L_law 325 = .ok (.iload 6, 2) := by decide +kernel
theorem d_L_law_327 : decode b_L_law 327 = .ok (.ifCond .ne 15, 3) := by decide +kernel
theorem d_L_law_330 : decode b_L_law 330 = .ok (.aload_n 3, 1) := by decide +kernel
theorem d_L_law_331 : decode b_L_law 331 = .ok (.iconst 0, 1) := by decide +kernel
theorem d_L_law_332 : decode b_L_law 332 = .ok (.laload, 1) := by decide +kernel
theorem d_L_law_333 : decode b_L_law 333 = .ok (.iload 7, 2) := by decide +kernel
theorem d_L_law_335 : decode b_L_law 335 = .ok (.i2l, 1) := by decide +kernel
theorem d_L_law_336 : decode b_L_law 336 = .ok (.lcmp, 1) := by decide +kernel
theorem d_L_law_337 : decode b_L_law 337 = .ok (.ifCond .eq 5, 3) := by decide +kernel
theorem d_L_law_340 : decode b_L_law 340 = .ok (.iconst 0, 1) := by decide +kernel
theorem d_L_law_341 : decode b_L_law 341 = .ok (.ireturn, 1) := by decide +kernel
theorem d_L_law_342 : decode b_L_law 342 = .ok (.goto 755, 3) := by decide +kernel
theorem d_L_law_345 : decode b_L_law 345 = .ok (.aload_n 1, 1) := by decide +kernel
theorem d_L_law_346 : decode b_L_law 346 = .ok (.aload_n 0, 1) := by decide +kernel
theorem d_L_law_347 : decode b_L_law 347 = .ok (.iload 5, 2) := by decide +kernel
theorem d_L_law_349 : decode b_L_law 349 = .ok (.iconst 1, 1) := by decide +kernel
theorem d_L_law_350 : decode b_L_law 350 = .ok (.iadd, 1) := by decide +kernel
theorem d_L_law_351 : decode b_L_law 351 = .ok (.iaload, 1) := by decide +kernel
theorem d_L_law_352 : decode b_L_law 352 = .ok (.aload_n 0, 1) := by decide +kernel
theorem d_L_law_353 : decode b_L_law 353 = .ok (.iload 5, 2) := by decide +kernel
theorem d_L_law_355 : decode b_L_law 355 = .ok (.iconst 2, 1) := by decide +kernel
theorem d_L_law_356 : decode b_L_law 356 = .ok (.iadd, 1) := by decide +kernel
theorem d_L_law_357 : decode b_L_law 357 = .ok (.iaload, 1) := by decide +kernel
theorem d_L_law_358 : decode b_L_law 358 = .ok (.aload_n 3, 1) := by decide +kernel
theorem d_L_law_359 : decode b_L_law 359 = .ok (.invokestatic 92, 3) := by decide +kernel
theorem d_L_law_362 : decode b_L_law 362 = .ok (.istore 6, 2) := by decide +kernel
theorem d_L_law_364 : decode b_L_law 364 = .ok (.aload_n 2, 1) := by decide +kernel
theorem d_L_law_365 : decode b_L_law 365 = .ok (.aload_n 0, 1) := by decide +kernel
theorem d_L_law_366 : decode b_L_law 366 = .ok (.iload 5, 2) := by decide +kernel
theorem d_L_law_368 : decode b_L_law 368 = .ok (.iconst 1, 1) := by decide +kernel
theorem d_L_law_369 : decode b_L_law 369 = .ok (.iadd, 1) := by decide +kernel
theorem d_L_law_370 : decode b_L_law 370 = .ok (.iaload, 1) := by decide +kernel
theorem d_L_law_371 : decode b_L_law 371 = .ok (.aload_n 0, 1) := by decide +kernel
theorem d_L_law_372 : decode b_L_law 372 = .ok (.iload 5, 2) := by decide +kernel
theorem d_L_law_374 : decode b_L_law 374 = .ok (.iconst 2, 1) := by decide +kernel
theorem d_L_law_375 : decode b_L_law 375 = .ok (.iadd, 1) := by decide +kernel
theorem d_L_law_376 : decode b_L_law 376 = .ok (.iaload, 1) := by decide +kernel
theorem d_L_law_377 : decode b_L_law 377 = .ok (.invokevirtual 94, 3) := by decide +kernel
theorem d_L_law_380 : decode b_L_law 380 = .ok (.istore 7, 2) := by decide +kernel
theorem d_L_law_382 : decode b_L_law 382 = .ok (.aload_n 2, 1) := by decide +kernel
theorem d_L_law_383 : decode b_L_law 383 = .ok (.invokevirtual 77, 3) := by decide +kernel
theorem d_L_law_386 : decode b_L_law 386 = .ok (.iload 6, 2) := by decide +kernel
theorem d_L_law_388 : decode b_L_law 388 = .ok (.if_icmp .eq 5, 3) := by decide +kernel
theorem d_L_law_391 : decode b_L_law 391 = .ok (.iconst 0, 1) := by decide +kernel
theorem d_L_law_392 : decode b_L_law 392 = .ok (.ireturn, 1) := by decide +kernel
theorem d_L_law_393 : decode b_L_law 393 = .ok (.iload 6, 2) := by decide +kernel
theorem d_L_law_395 : decode b_L_law 395 = .ok (.ifCond .ne 15, 3) := by decide +kernel
theorem d_L_law_398 : decode b_L_law 398 = .ok (.aload_n 3, 1) := by decide +kernel
theorem d_L_law_399 : decode b_L_law 399 = .ok (.iconst 0, 1) := by decide +kernel
theorem d_L_law_400 : decode b_L_law 400 = .ok (.laload, 1) := by decide +kernel
theorem d_L_law_401 : decode b_L_law 401 = .ok (.iload 7, 2) := by decide +kernel
theorem d_L_law_403 : decode b_L_law 403 = .ok (.i2l, 1) := by decide +kernel
theorem d_L_law_404 : decode b_L_law 404 = .ok (.lcmp, 1) := by decide +kernel
theorem d_L_law_405 : decode b_L_law 405 = .ok (.ifCond .eq 5, 3) := by decide +kernel
theorem d_L_law_408 : decode b_L_law 408 = .ok (.iconst 0, 1) := by decide +kernel
theorem d_L_law_409 : decode b_L_law 409 = .ok (.ireturn, 1) := by decide +kernel
theorem d_L_law_410 : decode b_L_law 410 = .ok (.goto 687, 3) := by decide +kernel
theorem d_L_law_413 : decode b_L_law 413 = .ok (.aload_n 1, 1) := by decide +kernel
theorem d_L_law_414 : decode b_L_law 414 = .ok (.aload_n 0, 1) := by decide +kernel
theorem d_L_law_415 : decode b_L_law 415 = .ok (.iload 5, 2) := by decide +kernel
theorem d_L_law_417 : decode b_L_law 417 = .ok (.iconst 1, 1) := by decide +kernel
theorem d_L_law_418 : decode b_L_law 418 = .ok (.iadd, 1) := by decide +kernel
end
section
theorem d_L_law_419 : decode b_L_law 419 = .ok (.iaload, 1) := by decide +kernel
theorem d_L_law_420 : decode b_L_law 420 = .ok (.aload_n 0, 1) := by decide +kernel
theorem d_L_law_421 : decode b_L_law 421 = .ok (.iload 5, 2) := by decide +kernel
theorem d_L_law_423 : decode b_L_law 423 = .ok (.iconst 2, 1) := by decide +kernel
theorem d_L_law_424 : decode b_L_law 424 = .ok (.iadd, 1) := by decide +kernel
theorem d_L_law_425 : decode b_L_law 425 = .ok (.iaload, 1) := by decide +kernel
theorem d_L_law_426 : decode b_L_law 426 = .ok (.aload_n 3, 1) := by decide +kernel
theorem d_L_law_427 : decode b_L_law 427 = .ok (.invokestatic 95, 3) := by decide +kernel
theorem d_L_law_430 : decode b_L_law 430 = .ok (.istore 6, 2) := by decide +kernel
theorem d_L_law_432 : decode b_L_law 432 = .ok (.aload_n 2, 1) := by decide +kernel
theorem d_L_law_433 : decode b_L_law 433 = .ok (.aload_n 0, 1) := by decide +kernel
theorem d_L_law_434 : decode b_L_law 434 = .ok (.iload 5, 2) := by decide +kernel
theorem d_L_law_436 : decode b_L_law 436 = .ok (.iconst 1, 1) := by decide +kernel
theorem d_L_law_437 : decode b_L_law 437 = .ok (.iadd, 1) := by decide +kernel
theorem d_L_law_438 : decode b_L_law 438 = .ok (.iaload, 1) := by decide +kernel
theorem d_L_law_439 : decode b_L_law 439 = .ok (.aload_n 0, 1) := by decide +kernel
theorem d_L_law_440 : decode b_L_law 440 = .ok (.iload 5, 2) := by decide +kernel
theorem d_L_law_442 : decode b_L_law 442 = .ok (.iconst 2, 1) := by decide +kernel
theorem d_L_law_443 : decode b_L_law 443 = .ok (.iadd, 1) := by decide +kernel
theorem d_L_law_444 : decode b_L_law 444 = .ok (.iaload, 1) := by decide +kernel
theorem d_L_law_445 : decode b_L_law 445 = .ok (.invokevirtual 97, 3) := by decide +kernel
theorem d_L_law_448 : decode b_L_law 448 = .ok (.istore 7, 2) := by decide +kernel
theorem d_L_law_450 : decode b_L_law 450 = .ok (.aload_n 2, 1) := by decide +kernel
theorem d_L_law_451 : decode b_L_law 451 = .ok (.invokevirtual 77, 3) := by decide +kernel
theorem d_L_law_454 : decode b_L_law 454 = .ok (.iload 6, 2) := by decide +kernel
theorem d_L_law_456 : decode b_L_law 456 = .ok (.if_icmp .eq 5, 3) := by decide +kernel
theorem d_L_law_459 : decode b_L_law 459 = .ok (.iconst 0, 1) := by decide +kernel
theorem d_L_law_460 : decode b_L_law 460 = .ok (.ireturn, 1) := by decide +kernel
theorem d_L_law_461 : decode b_L_law 461 = .ok (.iload 6, 2) := by decide +kernel
theorem d_L_law_463 : decode b_L_law 463 = .ok (.ifCond .ne 15, 3) := by decide +kernel
theorem d_L_law_466 : decode b_L_law 466 = .ok (.aload_n 3, 1) := by decide +kernel
theorem d_L_law_467 : decode b_L_law 467 = .ok (.iconst 0, 1) := by decide +kernel
theorem d_L_law_468 : decode b_L_law 468 = .ok (.laload, 1) := by decide +kernel
theorem d_L_law_469 : decode b_L_law 469 = .ok (.iload 7, 2) := by decide +kernel
theorem d_L_law_471 : decode b_L_law 471 = .ok (.i2l, 1) := by decide +kernel
theorem d_L_law_472 : decode b_L_law 472 = .ok (.lcmp, 1) := by decide +kernel
theorem d_L_law_473 : decode b_L_law 473 = .ok (.ifCond .eq 5, 3) := by decide +kernel
theorem d_L_law_476 : decode b_L_law 476 = .ok (.iconst 0, 1) := by decide +kernel
theorem d_L_law_477 : decode b_L_law 477 = .ok (.ireturn, 1) := by decide +kernel
theorem d_L_law_478 : decode b_L_law 478 = .ok (.goto 619, 3) := by decide +kernel
theorem d_L_law_481 : decode b_L_law 481 = .ok (.aload_n 1, 1) := by decide +kernel
theorem d_L_law_482 : decode b_L_law 482 = .ok (.aload_n 0, 1) := by decide +kernel
theorem d_L_law_483 : decode b_L_law 483 = .ok (.iload 5, 2) := by decide +kernel
theorem d_L_law_485 : decode b_L_law 485 = .ok (.iconst 1, 1) := by decide +kernel
theorem d_L_law_486 : decode b_L_law 486 = .ok (.iadd, 1) := by decide +kernel
theorem d_L_law_487 : decode b_L_law 487 = .ok (.iaload, 1) := by decide +kernel
theorem d_L_law_488 : decode b_L_law 488 = .ok (.aload_n 0, 1) := by decide +kernel
theorem d_L_law_489 : decode b_L_law 489 = .ok (.iload 5, 2) := by decide +kernel
theorem d_L_law_491 : decode b_L_law 491 = .ok (.iconst 2, 1) := by decide +kernel
theorem d_L_law_492 : decode b_L_law 492 = .ok (.iadd, 1) := by decide +kernel
theorem d_L_law_493 : decode b_L_law 493 = .ok (.iaload, 1) := by decide +kernel
theorem d_L_law_494 : decode b_L_law 494 = .ok (.aload_n 0, 1) := by decide +kernel
theorem d_L_law_495 : decode b_L_law 495 = .ok (.iload 5, 2) := by decide +kernel
theorem d_L_law_497 : decode b_L_law 497 = .ok (.iconst 3, 1) := by decide +kernel
theorem d_L_law_498 : decode b_L_law 498 = .ok (.iadd, 1) := by decide +kernel
theorem d_L_law_499 : decode b_L_law 499 = .ok (.iaload, 1) := by decide +kernel
theorem d_L_law_500 : decode b_L_law 500 = .ok (.aload_n 3, 1) := by decide +kernel
theorem d_L_law_501 : decode b_L_law 501 = .ok (.invokestatic 98, 3) := by decide +kernel
theorem d_L_law_504 : decode b_L_law 504 = .ok (.istore 6, 2) := by decide +kernel
theorem d_L_law_506 : decode b_L_law 506 = .ok (.aload_n 2, 1) := by decide +kernel
theorem d_L_law_507 : decode b_L_law 507 = .ok (.aload_n 0, 1) := by decide +kernel
theorem d_L_law_508 : decode b_L_law 508 = .ok (.iload 5, 2) := by decide +kernel
theorem d_L_law_510 : decode b_L_law 510 = .ok (.iconst 1, 1) := by decide +kernel
theorem d_L_law_511 : decode b_L_law 511 = .ok (.iadd, 1) := by decide +kernel
theorem d_L_law_512 : decode b_L_law 512 = .ok (.iaload, 1) := by decide +kernel
theorem d_L_law_513 : decode b_L_law 513 = .ok (.aload_n 0, 1) := by decide +kernel
theorem d_L_law_514 : decode b_L_law 514 = .ok (.iload 5, 2) := by decide +kernel
theorem d_L_law_516 : decode b_L_law 516 = .ok (.iconst 2, 1) := by decide +kernel
theorem d_L_law_517 : decode b_L_law 517 = .ok (.iadd, 1) := by decide +kernel
theorem d_L_law_518 : decode b_L_law 518 = .ok (.iaload, 1) := by decide +kernel
theorem d_L_law_519 : decode b_L_law 519 = .ok (.aload_n 0, 1) := by decide +kernel
theorem d_L_law_520 : decode b_L_law 520 = .ok (.iload 5, 2) := by decide +kernel
theorem d_L_law_522 : decode b_L_law 522 = .ok (.iconst 3, 1) := by decide +kernel
theorem d_L_law_523 : decode b_L_law 523 = .ok (.iadd, 1) := by decide +kernel
theorem d_L_law_524 : decode b_L_law 524 = .ok (.iaload, 1) := by decide +kernel
theorem d_L_law_525 : decode b_L_law 525 = .ok (.invokevirtual 101, 3) := by decide +kernel
theorem d_L_law_528 : decode b_L_law 528 = .ok (.istore 7, 2) := by decide +kernel
theorem d_L_law_530 : decode b_L_law 530 = .ok (.aload_n 2, 1) := by decide +kernel
theorem d_L_law_531 : decode b_L_law 531 = .ok (.invokevirtual 77, 3) := by decide +kernel
theorem d_L_law_534 : decode b_L_law 534 = .ok (.iload 6, 2) := by decide +kernel
theorem d_L_law_536 : decode b_L_law 536 = .ok (.if_icmp .eq 5, 3) := by decide +kernel
theorem d_L_law_539 : decode b_L_law 539 = .ok (.iconst 0, 1) := by decide +kernel
theorem d_L_law_540 : decode b_L_law 540 = .ok (.ireturn, 1) := by decide +kernel
theorem d_L_law_541 : decode b_L_law 541 = .ok (.iload 6, 2) := by decide +kernel
theorem d_L_law_543 : decode b_L_law 543 = .ok (.ifCond .ne 15, 3) := by decide +kernel
theorem d_L_law_546 : decode b_L_law 546 = .ok (.aload_n 3, 1) := by decide +kernel
theorem d_L_law_547 : decode b_L_law 547 = .ok (.iconst 0, 1) := by decide +kernel
theorem d_L_law_548 : decode b_L_law 548 = .ok (.laload, 1) := by decide +kernel
theorem d_L_law_549 : decode b_L_law 549 = .ok (.iload 7, 2) := by decide +kernel
theorem d_L_law_551 : decode b_L_law 551 = .ok (.i2l, 1) := by decide +kernel
theorem d_L_law_552 : decode b_L_law 552 = .ok (.lcmp, 1) := by decide +kernel
theorem d_L_law_553 : decode b_L_law 553 = .ok (.ifCond .eq 5, 3) := by decide +kernel
theorem d_L_law_556 : decode b_L_law 556 = .ok (.iconst 0, 1) := by decide +kernel
theorem d_L_law_557 : decode b_L_law 557 = .ok (.ireturn, 1) := by decide +kernel
theorem d_L_law_558 : decode b_L_law 558 = .ok (.goto 539, 3) := by decide +kernel
theorem d_L_law_561 : decode b_L_law 561 = .ok (.aload_n 1, 1) := by decide +kernel
theorem d_L_law_562 : decode b_L_law 562 = .ok (.aload_n 0, 1) := by decide +kernel
theorem d_L_law_563 : decode b_L_law 563 = .ok (.iload 5, 2) := by decide +kernel
theorem d_L_law_565 : decode b_L_law 565 = .ok (.iconst 1, 1) := by decide +kernel
theorem d_L_law_566 : decode b_L_law 566 = .ok (.iadd, 1) := by decide +kernel
theorem d_L_law_567 : decode b_L_law 567 = .ok (.iaload, 1) := by decide +kernel
theorem d_L_law_568 : decode b_L_law 568 = .ok (.aload_n 0, 1) := by decide +kernel
theorem d_L_law_569 : decode b_L_law 569 = .ok (.iload 5, 2) := by decide +kernel
theorem d_L_law_571 : decode b_L_law 571 = .ok (.iconst 2, 1) := by decide +kernel
theorem d_L_law_572 : decode b_L_law 572 = .ok (.iadd, 1) := by decide +kernel
theorem d_L_law_573 : decode b_L_law 573 = .ok (.iaload, 1) := by decide +kernel
theorem d_L_law_574 : decode b_L_law 574 = .ok (.aload_n 0, 1) := by decide +kernel
theorem d_L_law_575 : decode b_L_law 575 = .ok (.iload 5, 2) := by decide +kernel
theorem d_L_law_577 : decode b_L_law 577 = .ok (.iconst 3, 1) := by decide +kernel
theorem d_L_law_578 : decode b_L_law 578 = .ok (.iadd, 1) := by decide +kernel
theorem d_L_law_579 : decode b_L_law 579 = .ok (.iaload, 1) := by decide +kernel
theorem d_L_law_580 : decode b_L_law 580 = .ok (.aload_n 0, 1) := by decide +kernel
theorem d_L_law_581 : decode b_L_law 581 = .ok (.iload 5, 2) := by decide +kernel
theorem d_L_law_583 : decode b_L_law 583 = .ok (.iconst 4, 1) := by decide +kernel
theorem d_L_law_584 : decode b_L_law 584 = .ok (.iadd, 1) := by decide +kernel
theorem d_L_law_585 : decode b_L_law 585 = .ok (.iaload, 1) := by decide +kernel
theorem d_L_law_586 : decode b_L_law 586 = .ok (.aload_n 3, 1) := by decide +kernel
theorem d_L_law_587 : decode b_L_law 587 = .ok (.invokestatic 102, 3) := by decide +kernel
theorem d_L_law_590 : decode b_L_law 590 = .ok (.istore 6, 2) := by decide +kernel
theorem d_L_law_592 : decode b_L_law 592 = .ok (.aload_n 2, 1) := by decide +kernel
theorem d_L_law_593 : decode b_L_law 593 = .ok (.aload_n 0, 1) := by decide +kernel
theorem d_L_law_594 : decode b_L_law 594 = .ok (.iload 5, 2) := by decide +kernel
theorem d_L_law_596 : decode b_L_law 596 = .ok (.iconst 1, 1) := by decide +kernel
theorem d_L_law_597 : decode b_L_law 597 = .ok (.iadd, 1) := by decide +kernel
theorem d_L_law_598 : decode b_L_law 598 = .ok (.iaload, 1) := by decide +kernel
theorem d_L_law_599 : decode b_L_law 599 = .ok (.aload_n 0, 1) := by decide +kernel
theorem d_L_law_600 : decode b_L_law 600 = .ok (.iload 5, 2) := by decide +kernel
theorem d_L_law_602 : decode b_L_law 602 = .ok (.iconst 2, 1) := by decide +kernel
theorem d_L_law_603 : decode b_L_law 603 = .ok (.iadd, 1) := by decide +kernel
theorem d_L_law_604 : decode b_L_law 604 = .ok (.iaload, 1) := by decide +kernel
theorem d_L_law_605 : decode b_L_law 605 = .ok (.aload_n 0, 1) := by decide +kernel
theorem d_L_law_606 : decode b_L_law 606 = .ok (.iload 5, 2) := by decide +kernel
theorem d_L_law_608 : decode b_L_law 608 = .ok (.iconst 3, 1) := by decide +kernel
theorem d_L_law_609 : decode b_L_law 609 = .ok (.iadd, 1) := by decide +kernel
theorem d_L_law_610 : decode b_L_law 610 = .ok (.iaload, 1) := by decide +kernel
theorem d_L_law_611 : decode b_L_law 611 = .ok (.aload_n 0, 1) := by decide +kernel
theorem d_L_law_612 : decode b_L_law 612 = .ok (.iload 5, 2) := by decide +kernel
theorem d_L_law_614 : decode b_L_law 614 = .ok (.iconst 4, 1) := by decide +kernel
theorem d_L_law_615 : decode b_L_law 615 = .ok (.iadd, 1) := by decide +kernel
theorem d_L_law_616 : decode b_L_law 616 = .ok (.iaload, 1) := by decide +kernel
theorem d_L_law_617 : decode b_L_law 617 = .ok (.invokevirtual 105, 3) := by decide +kernel
theorem d_L_law_620 : decode b_L_law 620 = .ok (.istore 7, 2) := by decide +kernel
theorem d_L_law_622 : decode b_L_law 622 = .ok (.aload_n 2, 1) := by decide +kernel
theorem d_L_law_623 : decode b_L_law 623 = .ok (.invokevirtual 77, 3) := by decide +kernel
theorem d_L_law_626 : decode b_L_law 626 = .ok (.iload 6, 2) := by decide +kernel
theorem d_L_law_628 : decode b_L_law 628 = .ok (.if_icmp .eq 5, 3) := by decide +kernel
theorem d_L_law_631 : decode b_L_law 631 = .ok (.iconst 0, 1) := by decide +kernel
theorem d_L_law_632 : decode b_L_law 632 = .ok (.ireturn, 1) := by decide +kernel
theorem d_L_law_633 : decode b_L_law 633 = .ok (.iload 6, 2) := by decide +kernel
theorem d_L_law_635 : decode b_L_law 635 = .ok (.ifCond .ne 22, 3) := by decide +kernel
theorem d_L_law_638 : decode b_L_law 638 = .ok (.aload_n 3, 1) := by decide +kernel
theorem d_L_law_639 : decode b_L_law 639 = .ok (.iconst 0, 1) := by decide +kernel
theorem d_L_law_640 : decode b_L_law 640 = .ok (.laload, 1) := by decide +kernel
theorem d_L_law_641 : decode b_L_law 641 = .ok (.iload 7, 2) := by decide +kernel
theorem d_L_law_643 : decode b_L_law 643 = .ok (.ifCond .eq 7, 3) := by decide +kernel
theorem d_L_law_646 : decode b_L_law 646 = .ok (.lconst 1, 1) := by decide +kernel
theorem d_L_law_647 : decode b_L_law 647 = .ok (.goto 4, 3) := by decide +kernel
theorem d_L_law_650 : decode b_L_law 650 = .ok (.lconst 0, 1) := by decide +kernel
theorem d_L_law_651 : decode b_L_law 651 = .ok (.lcmp, 1) := by decide +kernel
theorem d_L_law_652 : decode b_L_law 652 = .ok (.ifCond .eq 5, 3) := by decide +kernel
theorem d_L_law_655 : decode b_L_law 655 = .ok (.iconst 0, 1) := by decide +kernel
theorem d_L_law_656 : decode b_L_law 656 = .ok (.ireturn, 1) := by decide +kernel
theorem d_L_law_657 : decode b_L_law 657 = .ok (.goto 440, 3) := by decide +kernel
theorem d_L_law_660 : decode b_L_law 660 = .ok (.aload_n 1, 1) := by decide +kernel
theorem d_L_law_661 : decode b_L_law 661 = .ok (.aload_n 0, 1) := by decide +kernel
theorem d_L_law_662 : decode b_L_law 662 = .ok (.iload 5, 2) := by decide +kernel
theorem d_L_law_664 : decode b_L_law 664 = .ok (.iconst 1, 1) := by decide +kernel
theorem d_L_law_665 : decode b_L_law 665 = .ok (.iadd, 1) := by decide +kernel
theorem d_L_law_666 : decode b_L_law 666 = .ok (.iaload, 1) := by decide +kernel
theorem d_L_law_667 : decode b_L_law 667 = .ok (.ifCond .eq 7, 3) := by decide +kernel
theorem d_L_law_670 : decode b_L_law 670 = .ok (.iconst 1, 1) := by decide +kernel
theorem d_L_law_671 : decode b_L_law 671 = .ok (.goto 4, 3) := by decide +kernel
theorem d_L_law_674 : decode b_L_law 674 = .ok (.iconst 0, 1) := by decide +kernel
theorem d_L_law_675 : decode b_L_law 675 = .ok (.aload_n 3, 1) := by decide +kernel
theorem d_L_law_676 : decode b_L_law 676 = .ok (.invokestatic 106, 3) := by decide +kernel
theorem d_L_law_679 : decode b_L_law 679 = .ok (.istore 6, 2) := by decide +kernel
theorem d_L_law_681 : decode b_L_law 681 = .ok (.aload_n 2, 1) := by decide +kernel
theorem d_L_law_682 : decode b_L_law 682 = .ok (.aload_n 0, 1) := by decide +kernel
theorem d_L_law_683 : decode b_L_law 683 = .ok (.iload 5, 2) := by decide +kernel
theorem d_L_law_685 : decode b_L_law 685 = .ok (.iconst 1, 1) := by decide +kernel
theorem d_L_law_686 : decode b_L_law 686 = .ok (.iadd, 1) := by decide +kernel
theorem d_L_law_687 : decode b_L_law 687 = .ok (.iaload, 1) := by decide +kernel
theorem d_L_law_688 : decode b_L_law 688 = .ok (.ifCond .eq 7, 3) := by decide +kernel
theorem d_L_law_691 : decode b_L_law 691 = .ok (.iconst 1, 1) := by decide +kernel
theorem d_L_law_692 : decode b_L_law 692 = .ok (.goto 4, 3) := by decide +kernel
theorem d_L_law_695 : decode b_L_law 695 = .ok (.iconst 0, 1) := by decide +kernel
theorem d_L_law_696 : decode b_L_law 696 = .ok (.invokevirtual 109, 3) := by decide +kernel
theorem d_L_law_699 : decode b_L_law 699 = .ok (.istore 7, 2) := by decide +kernel
theorem d_L_law_701 : decode b_L_law 701 = .ok (.aload_n 2, 1) := by decide +kernel
theorem d_L_law_702 : decode b_L_law 702 = .ok (.invokevirtual 77, 3) := by decide +kernel
theorem d_L_law_705 : decode b_L_law 705 = .ok (.iload 6, 2) := by decide +kernel
theorem d_L_law_707 : decode b_L_law 707 = .ok (.if_icmp .eq 5, 3) := by decide +kernel
theorem d_L_law_710 : decode b_L_law 710 = .ok (.iconst 0, 1) := by decide +kernel
theorem d_L_law_711 : decode b_L_law 711 = .ok (.ireturn, 1) := by decide +kernel
theorem d_L_law_712 : decode b_L_law 712 = .ok (.iload 6, 2) := by decide +kernel
theorem d_L_law_714 : decode b_L_law 714 = .ok (.ifCond .ne 15, 3) := by decide +kernel
theorem d_L_law_717 : decode b_L_law 717 = .ok (.aload_n 3, 1) := by decide +kernel
theorem d_L_law_718 : decode b_L_law 718 = .ok (.iconst 0, 1) := by decide +kernel
theorem d_L_law_719 : decode b_L_law 719 = .ok (.laload, 1) := by decide +kernel
theorem d_L_law_720 : decode b_L_law 720 = .ok (.iload 7, 2) := by decide +kernel
theorem d_L_law_722 : decode b_L_law 722 = .ok (.i2l, 1) := by decide +kernel
theorem d_L_law_723 : decode b_L_law 723 = .ok (.lcmp, 1) := by decide +kernel
theorem d_L_law_724 : decode b_L_law 724 = .ok (.ifCond .eq 5, 3) := by decide +kernel
theorem d_L_law_727 : decode b_L_law 727 = .ok (.iconst 0, 1) := by decide +kernel
theorem d_L_law_728 : decode b_L_law 728 = .ok (.ireturn, 1) := by decide +kernel
theorem d_L_law_729 : decode b_L_law 729 = .ok (.goto 368, 3) := by decide +kernel
theorem d_L_law_732 : decode b_L_law 732 = .ok (.aload_n 1, 1) := by decide +kernel
theorem d_L_law_733 : decode b_L_law 733 = .ok (.aload_n 0, 1) := by decide +kernel
theorem d_L_law_734 : decode b_L_law 734 = .ok (.iload 5, 2) := by decide +kernel
theorem d_L_law_736 : decode b_L_law 736 = .ok (.iconst 1, 1) := by decide +kernel
theorem d_L_law_737 : decode b_L_law 737 = .ok (.iadd, 1) := by decide +kernel
theorem d_L_law_738 : decode b_L_law 738 = .ok (.iaload, 1) := by decide +kernel
theorem d_L_law_739 : decode b_L_law 739 = .ok (.aload_n 0, 1) := by decide +kernel
theorem d_L_law_740 : decode b_L_law 740 = .ok (.iload 5, 2) := by decide +kernel
theorem d_L_law_742 : decode b_L_law 742 = .ok (.iconst 2, 1) := by decide +kernel
theorem d_L_law_743 : decode b_L_law 743 = .ok (.iadd, 1) := by decide +kernel
theorem d_L_law_744 : decode b_L_law 744 = .ok (.iaload, 1) := by decide +kernel
theorem d_L_law_745 : decode b_L_law 745 = .ok (.i2d, 1) := by decide +kernel
theorem d_L_law_746 : decode b_L_law 746 = .ok (.ldc2_w 110, 3) := by decide +kernel
theorem d_L_law_749 : decode b_L_law 749 = .ok (.dmul, 1) := by decide +kernel
theorem d_L_law_750 : decode b_L_law 750 = .ok (.aload 4, 2) := by decide +kernel
theorem d_L_law_752 : decode b_L_law 752 = .ok (.invokestatic 112, 3) := by decide +kernel
theorem d_L_law_755 : decode b_L_law 755 = .ok (.istore 6, 2) := by decide +kernel
theorem d_L_law_757 : decode b_L_law 757 = .ok (.aload_n 2, 1) := by decide +kernel
theorem d_L_law_758 : decode b_L_law 758 = .ok (.aload_n 0, 1) := by decide +kernel
theorem d_L_law_759 : decode b_L_law 759 = .ok (.iload 5, 2) := by decide +kernel
theorem d_L_law_761 : decode b_L_law 761 = .ok (.iconst 1, 1) := by decide +kernel
theorem d_L_law_762 : decode b_L_law 762 = .ok (.iadd, 1) := by decide +kernel
theorem d_L_law_763 : decode b_L_law 763 = .ok (.iaload, 1) := by decide +kernel
theorem d_L_law_764 : decode b_L_law 764 = .ok (.aload_n 0, 1) := by decide +kernel
end
section
theorem d_L_law_765 : decode b_L_law 765 = .ok (.iload 5, 2) := by decide +kernel
theorem d_L_law_767 : decode b_L_law 767 = .ok (.iconst 2, 1) := by decide +kernel
theorem d_L_law_768 : decode b_L_law 768 = .ok (.iadd, 1) := by decide +kernel
theorem d_L_law_769 : decode b_L_law 769 = .ok (.iaload, 1) := by decide +kernel
theorem d_L_law_770 : decode b_L_law 770 = .ok (.i2d, 1) := by decide +kernel
theorem d_L_law_771 : decode b_L_law 771 = .ok (.ldc2_w 110, 3) := by decide +kernel
theorem d_L_law_774 : decode b_L_law 774 = .ok (.dmul, 1) := by decide +kernel
theorem d_L_law_775 : decode b_L_law 775 = .ok (.invokevirtual 115, 3) := by decide +kernel
theorem d_L_law_778 : decode b_L_law 778 = .ok (.dstore 7, 2) := by decide +kernel
theorem d_L_law_780 : decode b_L_law 780 = .ok (.aload_n 2, 1) := by decide +kernel
theorem d_L_law_781 : decode b_L_law 781 = .ok (.invokevirtual 77, 3) := by decide +kernel
theorem d_L_law_784 : decode b_L_law 784 = .ok (.iload 6, 2) := by decide +kernel
theorem d_L_law_786 : decode b_L_law 786 = .ok (.if_icmp .eq 5, 3) := by decide +kernel
theorem d_L_law_789 : decode b_L_law 789 = .ok (.iconst 0, 1) := by decide +kernel
theorem d_L_law_790 : decode b_L_law 790 = .ok (.ireturn, 1) := by decide +kernel
theorem d_L_law_791 : decode b_L_law 791 = .ok (.iload 6, 2) := by decide +kernel
theorem d_L_law_793 : decode b_L_law 793 = .ok (.ifCond .ne 35, 3) := by decide +kernel
theorem d_L_law_796 : decode b_L_law 796 = .ok (.aload 4, 2) := by decide +kernel
theorem d_L_law_798 : decode b_L_law 798 = .ok (.iconst 0, 1) := by decide +kernel
theorem d_L_law_799 : decode b_L_law 799 = .ok (.daload, 1) := by decide +kernel
theorem d_L_law_800 : decode b_L_law 800 = .ok (.dload 7, 2) := by decide +kernel
theorem d_L_law_802 : decode b_L_law 802 = .ok (.dcmp .l, 1) := by decide +kernel
theorem d_L_law_803 : decode b_L_law 803 = .ok (.ifCond .eq 25, 3) := by decide +kernel
theorem d_L_law_806 : decode b_L_law 806 = .ok (.aload 4, 2) := by decide +kernel
theorem d_L_law_808 : decode b_L_law 808 = .ok (.iconst 0, 1) := by decide +kernel
theorem d_L_law_809 : decode b_L_law 809 = .ok (.daload, 1) := by decide +kernel
theorem d_L_law_810 : decode b_L_law 810 = .ok (.aload 4, 2) := by decide +kernel
theorem d_L_law_812 : decode b_L_law 812 = .ok (.iconst 0, 1) := by decide +kernel
theorem d_L_law_813 : decode b_L_law 813 = .ok (.daload, 1) := by decide +kernel
theorem d_L_law_814 : decode b_L_law 814 = .ok (.dcmp .l, 1) := by decide +kernel
theorem d_L_law_815 : decode b_L_law 815 = .ok (.ifCond .eq 11, 3) := by decide +kernel
theorem d_L_law_818 : decode b_L_law 818 = .ok (.dload 7, 2) := by decide +kernel
theorem d_L_law_820 : decode b_L_law 820 = .ok (.dload 7, 2) := by decide +kernel
theorem d_L_law_822 : decode b_L_law 822 = .ok (.dcmp .l, 1) := by decide +kernel
theorem d_L_law_823 : decode b_L_law 823 = .ok (.ifCond .ne 5, 3) := by decide +kernel
theorem d_L_law_826 : decode b_L_law 826 = .ok (.iconst 0, 1) := by decide +kernel
theorem d_L_law_827 : decode b_L_law 827 = .ok (.ireturn, 1) := by decide +kernel
theorem d_L_law_828 : decode b_L_law 828 = .ok (.goto 269, 3) := by decide +kernel
theorem d_L_law_831 : decode b_L_law 831 = .ok (.aload_n 1, 1) := by decide +kernel
theorem d_L_law_832 : decode b_L_law 832 = .ok (.aload_n 0, 1) := by decide +kernel
theorem d_L_law_833 : decode b_L_law 833 = .ok (.iload 5, 2) := by decide +kernel
theorem d_L_law_835 : decode b_L_law 835 = .ok (.iconst 1, 1) := by decide +kernel
theorem d_L_law_836 : decode b_L_law 836 = .ok (.iadd, 1) := by decide +kernel
theorem d_L_law_837 : decode b_L_law 837 = .ok (.iaload, 1) := by decide +kernel
theorem d_L_law_838 : decode b_L_law 838 = .ok (.aload 4, 2) := by decide +kernel
theorem d_L_law_840 : decode b_L_law 840 = .ok (.invokestatic 116, 3) := by decide +kernel
theorem d_L_law_843 : decode b_L_law 843 = .ok (.istore 6, 2) := by decide +kernel
theorem d_L_law_845 : decode b_L_law 845 = .ok (.aload_n 2, 1) := by decide +kernel
theorem d_L_law_846 : decode b_L_law 846 = .ok (.aload_n 0, 1) := by decide +kernel
theorem d_L_law_847 : decode b_L_law 847 = .ok (.iload 5, 2) := by decide +kernel
theorem d_L_law_849 : decode b_L_law 849 = .ok (.iconst 1, 1) := by decide +kernel
theorem d_L_law_850 : decode b_L_law 850 = .ok (.iadd, 1) := by decide +kernel
theorem d_L_law_851 : decode b_L_law 851 = .ok (.iaload, 1) := by decide +kernel
theorem d_L_law_852 : decode b_L_law 852 = .ok (.invokevirtual 119, 3) := by decide +kernel
theorem d_L_law_855 : decode b_L_law 855 = .ok (.dstore 7, 2) := by decide +kernel
theorem d_L_law_857 : decode b_L_law 857 = .ok (.aload_n 2, 1) := by decide +kernel
theorem d_L_law_858 : decode b_L_law 858 = .ok (.invokevirtual 77, 3) := by decide +kernel
theorem d_L_law_861 : decode b_L_law 861 = .ok (.iload 6, 2) := by decide +kernel
theorem d_L_law_863 : decode b_L_law 863 = .ok (.if_icmp .eq 5, 3) := by decide +kernel
theorem d_L_law_866 : decode b_L_law 866 = .ok (.iconst 0, 1) := by decide +kernel
theorem d_L_law_867 : decode b_L_law 867 = .ok (.ireturn, 1) := by decide +kernel
theorem d_L_law_868 : decode b_L_law 868 = .ok (.iload 6, 2) := by decide +kernel
theorem d_L_law_870 : decode b_L_law 870 = .ok (.ifCond .ne 35, 3) := by decide +kernel
theorem d_L_law_873 : decode b_L_law 873 = .ok (.aload 4, 2) := by decide +kernel
theorem d_L_law_875 : decode b_L_law 875 = .ok (.iconst 0, 1) := by decide +kernel
theorem d_L_law_876 : decode b_L_law 876 = .ok (.daload, 1) := by decide +kernel
theorem d_L_law_877 : decode b_L_law 877 = .ok (.dload 7, 2) := by decide +kernel
theorem d_L_law_879 : decode b_L_law 879 = .ok (.dcmp .l, 1) := by decide +kernel
theorem d_L_law_880 : decode b_L_law 880 = .ok (.ifCond .eq 25, 3) := by decide +kernel
theorem d_L_law_883 : decode b_L_law 883 = .ok (.aload 4, 2) := by decide +kernel
theorem d_L_law_885 : decode b_L_law 885 = .ok (.iconst 0, 1) := by decide +kernel
theorem d_L_law_886 : decode b_L_law 886 = .ok (.daload, 1) := by decide +kernel
theorem d_L_law_887 : decode b_L_law 887 = .ok (.aload 4, 2) := by decide +kernel
theorem d_L_law_889 : decode b_L_law 889 = .ok (.iconst 0, 1) := by decide +kernel
theorem d_L_law_890 : decode b_L_law 890 = .ok (.daload, 1) := by decide +kernel
theorem d_L_law_891 : decode b_L_law 891 = .ok (.dcmp .l, 1) := by decide +kernel
theorem d_L_law_892 : decode b_L_law 892 = .ok (.ifCond .eq 11, 3) := by decide +kernel
theorem d_L_law_895 : decode b_L_law 895 = .ok (.dload 7, 2) := by decide +kernel
theorem d_L_law_897 : decode b_L_law 897 = .ok (.dload 7, 2) := by decide +kernel
theorem d_L_law_899 : decode b_L_law 899 = .ok (.dcmp .l, 1) := by decide +kernel
theorem d_L_law_900 : decode b_L_law 900 = .ok (.ifCond .ne 5, 3) := by decide +kernel
theorem d_L_law_903 : decode b_L_law 903 = .ok (.iconst 0, 1) := by decide +kernel
theorem d_L_law_904 : decode b_L_law 904 = .ok (.ireturn, 1) := by decide +kernel
theorem d_L_law_905 : decode b_L_law 905 = .ok (.goto 192, 3) := by decide +kernel
theorem d_L_law_908 : decode b_L_law 908 = .ok (.aload_n 1, 1) := by decide +kernel
theorem d_L_law_909 : decode b_L_law 909 = .ok (.aload_n 0, 1) := by decide +kernel
theorem d_L_law_910 : decode b_L_law 910 = .ok (.iload 5, 2) := by decide +kernel
theorem d_L_law_912 : decode b_L_law 912 = .ok (.iconst 1, 1) := by decide +kernel
theorem d_L_law_913 : decode b_L_law 913 = .ok (.iadd, 1) := by decide +kernel
theorem d_L_law_914 : decode b_L_law 914 = .ok (.iaload, 1) := by decide +kernel
theorem d_L_law_915 : decode b_L_law 915 = .ok (.aload 4, 2) := by decide +kernel
theorem d_L_law_917 : decode b_L_law 917 = .ok (.invokestatic 120, 3) := by decide +kernel
theorem d_L_law_920 : decode b_L_law 920 = .ok (.istore 6, 2) := by decide +kernel
theorem d_L_law_922 : decode b_L_law 922 = .ok (.aload_n 2, 1) := by decide +kernel
theorem d_L_law_923 : decode b_L_law 923 = .ok (.aload_n 0, 1) := by decide +kernel
theorem d_L_law_924 : decode b_L_law 924 = .ok (.iload 5, 2) := by decide +kernel
theorem d_L_law_926 : decode b_L_law 926 = .ok (.iconst 1, 1) := by decide +kernel
theorem d_L_law_927 : decode b_L_law 927 = .ok (.iadd, 1) := by decide +kernel
theorem d_L_law_928 : decode b_L_law 928 = .ok (.iaload, 1) := by decide +kernel
theorem d_L_law_929 : decode b_L_law 929 = .ok (.invokevirtual 122, 3) := by decide +kernel
theorem d_L_law_932 : decode b_L_law 932 = .ok (.dstore 7, 2) := by decide +kernel
theorem d_L_law_934 : decode b_L_law 934 = .ok (.aload_n 2, 1) := by decide +kernel
theorem d_L_law_935 : decode b_L_law 935 = .ok (.invokevirtual 77, 3) := by decide +kernel
theorem d_L_law_938 : decode b_L_law 938 = .ok (.iload 6, 2) := by decide +kernel
theorem d_L_law_940 : decode b_L_law 940 = .ok (.if_icmp .eq 5, 3) := by decide +kernel
theorem d_L_law_943 : decode b_L_law 943 = .ok (.iconst 0, 1) := by decide +kernel
theorem d_L_law_944 : decode b_L_law 944 = .ok (.ireturn, 1) := by decide +kernel
theorem d_L_law_945 : decode b_L_law 945 = .ok (.iload 6, 2) := by decide +kernel
theorem d_L_law_947 : decode b_L_law 947 = .ok (.ifCond .ne 35, 3) := by decide +kernel
theorem d_L_law_950 : decode b_L_law 950 = .ok (.aload 4, 2) := by decide +kernel
theorem d_L_law_952 : decode b_L_law 952 = .ok (.iconst 0, 1) := by decide +kernel
theorem d_L_law_953 : decode b_L_law 953 = .ok (.daload, 1) := by decide +kernel
theorem d_L_law_954 : decode b_L_law 954 = .ok (.dload 7, 2) := by decide +kernel
theorem d_L_law_956 : decode b_L_law 956 = .ok (.dcmp .l, 1) := by decide +kernel
theorem d_L_law_957 : decode b_L_law 957 = .ok (.ifCond .eq 25, 3) := by decide +kernel
theorem d_L_law_960 : decode b_L_law 960 = .ok (.aload 4, 2) := by decide +kernel
theorem d_L_law_962 : decode b_L_law 962 = .ok (.iconst 0, 1) := by decide +kernel
theorem d_L_law_963 : decode b_L_law 963 = .ok (.daload, 1) := by decide +kernel
theorem d_L_law_964 : decode b_L_law 964 = .ok (.aload 4, 2) := by decide +kernel
theorem d_L_law_966 : decode b_L_law 966 = .ok (.iconst 0, 1) := by decide +kernel
theorem d_L_law_967 : decode b_L_law 967 = .ok (.daload, 1) := by decide +kernel
theorem d_L_law_968 : decode b_L_law 968 = .ok (.dcmp .l, 1) := by decide +kernel
theorem d_L_law_969 : decode b_L_law 969 = .ok (.ifCond .eq 11, 3) := by decide +kernel
theorem d_L_law_972 : decode b_L_law 972 = .ok (.dload 7, 2) := by decide +kernel
theorem d_L_law_974 : decode b_L_law 974 = .ok (.dload 7, 2) := by decide +kernel
theorem d_L_law_976 : decode b_L_law 976 = .ok (.dcmp .l, 1) := by decide +kernel
theorem d_L_law_977 : decode b_L_law 977 = .ok (.ifCond .ne 5, 3) := by decide +kernel
theorem d_L_law_980 : decode b_L_law 980 = .ok (.iconst 0, 1) := by decide +kernel
theorem d_L_law_981 : decode b_L_law 981 = .ok (.ireturn, 1) := by decide +kernel
theorem d_L_law_982 : decode b_L_law 982 = .ok (.goto 115, 3) := by decide +kernel
theorem d_L_law_985 : decode b_L_law 985 = .ok (.aload_n 1, 1) := by decide +kernel
theorem d_L_law_986 : decode b_L_law 986 = .ok (.aload_n 0, 1) := by decide +kernel
theorem d_L_law_987 : decode b_L_law 987 = .ok (.iload 5, 2) := by decide +kernel
theorem d_L_law_989 : decode b_L_law 989 = .ok (.iconst 1, 1) := by decide +kernel
theorem d_L_law_990 : decode b_L_law 990 = .ok (.iadd, 1) := by decide +kernel
theorem d_L_law_991 : decode b_L_law 991 = .ok (.iaload, 1) := by decide +kernel
theorem d_L_law_992 : decode b_L_law 992 = .ok (.aload_n 3, 1) := by decide +kernel
theorem d_L_law_993 : decode b_L_law 993 = .ok (.invokestatic 123, 3) := by decide +kernel
theorem d_L_law_996 : decode b_L_law 996 = .ok (.istore 6, 2) := by decide +kernel
theorem d_L_law_998 : decode b_L_law 998 = .ok (.aload_n 2, 1) := by decide +kernel
theorem d_L_law_999 : decode b_L_law 999 = .ok (.aload_n 0, 1) := by decide +kernel
theorem d_L_law_1000 : decode b_L_law 1000 = .ok (.iload 5, 2) := by decide +kernel
theorem d_L_law_1002 : decode b_L_law 1002 = .ok (.iconst 1, 1) := by decide +kernel
theorem d_L_law_1003 : decode b_L_law 1003 = .ok (.iadd, 1) := by decide +kernel
theorem d_L_law_1004 : decode b_L_law 1004 = .ok (.iaload, 1) := by decide +kernel
theorem d_L_law_1005 : decode b_L_law 1005 = .ok (.invokevirtual 126, 3) := by decide +kernel
theorem d_L_law_1008 : decode b_L_law 1008 = .ok (.istore 7, 2) := by decide +kernel
theorem d_L_law_1010 : decode b_L_law 1010 = .ok (.aload_n 2, 1) := by decide +kernel
theorem d_L_law_1011 : decode b_L_law 1011 = .ok (.invokevirtual 77, 3) := by decide +kernel
theorem d_L_law_1014 : decode b_L_law 1014 = .ok (.iload 6, 2) := by decide +kernel
theorem d_L_law_1016 : decode b_L_law 1016 = .ok (.if_icmp .eq 5, 3) := by decide +kernel
theorem d_L_law_1019 : decode b_L_law 1019 = .ok (.iconst 0, 1) := by decide +kernel
theorem d_L_law_1020 : decode b_L_law 1020 = .ok (.ireturn, 1) := by decide +kernel
theorem d_L_law_1021 : decode b_L_law 1021 = .ok (.iload 6, 2) := by decide +kernel
theorem d_L_law_1023 : decode b_L_law 1023 = .ok (.ifCond .ne 15, 3) := by decide +kernel
theorem d_L_law_1026 : decode b_L_law 1026 = .ok (.aload_n 3, 1) := by decide +kernel
theorem d_L_law_1027 : decode b_L_law 1027 = .ok (.iconst 0, 1) := by decide +kernel
theorem d_L_law_1028 : decode b_L_law 1028 = .ok (.laload, 1) := by decide +kernel
theorem d_L_law_1029 : decode b_L_law 1029 = .ok (.iload 7, 2) := by decide +kernel
theorem d_L_law_1031 : decode b_L_law 1031 = .ok (.i2l, 1) := by decide +kernel
theorem d_L_law_1032 : decode b_L_law 1032 = .ok (.lcmp, 1) := by decide +kernel
theorem d_L_law_1033 : decode b_L_law 1033 = .ok (.ifCond .eq 5, 3) := by decide +kernel
theorem d_L_law_1036 : decode b_L_law 1036 = .ok (.iconst 0, 1) := by decide +kernel
theorem d_L_law_1037 : decode b_L_law 1037 = .ok (.ireturn, 1) := by decide +kernel
theorem d_L_law_1038 : decode b_L_law 1038 = .ok (.goto 59, 3) := by decide +kernel
theorem d_L_law_1041 : decode b_L_law 1041 = .ok (.aload_n 1, 1) := by decide +kernel
theorem d_L_law_1042 : decode b_L_law 1042 = .ok (.aload_n 0, 1) := by decide +kernel
theorem d_L_law_1043 : decode b_L_law 1043 = .ok (.iload 5, 2) := by decide +kernel
theorem d_L_law_1045 : decode b_L_law 1045 = .ok (.iconst 1, 1) := by decide +kernel
theorem d_L_law_1046 : decode b_L_law 1046 = .ok (.iadd, 1) := by decide +kernel
theorem d_L_law_1047 : decode b_L_law 1047 = .ok (.iaload, 1) := by decide +kernel
theorem d_L_law_1048 : decode b_L_law 1048 = .ok (.aload_n 3, 1) := by decide +kernel
theorem d_L_law_1049 : decode b_L_law 1049 = .ok (.invokestatic 127, 3) := by decide +kernel
theorem d_L_law_1052 : decode b_L_law 1052 = .ok (.istore 6, 2) := by decide +kernel
theorem d_L_law_1054 : decode b_L_law 1054 = .ok (.aload_n 2, 1) := by decide +kernel
theorem d_L_law_1055 : decode b_L_law 1055 = .ok (.aload_n 0, 1) := by decide +kernel
theorem d_L_law_1056 : decode b_L_law 1056 = .ok (.iload 5, 2) := by decide +kernel
theorem d_L_law_1058 : decode b_L_law 1058 = .ok (.iconst 1, 1) := by decide +kernel
theorem d_L_law_1059 : decode b_L_law 1059 = .ok (.iadd, 1) := by decide +kernel
theorem d_L_law_1060 : decode b_L_law 1060 = .ok (.iaload, 1) := by decide +kernel
theorem d_L_law_1061 : decode b_L_law 1061 = .ok (.invokevirtual 129, 3) := by decide +kernel
theorem d_L_law_1064 : decode b_L_law 1064 = .ok (.istore 7, 2) := by decide +kernel
theorem d_L_law_1066 : decode b_L_law 1066 = .ok (.aload_n 2, 1) := by decide +kernel
theorem d_L_law_1067 : decode b_L_law 1067 = .ok (.invokevirtual 77, 3) := by decide +kernel
theorem d_L_law_1070 : decode b_L_law 1070 = .ok (.iload 6, 2) := by decide +kernel
theorem d_L_law_1072 : decode b_L_law 1072 = .ok (.if_icmp .eq 5, 3) := by decide +kernel
theorem d_L_law_1075 : decode b_L_law 1075 = .ok (.iconst 0, 1) := by decide +kernel
theorem d_L_law_1076 : decode b_L_law 1076 = .ok (.ireturn, 1) := by decide +kernel
theorem d_L_law_1077 : decode b_L_law 1077 = .ok (.iload 6, 2) := by decide +kernel
theorem d_L_law_1079 : decode b_L_law 1079 = .ok (.ifCond .ne 15, 3) := by decide +kernel
theorem d_L_law_1082 : decode b_L_law 1082 = .ok (.aload_n 3, 1) := by decide +kernel
theorem d_L_law_1083 : decode b_L_law 1083 = .ok (.iconst 0, 1) := by decide +kernel
theorem d_L_law_1084 : decode b_L_law 1084 = .ok (.laload, 1) := by decide +kernel
theorem d_L_law_1085 : decode b_L_law 1085 = .ok (.iload 7, 2) := by decide +kernel
theorem d_L_law_1087 : decode b_L_law 1087 = .ok (.i2l, 1) := by decide +kernel
theorem d_L_law_1088 : decode b_L_law 1088 = .ok (.lcmp, 1) := by decide +kernel
theorem d_L_law_1089 : decode b_L_law 1089 = .ok (.ifCond .eq 5, 3) := by decide +kernel
theorem d_L_law_1092 : decode b_L_law 1092 = .ok (.iconst 0, 1) := by decide +kernel
theorem d_L_law_1093 : decode b_L_law 1093 = .ok (.ireturn, 1) := by decide +kernel
theorem d_L_law_1094 : decode b_L_law 1094 = .ok (.goto 3, 3) := by decide +kernel
theorem d_L_law_1097 : decode b_L_law 1097 = .ok (.iinc 5 6, 3) := by decide +kernel
theorem d_L_law_1100 : decode b_L_law 1100 = .ok (.goto (-1072), 3) := by decide +kernel
theorem d_L_law_1103 : decode b_L_law 1103 = .ok (.iconst 1, 1) := by decide +kernel
theorem d_L_law_1104 : decode b_L_law 1104 = .ok (.ireturn, 1) := by decide +kernel
end
section
/-! The class's memory: scalars I, int arrays F, double arrays G; where it lies: L. -/
abbrev MI : Type := Nat → Int32
abbrev MF : Type := Nat → Nat → Int32
abbrev MG : Type := Nat → Nat → UInt64
abbrev cM : Type := MI × MF × MG
def setI (I : MI) (k : Nat) (v : Int32) : MI := fun j => if j = k then v else I j
def setF (F : MF) (k : Nat) (f : Nat → Int32) : MF := fun j => if j = k then f else F j
def setG (G : MG) (k : Nat) (f : Nat → UInt64) : MG := fun j => if j = k then f else G j
/-- classes and slots; the classes of int[], double[], int[][]; the addresses -/
abbrev cL : Type := va_G × ClassId × ClassId × ClassId × (Nat → Nat)
abbrev cA (L : cL) (j : Nat) : Nat := L.2.2.2.2 j
abbrev cTys (L : cL) : List (ClassId × FieldType) := [(L.2.1, .int), (L.2.2.1, .double), (L.2.2.2.1, .array .int)]
/-- the lengths of the int arrays: kind, inputA, inputB, out, row, firstColumn; nextColumn; leftPin, rightPin, driver, track; lesser; endNet, endGroup; order; pinNet's 2 rows; rowPins' 2; points' 11 -/
def cLen (k : Nat) : Nat := [12, 12, 12, 12, 12, 12, 2, 12, 12, 12, 12, 528, 60, 60, 12, 24, 24, 12, 12].getD k 24
def WC (L : cL) (I : MI) (F : MF) (G : MG) : va_W :=
  [(cA L 0, .inr (0, [.ref (cA L 1), .ref (cA L 2), .ref (cA L 3), .ref (cA L 4), .int (I 0)])),
   (cA L 1, .inr (1, [.int (I 1), .ref (cA L 10), .ref (cA L 11), .ref (cA L 12), .ref (cA L 13), .ref (cA L 14), .ref (cA L 15), .ref (cA L 16), .ref (cA L 5), .ref (cA L 6), .ref (cA L 17), .ref (cA L 18), .ref (cA L 19)])),
   (cA L 2, .inr (2, [.ref (cA L 1), .int (I 2), .ref (cA L 20)])),
   (cA L 3, .inr (3, [.ref (cA L 1), .ref (cA L 2), .ref (cA L 7), .ref (cA L 21), .ref (cA L 22), .ref (cA L 23), .int (I 3)])),
   (cA L 4, .inr (4, [.ref (cA L 1), .ref (cA L 2), .ref (cA L 8), .ref (cA L 9), .ref (cA L 24), .int (I 4), .int (I 5)])),
   (cA L 5, .inl (L.2.2.2.1, 2, .inr (.inr (.inr (.inr (fun i => some (cA L (10 + (15 + i))))))))),
   (cA L 6, .inl (L.2.2.2.1, 2, .inr (.inr (.inr (.inr (fun i => some (cA L (10 + (17 + i))))))))),
   (cA L 7, .inl (L.2.2.2.1, 11, .inr (.inr (.inr (.inr (fun i => some (cA L (10 + (19 + i))))))))),
   (cA L 8, .inl (L.2.2.1, 4, .inr (.inr (.inr (.inl (G 0)))))),
   (cA L 9, .inl (L.2.2.1, 12, .inr (.inr (.inr (.inl (G 1))))))] ++ (List.range 30).map (fun k => (cA L (10 + k), .inl (L.2.1, cLen k, .inl (F k))))
theorem WC_int {L : cL} {I : MI} {F : MF} {G : MG} (k : Nat) (hk : k < 30) : (WC L I F G)[10 + k]? = some (cA L (10 + k), .inl (L.2.1, cLen k, .inl (F k))) := by
  unfold WC
  rw [List.getElem?_append_right (by simp)]
  simp only [List.length_cons, List.length_nil, List.getElem?_map]
  rw [show 10 + k - (0 + 1 + 1 + 1 + 1 + 1 + 1 + 1 + 1 + 1 + 1) = k by omega, List.getElem?_range hk]
  rfl
theorem mapset {α : Type} (g : Nat → α) (n k : Nat) (v : α) : ((List.range n).map g).set k v = (List.range n).map (fun j => if j = k then v else g j) := by
  apply List.ext_getElem?
  intro j
  rw [List.getElem?_set, List.getElem?_map, List.getElem?_map]
  by_cases hj : j < n
  · rw [List.getElem?_range hj]
    by_cases e : k = j
    · subst e; simp [hj]
    · simp [e, Ne.symm e]
  · have h0 : (List.range n)[j]? = none := List.getElem?_eq_none (by simp; omega)
    rw [h0]
    by_cases e : k = j
    · subst e; simp; omega
    · simp [e]
theorem WC_setInt {L : cL} {I : MI} {F : MF} {G : MG} (k : Nat) (f : Nat → Int32) : (WC L I F G).set (10 + k) (cA L (10 + k), .inl (L.2.1, cLen k, .inl f)) = WC L I (setF F k f) G := by
  unfold WC
  rw [List.set_append_right _ _ (by simp)]
  congr 1
  simp only [List.length_cons, List.length_nil]
  rw [show 10 + k - (0 + 1 + 1 + 1 + 1 + 1 + 1 + 1 + 1 + 1 + 1) = k by omega, mapset]
  apply List.map_congr_left
  intro j _
  by_cases e : j = k
  · subst e; simp [setF]
  · simp [setF, e]
/-- the world of a walk: the cells, apart and in A, what has changed since the method's start -/
def CW (L : cL) (A : Nat → Prop) (H0 : Heap) (I : MI) (F : MF) (G : MG) (H : Heap) (locs : List Loc) : Prop := va_P L.1 vwCl (WC L I F G) H ∧ va_D A (WC L I F G) ∧ va_S A H0 H locs
/-- what a walk knows of its method -/
def xC (p : Program) (s : State) (m : MethodId) (args : Array Value) (meth : Method) (c : Code) (cc : ByteArray) (nL : Nat) (Ts : List Cond) (own : String) (ret : Option FieldType) : Prop :=
  p.tables.exec = Jvm.exec ∧ c.code = cc ∧ c.maxLocals = nL ∧ s.vm.findClass own = some m.cls ∧ (∀ w ∈ Ts, w.before args s = true) ∧ meth.sig.returnType = ret ∧ meth.locks = false
theorem vp_lt {i : Int32} {n : Nat} (h : vp_in i n) : i.toNatClampNeg < n := by
  rcases Nat.lt_or_ge i.toNatClampNeg n with q | q
  · exact q
  · exact absurd (Or.inr q) h
section WCR
variable {p : Program} {l : Launch} {e : Env} {R : Room} {s : State} {m : MethodId} {args : Array Value} {below : List Frame} {meth : Method} {c : Code} {H : Heap} {locs : List Loc} {cells slots : Nat} {Q : State → Prop}
variable {cc : ByteArray} {pc : Nat} {ls : Array Slot} {rest : List Value} {A : Nat → Prop} {H0 : Heap} {L : cL} {I : MI} {F : MF} {G : MG}
theorem c_iald (hx : p.tables.exec = Jvm.exec) (hb : c.code = cc) (hK : va_K L.1 vwCl (cTys L) s) (hP : va_P L.1 vwCl (WC L I F G) H) (k : Nat) (hk : k < 30) {n : Nat} (hn : cLen k = n) {i : Int32} (hin : vp_in i n) (hdg : decode cc pc = .ok (.iaload, 1))
    (kk : W p l e R s m args below meth c H locs cells slots Q (F0 m (pc + 1) ls (.int (F k i.toNatClampNeg) :: rest))) : W p l e R s m args below meth c H locs cells slots Q (F0 m pc ls (.int i :: .ref (cA L (10 + k)) :: rest)) :=
  va_iald hx hb hK hP (10 + k) 0 (WC_int k hk) rfl (by rw [hn]; exact hin) hdg kk
theorem c_iast (hx : p.tables.exec = Jvm.exec) (hb : c.code = cc) (hK : va_K L.1 vwCl (cTys L) s) (hw : CW L A H0 I F G H locs) (k : Nat) (hk : k < 30) {n : Nat} (hn : cLen k = n) {i v : Int32} (hin : vp_in i n) (hdg : decode cc pc = .ok (.iastore, 1))
    (kk : ∀ (H1 : Heap) (locs1 : List Loc), CW L A H0 I (setF F k (upd (F k) i.toNatClampNeg v)) G H1 locs1 → W p l e R s m args below meth c H1 locs1 cells slots Q (F0 m (pc + 1) ls rest)) : W p l e R s m args below meth c H locs cells slots Q (F0 m pc ls (.int v :: .int i :: .ref (cA L (10 + k)) :: rest)) := by
  refine va_iast hx hb hK hw.1 hw.2.1 hw.2.2 (10 + k) 0 (WC_int k hk) rfl (by rw [hn]; exact hin) hdg (fun H1 locs1 h1 h2 h3 => kk H1 locs1 ?_)
  rw [WC_setInt] at h1 h2
  exact ⟨h1, h2, h3⟩
theorem c_dald (hx : p.tables.exec = Jvm.exec) (hb : c.code = cc) (hK : va_K L.1 vwCl (cTys L) s) (hP : va_P L.1 vwCl (WC L I F G) H) (k : Nat) {n : Nat} (ha : (WC L I F G)[8 + k]? = some (cA L (8 + k), .inl (L.2.2.1, n, .inr (.inr (.inr (.inl (G k))))))) {i : Int32} (hin : vp_in i n) (hdg : decode cc pc = .ok (.daload, 1))
    (kk : W p l e R s m args below meth c H locs cells slots Q (F0 m (pc + 1) ls (.double (G k i.toNatClampNeg) :: rest))) : W p l e R s m args below meth c H locs cells slots Q (F0 m pc ls (.int i :: .ref (cA L (8 + k)) :: rest)) :=
  va_dald hx hb hK hP (8 + k) 1 ha rfl hin hdg kk
theorem c_dast (hx : p.tables.exec = Jvm.exec) (hb : c.code = cc) (hK : va_K L.1 vwCl (cTys L) s) (hw : CW L A H0 I F G H locs) (k : Nat) {n : Nat} (ha : (WC L I F G)[8 + k]? = some (cA L (8 + k), .inl (L.2.2.1, n, .inr (.inr (.inr (.inl (G k))))))) 
    (hs : ∀ f : Nat → UInt64, (WC L I F G).set (8 + k) (cA L (8 + k), .inl (L.2.2.1, n, .inr (.inr (.inr (.inl f))))) = WC L I F (setG G k f)) {i : Int32} {v : UInt64} (hin : vp_in i n) (hdg : decode cc pc = .ok (.dastore, 1))
    (kk : ∀ (H1 : Heap) (locs1 : List Loc), CW L A H0 I F (setG G k (vf_upd (G k) i.toNatClampNeg v)) H1 locs1 → W p l e R s m args below meth c H1 locs1 cells slots Q (F0 m (pc + 1) ls rest)) : W p l e R s m args below meth c H locs cells slots Q (F0 m pc ls (.double v :: .int i :: .ref (cA L (8 + k)) :: rest)) := by
  refine va_dast hx hb hK hw.1 hw.2.1 hw.2.2 (8 + k) 1 ha rfl hin hdg (fun H1 locs1 h1 h2 h3 => kk H1 locs1 ?_)
  rw [hs] at h1 h2
  exact ⟨h1, h2, h3⟩
/-- a row of pinNet, rowPins, points -/
theorem c_row5 (hx : p.tables.exec = Jvm.exec) (hb : c.code = cc) (hK : va_K L.1 vwCl (cTys L) s) (hP : va_P L.1 vwCl (WC L I F G) H) {i : Int32} (hin : vp_in i 2) (hdg : decode cc pc = .ok (.aaload, 1))
    (kk : W p l e R s m args below meth c H locs cells slots Q (F0 m (pc + 1) ls (.ref (cA L (10 + (15 + i.toNatClampNeg))) :: rest))) : W p l e R s m args below meth c H locs cells slots Q (F0 m pc ls (.int i :: .ref (cA L 5) :: rest)) :=
  gx_ald hx hb hK hP 5 2 (f := fun i => cA L (10 + (15 + i))) rfl rfl hin hdg kk
theorem c_row6 (hx : p.tables.exec = Jvm.exec) (hb : c.code = cc) (hK : va_K L.1 vwCl (cTys L) s) (hP : va_P L.1 vwCl (WC L I F G) H) {i : Int32} (hin : vp_in i 2) (hdg : decode cc pc = .ok (.aaload, 1))
    (kk : W p l e R s m args below meth c H locs cells slots Q (F0 m (pc + 1) ls (.ref (cA L (10 + (17 + i.toNatClampNeg))) :: rest))) : W p l e R s m args below meth c H locs cells slots Q (F0 m pc ls (.int i :: .ref (cA L 6) :: rest)) :=
  gx_ald hx hb hK hP 6 2 (f := fun i => cA L (10 + (17 + i))) rfl rfl hin hdg kk
theorem c_row7 (hx : p.tables.exec = Jvm.exec) (hb : c.code = cc) (hK : va_K L.1 vwCl (cTys L) s) (hP : va_P L.1 vwCl (WC L I F G) H) {i : Int32} (hin : vp_in i 11) (hdg : decode cc pc = .ok (.aaload, 1))
    (kk : W p l e R s m args below meth c H locs cells slots Q (F0 m (pc + 1) ls (.ref (cA L (10 + (19 + i.toNatClampNeg))) :: rest))) : W p l e R s m args below meth c H locs cells slots Q (F0 m pc ls (.int i :: .ref (cA L 7) :: rest)) :=
  gx_ald hx hb hK hP 7 2 (f := fun i => cA L (10 + (19 + i))) rfl rfl hin hdg kk
end WCR
theorem row_lt15 {i : Int32} (h : vp_in i 2) : 15 + i.toNatClampNeg < 30 := by have := vp_lt h; omega
theorem row_lt17 {i : Int32} (h : vp_in i 2) : 17 + i.toNatClampNeg < 30 := by have := vp_lt h; omega
theorem row_lt19 {i : Int32} (h : vp_in i 11) : 19 + i.toNatClampNeg < 30 := by have := vp_lt h; omega
theorem row_len15 {i : Int32} (h : vp_in i 2) : cLen (15 + i.toNatClampNeg) = 24 := by
  have := vp_lt h
  generalize i.toNatClampNeg = j at this
  rcases (show j = 0 ∨ j = 1 by omega) with rfl | rfl <;> rfl
theorem row_len17 {i : Int32} (h : vp_in i 2) : cLen (17 + i.toNatClampNeg) = 12 := by
  have := vp_lt h
  generalize i.toNatClampNeg = j at this
  rcases (show j = 0 ∨ j = 1 by omega) with rfl | rfl <;> rfl
theorem row_len19 {i : Int32} (h : vp_in i 11) : cLen (19 + i.toNatClampNeg) = 24 := by
  generalize i.toNatClampNeg = j
  unfold cLen
  rw [List.getD_eq_getElem?_getD, List.getElem?_eq_none (by simp)]
  rfl
/-! contracts' starts and ends -/
/-- the nest's three links, which no list of words hands on -/
def cNk (U : State) : Prop := va_Nw (.methodLinkNest "ChipForge$Netlist" 63 y_F_pinsOfKind "ChipForge") U ∧ va_Nw (.methodLinkNest "ChipForge$Netlist" 71 y_F_hasOneInput "ChipForge") U ∧ va_Nw (.methodLinkNest "ChipForge$Netlist" 84 y_F_within "ChipForge") U
theorem cNk.warm {s U : State} (hW : s.WarmedH U.vm) (h : cNk s) : cNk U := ⟨va_Nw.warmM hW h.1, va_Nw.warmM hW h.2.1, va_Nw.warmM hW h.2.2⟩
theorem cNk.same {s U : State} (hv : s.vm = U.vm) (h : cNk s) : cNk U := ⟨va_Nw.same rfl hv h.1, va_Nw.same rfl hv h.2.1, va_Nw.same rfl hv h.2.2⟩
def sPc (av : List Value) : Array Value → State → Prop := va_Pc av (fun _ => True)
def cPc (L : cL) (I : MI) (F : MF) (G : MG) (av : List Value) : Array Value → State → Prop := va_Pc av (fun U => va_P L.1 vwCl (WC L I F G) U.heap ∧ va_K L.1 vwCl (cTys L) U ∧ cNk U)
def cPm (L : cL) (I : MI) (F : MF) (G : MG) (sz : Nat) (av : List Value) : Array Value → State → Prop := va_Pc av (fun U => U.heap.size = sz ∧ va_P L.1 vwCl (WC L I F G) U.heap ∧ va_K L.1 vwCl (cTys L) U ∧ va_D (fun _ => True) (WC L I F G) ∧ cNk U)
def cB (L : cL) (A : Nat → Prop) (u : cM) (t : State) : Prop := va_P L.1 vwCl (WC L u.1 u.2.1 u.2.2) t.heap ∧ va_K L.1 vwCl (cTys L) t ∧ va_D A (WC L u.1 u.2.1 u.2.2)
abbrev cAA (L : cL) (I : MI) (F : MF) (G : MG) (sz : Nat) : Nat → Prop := va_A (WC L I F G) sz
abbrev cQi (L : cL) (A : Nat → Prop) (post : Int32 → MI → MF → MG → Prop) (A1 : Nat → Prop) := va_Qi (fun r (u : cM) => post r u.1 u.2.1 u.2.2) (cB L A) A1
abbrev cQd (L : cL) (A : Nat → Prop) (post : UInt64 → MI → MF → MG → Prop) (A1 : Nat → Prop) := va_Qd (fun r (u : cM) => post r u.1 u.2.1 u.2.2) (cB L A) A1
abbrev cQv (L : cL) (A : Nat → Prop) (post : MI → MF → MG → Prop) (A1 : Nat → Prop) := va_Qv (fun (u : cM) => post u.1 u.2.1 u.2.2) (cB L A) A1
theorem sPc_blind (av : List Value) : FrameBlind (sPc av) := fun _ _ _ _ h => h
theorem cPc_blind (L : cL) (I : MI) (F : MF) (G : MG) (av : List Value) : FrameBlind (cPc L I F G av) := fun a U g mk h => ⟨h.1, h.2.1, va_K.moved (u := U) (U := U.calling g mk a) (Vm.Alike.refl U.vm) h.2.2.1, cNk.same rfl h.2.2.2⟩
theorem cPm_blind (L : cL) (I : MI) (F : MF) (G : MG) (sz : Nat) (av : List Value) : FrameBlind (cPm L I F G sz av) := fun a U g mk h => ⟨h.1, h.2.1, h.2.2.1, va_K.moved (u := U) (U := U.calling g mk a) (Vm.Alike.refl U.vm) h.2.2.2.1, h.2.2.2.2.1, cNk.same rfl h.2.2.2.2.2⟩
section WCP
variable {s : State} {H : Heap} {locs : List Loc} {A : Nat → Prop} {L : cL} {I : MI} {F : MF} {G : MG} {As : List Value}
theorem cPre0 (hK : va_K L.1 vwCl (cTys L) s) (hN : cNk s) (hP : va_P L.1 vwCl (WC L I F G) H) : PreV s H qR0 (cA L 0) (cPc L I F G (.ref (cA L 0) :: As)) As :=
  ⟨cPc_blind _ _ _ _ _, va_recv hK hP (ci := 0) (q0 := 0) rfl rfl, fun U hU hW => ⟨rfl, by rw [hU]; exact hP, va_K.moved hW.alike hK, cNk.warm hW hN⟩⟩
theorem cPrm0 (hK : va_K L.1 vwCl (cTys L) s) (hN : cNk s) (hw : CW L A s.heap I F G H locs) : PreV s H qR0 (cA L 0) (cPm L I F G H.size (.ref (cA L 0) :: As)) As :=
  ⟨cPm_blind _ _ _ _ _ _, va_recv hK hw.1 (ci := 0) (q0 := 0) rfl rfl, fun U hU hW => ⟨rfl, by rw [hU], by rw [hU]; exact hw.1, va_K.moved hW.alike hK, hw.2.1.weaken (fun _ _ _ _ => trivial), cNk.warm hW hN⟩⟩
theorem cPre1 (hK : va_K L.1 vwCl (cTys L) s) (hN : cNk s) (hP : va_P L.1 vwCl (WC L I F G) H) : PreV s H qR1 (cA L 1) (cPc L I F G (.ref (cA L 1) :: As)) As :=
  ⟨cPc_blind _ _ _ _ _, va_recv hK hP (ci := 1) (q0 := 1) rfl rfl, fun U hU hW => ⟨rfl, by rw [hU]; exact hP, va_K.moved hW.alike hK, cNk.warm hW hN⟩⟩
theorem cPrm1 (hK : va_K L.1 vwCl (cTys L) s) (hN : cNk s) (hw : CW L A s.heap I F G H locs) : PreV s H qR1 (cA L 1) (cPm L I F G H.size (.ref (cA L 1) :: As)) As :=
  ⟨cPm_blind _ _ _ _ _ _, va_recv hK hw.1 (ci := 1) (q0 := 1) rfl rfl, fun U hU hW => ⟨rfl, by rw [hU], by rw [hU]; exact hw.1, va_K.moved hW.alike hK, hw.2.1.weaken (fun _ _ _ _ => trivial), cNk.warm hW hN⟩⟩
theorem cPre2 (hK : va_K L.1 vwCl (cTys L) s) (hN : cNk s) (hP : va_P L.1 vwCl (WC L I F G) H) : PreV s H qR2 (cA L 2) (cPc L I F G (.ref (cA L 2) :: As)) As :=
  ⟨cPc_blind _ _ _ _ _, va_recv hK hP (ci := 2) (q0 := 2) rfl rfl, fun U hU hW => ⟨rfl, by rw [hU]; exact hP, va_K.moved hW.alike hK, cNk.warm hW hN⟩⟩
theorem cPrm2 (hK : va_K L.1 vwCl (cTys L) s) (hN : cNk s) (hw : CW L A s.heap I F G H locs) : PreV s H qR2 (cA L 2) (cPm L I F G H.size (.ref (cA L 2) :: As)) As :=
  ⟨cPm_blind _ _ _ _ _ _, va_recv hK hw.1 (ci := 2) (q0 := 2) rfl rfl, fun U hU hW => ⟨rfl, by rw [hU], by rw [hU]; exact hw.1, va_K.moved hW.alike hK, hw.2.1.weaken (fun _ _ _ _ => trivial), cNk.warm hW hN⟩⟩
theorem cPre3 (hK : va_K L.1 vwCl (cTys L) s) (hN : cNk s) (hP : va_P L.1 vwCl (WC L I F G) H) : PreV s H qR3 (cA L 3) (cPc L I F G (.ref (cA L 3) :: As)) As :=
  ⟨cPc_blind _ _ _ _ _, va_recv hK hP (ci := 3) (q0 := 3) rfl rfl, fun U hU hW => ⟨rfl, by rw [hU]; exact hP, va_K.moved hW.alike hK, cNk.warm hW hN⟩⟩
theorem cPrm3 (hK : va_K L.1 vwCl (cTys L) s) (hN : cNk s) (hw : CW L A s.heap I F G H locs) : PreV s H qR3 (cA L 3) (cPm L I F G H.size (.ref (cA L 3) :: As)) As :=
  ⟨cPm_blind _ _ _ _ _ _, va_recv hK hw.1 (ci := 3) (q0 := 3) rfl rfl, fun U hU hW => ⟨rfl, by rw [hU], by rw [hU]; exact hw.1, va_K.moved hW.alike hK, hw.2.1.weaken (fun _ _ _ _ => trivial), cNk.warm hW hN⟩⟩
theorem cPre4 (hK : va_K L.1 vwCl (cTys L) s) (hN : cNk s) (hP : va_P L.1 vwCl (WC L I F G) H) : PreV s H qR4 (cA L 4) (cPc L I F G (.ref (cA L 4) :: As)) As :=
  ⟨cPc_blind _ _ _ _ _, va_recv hK hP (ci := 4) (q0 := 4) rfl rfl, fun U hU hW => ⟨rfl, by rw [hU]; exact hP, va_K.moved hW.alike hK, cNk.warm hW hN⟩⟩
theorem cPrm4 (hK : va_K L.1 vwCl (cTys L) s) (hN : cNk s) (hw : CW L A s.heap I F G H locs) : PreV s H qR4 (cA L 4) (cPm L I F G H.size (.ref (cA L 4) :: As)) As :=
  ⟨cPm_blind _ _ _ _ _ _, va_recv hK hw.1 (ci := 4) (q0 := 4) rfl rfl, fun U hU hW => ⟨rfl, by rw [hU], by rw [hU]; exact hw.1, va_K.moved hW.alike hK, hw.2.1.weaken (fun _ _ _ _ => trivial), cNk.warm hW hN⟩⟩
theorem cfree (hw : CW L A s.heap I F G H locs) (hA : ∀ q, s.heap.size ≤ q → A q) : ∀ q, cAA L I F G H.size q → A q := fun q h => by
  rcases h with ⟨k, e, h⟩ | h
  · exact hw.2.1.2 k _ h
  · exact hA q (Nat.le_trans hw.2.2.1 h)
end WCP
section WCC
variable {p : Program} {l : Launch} {e : Env} {R : Room} {s : State} {m : MethodId} {args : Array Value} {below : List Frame} {meth : Method} {c : Code} {H : Heap} {locs : List Loc} {cells slots : Nat} {Q : State → Prop}
variable {cc : ByteArray} {pc : Nat} {ls : Array Slot} {rest st0 : List Value} {A : Nat → Prop} {L : cL} {I : MI} {F : MF} {G : MG} {a : Array Value}
theorem c_back (hw : CW L A s.heap I F G H locs) (hA : ∀ q, s.heap.size ≤ q → A q) {u : cM} {t : State} {H1 : Heap} {locs1 : List Loc} (ht : t.heap = H1) (hB : cB L (cAA L I F G H.size) u t) (hS : va_S A s.heap H1 locs1) : CW L A s.heap u.1 u.2.1 u.2.2 H1 locs1 :=
  ⟨by rw [← ht]; exact hB.1, hB.2.2.weaken (fun _ _ _ h => cfree hw hA _ h), hS⟩
theorem c_calli {post : Int32 → MI → MF → MG → Prop} (hr : va_Run p l e R s m args below meth c H locs cells slots 0 0 (F0 m pc ls st0) rest (cQi L (cAA L I F G H.size) post (cAA L I F G H.size) a) (cAA L I F G H.size)) (hw : CW L A s.heap I F G H locs) (hA : ∀ q, s.heap.size ≤ q → A q)
    (kk : ∀ (r : Int32) (I1 : MI) (F1 : MF) (G1 : MG) (H1 : Heap) (locs1 : List Loc), post r I1 F1 G1 → CW L A s.heap I1 F1 G1 H1 locs1 → W p l e R s m args below meth c H1 locs1 cells slots Q (F0 m (pc + 3) ls (.int r :: rest))) : W p l e R s m args below meth c H locs cells slots Q (F0 m pc ls st0) :=
  va_calli hr hw.2.2 (fun q _ h => cfree hw hA q h) (cfree hw hA) (fun r u t H1 locs1 ht _ hp hB _ _ hS => kk r u.1 u.2.1 u.2.2 H1 locs1 hp (c_back hw hA ht hB hS))
theorem c_calld {post : UInt64 → MI → MF → MG → Prop} (hr : va_Run p l e R s m args below meth c H locs cells slots 0 0 (F0 m pc ls st0) rest (cQd L (cAA L I F G H.size) post (cAA L I F G H.size) a) (cAA L I F G H.size)) (hw : CW L A s.heap I F G H locs) (hA : ∀ q, s.heap.size ≤ q → A q)
    (kk : ∀ (r : UInt64) (I1 : MI) (F1 : MF) (G1 : MG) (H1 : Heap) (locs1 : List Loc), post r I1 F1 G1 → CW L A s.heap I1 F1 G1 H1 locs1 → W p l e R s m args below meth c H1 locs1 cells slots Q (F0 m (pc + 3) ls (.double r :: rest))) : W p l e R s m args below meth c H locs cells slots Q (F0 m pc ls st0) :=
  va_calld hr hw.2.2 (fun q _ h => cfree hw hA q h) (cfree hw hA) (fun r u t H1 locs1 ht _ hp hB _ _ hS => kk r u.1 u.2.1 u.2.2 H1 locs1 hp (c_back hw hA ht hB hS))
theorem c_callv {post : MI → MF → MG → Prop} (hr : va_Run p l e R s m args below meth c H locs cells slots 0 0 (F0 m pc ls st0) rest (cQv L (cAA L I F G H.size) post (cAA L I F G H.size) a) (cAA L I F G H.size)) (hw : CW L A s.heap I F G H locs) (hA : ∀ q, s.heap.size ≤ q → A q)
    (kk : ∀ (I1 : MI) (F1 : MF) (G1 : MG) (H1 : Heap) (locs1 : List Loc), post I1 F1 G1 → CW L A s.heap I1 F1 G1 H1 locs1 → W p l e R s m args below meth c H1 locs1 cells slots Q (F0 m (pc + 3) ls rest)) : W p l e R s m args below meth c H locs cells slots Q (F0 m pc ls st0) :=
  va_callv hr hw.2.2 (fun q _ h => cfree hw hA q h) (cfree hw hA) (fun u t H1 locs1 ht _ hp hB _ _ hS => kk u.1 u.2.1 u.2.2 H1 locs1 hp (c_back hw hA ht hB hS))
end WCC
end
section
theorem wG16 : (.selects "ChipForge$Drawing" y_D_netsJoinedWith y_D_netsJoinedWith : Cond) ∈ lwG := inG (i := 16) (by decide +kernel) (by decide +kernel)
theorem wG17 : (.selects "ChipForge$Drawing" y_D_netsInGroup y_D_netsInGroup : Cond) ∈ lwG := inG (i := 17) (by decide +kernel) (by decide +kernel)
theorem wG48 : (.initialized "ChipForge" : Cond) ∈ lwG := inG (i := 48) (by decide +kernel) (by decide +kernel)
theorem wG49 : (.initialized "ChipForge$Netlist" : Cond) ∈ lwG := inG (i := 49) (by decide +kernel) (by decide +kernel)
theorem wG51 : (.initialized "ChipForge$Channel" : Cond) ∈ lwG := inG (i := 51) (by decide +kernel) (by decide +kernel)
theorem wG52 : (.initialized "ChipForge$Drawing" : Cond) ∈ lwG := inG (i := 52) (by decide +kernel) (by decide +kernel)
theorem wG53 : (.initialized "ChipForge$Signals" : Cond) ∈ lwG := inG (i := 53) (by decide +kernel) (by decide +kernel)
theorem wG63 : (.initialized "java/lang/Integer" : Cond) ∈ lwG := inG (i := 63) (by decide +kernel) (by decide +kernel)
theorem wG88 : (.fieldLink "ChipForge$Netlist" 53 "ChipForge$Netlist" "gates" "I" : Cond) ∈ lwG := inG (i := 88) (by decide +kernel) (by decide +kernel)
theorem wG89 : (.fieldLink "ChipForge$Signals" 43 "ChipForge$Netlist" "gates" "I" : Cond) ∈ lwG := inG (i := 89) (by decide +kernel) (by decide +kernel)
theorem wG91 : (.fieldLink "ChipForge$Netlist" 9 "ChipForge$Netlist" "kind" "[I" : Cond) ∈ lwG := inG (i := 91) (by decide +kernel) (by decide +kernel)
theorem wG92 : (.fieldLink "ChipForge$Signals" 69 "ChipForge$Netlist" "kind" "[I" : Cond) ∈ lwG := inG (i := 92) (by decide +kernel) (by decide +kernel)
theorem wG94 : (.fieldLink "ChipForge$Signals" 55 "ChipForge$Netlist" "inputA" "[I" : Cond) ∈ lwG := inG (i := 94) (by decide +kernel) (by decide +kernel)
theorem wG96 : (.fieldLink "ChipForge$Signals" 58 "ChipForge$Netlist" "inputB" "[I" : Cond) ∈ lwG := inG (i := 96) (by decide +kernel) (by decide +kernel)
theorem wG98 : (.fieldLink "ChipForge$Signals" 49 "ChipForge$Netlist" "out" "[I" : Cond) ∈ lwG := inG (i := 98) (by decide +kernel) (by decide +kernel)
theorem wG101 : (.fieldLink "ChipForge$Netlist" 27 "ChipForge$Netlist" "firstColumn" "[I" : Cond) ∈ lwG := inG (i := 101) (by decide +kernel) (by decide +kernel)
theorem wG102 : (.fieldLink "ChipForge$Netlist" 30 "ChipForge$Netlist" "nextColumn" "[I" : Cond) ∈ lwG := inG (i := 102) (by decide +kernel) (by decide +kernel)
theorem wG103 : (.fieldLink "ChipForge$Netlist" 35 "ChipForge$Netlist" "pinNet" "[[I" : Cond) ∈ lwG := inG (i := 103) (by decide +kernel) (by decide +kernel)
theorem wG105 : (.fieldLink "ChipForge$Netlist" 38 "ChipForge$Netlist" "rowPins" "[[I" : Cond) ∈ lwG := inG (i := 105) (by decide +kernel) (by decide +kernel)
theorem wG106 : (.fieldLink "ChipForge$Channel" 64 "ChipForge$Netlist" "rowPins" "[[I" : Cond) ∈ lwG := inG (i := 106) (by decide +kernel) (by decide +kernel)
theorem wG107 : (.fieldLink "ChipForge$Netlist" 41 "ChipForge$Netlist" "leftPin" "[I" : Cond) ∈ lwG := inG (i := 107) (by decide +kernel) (by decide +kernel)
theorem wG108 : (.fieldLink "ChipForge$Netlist" 44 "ChipForge$Netlist" "rightPin" "[I" : Cond) ∈ lwG := inG (i := 108) (by decide +kernel) (by decide +kernel)
theorem wG109 : (.fieldLink "ChipForge$Netlist" 47 "ChipForge$Netlist" "driver" "[I" : Cond) ∈ lwG := inG (i := 109) (by decide +kernel) (by decide +kernel)
theorem wG145 : (.fieldLink "ChipForge$Channel" 15 "ChipForge$Channel" "netlist" "LChipForge$Netlist;" : Cond) ∈ lwG := inG (i := 145) (by decide +kernel) (by decide +kernel)
theorem wG146 : (.fieldLink "ChipForge$Channel" 25 "ChipForge$Channel" "tracks" "I" : Cond) ∈ lwG := inG (i := 146) (by decide +kernel) (by decide +kernel)
theorem wG149 : (.fieldLink "ChipForge$Channel" 9 "ChipForge$Channel" "track" "[I" : Cond) ∈ lwG := inG (i := 149) (by decide +kernel) (by decide +kernel)
theorem wG167 : (.fieldLink "ChipForge$Drawing" 30 "ChipForge$Drawing" "channel" "LChipForge$Channel;" : Cond) ∈ lwG := inG (i := 167) (by decide +kernel) (by decide +kernel)
theorem wG168 : (.fieldLink "ChipForge$Drawing" 13 "ChipForge$Drawing" "points" "[[I" : Cond) ∈ lwG := inG (i := 168) (by decide +kernel) (by decide +kernel)
theorem wG171 : (.fieldLink "ChipForge$Drawing" 20 "ChipForge$Drawing" "endNet" "[I" : Cond) ∈ lwG := inG (i := 171) (by decide +kernel) (by decide +kernel)
theorem wG172 : (.fieldLink "ChipForge$Drawing" 23 "ChipForge$Drawing" "endGroup" "[I" : Cond) ∈ lwG := inG (i := 172) (by decide +kernel) (by decide +kernel)
theorem wG173 : (.fieldLink "ChipForge$Drawing" 104 "ChipForge$Drawing" "ends" "I" : Cond) ∈ lwG := inG (i := 173) (by decide +kernel) (by decide +kernel)
theorem wG195 : (.fieldLink "ChipForge$Signals" 22 "ChipForge$Signals" "netlist" "LChipForge$Netlist;" : Cond) ∈ lwG := inG (i := 195) (by decide +kernel) (by decide +kernel)
theorem wG196 : (.fieldLink "ChipForge$Signals" 26 "ChipForge$Signals" "channel" "LChipForge$Channel;" : Cond) ∈ lwG := inG (i := 196) (by decide +kernel) (by decide +kernel)
theorem wG199 : (.fieldLink "ChipForge$Signals" 15 "ChipForge$Signals" "arrivals" "[D" : Cond) ∈ lwG := inG (i := 199) (by decide +kernel) (by decide +kernel)
theorem wG200 : (.fieldLink "ChipForge$Signals" 18 "ChipForge$Signals" "order" "[I" : Cond) ∈ lwG := inG (i := 200) (by decide +kernel) (by decide +kernel)
theorem wG201 : (.fieldLink "ChipForge$Signals" 30 "ChipForge$Signals" "ordered" "I" : Cond) ∈ lwG := inG (i := 201) (by decide +kernel) (by decide +kernel)
theorem wG202 : (.fieldLink "ChipForge$Signals" 34 "ChipForge$Signals" "settledNets" "I" : Cond) ∈ lwG := inG (i := 202) (by decide +kernel) (by decide +kernel)
theorem wG250 : (.static y_F_within : Cond) ∈ lwG := inG (i := 250) (by decide +kernel) (by decide +kernel)
theorem wG251 : (.code y_F_within prog_1_method_20_code 2 (Option.some Jvm.ClassFile.FieldType.boolean) : Cond) ∈ lwG := inG (i := 251) (by decide +kernel) (by decide +kernel)
theorem wG322 : (.methodLink "ChipForge" 56 y_F_hasOneInput : Cond) ∈ lwG := inG (i := 322) (by decide +kernel) (by decide +kernel)
theorem wG323 : (.static y_F_hasOneInput : Cond) ∈ lwG := inG (i := 323) (by decide +kernel) (by decide +kernel)
theorem wG324 : (.code y_F_hasOneInput prog_1_method_21_code 1 (Option.some Jvm.ClassFile.FieldType.boolean) : Cond) ∈ lwG := inG (i := 324) (by decide +kernel) (by decide +kernel)
theorem wG331 : (.static y_F_pinsOfKind : Cond) ∈ lwG := inG (i := 331) (by decide +kernel) (by decide +kernel)
theorem wG332 : (.code y_F_pinsOfKind prog_1_method_22_code 1 (Option.some Jvm.ClassFile.FieldType.int) : Cond) ∈ lwG := inG (i := 332) (by decide +kernel) (by decide +kernel)
theorem wG334 : (.instanceMethod y_N_isDriven : Cond) ∈ lwG := inG (i := 334) (by decide +kernel) (by decide +kernel)
theorem wG335 : (.selects "ChipForge$Netlist" y_N_isDriven y_N_isDriven : Cond) ∈ lwG := inG (i := 335) (by decide +kernel) (by decide +kernel)
theorem wG336 : (.code y_N_isDriven prog_4_method_8_code 2 (Option.some Jvm.ClassFile.FieldType.boolean) : Cond) ∈ lwG := inG (i := 336) (by decide +kernel) (by decide +kernel)
theorem wG385 : (.methodLink "ChipForge$Netlist" 97 y_N_isWired : Cond) ∈ lwG := inG (i := 385) (by decide +kernel) (by decide +kernel)
theorem wG386 : (.instanceMethod y_N_isWired : Cond) ∈ lwG := inG (i := 386) (by decide +kernel) (by decide +kernel)
theorem wG387 : (.selects "ChipForge$Netlist" y_N_isWired y_N_isWired : Cond) ∈ lwG := inG (i := 387) (by decide +kernel) (by decide +kernel)
theorem wG388 : (.code y_N_isWired prog_4_method_11_code 2 (Option.some Jvm.ClassFile.FieldType.boolean) : Cond) ∈ lwG := inG (i := 388) (by decide +kernel) (by decide +kernel)
theorem wG389 : (.methodLink "ChipForge$Netlist" 91 y_N_pins : Cond) ∈ lwG := inG (i := 389) (by decide +kernel) (by decide +kernel)
theorem wG390 : (.instanceMethod y_N_pins : Cond) ∈ lwG := inG (i := 390) (by decide +kernel) (by decide +kernel)
theorem wG391 : (.selects "ChipForge$Netlist" y_N_pins y_N_pins : Cond) ∈ lwG := inG (i := 391) (by decide +kernel) (by decide +kernel)
theorem wG392 : (.code y_N_pins prog_4_method_9_code 2 (Option.some Jvm.ClassFile.FieldType.int) : Cond) ∈ lwG := inG (i := 392) (by decide +kernel) (by decide +kernel)
theorem wG393 : (.methodLink "ChipForge$Netlist" 94 y_N_hasPad : Cond) ∈ lwG := inG (i := 393) (by decide +kernel) (by decide +kernel)
theorem wG394 : (.instanceMethod y_N_hasPad : Cond) ∈ lwG := inG (i := 394) (by decide +kernel) (by decide +kernel)
theorem wG395 : (.selects "ChipForge$Netlist" y_N_hasPad y_N_hasPad : Cond) ∈ lwG := inG (i := 395) (by decide +kernel) (by decide +kernel)
theorem wG396 : (.code y_N_hasPad prog_4_method_10_code 2 (Option.some Jvm.ClassFile.FieldType.boolean) : Cond) ∈ lwG := inG (i := 396) (by decide +kernel) (by decide +kernel)
theorem wG397 : (.methodLink "ChipForge$Netlist" 88 y_N_isDriven : Cond) ∈ lwG := inG (i := 397) (by decide +kernel) (by decide +kernel)
theorem wG402 : (.methodLink "ChipForge$Channel" 51 y_N_leftEnd : Cond) ∈ lwG := inG (i := 402) (by decide +kernel) (by decide +kernel)
theorem wG403 : (.instanceMethod y_N_leftEnd : Cond) ∈ lwG := inG (i := 403) (by decide +kernel) (by decide +kernel)
theorem wG404 : (.selects "ChipForge$Netlist" y_N_leftEnd y_N_leftEnd : Cond) ∈ lwG := inG (i := 404) (by decide +kernel) (by decide +kernel)
theorem wG405 : (.code y_N_leftEnd prog_4_method_13_code 2 (Option.some Jvm.ClassFile.FieldType.int) : Cond) ∈ lwG := inG (i := 405) (by decide +kernel) (by decide +kernel)
theorem wG410 : (.methodLink "ChipForge$Channel" 61 y_N_isAbove : Cond) ∈ lwG := inG (i := 410) (by decide +kernel) (by decide +kernel)
theorem wG411 : (.instanceMethod y_N_isAbove : Cond) ∈ lwG := inG (i := 411) (by decide +kernel) (by decide +kernel)
theorem wG412 : (.selects "ChipForge$Netlist" y_N_isAbove y_N_isAbove : Cond) ∈ lwG := inG (i := 412) (by decide +kernel) (by decide +kernel)
theorem wG413 : (.code y_N_isAbove prog_4_method_15_code 4 (Option.some Jvm.ClassFile.FieldType.boolean) : Cond) ∈ lwG := inG (i := 413) (by decide +kernel) (by decide +kernel)
theorem wG414 : (.methodLink "ChipForge$Channel" 58 y_N_rightEnd : Cond) ∈ lwG := inG (i := 414) (by decide +kernel) (by decide +kernel)
theorem wG415 : (.instanceMethod y_N_rightEnd : Cond) ∈ lwG := inG (i := 415) (by decide +kernel) (by decide +kernel)
theorem wG416 : (.selects "ChipForge$Netlist" y_N_rightEnd y_N_rightEnd : Cond) ∈ lwG := inG (i := 416) (by decide +kernel) (by decide +kernel)
theorem wG417 : (.code y_N_rightEnd prog_4_method_14_code 2 (Option.some Jvm.ClassFile.FieldType.int) : Cond) ∈ lwG := inG (i := 417) (by decide +kernel) (by decide +kernel)
theorem wG506 : (.instanceMethod y_C_wireLength : Cond) ∈ lwG := inG (i := 506) (by decide +kernel) (by decide +kernel)
theorem wG507 : (.selects "ChipForge$Channel" y_C_wireLength y_C_wireLength : Cond) ∈ lwG := inG (i := 507) (by decide +kernel) (by decide +kernel)
theorem wG508 : (.code y_C_wireLength prog_2_method_6_code 5 (Option.some Jvm.ClassFile.FieldType.int) : Cond) ∈ lwG := inG (i := 508) (by decide +kernel) (by decide +kernel)
theorem wG527 : (.instanceMethod y_C_lines : Cond) ∈ lwG := inG (i := 527) (by decide +kernel) (by decide +kernel)
theorem wG528 : (.selects "ChipForge$Channel" y_C_lines y_C_lines : Cond) ∈ lwG := inG (i := 528) (by decide +kernel) (by decide +kernel)
theorem wG529 : (.code y_C_lines prog_2_method_5_code 1 (Option.some Jvm.ClassFile.FieldType.int) : Cond) ∈ lwG := inG (i := 529) (by decide +kernel) (by decide +kernel)
theorem wG550 : (.methodLink "ChipForge$Drawing" 69 y_C_lines : Cond) ∈ lwG := inG (i := 550) (by decide +kernel) (by decide +kernel)
theorem wG602 : (.methodLink "ChipForge$Drawing" 125 y_D_netsJoinedWith : Cond) ∈ lwG := inG (i := 602) (by decide +kernel) (by decide +kernel)
theorem wG604 : (.instanceMethod y_D_netsJoinedWith : Cond) ∈ lwG := inG (i := 604) (by decide +kernel) (by decide +kernel)
theorem wG605 : (.code y_D_netsJoinedWith prog_3_method_18_code 4 (Option.some Jvm.ClassFile.FieldType.int) : Cond) ∈ lwG := inG (i := 605) (by decide +kernel) (by decide +kernel)
theorem wG606 : (.methodLink "ChipForge$Drawing" 128 y_D_netsInGroup : Cond) ∈ lwG := inG (i := 606) (by decide +kernel) (by decide +kernel)
theorem wG608 : (.instanceMethod y_D_netsInGroup : Cond) ∈ lwG := inG (i := 608) (by decide +kernel) (by decide +kernel)
theorem wG609 : (.code y_D_netsInGroup prog_3_method_19_code 4 (Option.some Jvm.ClassFile.FieldType.int) : Cond) ∈ lwG := inG (i := 609) (by decide +kernel) (by decide +kernel)
theorem wG610 : (.methodLink "ChipForge$Drawing" 120 y_JI_bitCount : Cond) ∈ lwG := inG (i := 610) (by decide +kernel) (by decide +kernel)
theorem wG611 : (.static y_JI_bitCount : Cond) ∈ lwG := inG (i := 611) (by decide +kernel) (by decide +kernel)
theorem wG612 : (.code y_JI_bitCount prog_13_method_49_code 1 (Option.some Jvm.ClassFile.FieldType.int) : Cond) ∈ lwG := inG (i := 612) (by decide +kernel) (by decide +kernel)
theorem wG637 : (.instanceMethod y_C_wireDelay : Cond) ∈ lwG := inG (i := 637) (by decide +kernel) (by decide +kernel)
theorem wG638 : (.selects "ChipForge$Channel" y_C_wireDelay y_C_wireDelay : Cond) ∈ lwG := inG (i := 638) (by decide +kernel) (by decide +kernel)
theorem wG639 : (.code y_C_wireDelay prog_2_method_7_code 4 (Option.some Jvm.ClassFile.FieldType.double) : Cond) ∈ lwG := inG (i := 639) (by decide +kernel) (by decide +kernel)
theorem wG640 : (.methodLink "ChipForge$Channel" 68 y_C_wireLength : Cond) ∈ lwG := inG (i := 640) (by decide +kernel) (by decide +kernel)
theorem wG643 : (.methodLink "ChipForge$Channel" 75 y_N_pins : Cond) ∈ lwG := inG (i := 643) (by decide +kernel) (by decide +kernel)
theorem wG656 : (.methodLink "ChipForge$Signals" 37 y_N_isDriven : Cond) ∈ lwG := inG (i := 656) (by decide +kernel) (by decide +kernel)
theorem wG661 : (.methodLink "ChipForge$Signals" 52 y_S_isSettled : Cond) ∈ lwG := inG (i := 661) (by decide +kernel) (by decide +kernel)
theorem wG662 : (.instanceMethod y_S_isSettled : Cond) ∈ lwG := inG (i := 662) (by decide +kernel) (by decide +kernel)
theorem wG663 : (.selects "ChipForge$Signals" y_S_isSettled y_S_isSettled : Cond) ∈ lwG := inG (i := 663) (by decide +kernel) (by decide +kernel)
theorem wG664 : (.code y_S_isSettled prog_5_method_4_code 2 (Option.some Jvm.ClassFile.FieldType.boolean) : Cond) ∈ lwG := inG (i := 664) (by decide +kernel) (by decide +kernel)
theorem wG665 : (.methodLink "ChipForge$Signals" 61 y_S_bit : Cond) ∈ lwG := inG (i := 665) (by decide +kernel) (by decide +kernel)
theorem wG666 : (.static y_S_bit : Cond) ∈ lwG := inG (i := 666) (by decide +kernel) (by decide +kernel)
theorem wG667 : (.code y_S_bit prog_5_method_9_code 2 (Option.some Jvm.ClassFile.FieldType.int) : Cond) ∈ lwG := inG (i := 667) (by decide +kernel) (by decide +kernel)
theorem wG693 : (.methodLink "ChipForge$Signals" 72 y_C_wireDelay : Cond) ∈ lwG := inG (i := 693) (by decide +kernel) (by decide +kernel)
theorem wG710 : (.methodLink "ChipForge$Signals" 77 y_S_output : Cond) ∈ lwG := inG (i := 710) (by decide +kernel) (by decide +kernel)
theorem wG711 : (.static y_S_output : Cond) ∈ lwG := inG (i := 711) (by decide +kernel) (by decide +kernel)
theorem wG712 : (.code y_S_output prog_5_method_10_code 3 (Option.some Jvm.ClassFile.FieldType.int) : Cond) ∈ lwG := inG (i := 712) (by decide +kernel) (by decide +kernel)
end
section
def wp_F_within (a0 : Int32) (a1 : Int32) (post : Int32 → Prop) : Prop := ((a0 < 0 → post 0) ∧ (¬ a0 < 0 → ((a1 ≤ a0 → post 0) ∧ (¬ a1 ≤ a0 → post 1))))
def wp_F_hasOneInput (a0 : Int32) (post : Int32 → Prop) : Prop := ((a0 = 0 → post 1) ∧ (¬ a0 = 0 → ((¬ a0 = 1 → post 0) ∧ (a0 = 1 → post 1))))
def wp_F_pinsOfKind (a0 : Int32) (post : Int32 → Prop) : Prop := wp_F_hasOneInput a0 (fun r_1 => ((r_1 = 0 → post 3) ∧ (¬ r_1 = 0 → post 2)))
def wp_N_hasRoom (a1 : Int32) (a2 : Int32) (I : MI) (F : MF) (G : MG) (post : Int32 → Prop) : Prop := ((12 ≤ (I 1) → post 0) ∧ (¬ 12 ≤ (I 1) → vp_in a2 2 ∧ (wp_F_pinsOfKind a1 (fun r_3 => ((24 < ((F 6 a2.toNatClampNeg) + r_3) → post 0) ∧ (¬ 24 < ((F 6 a2.toNatClampNeg) + r_3) → post 1))))))
def wp_N_isDriven (a1 : Int32) (I : MI) (F : MF) (G : MG) (post : Int32 → Prop) : Prop := vp_in a1 12 ∧ ((((F 9 a1.toNatClampNeg) = (-1) → post 0) ∧ (¬ (F 9 a1.toNatClampNeg) = (-1) → post 1)))
def wp_N_pins (a1 : Int32) (I : MI) (F : MF) (G : MG) (post : Int32 → Prop) : Prop := vp_in 0 2 ∧ (vp_in a1 12 ∧ (vp_in 1 2 ∧ (vp_in a1 12 ∧ (post ((F (17 + (0 : Int32).toNatClampNeg) a1.toNatClampNeg) + (F (17 + (1 : Int32).toNatClampNeg) a1.toNatClampNeg))))))
def wp_N_hasPad (a1 : Int32) (I : MI) (F : MF) (G : MG) (post : Int32 → Prop) : Prop := wp_N_isDriven a1 I F G (fun r_1 => ((¬ r_1 = 0 → post 0) ∧ (r_1 = 0 → wp_N_pins a1 I F G (fun r_3 => ((r_3 ≤ 0 → post 0) ∧ (¬ r_3 ≤ 0 → post 1))))))
def wp_N_isWired (a1 : Int32) (I : MI) (F : MF) (G : MG) (post : Int32 → Prop) : Prop := wp_N_pins a1 I F G (fun r_1 => ((2 ≤ r_1 → post 1) ∧ (¬ 2 ≤ r_1 → wp_N_hasPad a1 I F G (fun r_3 => ((r_3 = 0 → post 0) ∧ (¬ r_3 = 0 → post 1))))))
def wl_N_wiredNets_4 (post : Int32 → Prop) (K : Int32 → Int32 → Prop) (I : MI) (F : MF) (G : MG) : Nat → Int32 → Int32 → Prop
  | 0, _, _ => False
  | n + 1, a1, a2 => ((12 ≤ a2 → K a1 a2) ∧ (¬ 12 ≤ a2 → wp_N_isWired a2 I F G (fun r_2 => ((r_2 = 0 → ∀ x_4 : Int32, x_4 = a2 + 1 → wl_N_wiredNets_4 post K I F G n a1 x_4) ∧ (¬ r_2 = 0 → ∀ x_5 : Int32, x_5 = a1 + 1 → ∀ x_6 : Int32, x_6 = a2 + 1 → wl_N_wiredNets_4 post K I F G n x_5 x_6)))))
def wp_N_wiredNets (I : MI) (F : MF) (G : MG) (post : Int32 → Prop) : Prop := ∃ n, wl_N_wiredNets_4 post (fun (x_7 : Int32) (x_8 : Int32) => post x_7) I F G n 0 0
def wp_N_leftEnd (a1 : Int32) (I : MI) (F : MF) (G : MG) (post : Int32 → Prop) : Prop := wp_N_isWired a1 I F G (fun r_1 => ((¬ r_1 = 0 → wp_N_hasPad a1 I F G (fun r_3 => ((r_3 = 0 → vp_in a1 12 ∧ (post (F 7 a1.toNatClampNeg))) ∧ (¬ r_3 = 0 → post 0)))) ∧ (r_1 = 0 → post (-1))))
def wl_N_isAbove_25 (post : Int32 → Prop) (K : Int32 → Prop) (a1 : Int32) (a2 : Int32) (I : MI) (F : MF) (G : MG) : Nat → Int32 → Prop
  | 0, _ => False
  | n + 1, a3 => ((24 ≤ a3 → K a3) ∧ (¬ 24 ≤ a3 → vp_in 0 2 ∧ (vp_in a3 24 ∧ (((¬ (F (15 + (0 : Int32).toNatClampNeg) a3.toNatClampNeg) = a1 → ∀ x_10 : Int32, x_10 = a3 + 1 → wl_N_isAbove_25 post K a1 a2 I F G n x_10) ∧ ((F (15 + (0 : Int32).toNatClampNeg) a3.toNatClampNeg) = a1 → vp_in 1 2 ∧ (vp_in a3 24 ∧ (((¬ (F (15 + (1 : Int32).toNatClampNeg) a3.toNatClampNeg) = a2 → ∀ x_14 : Int32, x_14 = a3 + 1 → wl_N_isAbove_25 post K a1 a2 I F G n x_14) ∧ ((F (15 + (1 : Int32).toNatClampNeg) a3.toNatClampNeg) = a2 → post 1))))))))))
def wp_N_isAbove (a1 : Int32) (a2 : Int32) (I : MI) (F : MF) (G : MG) (post : Int32 → Prop) : Prop := ((a1 = a2 → post 0) ∧ (¬ a1 = a2 → wp_N_isWired a1 I F G (fun r_2 => ((r_2 = 0 → post 0) ∧ (¬ r_2 = 0 → wp_N_isWired a2 I F G (fun r_4 => ((¬ r_4 = 0 → ∃ n, wl_N_isAbove_25 post (fun (x_15 : Int32) => post 0) a1 a2 I F G n 0) ∧ (r_4 = 0 → post 0))))))))
def wl_C_isFreeFromAbove_2 (post : Int32 → Prop) (K : Int32 → Prop) (a1 : Int32) (a2 : Int32) (I : MI) (F : MF) (G : MG) : Nat → Int32 → Prop
  | 0, _ => False
  | n + 1, a3 => ((12 ≤ a3 → K a3) ∧ (¬ 12 ≤ a3 → vp_in a3 12 ∧ ((((F 10 a3.toNatClampNeg) ≤ 0 → ((¬ 0 = 0 → ∀ x_5 : Int32, x_5 = a3 + 1 → wl_C_isFreeFromAbove_2 post K a1 a2 I F G n x_5) ∧ (0 = 0 → wp_N_isAbove a3 a1 I F G (fun r_6 => ((r_6 = 0 → ∀ x_8 : Int32, x_8 = a3 + 1 → wl_C_isFreeFromAbove_2 post K a1 a2 I F G n x_8) ∧ (¬ r_6 = 0 → post 0)))))) ∧ (¬ (F 10 a3.toNatClampNeg) ≤ 0 → vp_in a3 12 ∧ (((a2 ≤ (F 10 a3.toNatClampNeg) → ((¬ 0 = 0 → ∀ x_12 : Int32, x_12 = a3 + 1 → wl_C_isFreeFromAbove_2 post K a1 a2 I F G n x_12) ∧ (0 = 0 → wp_N_isAbove a3 a1 I F G (fun r_13 => ((r_13 = 0 → ∀ x_15 : Int32, x_15 = a3 + 1 → wl_C_isFreeFromAbove_2 post K a1 a2 I F G n x_15) ∧ (¬ r_13 = 0 → post 0)))))) ∧ (¬ a2 ≤ (F 10 a3.toNatClampNeg) → ((¬ 1 = 0 → ∀ x_17 : Int32, x_17 = a3 + 1 → wl_C_isFreeFromAbove_2 post K a1 a2 I F G n x_17) ∧ (1 = 0 → wp_N_isAbove a3 a1 I F G (fun r_18 => ((r_18 = 0 → ∀ x_20 : Int32, x_20 = a3 + 1 → wl_C_isFreeFromAbove_2 post K a1 a2 I F G n x_20) ∧ (¬ r_18 = 0 → post 0)))))))))))))
def wp_C_isFreeFromAbove (a1 : Int32) (a2 : Int32) (I : MI) (F : MF) (G : MG) (post : Int32 → Prop) : Prop := ∃ n, wl_C_isFreeFromAbove_2 post (fun (x_21 : Int32) => post 1) a1 a2 I F G n 0
def wp_N_rightEnd (a1 : Int32) (I : MI) (F : MF) (G : MG) (post : Int32 → Prop) : Prop := wp_N_isWired a1 I F G (fun r_1 => ((r_1 = 0 → post (-1)) ∧ (¬ r_1 = 0 → vp_in a1 12 ∧ (post (F 8 a1.toNatClampNeg)))))
def wp_N_hasPin (a1 : Int32) (a2 : Int32) (I : MI) (F : MF) (G : MG) (post : Int32 → Prop) : Prop := wp_F_within a1 (I 1) (fun r_1 => ((r_1 = 0 → post 0) ∧ (¬ r_1 = 0 → vp_in a1 12 ∧ (wp_F_pinsOfKind (F 0 a1.toNatClampNeg) (fun r_4 => wp_F_within a2 r_4 (fun r_5 => ((r_5 = 0 → post 0) ∧ (¬ r_5 = 0 → post 1))))))))
def wp_N_pinColumn (a1 : Int32) (a2 : Int32) (I : MI) (F : MF) (G : MG) (post : Int32 → Prop) : Prop := vp_in a1 12 ∧ (post ((F 5 a1.toNatClampNeg) + a2))
def wp_C_wireLength (a1 : Int32) (I : MI) (F : MF) (G : MG) (post : Int32 → Prop) : Prop := vp_in a1 12 ∧ (((¬ (F 10 a1.toNatClampNeg) = 0 → wp_N_rightEnd a1 I F G (fun r_3 => wp_N_leftEnd a1 I F G (fun r_4 => ∀ x_5 : Int32, x_5 = r_3 - r_4 → vp_in 0 2 ∧ (vp_in a1 12 ∧ (vp_in a1 12 ∧ (∀ x_9 : Int32, x_9 = (F (17 + (0 : Int32).toNatClampNeg) a1.toNatClampNeg) * (F 10 a1.toNatClampNeg) → vp_in 1 2 ∧ (vp_in a1 12 ∧ (vp_in a1 12 ∧ (∀ x_13 : Int32, x_13 = (F (17 + (1 : Int32).toNatClampNeg) a1.toNatClampNeg) * (((I 2) + 1) - (F 10 a1.toNatClampNeg)) → post ((x_5 + x_9) + x_13)))))))))) ∧ ((F 10 a1.toNatClampNeg) = 0 → post 0)))
def wp_C_lines (I : MI) (F : MF) (G : MG) (post : Int32 → Prop) : Prop := post ((I 2) + 2)
def wp_D_spot (a0 : Int32) (a1 : Int32) (a2 : Int32) (post : Int32 → Prop) : Prop := post ((((a0 * 24) + a1) * 2) + a2)
def wl_D_netsInGroup_4 (post : Int32 → Prop) (K : Int32 → Int32 → Prop) (a1 : Int32) (I : MI) (F : MF) (G : MG) : Nat → Int32 → Int32 → Prop
  | 0, _, _ => False
  | n + 1, a2, a3 => (((I 3) ≤ a3 → K a2 a3) ∧ (¬ (I 3) ≤ a3 → vp_in a3 60 ∧ (((¬ (F 13 a3.toNatClampNeg) = a1 → ∀ x_4 : Int32, x_4 = a3 + 1 → wl_D_netsInGroup_4 post K a1 I F G n a2 x_4) ∧ ((F 13 a3.toNatClampNeg) = a1 → vp_in a3 60 ∧ (∀ x_6 : Int32, x_6 = a2 ||| (1 <<< ((F 12 a3.toNatClampNeg) &&& 31)) → ∀ x_7 : Int32, x_7 = a3 + 1 → wl_D_netsInGroup_4 post K a1 I F G n x_6 x_7))))))
def wp_D_netsInGroup (a1 : Int32) (I : MI) (F : MF) (G : MG) (post : Int32 → Prop) : Prop := ∃ n, wl_D_netsInGroup_4 post (fun (x_8 : Int32) (x_9 : Int32) => post x_8) a1 I F G n 0 0
def wl_D_netsJoinedWith_4 (post : Int32 → Prop) (K : Int32 → Int32 → Prop) (a1 : Int32) (I : MI) (F : MF) (G : MG) : Nat → Int32 → Int32 → Prop
  | 0, _, _ => False
  | n + 1, a2, a3 => (((I 3) ≤ a3 → K a2 a3) ∧ (¬ (I 3) ≤ a3 → vp_in a3 60 ∧ (((¬ (F 12 a3.toNatClampNeg) = a1 → ∀ x_4 : Int32, x_4 = a3 + 1 → wl_D_netsJoinedWith_4 post K a1 I F G n a2 x_4) ∧ ((F 12 a3.toNatClampNeg) = a1 → vp_in a3 60 ∧ (wp_D_netsInGroup (F 13 a3.toNatClampNeg) I F G (fun r_6 => ∀ x_7 : Int32, x_7 = a2 ||| r_6 → ∀ x_8 : Int32, x_8 = a3 + 1 → wl_D_netsJoinedWith_4 post K a1 I F G n x_7 x_8)))))))
def wp_D_netsJoinedWith (a1 : Int32) (I : MI) (F : MF) (G : MG) (post : Int32 → Prop) : Prop := ∃ n, wl_D_netsJoinedWith_4 post (fun (x_9 : Int32) (x_10 : Int32) => post x_9) a1 I F G n 0 0
def wl_D_shortPairs_4 (post : Int32 → Prop) (K : Int32 → Int32 → Prop) (I : MI) (F : MF) (G : MG) : Nat → Int32 → Int32 → Prop
  | 0, _, _ => False
  | n + 1, a1, a2 => ((12 ≤ a2 → K a1 a2) ∧ (¬ 12 ≤ a2 → ∀ x_2 : Int32, x_2 = (1 <<< (a2 &&& 31)) - 1 → wp_D_netsJoinedWith a2 I F G (fun r_3 => wp_bitCount (r_3 &&& x_2) (fun r_4 => ∀ x_5 : Int32, x_5 = a1 + r_4 → ∀ x_6 : Int32, x_6 = a2 + 1 → wl_D_shortPairs_4 post K I F G n x_5 x_6))))
def wp_D_shortPairs (I : MI) (F : MF) (G : MG) (post : Int32 → Prop) : Prop := ∃ n, wl_D_shortPairs_4 post (fun (x_7 : Int32) (x_8 : Int32) => post x_7) I F G n 0 0
def wl_D_openNets_14 (post : Int32 → Prop) (K : Int32 → Int32 → Prop) (a2 : Int32) (I : MI) (F : MF) (G : MG) : Nat → Int32 → Int32 → Prop
  | 0, _, _ => False
  | n + 1, a1, a3 => ((a2 ≤ a3 → K a1 a3) ∧ (¬ a2 ≤ a3 → vp_in a2 60 ∧ (vp_in a3 60 ∧ (((¬ (F 12 a2.toNatClampNeg) = (F 12 a3.toNatClampNeg) → ∀ x_6 : Int32, x_6 = a3 + 1 → wl_D_openNets_14 post K a2 I F G n a1 x_6) ∧ ((F 12 a2.toNatClampNeg) = (F 12 a3.toNatClampNeg) → vp_in a2 60 ∧ (vp_in a3 60 ∧ ((((F 13 a2.toNatClampNeg) = (F 13 a3.toNatClampNeg) → ∀ x_10 : Int32, x_10 = a3 + 1 → wl_D_openNets_14 post K a2 I F G n a1 x_10) ∧ (¬ (F 13 a2.toNatClampNeg) = (F 13 a3.toNatClampNeg) → vp_in a2 60 ∧ (∀ x_12 : Int32, x_12 = a1 ||| (1 <<< ((F 12 a2.toNatClampNeg) &&& 31)) → ∀ x_13 : Int32, x_13 = a3 + 1 → wl_D_openNets_14 post K a2 I F G n x_12 x_13)))))))))))
def wl_D_openNets_4 (post : Int32 → Prop) (K : Int32 → Int32 → Prop) (I : MI) (F : MF) (G : MG) : Nat → Int32 → Int32 → Prop
  | 0, _, _ => False
  | n + 1, a1, a2 => (((I 3) ≤ a2 → K a1 a2) ∧ (¬ (I 3) ≤ a2 → ∃ n, wl_D_openNets_14 post (fun (x_14 : Int32) (x_15 : Int32) => ∀ x_16 : Int32, x_16 = a2 + 1 → wl_D_openNets_4 post K I F G n x_14 x_16) a2 I F G n a1 0))
def wp_D_openNets (I : MI) (F : MF) (G : MG) (post : Int32 → Prop) : Prop := ∃ n, wl_D_openNets_4 post (fun (x_18 : Int32) (x_19 : Int32) => wp_bitCount x_18 (fun r_20 => post r_20)) I F G n 0 0
def wp_C_wireDelay (a1 : Int32) (I : MI) (F : MF) (G : MG) (post : UInt64 → Prop) : Prop := vp_in a1 12 ∧ (((¬ (F 10 a1.toNatClampNeg) = 0 → wp_C_wireLength a1 I F G (fun r_3 => ∀ x_4 : UInt64, x_4 = FP.i2d r_3 → vf_n64 (FP.dmul 4598175219545276416 x_4) ∧ (vf_n64 (FP.dmul 4602678819172646912 x_4) ∧ (wp_N_pins a1 I F G (fun r_7 => vf_n64 (FP.dadd (FP.dmul 4602678819172646912 x_4) (FP.i2d r_7)) ∧ (vf_n64 (FP.dmul (FP.dmul 4598175219545276416 x_4) (FP.dadd (FP.dmul 4602678819172646912 x_4) (FP.i2d r_7))) ∧ (post (FP.dmul (FP.dmul 4598175219545276416 x_4) (FP.dadd (FP.dmul 4602678819172646912 x_4) (FP.i2d r_7)))))))))) ∧ ((F 10 a1.toNatClampNeg) = 0 → post FP.dconst0)))
def wp_S_bit (a0 : Int32) (a1 : Int32) (post : Int32 → Prop) : Prop := post ((a0 >>> (a1 &&& 31)) &&& 1)
def wp_S_isSettled (a1 : Int32) (I : MI) (F : MF) (G : MG) (post : Int32 → Prop) : Prop := wp_S_bit (I 5) a1 (fun r_1 => ((¬ r_1 = 1 → post 0) ∧ (r_1 = 1 → post 1)))
def wp_S_isReady (a1 : Int32) (I : MI) (F : MF) (G : MG) (post : Int32 → Prop) : Prop := vp_in a1 12 ∧ (wp_S_isSettled (F 3 a1.toNatClampNeg) I F G (fun r_2 => ((¬ r_2 = 0 → post 0) ∧ (r_2 = 0 → vp_in a1 12 ∧ (wp_S_isSettled (F 1 a1.toNatClampNeg) I F G (fun r_5 => ((r_5 = 0 → post 0) ∧ (¬ r_5 = 0 → vp_in a1 12 ∧ (wp_S_isSettled (F 2 a1.toNatClampNeg) I F G (fun r_8 => ((r_8 = 0 → post 0) ∧ (¬ r_8 = 0 → post 1))))))))))))
def wp_S_arrivalBehind (a1 : Int32) (I : MI) (F : MF) (G : MG) (post : UInt64 → Prop) : Prop := vp_in a1 12 ∧ (wp_C_wireDelay a1 I F G (fun r_2 => vf_n64 (FP.dadd (G 1 a1.toNatClampNeg) r_2) ∧ (post (FP.dadd (G 1 a1.toNatClampNeg) r_2))))
def wp_S_allSettled (I : MI) (F : MF) (G : MG) (post : Int32 → Prop) : Prop := ((¬ (I 4) = (I 1) → post 0) ∧ ((I 4) = (I 1) → post 1))
def wp_S_output (a0 : Int32) (a1 : Int32) (a2 : Int32) (post : Int32 → Prop) : Prop := ((a0 = 0 → post (1 - a1)) ∧ (¬ a0 = 0 → ((a0 = 1 → post a1) ∧ (¬ a0 = 1 → ((a0 = 2 → post (1 - (a1 &&& a2))) ∧ (¬ a0 = 2 → post (1 - (a1 ||| a2))))))))
def wl_S_levels_4 (post : Int32 → Prop) (K : Int32 → Int32 → Prop) (a1 : Int32) (I : MI) (F : MF) (G : MG) : Nat → Int32 → Int32 → Prop
  | 0, _, _ => False
  | n + 1, a2, a3 => ((12 ≤ a3 → K a2 a3) ∧ (¬ 12 ≤ a3 → wp_N_isDriven a3 I F G (fun r_2 => ((¬ r_2 = 0 → ∀ x_4 : Int32, x_4 = a3 + 1 → wl_S_levels_4 post K a1 I F G n a2 x_4) ∧ (r_2 = 0 → wp_S_bit a1 a3 (fun r_5 => ∀ x_6 : Int32, x_6 = a2 ||| (r_5 <<< (a3 &&& 31)) → ∀ x_7 : Int32, x_7 = a3 + 1 → wl_S_levels_4 post K a1 I F G n x_6 x_7))))))
def wl_S_levels_39 (post : Int32 → Prop) (K : Int32 → Int32 → Prop) (a1 : Int32) (I : MI) (F : MF) (G : MG) : Nat → Int32 → Int32 → Prop
  | 0, _, _ => False
  | n + 1, a2, a3 => (((I 4) ≤ a3 → K a2 a3) ∧ (¬ (I 4) ≤ a3 → vp_in a3 12 ∧ (∀ x_12 : Int32, x_12 = F 14 a3.toNatClampNeg → vp_in x_12 12 ∧ (wp_S_bit a2 (F 1 x_12.toNatClampNeg) (fun r_14 => vp_in x_12 12 ∧ (wp_S_bit a2 (F 2 x_12.toNatClampNeg) (fun r_16 => vp_in x_12 12 ∧ (wp_S_output (F 0 x_12.toNatClampNeg) r_14 r_16 (fun r_18 => vp_in x_12 12 ∧ (∀ x_20 : Int32, x_20 = a2 ||| (r_18 <<< ((F 3 x_12.toNatClampNeg) &&& 31)) → ∀ x_21 : Int32, x_21 = a3 + 1 → wl_S_levels_39 post K a1 I F G n x_20 x_21))))))))))
def wp_S_levels (a1 : Int32) (I : MI) (F : MF) (G : MG) (post : Int32 → Prop) : Prop := ∃ n, wl_S_levels_4 post (fun (x_8 : Int32) (x_9 : Int32) => ∃ n, wl_S_levels_39 post (fun (x_22 : Int32) (x_23 : Int32) => post x_22) a1 I F G n x_8 0) a1 I F G n 0 0
def wl_D_pointsWith_18 (post : Int32 → Prop) (K : Int32 → Int32 → Prop) (a1 : Int32) (a3 : Int32) (I : MI) (F : MF) (G : MG) : Nat → Int32 → Int32 → Prop
  | 0, _, _ => False
  | n + 1, a2, a4 => ((24 ≤ a4 → K a2 a4) ∧ (¬ 24 ≤ a4 → vp_in a3 11 ∧ (vp_in a4 24 ∧ (((((F (19 + a3.toNatClampNeg) a4.toNatClampNeg) &&& a1) = 0 → ∀ x_7 : Int32, x_7 = a4 + 1 → wl_D_pointsWith_18 post K a1 a3 I F G n a2 x_7) ∧ (¬ ((F (19 + a3.toNatClampNeg) a4.toNatClampNeg) &&& a1) = 0 → ∀ x_8 : Int32, x_8 = a2 + 1 → ∀ x_9 : Int32, x_9 = a4 + 1 → wl_D_pointsWith_18 post K a1 a3 I F G n x_8 x_9))))))
def wl_D_pointsWith_4 (post : Int32 → Prop) (K : Int32 → Int32 → Prop) (a1 : Int32) (I : MI) (F : MF) (G : MG) : Nat → Int32 → Int32 → Prop
  | 0, _, _ => False
  | n + 1, a2, a3 => wp_C_lines I F G (fun r_1 => ((r_1 ≤ a3 → K a2 a3) ∧ (¬ r_1 ≤ a3 → ∃ n, wl_D_pointsWith_18 post (fun (x_10 : Int32) (x_11 : Int32) => ∀ x_12 : Int32, x_12 = a3 + 1 → wl_D_pointsWith_4 post K a1 I F G n x_10 x_12) a1 a3 I F G n a2 0)))
def wp_D_pointsWith (a1 : Int32) (I : MI) (F : MF) (G : MG) (post : Int32 → Prop) : Prop := ∃ n, wl_D_pointsWith_4 post (fun (x_14 : Int32) (x_15 : Int32) => post x_14) a1 I F G n 0 0
end
section
abbrev rm_F_within : Room := { frames := 0, cells := 0, slots := 0, locals := 0 }
set_option maxHeartbeats 4000000 in
set_option maxRecDepth 100000 in
theorem c_F_within (l : Launch) (a0 : Int32) (a1 : Int32) (post : Int32 → Prop) (h : wp_F_within a0 a1 post) : Met l y_F_within (.code y_F_within b_F_within 2 (some .boolean) :: lwG) rm_F_within (sPc [.int a0, .int a1]) (vp_Si post) 0 0 (fun _ => False) := by
  refine Met.ofW (cc := b_F_within) (maxL := 2) (ret := (some .boolean)) (by decide) rfl ?_
  intro p e s m args below meth c s₁ B hml hv
  obtain ⟨rfl, -⟩ := hv
  have xc : xC p s m _ meth c b_F_within 2 lwG qR0 (some .boolean) := ⟨B.exec, B.bytes, hml, findClass_of_methodNamed B.named, fun w h => atoms_spec (ws := (.code y_F_within b_F_within 2 (some .boolean) :: lwG)) B.pre w (List.mem_cons_of_mem _ h), B.returns, B.notSynchronized⟩
  obtain ⟨hx, hb, hml, hown, hts, hr, hlocks⟩ := id xc
  have hl := lv_entry ([.int a0, .int a1]) (n := 2) (Nat.le_of_ble_eq_true rfl)
  rw [lg_entry_eq]
  generalize (lg_sl ([.int a0, .int a1]) ++ List.replicate (2 - (lg_sl ([.int a0, .int a1])).length) Slot.unset).toArray = ls at hl ⊢
  have hl : lv_has ls 2 [(0, .int a0), (1, .int a1)] := hl
  refine lv_iload_n hx hb d_F_within_0 rfl (lv_at hl 0 rfl) ?_
  refine lv_if_lt (tgt := 13) hx hb d_F_within_1 (by decide) (fun c_1 => ?_) (fun c_1 => ?_)
  · replace h := h.1 c_1
    refine lv_iconst (v := 0) hx hb d_F_within_13 (by decide) ?_
    exact W.zret hx hb hr rfl (fun t ht _ => ⟨_, rfl, h, ht⟩) (fun _ h9 => nomatch h9) d_F_within_14
  · replace h := h.2 c_1
    refine lv_iload_n hx hb d_F_within_4 rfl (lv_at hl 0 rfl) ?_
    refine lv_iload_n hx hb d_F_within_5 rfl (lv_at hl 1 rfl) ?_
    refine lv_icmp_ge (tgt := 13) hx hb d_F_within_6 (by decide) (fun c_2 => ?_) (fun c_2 => ?_)
    · replace h := h.1 c_2
      refine lv_iconst (v := 0) hx hb d_F_within_13 (by decide) ?_
      exact W.zret hx hb hr rfl (fun t ht _ => ⟨_, rfl, h, ht⟩) (fun _ h9 => nomatch h9) d_F_within_14
    · replace h := h.2 c_2
      refine lv_iconst (v := 1) hx hb d_F_within_9 (by decide) ?_
      refine lv_goto (tgt := 14) hx hb d_F_within_10 (by decide) ?_
      exact W.zret hx hb hr rfl (fun t ht _ => ⟨_, rfl, h, ht⟩) (fun _ h9 => nomatch h9) d_F_within_14
abbrev rm_F_hasOneInput : Room := { frames := 0, cells := 0, slots := 0, locals := 0 }
set_option maxHeartbeats 4000000 in
set_option maxRecDepth 100000 in
theorem c_F_hasOneInput (l : Launch) (a0 : Int32) (post : Int32 → Prop) (h : wp_F_hasOneInput a0 post) : Met l y_F_hasOneInput (.code y_F_hasOneInput b_F_hasOneInput 1 (some .boolean) :: lwG) rm_F_hasOneInput (sPc [.int a0]) (vp_Si post) 0 0 (fun _ => False) := by
  refine Met.ofW (cc := b_F_hasOneInput) (maxL := 1) (ret := (some .boolean)) (by decide) rfl ?_
  intro p e s m args below meth c s₁ B hml hv
  obtain ⟨rfl, -⟩ := hv
  have xc : xC p s m _ meth c b_F_hasOneInput 1 lwG qR0 (some .boolean) := ⟨B.exec, B.bytes, hml, findClass_of_methodNamed B.named, fun w h => atoms_spec (ws := (.code y_F_hasOneInput b_F_hasOneInput 1 (some .boolean) :: lwG)) B.pre w (List.mem_cons_of_mem _ h), B.returns, B.notSynchronized⟩
  obtain ⟨hx, hb, hml, hown, hts, hr, hlocks⟩ := id xc
  have hl := lv_entry ([.int a0]) (n := 1) (Nat.le_of_ble_eq_true rfl)
  rw [lg_entry_eq]
  generalize (lg_sl ([.int a0]) ++ List.replicate (1 - (lg_sl ([.int a0])).length) Slot.unset).toArray = ls at hl ⊢
  have hl : lv_has ls 1 [(0, .int a0)] := hl
  refine lv_iload_n hx hb d_F_hasOneInput_0 rfl (lv_at hl 0 rfl) ?_
  refine lv_if_eq (tgt := 9) hx hb d_F_hasOneInput_1 (by decide) (fun c_1 => ?_) (fun c_1 => ?_)
  · replace h := h.1 c_1
    refine lv_iconst (v := 1) hx hb d_F_hasOneInput_9 (by decide) ?_
    refine lv_goto (tgt := 14) hx hb d_F_hasOneInput_10 (by decide) ?_
    exact W.zret hx hb hr rfl (fun t ht _ => ⟨_, rfl, h, ht⟩) (fun _ h9 => nomatch h9) d_F_hasOneInput_14
  · replace h := h.2 c_1
    refine lv_iload_n hx hb d_F_hasOneInput_4 rfl (lv_at hl 0 rfl) ?_
    refine lv_iconst (v := 1) hx hb d_F_hasOneInput_5 (by decide) ?_
    refine lv_icmp_ne (tgt := 13) hx hb d_F_hasOneInput_6 (by decide) (fun c_2 => ?_) (fun c_2 => ?_)
    · replace h := h.1 c_2
      refine lv_iconst (v := 0) hx hb d_F_hasOneInput_13 (by decide) ?_
      exact W.zret hx hb hr rfl (fun t ht _ => ⟨_, rfl, h, ht⟩) (fun _ h9 => nomatch h9) d_F_hasOneInput_14
    · replace h := h.2 c_2
      refine lv_iconst (v := 1) hx hb d_F_hasOneInput_9 (by decide) ?_
      refine lv_goto (tgt := 14) hx hb d_F_hasOneInput_10 (by decide) ?_
      exact W.zret hx hb hr rfl (fun t ht _ => ⟨_, rfl, h, ht⟩) (fun _ h9 => nomatch h9) d_F_hasOneInput_14
abbrev rm_F_pinsOfKind : Room := { frames := 1, cells := 0, slots := 0, locals := 20 }
set_option maxHeartbeats 4000000 in
set_option maxRecDepth 100000 in
theorem c_F_pinsOfKind (l : Launch) (a0 : Int32) (post : Int32 → Prop) (h : wp_F_pinsOfKind a0 post) : Met l y_F_pinsOfKind (.code y_F_pinsOfKind b_F_pinsOfKind 1 (some .int) :: lwG) rm_F_pinsOfKind (sPc [.int a0]) (vp_Si post) 0 0 (fun _ => False) := by
  refine Met.ofW (cc := b_F_pinsOfKind) (maxL := 1) (ret := (some .int)) (by decide) rfl ?_
  intro p e s m args below meth c s₁ B hml hv
  obtain ⟨rfl, -⟩ := hv
  have xc : xC p s m _ meth c b_F_pinsOfKind 1 lwG qR0 (some .int) := ⟨B.exec, B.bytes, hml, findClass_of_methodNamed B.named, fun w h => atoms_spec (ws := (.code y_F_pinsOfKind b_F_pinsOfKind 1 (some .int) :: lwG)) B.pre w (List.mem_cons_of_mem _ h), B.returns, B.notSynchronized⟩
  obtain ⟨hx, hb, hml, hown, hts, hr, hlocks⟩ := id xc
  have hl := lv_entry ([.int a0]) (n := 1) (Nat.le_of_ble_eq_true rfl)
  rw [lg_entry_eq]
  generalize (lg_sl ([.int a0]) ++ List.replicate (1 - (lg_sl ([.int a0])).length) Slot.unset).toArray = ls at hl ⊢
  have hl : lv_has ls 1 [(0, .int a0)] := hl
  refine lv_iload_n hx hb d_F_pinsOfKind_0 rfl (lv_at hl 0 rfl) ?_
  refine vp_callSi (va_runS (As := [.int a0]) (rest := []) ⟨hx, hb, hml, hown, hts⟩ (c_F_hasOneInput l a0 _ h) (va_cwS 1 hts (gS wG322 wG323 wG48 wG324) rfl rfl rfl (by decide +kernel) ⟨Nat.le_of_ble_eq_true rfl, Nat.le_of_ble_eq_true rfl⟩) ⟨sPc_blind _, fun U hU hW => ⟨rfl, trivial⟩⟩ rfl rfl hl.1 rfl (lv_room (Nat.le_of_ble_eq_true rfl)) d_F_pinsOfKind_1 ⟨Nat.le_of_ble_eq_true rfl, Nat.le_of_ble_eq_true rfl⟩).run (fun r_1 h => ?_)
  refine lv_if_eq (tgt := 11) hx hb d_F_pinsOfKind_4 (by decide) (fun c_2 => ?_) (fun c_2 => ?_)
  · replace h := h.1 c_2
    refine lv_iconst (v := 3) hx hb d_F_pinsOfKind_11 (by decide) ?_
    exact W.iret hx hb hr (fun t ht _ => ⟨_, rfl, h, ht⟩) (fun _ h9 => nomatch h9) d_F_pinsOfKind_12
  · replace h := h.2 c_2
    refine lv_iconst (v := 2) hx hb d_F_pinsOfKind_7 (by decide) ?_
    refine lv_goto (tgt := 12) hx hb d_F_pinsOfKind_8 (by decide) ?_
    exact W.iret hx hb hr (fun t ht _ => ⟨_, rfl, h, ht⟩) (fun _ h9 => nomatch h9) d_F_pinsOfKind_12
abbrev rm_N_hasRoom : Room := { frames := 2, cells := 0, slots := 0, locals := 40 }
set_option maxHeartbeats 4000000 in
set_option maxRecDepth 100000 in
theorem c_N_hasRoom (l : Launch) (L : cL) (a1 : Int32) (a2 : Int32) (I : MI) (F : MF) (G : MG) (post : Int32 → Prop) (h : wp_N_hasRoom a1 a2 I F G post) : Met l y_N_hasRoom (.code y_N_hasRoom b_N_hasRoom 3 (some .boolean) :: lwG) rm_N_hasRoom (cPc L I F G [.ref (cA L 1), .int a1, .int a2]) (vp_Si post) 0 0 (fun _ => False) := by
  refine Met.ofW (cc := b_N_hasRoom) (maxL := 3) (ret := (some .boolean)) (by decide) rfl ?_
  intro p e s m args below meth c s₁ B hml hv
  obtain ⟨rfl, hP, hK, hN⟩ := hv
  have xc : xC p s m _ meth c b_N_hasRoom 3 lwG qR1 (some .boolean) := ⟨B.exec, B.bytes, hml, findClass_of_methodNamed B.named, fun w h => atoms_spec (ws := (.code y_N_hasRoom b_N_hasRoom 3 (some .boolean) :: lwG)) B.pre w (List.mem_cons_of_mem _ h), B.returns, B.notSynchronized⟩
  obtain ⟨hx, hb, hml, hown, hts, hr, hlocks⟩ := id xc
  have hl := lv_entry ([.ref (cA L 1), .int a1, .int a2]) (n := 3) (Nat.le_of_ble_eq_true rfl)
  rw [lg_entry_eq]
  generalize (lg_sl ([.ref (cA L 1), .int a1, .int a2]) ++ List.replicate (3 - (lg_sl ([.ref (cA L 1), .int a1, .int a2])).length) Slot.unset).toArray = ls at hl ⊢
  have hl : lv_has ls 3 [(0, .ref (cA L 1)), (1, .int a1), (2, .int a2)] := hl
  refine lv_aload_n hx hb d_N_hasRoom_0 rfl (lv_at hl 0 rfl) ?_
  refine va_get (D := L.1) (ci := 1) (v := .int (I 1)) (C := qR1) (T := qT1) (N := 13) hx hb hts qi1 hown hK hP 1 rfl rfl 0 (by decide) (hts _ wG88) (fun _ h9 => h9) rfl d_N_hasRoom_1 ?_
  refine lv_bipush (v := 12) hx hb d_N_hasRoom_4 (by decide) ?_
  refine lv_icmp_ge (tgt := 29) hx hb d_N_hasRoom_6 (by decide) (fun c_1 => ?_) (fun c_1 => ?_)
  · replace h := h.1 c_1
    refine lv_iconst (v := 0) hx hb d_N_hasRoom_29 (by decide) ?_
    exact W.zret hx hb hr rfl (fun t ht _ => ⟨_, rfl, h, ht⟩) (fun _ h9 => nomatch h9) d_N_hasRoom_30
  · replace h := h.2 c_1
    refine lv_aload_n hx hb d_N_hasRoom_9 rfl (lv_at hl 0 rfl) ?_
    refine va_get (D := L.1) (ci := 1) (v := .ref (cA L 16)) (C := qR1) (T := qT1) (N := 13) hx hb hts qi1 hown hK hP 1 rfl rfl 7 (by decide) (hts _ wG102) (fun _ h9 => h9) rfl d_N_hasRoom_10 ?_
    refine lv_iload_n hx hb d_N_hasRoom_13 rfl (lv_at hl 2 rfl) ?_
    obtain ⟨hi_2, h⟩ := h
    refine c_iald hx hb hK hP 6 (by decide) rfl hi_2 d_N_hasRoom_14 ?_
    refine lv_iload_n hx hb d_N_hasRoom_15 rfl (lv_at hl 1 rfl) ?_
    refine vp_callSi (va_runSN (As := [.int a1]) (rest := [.int (F 6 a2.toNatClampNeg)]) ⟨hx, hb, hml, hown, hts⟩ (c_F_pinsOfKind l a1 _ h) ⟨va_cnB 1 hts (gC wG332) rfl rfl rfl (hN.1) (hts _ wG48) (by decide +kernel) ⟨Nat.le_of_ble_eq_true rfl, Nat.le_of_ble_eq_true rfl⟩, hts _ wG331, trivial⟩ ⟨sPc_blind _, fun U hU hW => ⟨rfl, trivial⟩⟩ rfl rfl hl.1 rfl (lv_room (Nat.le_of_ble_eq_true rfl)) d_N_hasRoom_16 ⟨Nat.le_of_ble_eq_true rfl, Nat.le_of_ble_eq_true rfl⟩).run (fun r_3 h => ?_)
    refine lv_iadd hx hb d_N_hasRoom_19 ?_
    refine lv_bipush (v := 24) hx hb d_N_hasRoom_20 (by decide) ?_
    refine lv_icmp_gt (tgt := 29) hx hb d_N_hasRoom_22 (by decide) (fun c_4 => ?_) (fun c_4 => ?_)
    · replace h := h.1 c_4
      refine lv_iconst (v := 0) hx hb d_N_hasRoom_29 (by decide) ?_
      exact W.zret hx hb hr rfl (fun t ht _ => ⟨_, rfl, h, ht⟩) (fun _ h9 => nomatch h9) d_N_hasRoom_30
    · replace h := h.2 c_4
      refine lv_iconst (v := 1) hx hb d_N_hasRoom_25 (by decide) ?_
      refine lv_goto (tgt := 30) hx hb d_N_hasRoom_26 (by decide) ?_
      exact W.zret hx hb hr rfl (fun t ht _ => ⟨_, rfl, h, ht⟩) (fun _ h9 => nomatch h9) d_N_hasRoom_30
abbrev rm_N_isDriven : Room := { frames := 0, cells := 0, slots := 0, locals := 0 }
set_option maxHeartbeats 4000000 in
set_option maxRecDepth 100000 in
theorem c_N_isDriven (l : Launch) (L : cL) (a1 : Int32) (I : MI) (F : MF) (G : MG) (post : Int32 → Prop) (h : wp_N_isDriven a1 I F G post) : Met l y_N_isDriven (.code y_N_isDriven b_N_isDriven 2 (some .boolean) :: lwG) rm_N_isDriven (cPc L I F G [.ref (cA L 1), .int a1]) (vp_Si post) 0 0 (fun _ => False) := by
  refine Met.ofW (cc := b_N_isDriven) (maxL := 2) (ret := (some .boolean)) (by decide) rfl ?_
  intro p e s m args below meth c s₁ B hml hv
  obtain ⟨rfl, hP, hK, hN⟩ := hv
  have xc : xC p s m _ meth c b_N_isDriven 2 lwG qR1 (some .boolean) := ⟨B.exec, B.bytes, hml, findClass_of_methodNamed B.named, fun w h => atoms_spec (ws := (.code y_N_isDriven b_N_isDriven 2 (some .boolean) :: lwG)) B.pre w (List.mem_cons_of_mem _ h), B.returns, B.notSynchronized⟩
  obtain ⟨hx, hb, hml, hown, hts, hr, hlocks⟩ := id xc
  have hl := lv_entry ([.ref (cA L 1), .int a1]) (n := 2) (Nat.le_of_ble_eq_true rfl)
  rw [lg_entry_eq]
  generalize (lg_sl ([.ref (cA L 1), .int a1]) ++ List.replicate (2 - (lg_sl ([.ref (cA L 1), .int a1])).length) Slot.unset).toArray = ls at hl ⊢
  have hl : lv_has ls 2 [(0, .ref (cA L 1)), (1, .int a1)] := hl
  refine lv_aload_n hx hb d_N_isDriven_0 rfl (lv_at hl 0 rfl) ?_
  refine va_get (D := L.1) (ci := 1) (v := .ref (cA L 19)) (C := qR1) (T := qT1) (N := 13) hx hb hts qi1 hown hK hP 1 rfl rfl 12 (by decide) (hts _ wG109) (fun _ h9 => h9) rfl d_N_isDriven_1 ?_
  refine lv_iload_n hx hb d_N_isDriven_4 rfl (lv_at hl 1 rfl) ?_
  obtain ⟨hi_1, h⟩ := h
  refine c_iald hx hb hK hP 9 (by decide) rfl hi_1 d_N_isDriven_5 ?_
  refine lv_iconst (v := (-1)) hx hb d_N_isDriven_6 (by decide) ?_
  refine lv_icmp_eq (tgt := 14) hx hb d_N_isDriven_7 (by decide) (fun c_2 => ?_) (fun c_2 => ?_)
  · replace h := h.1 c_2
    refine lv_iconst (v := 0) hx hb d_N_isDriven_14 (by decide) ?_
    exact W.zret hx hb hr rfl (fun t ht _ => ⟨_, rfl, h, ht⟩) (fun _ h9 => nomatch h9) d_N_isDriven_15
  · replace h := h.2 c_2
    refine lv_iconst (v := 1) hx hb d_N_isDriven_10 (by decide) ?_
    refine lv_goto (tgt := 15) hx hb d_N_isDriven_11 (by decide) ?_
    exact W.zret hx hb hr rfl (fun t ht _ => ⟨_, rfl, h, ht⟩) (fun _ h9 => nomatch h9) d_N_isDriven_15
abbrev rm_N_pins : Room := { frames := 0, cells := 0, slots := 0, locals := 0 }
set_option maxHeartbeats 4000000 in
set_option maxRecDepth 100000 in
theorem c_N_pins (l : Launch) (L : cL) (a1 : Int32) (I : MI) (F : MF) (G : MG) (post : Int32 → Prop) (h : wp_N_pins a1 I F G post) : Met l y_N_pins (.code y_N_pins b_N_pins 2 (some .int) :: lwG) rm_N_pins (cPc L I F G [.ref (cA L 1), .int a1]) (vp_Si post) 0 0 (fun _ => False) := by
  refine Met.ofW (cc := b_N_pins) (maxL := 2) (ret := (some .int)) (by decide) rfl ?_
  intro p e s m args below meth c s₁ B hml hv
  obtain ⟨rfl, hP, hK, hN⟩ := hv
  have xc : xC p s m _ meth c b_N_pins 2 lwG qR1 (some .int) := ⟨B.exec, B.bytes, hml, findClass_of_methodNamed B.named, fun w h => atoms_spec (ws := (.code y_N_pins b_N_pins 2 (some .int) :: lwG)) B.pre w (List.mem_cons_of_mem _ h), B.returns, B.notSynchronized⟩
  obtain ⟨hx, hb, hml, hown, hts, hr, hlocks⟩ := id xc
  have hl := lv_entry ([.ref (cA L 1), .int a1]) (n := 2) (Nat.le_of_ble_eq_true rfl)
  rw [lg_entry_eq]
  generalize (lg_sl ([.ref (cA L 1), .int a1]) ++ List.replicate (2 - (lg_sl ([.ref (cA L 1), .int a1])).length) Slot.unset).toArray = ls at hl ⊢
  have hl : lv_has ls 2 [(0, .ref (cA L 1)), (1, .int a1)] := hl
  refine lv_aload_n hx hb d_N_pins_0 rfl (lv_at hl 0 rfl) ?_
  refine va_get (D := L.1) (ci := 1) (v := .ref (cA L 6)) (C := qR1) (T := qT1) (N := 13) hx hb hts qi1 hown hK hP 1 rfl rfl 9 (by decide) (hts _ wG105) (fun _ h9 => h9) rfl d_N_pins_1 ?_
  refine lv_iconst (v := 0) hx hb d_N_pins_4 (by decide) ?_
  obtain ⟨hi_1, h⟩ := h
  refine c_row6 hx hb hK hP hi_1 d_N_pins_5 ?_
  refine lv_iload_n hx hb d_N_pins_6 rfl (lv_at hl 1 rfl) ?_
  obtain ⟨hi_2, h⟩ := h
  refine c_iald hx hb hK hP (17 + (0 : Int32).toNatClampNeg) (row_lt17 hi_1) (row_len17 hi_1) hi_2 d_N_pins_7 ?_
  refine lv_aload_n hx hb d_N_pins_8 rfl (lv_at hl 0 rfl) ?_
  refine va_get (D := L.1) (ci := 1) (v := .ref (cA L 6)) (C := qR1) (T := qT1) (N := 13) hx hb hts qi1 hown hK hP 1 rfl rfl 9 (by decide) (hts _ wG105) (fun _ h9 => h9) rfl d_N_pins_9 ?_
  refine lv_iconst (v := 1) hx hb d_N_pins_12 (by decide) ?_
  obtain ⟨hi_3, h⟩ := h
  refine c_row6 hx hb hK hP hi_3 d_N_pins_13 ?_
  refine lv_iload_n hx hb d_N_pins_14 rfl (lv_at hl 1 rfl) ?_
  obtain ⟨hi_4, h⟩ := h
  refine c_iald hx hb hK hP (17 + (1 : Int32).toNatClampNeg) (row_lt17 hi_3) (row_len17 hi_3) hi_4 d_N_pins_15 ?_
  refine lv_iadd hx hb d_N_pins_16 ?_
  exact W.iret hx hb hr (fun t ht _ => ⟨_, rfl, h, ht⟩) (fun _ h9 => nomatch h9) d_N_pins_17
abbrev rm_N_hasPad : Room := { frames := 1, cells := 0, slots := 0, locals := 21 }
set_option maxHeartbeats 4000000 in
set_option maxRecDepth 100000 in
theorem c_N_hasPad (l : Launch) (L : cL) (a1 : Int32) (I : MI) (F : MF) (G : MG) (post : Int32 → Prop) (h : wp_N_hasPad a1 I F G post) : Met l y_N_hasPad (.code y_N_hasPad b_N_hasPad 2 (some .boolean) :: lwG) rm_N_hasPad (cPc L I F G [.ref (cA L 1), .int a1]) (vp_Si post) 0 0 (fun _ => False) := by
  refine Met.ofW (cc := b_N_hasPad) (maxL := 2) (ret := (some .boolean)) (by decide) rfl ?_
  intro p e s m args below meth c s₁ B hml hv
  obtain ⟨rfl, hP, hK, hN⟩ := hv
  have xc : xC p s m _ meth c b_N_hasPad 2 lwG qR1 (some .boolean) := ⟨B.exec, B.bytes, hml, findClass_of_methodNamed B.named, fun w h => atoms_spec (ws := (.code y_N_hasPad b_N_hasPad 2 (some .boolean) :: lwG)) B.pre w (List.mem_cons_of_mem _ h), B.returns, B.notSynchronized⟩
  obtain ⟨hx, hb, hml, hown, hts, hr, hlocks⟩ := id xc
  have hl := lv_entry ([.ref (cA L 1), .int a1]) (n := 2) (Nat.le_of_ble_eq_true rfl)
  rw [lg_entry_eq]
  generalize (lg_sl ([.ref (cA L 1), .int a1]) ++ List.replicate (2 - (lg_sl ([.ref (cA L 1), .int a1])).length) Slot.unset).toArray = ls at hl ⊢
  have hl : lv_has ls 2 [(0, .ref (cA L 1)), (1, .int a1)] := hl
  refine lv_aload_n hx hb d_N_hasPad_0 rfl (lv_at hl 0 rfl) ?_
  refine lv_iload_n hx hb d_N_hasPad_1 rfl (lv_at hl 1 rfl) ?_
  refine vp_callSi (va_runV (As := [.int a1]) (rest := []) ⟨hx, hb, hml, hown, hts⟩ (c_N_isDriven l L a1 I F G _ h) (cwV 1 hts (gV wG397 wG334 wG335 wG49 wG336) rfl rfl rfl (by decide +kernel) ⟨Nat.le_of_ble_eq_true rfl, Nat.le_of_ble_eq_true rfl⟩) (cPre1 hK hN hP) rfl rfl hl.1 rfl (lv_room (Nat.le_of_ble_eq_true rfl)) d_N_hasPad_2 ⟨Nat.le_of_ble_eq_true rfl, Nat.le_of_ble_eq_true rfl⟩).run (fun r_1 h => ?_)
  refine lv_if_ne (tgt := 20) hx hb d_N_hasPad_5 (by decide) (fun c_2 => ?_) (fun c_2 => ?_)
  · replace h := h.1 c_2
    refine lv_iconst (v := 0) hx hb d_N_hasPad_20 (by decide) ?_
    exact W.zret hx hb hr rfl (fun t ht _ => ⟨_, rfl, h, ht⟩) (fun _ h9 => nomatch h9) d_N_hasPad_21
  · replace h := h.2 c_2
    refine lv_aload_n hx hb d_N_hasPad_8 rfl (lv_at hl 0 rfl) ?_
    refine lv_iload_n hx hb d_N_hasPad_9 rfl (lv_at hl 1 rfl) ?_
    refine vp_callSi (va_runV (As := [.int a1]) (rest := []) ⟨hx, hb, hml, hown, hts⟩ (c_N_pins l L a1 I F G _ h) (cwV 1 hts (gV wG389 wG390 wG391 wG49 wG392) rfl rfl rfl (by decide +kernel) ⟨Nat.le_of_ble_eq_true rfl, Nat.le_of_ble_eq_true rfl⟩) (cPre1 hK hN hP) rfl rfl hl.1 rfl (lv_room (Nat.le_of_ble_eq_true rfl)) d_N_hasPad_10 ⟨Nat.le_of_ble_eq_true rfl, Nat.le_of_ble_eq_true rfl⟩).run (fun r_3 h => ?_)
    refine lv_if_le (tgt := 20) hx hb d_N_hasPad_13 (by decide) (fun c_4 => ?_) (fun c_4 => ?_)
    · replace h := h.1 c_4
      refine lv_iconst (v := 0) hx hb d_N_hasPad_20 (by decide) ?_
      exact W.zret hx hb hr rfl (fun t ht _ => ⟨_, rfl, h, ht⟩) (fun _ h9 => nomatch h9) d_N_hasPad_21
    · replace h := h.2 c_4
      refine lv_iconst (v := 1) hx hb d_N_hasPad_16 (by decide) ?_
      refine lv_goto (tgt := 21) hx hb d_N_hasPad_17 (by decide) ?_
      exact W.zret hx hb hr rfl (fun t ht _ => ⟨_, rfl, h, ht⟩) (fun _ h9 => nomatch h9) d_N_hasPad_21
abbrev rm_N_isWired : Room := { frames := 2, cells := 0, slots := 0, locals := 42 }
set_option maxHeartbeats 4000000 in
set_option maxRecDepth 100000 in
theorem c_N_isWired (l : Launch) (L : cL) (a1 : Int32) (I : MI) (F : MF) (G : MG) (post : Int32 → Prop) (h : wp_N_isWired a1 I F G post) : Met l y_N_isWired (.code y_N_isWired b_N_isWired 2 (some .boolean) :: lwG) rm_N_isWired (cPc L I F G [.ref (cA L 1), .int a1]) (vp_Si post) 0 0 (fun _ => False) := by
  refine Met.ofW (cc := b_N_isWired) (maxL := 2) (ret := (some .boolean)) (by decide) rfl ?_
  intro p e s m args below meth c s₁ B hml hv
  obtain ⟨rfl, hP, hK, hN⟩ := hv
  have xc : xC p s m _ meth c b_N_isWired 2 lwG qR1 (some .boolean) := ⟨B.exec, B.bytes, hml, findClass_of_methodNamed B.named, fun w h => atoms_spec (ws := (.code y_N_isWired b_N_isWired 2 (some .boolean) :: lwG)) B.pre w (List.mem_cons_of_mem _ h), B.returns, B.notSynchronized⟩
  obtain ⟨hx, hb, hml, hown, hts, hr, hlocks⟩ := id xc
  have hl := lv_entry ([.ref (cA L 1), .int a1]) (n := 2) (Nat.le_of_ble_eq_true rfl)
  rw [lg_entry_eq]
  generalize (lg_sl ([.ref (cA L 1), .int a1]) ++ List.replicate (2 - (lg_sl ([.ref (cA L 1), .int a1])).length) Slot.unset).toArray = ls at hl ⊢
  have hl : lv_has ls 2 [(0, .ref (cA L 1)), (1, .int a1)] := hl
  refine lv_aload_n hx hb d_N_isWired_0 rfl (lv_at hl 0 rfl) ?_
  refine lv_iload_n hx hb d_N_isWired_1 rfl (lv_at hl 1 rfl) ?_
  refine vp_callSi (va_runV (As := [.int a1]) (rest := []) ⟨hx, hb, hml, hown, hts⟩ (c_N_pins l L a1 I F G _ h) (cwV 1 hts (gV wG389 wG390 wG391 wG49 wG392) rfl rfl rfl (by decide +kernel) ⟨Nat.le_of_ble_eq_true rfl, Nat.le_of_ble_eq_true rfl⟩) (cPre1 hK hN hP) rfl rfl hl.1 rfl (lv_room (Nat.le_of_ble_eq_true rfl)) d_N_isWired_2 ⟨Nat.le_of_ble_eq_true rfl, Nat.le_of_ble_eq_true rfl⟩).run (fun r_1 h => ?_)
  refine lv_iconst (v := 2) hx hb d_N_isWired_5 (by decide) ?_
  refine lv_icmp_ge (tgt := 17) hx hb d_N_isWired_6 (by decide) (fun c_2 => ?_) (fun c_2 => ?_)
  · replace h := h.1 c_2
    refine lv_iconst (v := 1) hx hb d_N_isWired_17 (by decide) ?_
    refine lv_goto (tgt := 22) hx hb d_N_isWired_18 (by decide) ?_
    exact W.zret hx hb hr rfl (fun t ht _ => ⟨_, rfl, h, ht⟩) (fun _ h9 => nomatch h9) d_N_isWired_22
  · replace h := h.2 c_2
    refine lv_aload_n hx hb d_N_isWired_9 rfl (lv_at hl 0 rfl) ?_
    refine lv_iload_n hx hb d_N_isWired_10 rfl (lv_at hl 1 rfl) ?_
    refine vp_callSi (va_runV (As := [.int a1]) (rest := []) ⟨hx, hb, hml, hown, hts⟩ (c_N_hasPad l L a1 I F G _ h) (cwV 1 hts (gV wG393 wG394 wG395 wG49 wG396) rfl rfl rfl (by decide +kernel) ⟨Nat.le_of_ble_eq_true rfl, Nat.le_of_ble_eq_true rfl⟩) (cPre1 hK hN hP) rfl rfl hl.1 rfl (lv_room (Nat.le_of_ble_eq_true rfl)) d_N_isWired_11 ⟨Nat.le_of_ble_eq_true rfl, Nat.le_of_ble_eq_true rfl⟩).run (fun r_3 h => ?_)
    refine lv_if_eq (tgt := 21) hx hb d_N_isWired_14 (by decide) (fun c_4 => ?_) (fun c_4 => ?_)
    · replace h := h.1 c_4
      refine lv_iconst (v := 0) hx hb d_N_isWired_21 (by decide) ?_
      exact W.zret hx hb hr rfl (fun t ht _ => ⟨_, rfl, h, ht⟩) (fun _ h9 => nomatch h9) d_N_isWired_22
    · replace h := h.2 c_4
      refine lv_iconst (v := 1) hx hb d_N_isWired_17 (by decide) ?_
      refine lv_goto (tgt := 22) hx hb d_N_isWired_18 (by decide) ?_
      exact W.zret hx hb hr rfl (fun t ht _ => ⟨_, rfl, h, ht⟩) (fun _ h9 => nomatch h9) d_N_isWired_22
end
section
set_option maxHeartbeats 4000000 in
set_option maxRecDepth 100000 in
theorem Wl_N_wiredNets_4 {p : Program} {l : Launch} {e : Env} {s : State} {m : MethodId} {args : Array Value} {below : List Frame} {meth : Method} {c : Code} {L : cL} {I : MI} {F : MF} {G : MG} {post : Int32 → Prop} {K : Int32 → Int32 → Prop} (xc : xC p s m args meth c b_N_wiredNets 3 lwG qR1 (some .int)) (hP : va_P L.1 vwCl (WC L I F G) s.heap) (hK : va_K L.1 vwCl (cTys L) s) (hN : cNk s)
    (hk : ∀ (a1 : Int32) (a2 : Int32) (ls : Array Slot), K a1 a2 → lv_has ls 3 [(0, .ref (cA L 1)), (1, .int a1), (2, .int a2)] → W p l e rm_N_wiredNets s m args below meth c s.heap [] 0 0 (MQ below (vp_Si post) args s 0 0 (fun _ => False)) (F0 m 27 ls [])) :
    ∀ (n : Nat) (a1 : Int32) (a2 : Int32) (ls : Array Slot), wl_N_wiredNets_4 post K I F G n a1 a2 → lv_has ls 3 [(0, .ref (cA L 1)), (1, .int a1), (2, .int a2)] → W p l e rm_N_wiredNets s m args below meth c s.heap [] 0 0 (MQ below (vp_Si post) args s 0 0 (fun _ => False)) (F0 m 4 ls []) := by
  obtain ⟨hx, hb, hml, hown, hts, hr, hlocks⟩ := id xc
  intro n
  induction n with
  | zero => intro a1 a2 ls h; exact absurd h id
  | succ n ih =>
    intro a1 a2 ls h hl
    refine lv_iload_n hx hb d_N_wiredNets_4 rfl (lv_at hl 2 rfl) ?_
    refine lv_bipush (v := 12) hx hb d_N_wiredNets_5 (by decide) ?_
    refine lv_icmp_ge (tgt := 27) hx hb d_N_wiredNets_7 (by decide) (fun c_1 => ?_) (fun c_1 => ?_)
    · replace h := h.1 c_1
      exact hk a1 a2 ls h (lv_sub hl [0, 1, 2] rfl)
    · replace h := h.2 c_1
      refine lv_aload_n hx hb d_N_wiredNets_10 rfl (lv_at hl 0 rfl) ?_
      refine lv_iload_n hx hb d_N_wiredNets_11 rfl (lv_at hl 2 rfl) ?_
      refine vp_callSi (va_runV (As := [.int a2]) (rest := []) ⟨hx, hb, hml, hown, hts⟩ (c_N_isWired l L a2 I F G _ h) (cwV 1 hts (gV wG385 wG386 wG387 wG49 wG388) rfl rfl rfl (by decide +kernel) ⟨Nat.le_of_ble_eq_true rfl, Nat.le_of_ble_eq_true rfl⟩) (cPre1 hK hN hP) rfl rfl hl.1 rfl (lv_room (Nat.le_of_ble_eq_true rfl)) d_N_wiredNets_12 ⟨Nat.le_of_ble_eq_true rfl, Nat.le_of_ble_eq_true rfl⟩).run (fun r_2 h => ?_)
      refine lv_if_eq (tgt := 21) hx hb d_N_wiredNets_15 (by decide) (fun c_3 => ?_) (fun c_3 => ?_)
      · replace h := h.1 c_3
        obtain ⟨x_4, ex_4⟩ : ∃ y : Int32, y = a2 + 1 := ⟨_, rfl⟩
        replace h := h x_4 ex_4
        refine lv_iinc (v := x_4) (lv' := [(2, .int x_4), (0, .ref (cA L 1)), (1, .int a1)]) hx hb d_N_wiredNets_21 hl (k := 2) rfl (by rw [ex_4]; rfl) (by decide) rfl (fun ls hl => ?_)
        refine lv_goto (tgt := 4) hx hb d_N_wiredNets_24 (by decide) ?_
        exact ih a1 x_4 ls h (lv_sub hl [1, 2, 0] rfl)
      · replace h := h.2 c_3
        obtain ⟨x_5, ex_5⟩ : ∃ y : Int32, y = a1 + 1 := ⟨_, rfl⟩
        replace h := h x_5 ex_5
        refine lv_iinc (v := x_5) (lv' := [(1, .int x_5), (0, .ref (cA L 1)), (2, .int a2)]) hx hb d_N_wiredNets_18 hl (k := 1) rfl (by rw [ex_5]; rfl) (by decide) rfl (fun ls hl => ?_)
        obtain ⟨x_6, ex_6⟩ : ∃ y : Int32, y = a2 + 1 := ⟨_, rfl⟩
        replace h := h x_6 ex_6
        refine lv_iinc (v := x_6) (lv' := [(2, .int x_6), (1, .int x_5), (0, .ref (cA L 1))]) hx hb d_N_wiredNets_21 hl (k := 2) rfl (by rw [ex_6]; rfl) (by decide) rfl (fun ls hl => ?_)
        refine lv_goto (tgt := 4) hx hb d_N_wiredNets_24 (by decide) ?_
        exact ih x_5 x_6 ls h (lv_sub hl [2, 1, 0] rfl)
abbrev rm_N_wiredNets : Room := { frames := 3, cells := 0, slots := 0, locals := 63 }
set_option maxHeartbeats 4000000 in
set_option maxRecDepth 100000 in
theorem c_N_wiredNets (l : Launch) (L : cL) (I : MI) (F : MF) (G : MG) (post : Int32 → Prop) (h : wp_N_wiredNets I F G post) : Met l y_N_wiredNets (.code y_N_wiredNets b_N_wiredNets 3 (some .int) :: lwG) rm_N_wiredNets (cPc L I F G [.ref (cA L 1)]) (vp_Si post) 0 0 (fun _ => False) := by
  refine Met.ofW (cc := b_N_wiredNets) (maxL := 3) (ret := (some .int)) (by decide) rfl ?_
  intro p e s m args below meth c s₁ B hml hv
  obtain ⟨rfl, hP, hK, hN⟩ := hv
  have xc : xC p s m _ meth c b_N_wiredNets 3 lwG qR1 (some .int) := ⟨B.exec, B.bytes, hml, findClass_of_methodNamed B.named, fun w h => atoms_spec (ws := (.code y_N_wiredNets b_N_wiredNets 3 (some .int) :: lwG)) B.pre w (List.mem_cons_of_mem _ h), B.returns, B.notSynchronized⟩
  obtain ⟨hx, hb, hml, hown, hts, hr, hlocks⟩ := id xc
  have hl := lv_entry ([.ref (cA L 1)]) (n := 3) (Nat.le_of_ble_eq_true rfl)
  rw [lg_entry_eq]
  generalize (lg_sl ([.ref (cA L 1)]) ++ List.replicate (3 - (lg_sl ([.ref (cA L 1)])).length) Slot.unset).toArray = ls at hl ⊢
  have hl : lv_has ls 3 [(0, .ref (cA L 1))] := hl
  refine lv_iconst (v := 0) hx hb d_N_wiredNets_0 (by decide) ?_
  refine lv_istore_n (lv' := [(1, .int 0), (0, .ref (cA L 1))]) hx hb d_N_wiredNets_1 rfl hl (by decide) rfl (fun ls hl => ?_)
  refine lv_iconst (v := 0) hx hb d_N_wiredNets_2 (by decide) ?_
  refine lv_istore_n (lv' := [(2, .int 0), (1, .int 0), (0, .ref (cA L 1))]) hx hb d_N_wiredNets_3 rfl hl (by decide) rfl (fun ls hl => ?_)
  obtain ⟨n_9, h⟩ := h
  refine Wl_N_wiredNets_4 xc hP hK hN (hk := fun x_7 x_8 ls h hl => ?_) n_9 0 0 ls h (lv_sub hl [2, 1, 0] rfl)
  refine lv_iload_n hx hb d_N_wiredNets_27 rfl (lv_at hl 1 rfl) ?_
  exact W.iret hx hb hr (fun t ht _ => ⟨_, rfl, h, ht⟩) (fun _ h9 => nomatch h9) d_N_wiredNets_28
abbrev rm_N_leftEnd : Room := { frames := 3, cells := 0, slots := 0, locals := 63 }
set_option maxHeartbeats 4000000 in
set_option maxRecDepth 100000 in
theorem c_N_leftEnd (l : Launch) (L : cL) (a1 : Int32) (I : MI) (F : MF) (G : MG) (post : Int32 → Prop) (h : wp_N_leftEnd a1 I F G post) : Met l y_N_leftEnd (.code y_N_leftEnd b_N_leftEnd 2 (some .int) :: lwG) rm_N_leftEnd (cPc L I F G [.ref (cA L 1), .int a1]) (vp_Si post) 0 0 (fun _ => False) := by
  refine Met.ofW (cc := b_N_leftEnd) (maxL := 2) (ret := (some .int)) (by decide) rfl ?_
  intro p e s m args below meth c s₁ B hml hv
  obtain ⟨rfl, hP, hK, hN⟩ := hv
  have xc : xC p s m _ meth c b_N_leftEnd 2 lwG qR1 (some .int) := ⟨B.exec, B.bytes, hml, findClass_of_methodNamed B.named, fun w h => atoms_spec (ws := (.code y_N_leftEnd b_N_leftEnd 2 (some .int) :: lwG)) B.pre w (List.mem_cons_of_mem _ h), B.returns, B.notSynchronized⟩
  obtain ⟨hx, hb, hml, hown, hts, hr, hlocks⟩ := id xc
  have hl := lv_entry ([.ref (cA L 1), .int a1]) (n := 2) (Nat.le_of_ble_eq_true rfl)
  rw [lg_entry_eq]
  generalize (lg_sl ([.ref (cA L 1), .int a1]) ++ List.replicate (2 - (lg_sl ([.ref (cA L 1), .int a1])).length) Slot.unset).toArray = ls at hl ⊢
  have hl : lv_has ls 2 [(0, .ref (cA L 1)), (1, .int a1)] := hl
  refine lv_aload_n hx hb d_N_leftEnd_0 rfl (lv_at hl 0 rfl) ?_
  refine lv_iload_n hx hb d_N_leftEnd_1 rfl (lv_at hl 1 rfl) ?_
  refine vp_callSi (va_runV (As := [.int a1]) (rest := []) ⟨hx, hb, hml, hown, hts⟩ (c_N_isWired l L a1 I F G _ h) (cwV 1 hts (gV wG385 wG386 wG387 wG49 wG388) rfl rfl rfl (by decide +kernel) ⟨Nat.le_of_ble_eq_true rfl, Nat.le_of_ble_eq_true rfl⟩) (cPre1 hK hN hP) rfl rfl hl.1 rfl (lv_room (Nat.le_of_ble_eq_true rfl)) d_N_leftEnd_2 ⟨Nat.le_of_ble_eq_true rfl, Nat.le_of_ble_eq_true rfl⟩).run (fun r_1 h => ?_)
  refine lv_if_ne (tgt := 10) hx hb d_N_leftEnd_5 (by decide) (fun c_2 => ?_) (fun c_2 => ?_)
  · replace h := h.1 c_2
    refine lv_aload_n hx hb d_N_leftEnd_10 rfl (lv_at hl 0 rfl) ?_
    refine lv_iload_n hx hb d_N_leftEnd_11 rfl (lv_at hl 1 rfl) ?_
    refine vp_callSi (va_runV (As := [.int a1]) (rest := []) ⟨hx, hb, hml, hown, hts⟩ (c_N_hasPad l L a1 I F G _ h) (cwV 1 hts (gV wG393 wG394 wG395 wG49 wG396) rfl rfl rfl (by decide +kernel) ⟨Nat.le_of_ble_eq_true rfl, Nat.le_of_ble_eq_true rfl⟩) (cPre1 hK hN hP) rfl rfl hl.1 rfl (lv_room (Nat.le_of_ble_eq_true rfl)) d_N_leftEnd_12 ⟨Nat.le_of_ble_eq_true rfl, Nat.le_of_ble_eq_true rfl⟩).run (fun r_3 h => ?_)
    refine lv_if_eq (tgt := 22) hx hb d_N_leftEnd_15 (by decide) (fun c_4 => ?_) (fun c_4 => ?_)
    · replace h := h.1 c_4
      refine lv_aload_n hx hb d_N_leftEnd_22 rfl (lv_at hl 0 rfl) ?_
      refine va_get (D := L.1) (ci := 1) (v := .ref (cA L 17)) (C := qR1) (T := qT1) (N := 13) hx hb hts qi1 hown hK hP 1 rfl rfl 10 (by decide) (hts _ wG107) (fun _ h9 => h9) rfl d_N_leftEnd_23 ?_
      refine lv_iload_n hx hb d_N_leftEnd_26 rfl (lv_at hl 1 rfl) ?_
      obtain ⟨hi_5, h⟩ := h
      refine c_iald hx hb hK hP 7 (by decide) rfl hi_5 d_N_leftEnd_27 ?_
      exact W.iret hx hb hr (fun t ht _ => ⟨_, rfl, h, ht⟩) (fun _ h9 => nomatch h9) d_N_leftEnd_28
    · replace h := h.2 c_4
      refine lv_iconst (v := 0) hx hb d_N_leftEnd_18 (by decide) ?_
      refine lv_goto (tgt := 28) hx hb d_N_leftEnd_19 (by decide) ?_
      exact W.iret hx hb hr (fun t ht _ => ⟨_, rfl, h, ht⟩) (fun _ h9 => nomatch h9) d_N_leftEnd_28
  · replace h := h.2 c_2
    refine lv_iconst (v := (-1)) hx hb d_N_leftEnd_8 (by decide) ?_
    exact W.iret hx hb hr (fun t ht _ => ⟨_, rfl, h, ht⟩) (fun _ h9 => nomatch h9) d_N_leftEnd_9
set_option maxHeartbeats 4000000 in
set_option maxRecDepth 100000 in
theorem Wl_N_isAbove_25 {p : Program} {l : Launch} {e : Env} {s : State} {m : MethodId} {args : Array Value} {below : List Frame} {meth : Method} {c : Code} {L : cL} {I : MI} {F : MF} {G : MG} {post : Int32 → Prop} {K : Int32 → Prop} {a1 : Int32} {a2 : Int32} (xc : xC p s m args meth c b_N_isAbove 4 lwG qR1 (some .boolean)) (hP : va_P L.1 vwCl (WC L I F G) s.heap) (hK : va_K L.1 vwCl (cTys L) s) (hN : cNk s)
    (hk : ∀ (a3 : Int32) (ls : Array Slot), K a3 → lv_has ls 4 [(0, .ref (cA L 1)), (1, .int a1), (2, .int a2), (3, .int a3)] → W p l e rm_N_isAbove s m args below meth c s.heap [] 0 0 (MQ below (vp_Si post) args s 0 0 (fun _ => False)) (F0 m 63 ls [])) :
    ∀ (n : Nat) (a3 : Int32) (ls : Array Slot), wl_N_isAbove_25 post K a1 a2 I F G n a3 → lv_has ls 4 [(0, .ref (cA L 1)), (1, .int a1), (2, .int a2), (3, .int a3)] → W p l e rm_N_isAbove s m args below meth c s.heap [] 0 0 (MQ below (vp_Si post) args s 0 0 (fun _ => False)) (F0 m 25 ls []) := by
  obtain ⟨hx, hb, hml, hown, hts, hr, hlocks⟩ := id xc
  intro n
  induction n with
  | zero => intro a3 ls h; exact absurd h id
  | succ n ih =>
    intro a3 ls h hl
    refine lv_iload_n hx hb d_N_isAbove_25 rfl (lv_at hl 3 rfl) ?_
    refine lv_bipush (v := 24) hx hb d_N_isAbove_26 (by decide) ?_
    refine lv_icmp_ge (tgt := 63) hx hb d_N_isAbove_28 (by decide) (fun c_6 => ?_) (fun c_6 => ?_)
    · replace h := h.1 c_6
      exact hk a3 ls h (lv_sub hl [0, 1, 2, 3] rfl)
    · replace h := h.2 c_6
      refine lv_aload_n hx hb d_N_isAbove_31 rfl (lv_at hl 0 rfl) ?_
      refine va_get (D := L.1) (ci := 1) (v := .ref (cA L 5)) (C := qR1) (T := qT1) (N := 13) hx hb hts qi1 hown hK hP 1 rfl rfl 8 (by decide) (hts _ wG103) (fun _ h9 => h9) rfl d_N_isAbove_32 ?_
      refine lv_iconst (v := 0) hx hb d_N_isAbove_35 (by decide) ?_
      obtain ⟨hi_7, h⟩ := h
      refine c_row5 hx hb hK hP hi_7 d_N_isAbove_36 ?_
      refine lv_iload_n hx hb d_N_isAbove_37 rfl (lv_at hl 3 rfl) ?_
      obtain ⟨hi_8, h⟩ := h
      refine c_iald hx hb hK hP (15 + (0 : Int32).toNatClampNeg) (row_lt15 hi_7) (row_len15 hi_7) hi_8 d_N_isAbove_38 ?_
      refine lv_iload_n hx hb d_N_isAbove_39 rfl (lv_at hl 1 rfl) ?_
      refine lv_icmp_ne (tgt := 57) hx hb d_N_isAbove_40 (by decide) (fun c_9 => ?_) (fun c_9 => ?_)
      · replace h := h.1 c_9
        obtain ⟨x_10, ex_10⟩ : ∃ y : Int32, y = a3 + 1 := ⟨_, rfl⟩
        replace h := h x_10 ex_10
        refine lv_iinc (v := x_10) (lv' := [(3, .int x_10), (0, .ref (cA L 1)), (1, .int a1), (2, .int a2)]) hx hb d_N_isAbove_57 hl (k := 3) rfl (by rw [ex_10]; rfl) (by decide) rfl (fun ls hl => ?_)
        refine lv_goto (tgt := 25) hx hb d_N_isAbove_60 (by decide) ?_
        exact ih x_10 ls h (lv_sub hl [1, 2, 3, 0] rfl)
      · replace h := h.2 c_9
        refine lv_aload_n hx hb d_N_isAbove_43 rfl (lv_at hl 0 rfl) ?_
        refine va_get (D := L.1) (ci := 1) (v := .ref (cA L 5)) (C := qR1) (T := qT1) (N := 13) hx hb hts qi1 hown hK hP 1 rfl rfl 8 (by decide) (hts _ wG103) (fun _ h9 => h9) rfl d_N_isAbove_44 ?_
        refine lv_iconst (v := 1) hx hb d_N_isAbove_47 (by decide) ?_
        obtain ⟨hi_11, h⟩ := h
        refine c_row5 hx hb hK hP hi_11 d_N_isAbove_48 ?_
        refine lv_iload_n hx hb d_N_isAbove_49 rfl (lv_at hl 3 rfl) ?_
        obtain ⟨hi_12, h⟩ := h
        refine c_iald hx hb hK hP (15 + (1 : Int32).toNatClampNeg) (row_lt15 hi_11) (row_len15 hi_11) hi_12 d_N_isAbove_50 ?_
        refine lv_iload_n hx hb d_N_isAbove_51 rfl (lv_at hl 2 rfl) ?_
        refine lv_icmp_ne (tgt := 57) hx hb d_N_isAbove_52 (by decide) (fun c_13 => ?_) (fun c_13 => ?_)
        · replace h := h.1 c_13
          obtain ⟨x_14, ex_14⟩ : ∃ y : Int32, y = a3 + 1 := ⟨_, rfl⟩
          replace h := h x_14 ex_14
          refine lv_iinc (v := x_14) (lv' := [(3, .int x_14), (0, .ref (cA L 1)), (1, .int a1), (2, .int a2)]) hx hb d_N_isAbove_57 hl (k := 3) rfl (by rw [ex_14]; rfl) (by decide) rfl (fun ls hl => ?_)
          refine lv_goto (tgt := 25) hx hb d_N_isAbove_60 (by decide) ?_
          exact ih x_14 ls h (lv_sub hl [1, 2, 3, 0] rfl)
        · replace h := h.2 c_13
          refine lv_iconst (v := 1) hx hb d_N_isAbove_55 (by decide) ?_
          exact W.zret hx hb hr rfl (fun t ht _ => ⟨_, rfl, h, ht⟩) (fun _ h9 => nomatch h9) d_N_isAbove_56
abbrev rm_N_isAbove : Room := { frames := 3, cells := 0, slots := 0, locals := 63 }
set_option maxHeartbeats 4000000 in
set_option maxRecDepth 100000 in
theorem c_N_isAbove (l : Launch) (L : cL) (a1 : Int32) (a2 : Int32) (I : MI) (F : MF) (G : MG) (post : Int32 → Prop) (h : wp_N_isAbove a1 a2 I F G post) : Met l y_N_isAbove (.code y_N_isAbove b_N_isAbove 4 (some .boolean) :: lwG) rm_N_isAbove (cPc L I F G [.ref (cA L 1), .int a1, .int a2]) (vp_Si post) 0 0 (fun _ => False) := by
  refine Met.ofW (cc := b_N_isAbove) (maxL := 4) (ret := (some .boolean)) (by decide) rfl ?_
  intro p e s m args below meth c s₁ B hml hv
  obtain ⟨rfl, hP, hK, hN⟩ := hv
  have xc : xC p s m _ meth c b_N_isAbove 4 lwG qR1 (some .boolean) := ⟨B.exec, B.bytes, hml, findClass_of_methodNamed B.named, fun w h => atoms_spec (ws := (.code y_N_isAbove b_N_isAbove 4 (some .boolean) :: lwG)) B.pre w (List.mem_cons_of_mem _ h), B.returns, B.notSynchronized⟩
  obtain ⟨hx, hb, hml, hown, hts, hr, hlocks⟩ := id xc
  have hl := lv_entry ([.ref (cA L 1), .int a1, .int a2]) (n := 4) (Nat.le_of_ble_eq_true rfl)
  rw [lg_entry_eq]
  generalize (lg_sl ([.ref (cA L 1), .int a1, .int a2]) ++ List.replicate (4 - (lg_sl ([.ref (cA L 1), .int a1, .int a2])).length) Slot.unset).toArray = ls at hl ⊢
  have hl : lv_has ls 4 [(0, .ref (cA L 1)), (1, .int a1), (2, .int a2)] := hl
  refine lv_iload_n hx hb d_N_isAbove_0 rfl (lv_at hl 1 rfl) ?_
  refine lv_iload_n hx hb d_N_isAbove_1 rfl (lv_at hl 2 rfl) ?_
  refine lv_icmp_eq (tgt := 21) hx hb d_N_isAbove_2 (by decide) (fun c_1 => ?_) (fun c_1 => ?_)
  · replace h := h.1 c_1
    refine lv_iconst (v := 0) hx hb d_N_isAbove_21 (by decide) ?_
    exact W.zret hx hb hr rfl (fun t ht _ => ⟨_, rfl, h, ht⟩) (fun _ h9 => nomatch h9) d_N_isAbove_22
  · replace h := h.2 c_1
    refine lv_aload_n hx hb d_N_isAbove_5 rfl (lv_at hl 0 rfl) ?_
    refine lv_iload_n hx hb d_N_isAbove_6 rfl (lv_at hl 1 rfl) ?_
    refine vp_callSi (va_runV (As := [.int a1]) (rest := []) ⟨hx, hb, hml, hown, hts⟩ (c_N_isWired l L a1 I F G _ h) (cwV 1 hts (gV wG385 wG386 wG387 wG49 wG388) rfl rfl rfl (by decide +kernel) ⟨Nat.le_of_ble_eq_true rfl, Nat.le_of_ble_eq_true rfl⟩) (cPre1 hK hN hP) rfl rfl hl.1 rfl (lv_room (Nat.le_of_ble_eq_true rfl)) d_N_isAbove_7 ⟨Nat.le_of_ble_eq_true rfl, Nat.le_of_ble_eq_true rfl⟩).run (fun r_2 h => ?_)
    refine lv_if_eq (tgt := 21) hx hb d_N_isAbove_10 (by decide) (fun c_3 => ?_) (fun c_3 => ?_)
    · replace h := h.1 c_3
      refine lv_iconst (v := 0) hx hb d_N_isAbove_21 (by decide) ?_
      exact W.zret hx hb hr rfl (fun t ht _ => ⟨_, rfl, h, ht⟩) (fun _ h9 => nomatch h9) d_N_isAbove_22
    · replace h := h.2 c_3
      refine lv_aload_n hx hb d_N_isAbove_13 rfl (lv_at hl 0 rfl) ?_
      refine lv_iload_n hx hb d_N_isAbove_14 rfl (lv_at hl 2 rfl) ?_
      refine vp_callSi (va_runV (As := [.int a2]) (rest := []) ⟨hx, hb, hml, hown, hts⟩ (c_N_isWired l L a2 I F G _ h) (cwV 1 hts (gV wG385 wG386 wG387 wG49 wG388) rfl rfl rfl (by decide +kernel) ⟨Nat.le_of_ble_eq_true rfl, Nat.le_of_ble_eq_true rfl⟩) (cPre1 hK hN hP) rfl rfl hl.1 rfl (lv_room (Nat.le_of_ble_eq_true rfl)) d_N_isAbove_15 ⟨Nat.le_of_ble_eq_true rfl, Nat.le_of_ble_eq_true rfl⟩).run (fun r_4 h => ?_)
      refine lv_if_ne (tgt := 23) hx hb d_N_isAbove_18 (by decide) (fun c_5 => ?_) (fun c_5 => ?_)
      · replace h := h.1 c_5
        refine lv_iconst (v := 0) hx hb d_N_isAbove_23 (by decide) ?_
        refine lv_istore_n (lv' := [(3, .int 0), (0, .ref (cA L 1)), (1, .int a1), (2, .int a2)]) hx hb d_N_isAbove_24 rfl hl (by decide) rfl (fun ls hl => ?_)
        obtain ⟨n_16, h⟩ := h
        refine Wl_N_isAbove_25 xc hP hK hN (hk := fun x_15 ls h hl => ?_) n_16 0 ls h (lv_sub hl [1, 2, 3, 0] rfl)
        refine lv_iconst (v := 0) hx hb d_N_isAbove_63 (by decide) ?_
        exact W.zret hx hb hr rfl (fun t ht _ => ⟨_, rfl, h, ht⟩) (fun _ h9 => nomatch h9) d_N_isAbove_64
      · replace h := h.2 c_5
        refine lv_iconst (v := 0) hx hb d_N_isAbove_21 (by decide) ?_
        exact W.zret hx hb hr rfl (fun t ht _ => ⟨_, rfl, h, ht⟩) (fun _ h9 => nomatch h9) d_N_isAbove_22
set_option maxHeartbeats 4000000 in
set_option maxRecDepth 100000 in
theorem Wl_C_isFreeFromAbove_2 {p : Program} {l : Launch} {e : Env} {s : State} {m : MethodId} {args : Array Value} {below : List Frame} {meth : Method} {c : Code} {L : cL} {I : MI} {F : MF} {G : MG} {post : Int32 → Prop} {K : Int32 → Prop} {a1 : Int32} {a2 : Int32} (xc : xC p s m args meth c b_C_isFreeFromAbove 5 lwG qR2 (some .boolean)) (hP : va_P L.1 vwCl (WC L I F G) s.heap) (hK : va_K L.1 vwCl (cTys L) s) (hN : cNk s)
    (hk : ∀ (a3 : Int32) (ls : Array Slot), K a3 → lv_has ls 5 [(0, .ref (cA L 2)), (1, .int a1), (2, .int a2), (3, .int a3)] → W p l e rm_C_isFreeFromAbove s m args below meth c s.heap [] 0 0 (MQ below (vp_Si post) args s 0 0 (fun _ => False)) (F0 m 59 ls [])) :
    ∀ (n : Nat) (a3 : Int32) (ls : Array Slot), wl_C_isFreeFromAbove_2 post K a1 a2 I F G n a3 → lv_has ls 5 [(0, .ref (cA L 2)), (1, .int a1), (2, .int a2), (3, .int a3)] → W p l e rm_C_isFreeFromAbove s m args below meth c s.heap [] 0 0 (MQ below (vp_Si post) args s 0 0 (fun _ => False)) (F0 m 2 ls []) := by
  obtain ⟨hx, hb, hml, hown, hts, hr, hlocks⟩ := id xc
  intro n
  induction n with
  | zero => intro a3 ls h; exact absurd h id
  | succ n ih =>
    intro a3 ls h hl
    refine lv_iload_n hx hb d_C_isFreeFromAbove_2 rfl (lv_at hl 3 rfl) ?_
    refine lv_bipush (v := 12) hx hb d_C_isFreeFromAbove_3 (by decide) ?_
    refine lv_icmp_ge (tgt := 59) hx hb d_C_isFreeFromAbove_5 (by decide) (fun c_1 => ?_) (fun c_1 => ?_)
    · replace h := h.1 c_1
      exact hk a3 ls h (lv_sub hl [0, 1, 2, 3] rfl)
    · replace h := h.2 c_1
      refine lv_aload_n hx hb d_C_isFreeFromAbove_8 rfl (lv_at hl 0 rfl) ?_
      refine va_get (D := L.1) (ci := 2) (v := .ref (cA L 20)) (C := qR2) (T := qT2) (N := 3) hx hb hts qi2 hown hK hP 2 rfl rfl 2 (by decide) (hts _ wG149) (fun _ h9 => h9) rfl d_C_isFreeFromAbove_9 ?_
      refine lv_iload_n hx hb d_C_isFreeFromAbove_12 rfl (lv_at hl 3 rfl) ?_
      obtain ⟨hi_2, h⟩ := h
      refine c_iald hx hb hK hP 10 (by decide) rfl hi_2 d_C_isFreeFromAbove_13 ?_
      refine lv_if_le (tgt := 31) hx hb d_C_isFreeFromAbove_14 (by decide) (fun c_3 => ?_) (fun c_3 => ?_)
      · replace h := h.1 c_3
        refine lv_iconst (v := 0) hx hb d_C_isFreeFromAbove_31 (by decide) ?_
        refine lv_istore (lv' := [(4, .int 0), (0, .ref (cA L 2)), (1, .int a1), (2, .int a2), (3, .int a3)]) hx hb d_C_isFreeFromAbove_32 hl (by decide) rfl (fun ls hl => ?_)
        refine lv_iload hx hb d_C_isFreeFromAbove_34 (lv_at hl 0 rfl) ?_
        refine lv_if_ne (tgt := 53) hx hb d_C_isFreeFromAbove_36 (by decide) (fun c_4 => ?_) (fun c_4 => ?_)
        · replace h := h.1 c_4
          obtain ⟨x_5, ex_5⟩ : ∃ y : Int32, y = a3 + 1 := ⟨_, rfl⟩
          replace h := h x_5 ex_5
          refine lv_iinc (v := x_5) (lv' := [(3, .int x_5), (4, .int 0), (0, .ref (cA L 2)), (1, .int a1), (2, .int a2)]) hx hb d_C_isFreeFromAbove_53 hl (k := 4) rfl (by rw [ex_5]; rfl) (by decide) rfl (fun ls hl => ?_)
          refine lv_goto (tgt := 2) hx hb d_C_isFreeFromAbove_56 (by decide) ?_
          exact ih x_5 ls h (lv_sub hl [2, 3, 4, 0] rfl)
        · replace h := h.2 c_4
          refine lv_aload_n hx hb d_C_isFreeFromAbove_39 rfl (lv_at hl 1 rfl) ?_
          refine va_get (D := L.1) (ci := 2) (v := .ref (cA L 1)) (C := qR2) (T := qT2) (N := 3) hx hb hts qi2 hown hK hP 2 rfl rfl 0 (by decide) (hts _ wG145) (fun _ h9 => h9) rfl d_C_isFreeFromAbove_40 ?_
          refine lv_iload_n hx hb d_C_isFreeFromAbove_43 rfl (lv_at hl 4 rfl) ?_
          refine lv_iload_n hx hb d_C_isFreeFromAbove_44 rfl (lv_at hl 2 rfl) ?_
          refine vp_callSi (va_runV (As := [.int a3, .int a1]) (rest := []) ⟨hx, hb, hml, hown, hts⟩ (c_N_isAbove l L a3 a1 I F G _ h) (cwV 2 hts (gV wG410 wG411 wG412 wG49 wG413) rfl rfl rfl (by decide +kernel) ⟨Nat.le_of_ble_eq_true rfl, Nat.le_of_ble_eq_true rfl⟩) (cPre1 hK hN hP) rfl rfl hl.1 rfl (lv_room (Nat.le_of_ble_eq_true rfl)) d_C_isFreeFromAbove_45 ⟨Nat.le_of_ble_eq_true rfl, Nat.le_of_ble_eq_true rfl⟩).run (fun r_6 h => ?_)
          refine lv_if_eq (tgt := 53) hx hb d_C_isFreeFromAbove_48 (by decide) (fun c_7 => ?_) (fun c_7 => ?_)
          · replace h := h.1 c_7
            obtain ⟨x_8, ex_8⟩ : ∃ y : Int32, y = a3 + 1 := ⟨_, rfl⟩
            replace h := h x_8 ex_8
            refine lv_iinc (v := x_8) (lv' := [(3, .int x_8), (4, .int 0), (0, .ref (cA L 2)), (1, .int a1), (2, .int a2)]) hx hb d_C_isFreeFromAbove_53 hl (k := 4) rfl (by rw [ex_8]; rfl) (by decide) rfl (fun ls hl => ?_)
            refine lv_goto (tgt := 2) hx hb d_C_isFreeFromAbove_56 (by decide) ?_
            exact ih x_8 ls h (lv_sub hl [2, 3, 4, 0] rfl)
          · replace h := h.2 c_7
            refine lv_iconst (v := 0) hx hb d_C_isFreeFromAbove_51 (by decide) ?_
            exact W.zret hx hb hr rfl (fun t ht _ => ⟨_, rfl, h, ht⟩) (fun _ h9 => nomatch h9) d_C_isFreeFromAbove_52
      · replace h := h.2 c_3
        refine lv_aload_n hx hb d_C_isFreeFromAbove_17 rfl (lv_at hl 0 rfl) ?_
        refine va_get (D := L.1) (ci := 2) (v := .ref (cA L 20)) (C := qR2) (T := qT2) (N := 3) hx hb hts qi2 hown hK hP 2 rfl rfl 2 (by decide) (hts _ wG149) (fun _ h9 => h9) rfl d_C_isFreeFromAbove_18 ?_
        refine lv_iload_n hx hb d_C_isFreeFromAbove_21 rfl (lv_at hl 3 rfl) ?_
        obtain ⟨hi_9, h⟩ := h
        refine c_iald hx hb hK hP 10 (by decide) rfl hi_9 d_C_isFreeFromAbove_22 ?_
        refine lv_iload_n hx hb d_C_isFreeFromAbove_23 rfl (lv_at hl 2 rfl) ?_
        refine lv_icmp_ge (tgt := 31) hx hb d_C_isFreeFromAbove_24 (by decide) (fun c_10 => ?_) (fun c_10 => ?_)
        · replace h := h.1 c_10
          refine lv_iconst (v := 0) hx hb d_C_isFreeFromAbove_31 (by decide) ?_
          refine lv_istore (lv' := [(4, .int 0), (0, .ref (cA L 2)), (1, .int a1), (2, .int a2), (3, .int a3)]) hx hb d_C_isFreeFromAbove_32 hl (by decide) rfl (fun ls hl => ?_)
          refine lv_iload hx hb d_C_isFreeFromAbove_34 (lv_at hl 0 rfl) ?_
          refine lv_if_ne (tgt := 53) hx hb d_C_isFreeFromAbove_36 (by decide) (fun c_11 => ?_) (fun c_11 => ?_)
          · replace h := h.1 c_11
            obtain ⟨x_12, ex_12⟩ : ∃ y : Int32, y = a3 + 1 := ⟨_, rfl⟩
            replace h := h x_12 ex_12
            refine lv_iinc (v := x_12) (lv' := [(3, .int x_12), (4, .int 0), (0, .ref (cA L 2)), (1, .int a1), (2, .int a2)]) hx hb d_C_isFreeFromAbove_53 hl (k := 4) rfl (by rw [ex_12]; rfl) (by decide) rfl (fun ls hl => ?_)
            refine lv_goto (tgt := 2) hx hb d_C_isFreeFromAbove_56 (by decide) ?_
            exact ih x_12 ls h (lv_sub hl [2, 3, 4, 0] rfl)
          · replace h := h.2 c_11
            refine lv_aload_n hx hb d_C_isFreeFromAbove_39 rfl (lv_at hl 1 rfl) ?_
            refine va_get (D := L.1) (ci := 2) (v := .ref (cA L 1)) (C := qR2) (T := qT2) (N := 3) hx hb hts qi2 hown hK hP 2 rfl rfl 0 (by decide) (hts _ wG145) (fun _ h9 => h9) rfl d_C_isFreeFromAbove_40 ?_
            refine lv_iload_n hx hb d_C_isFreeFromAbove_43 rfl (lv_at hl 4 rfl) ?_
            refine lv_iload_n hx hb d_C_isFreeFromAbove_44 rfl (lv_at hl 2 rfl) ?_
            refine vp_callSi (va_runV (As := [.int a3, .int a1]) (rest := []) ⟨hx, hb, hml, hown, hts⟩ (c_N_isAbove l L a3 a1 I F G _ h) (cwV 2 hts (gV wG410 wG411 wG412 wG49 wG413) rfl rfl rfl (by decide +kernel) ⟨Nat.le_of_ble_eq_true rfl, Nat.le_of_ble_eq_true rfl⟩) (cPre1 hK hN hP) rfl rfl hl.1 rfl (lv_room (Nat.le_of_ble_eq_true rfl)) d_C_isFreeFromAbove_45 ⟨Nat.le_of_ble_eq_true rfl, Nat.le_of_ble_eq_true rfl⟩).run (fun r_13 h => ?_)
            refine lv_if_eq (tgt := 53) hx hb d_C_isFreeFromAbove_48 (by decide) (fun c_14 => ?_) (fun c_14 => ?_)
            · replace h := h.1 c_14
              obtain ⟨x_15, ex_15⟩ : ∃ y : Int32, y = a3 + 1 := ⟨_, rfl⟩
              replace h := h x_15 ex_15
              refine lv_iinc (v := x_15) (lv' := [(3, .int x_15), (4, .int 0), (0, .ref (cA L 2)), (1, .int a1), (2, .int a2)]) hx hb d_C_isFreeFromAbove_53 hl (k := 4) rfl (by rw [ex_15]; rfl) (by decide) rfl (fun ls hl => ?_)
              refine lv_goto (tgt := 2) hx hb d_C_isFreeFromAbove_56 (by decide) ?_
              exact ih x_15 ls h (lv_sub hl [2, 3, 4, 0] rfl)
            · replace h := h.2 c_14
              refine lv_iconst (v := 0) hx hb d_C_isFreeFromAbove_51 (by decide) ?_
              exact W.zret hx hb hr rfl (fun t ht _ => ⟨_, rfl, h, ht⟩) (fun _ h9 => nomatch h9) d_C_isFreeFromAbove_52
        · replace h := h.2 c_10
          refine lv_iconst (v := 1) hx hb d_C_isFreeFromAbove_27 (by decide) ?_
          refine lv_goto (tgt := 32) hx hb d_C_isFreeFromAbove_28 (by decide) ?_
          refine lv_istore (lv' := [(4, .int 1), (0, .ref (cA L 2)), (1, .int a1), (2, .int a2), (3, .int a3)]) hx hb d_C_isFreeFromAbove_32 hl (by decide) rfl (fun ls hl => ?_)
          refine lv_iload hx hb d_C_isFreeFromAbove_34 (lv_at hl 0 rfl) ?_
          refine lv_if_ne (tgt := 53) hx hb d_C_isFreeFromAbove_36 (by decide) (fun c_16 => ?_) (fun c_16 => ?_)
          · replace h := h.1 c_16
            obtain ⟨x_17, ex_17⟩ : ∃ y : Int32, y = a3 + 1 := ⟨_, rfl⟩
            replace h := h x_17 ex_17
            refine lv_iinc (v := x_17) (lv' := [(3, .int x_17), (4, .int 1), (0, .ref (cA L 2)), (1, .int a1), (2, .int a2)]) hx hb d_C_isFreeFromAbove_53 hl (k := 4) rfl (by rw [ex_17]; rfl) (by decide) rfl (fun ls hl => ?_)
            refine lv_goto (tgt := 2) hx hb d_C_isFreeFromAbove_56 (by decide) ?_
            exact ih x_17 ls h (lv_sub hl [2, 3, 4, 0] rfl)
          · replace h := h.2 c_16
            refine lv_aload_n hx hb d_C_isFreeFromAbove_39 rfl (lv_at hl 1 rfl) ?_
            refine va_get (D := L.1) (ci := 2) (v := .ref (cA L 1)) (C := qR2) (T := qT2) (N := 3) hx hb hts qi2 hown hK hP 2 rfl rfl 0 (by decide) (hts _ wG145) (fun _ h9 => h9) rfl d_C_isFreeFromAbove_40 ?_
            refine lv_iload_n hx hb d_C_isFreeFromAbove_43 rfl (lv_at hl 4 rfl) ?_
            refine lv_iload_n hx hb d_C_isFreeFromAbove_44 rfl (lv_at hl 2 rfl) ?_
            refine vp_callSi (va_runV (As := [.int a3, .int a1]) (rest := []) ⟨hx, hb, hml, hown, hts⟩ (c_N_isAbove l L a3 a1 I F G _ h) (cwV 2 hts (gV wG410 wG411 wG412 wG49 wG413) rfl rfl rfl (by decide +kernel) ⟨Nat.le_of_ble_eq_true rfl, Nat.le_of_ble_eq_true rfl⟩) (cPre1 hK hN hP) rfl rfl hl.1 rfl (lv_room (Nat.le_of_ble_eq_true rfl)) d_C_isFreeFromAbove_45 ⟨Nat.le_of_ble_eq_true rfl, Nat.le_of_ble_eq_true rfl⟩).run (fun r_18 h => ?_)
            refine lv_if_eq (tgt := 53) hx hb d_C_isFreeFromAbove_48 (by decide) (fun c_19 => ?_) (fun c_19 => ?_)
            · replace h := h.1 c_19
              obtain ⟨x_20, ex_20⟩ : ∃ y : Int32, y = a3 + 1 := ⟨_, rfl⟩
              replace h := h x_20 ex_20
              refine lv_iinc (v := x_20) (lv' := [(3, .int x_20), (4, .int 1), (0, .ref (cA L 2)), (1, .int a1), (2, .int a2)]) hx hb d_C_isFreeFromAbove_53 hl (k := 4) rfl (by rw [ex_20]; rfl) (by decide) rfl (fun ls hl => ?_)
              refine lv_goto (tgt := 2) hx hb d_C_isFreeFromAbove_56 (by decide) ?_
              exact ih x_20 ls h (lv_sub hl [2, 3, 4, 0] rfl)
            · replace h := h.2 c_19
              refine lv_iconst (v := 0) hx hb d_C_isFreeFromAbove_51 (by decide) ?_
              exact W.zret hx hb hr rfl (fun t ht _ => ⟨_, rfl, h, ht⟩) (fun _ h9 => nomatch h9) d_C_isFreeFromAbove_52
abbrev rm_C_isFreeFromAbove : Room := { frames := 4, cells := 0, slots := 0, locals := 86 }
set_option maxHeartbeats 4000000 in
set_option maxRecDepth 100000 in
theorem c_C_isFreeFromAbove (l : Launch) (L : cL) (a1 : Int32) (a2 : Int32) (I : MI) (F : MF) (G : MG) (post : Int32 → Prop) (h : wp_C_isFreeFromAbove a1 a2 I F G post) : Met l y_C_isFreeFromAbove (.code y_C_isFreeFromAbove b_C_isFreeFromAbove 5 (some .boolean) :: lwG) rm_C_isFreeFromAbove (cPc L I F G [.ref (cA L 2), .int a1, .int a2]) (vp_Si post) 0 0 (fun _ => False) := by
  refine Met.ofW (cc := b_C_isFreeFromAbove) (maxL := 5) (ret := (some .boolean)) (by decide) rfl ?_
  intro p e s m args below meth c s₁ B hml hv
  obtain ⟨rfl, hP, hK, hN⟩ := hv
  have xc : xC p s m _ meth c b_C_isFreeFromAbove 5 lwG qR2 (some .boolean) := ⟨B.exec, B.bytes, hml, findClass_of_methodNamed B.named, fun w h => atoms_spec (ws := (.code y_C_isFreeFromAbove b_C_isFreeFromAbove 5 (some .boolean) :: lwG)) B.pre w (List.mem_cons_of_mem _ h), B.returns, B.notSynchronized⟩
  obtain ⟨hx, hb, hml, hown, hts, hr, hlocks⟩ := id xc
  have hl := lv_entry ([.ref (cA L 2), .int a1, .int a2]) (n := 5) (Nat.le_of_ble_eq_true rfl)
  rw [lg_entry_eq]
  generalize (lg_sl ([.ref (cA L 2), .int a1, .int a2]) ++ List.replicate (5 - (lg_sl ([.ref (cA L 2), .int a1, .int a2])).length) Slot.unset).toArray = ls at hl ⊢
  have hl : lv_has ls 5 [(0, .ref (cA L 2)), (1, .int a1), (2, .int a2)] := hl
  refine lv_iconst (v := 0) hx hb d_C_isFreeFromAbove_0 (by decide) ?_
  refine lv_istore_n (lv' := [(3, .int 0), (0, .ref (cA L 2)), (1, .int a1), (2, .int a2)]) hx hb d_C_isFreeFromAbove_1 rfl hl (by decide) rfl (fun ls hl => ?_)
  obtain ⟨n_22, h⟩ := h
  refine Wl_C_isFreeFromAbove_2 xc hP hK hN (hk := fun x_21 ls h hl => ?_) n_22 0 ls h (lv_sub hl [1, 2, 3, 0] rfl)
  refine lv_iconst (v := 1) hx hb d_C_isFreeFromAbove_59 (by decide) ?_
  exact W.zret hx hb hr rfl (fun t ht _ => ⟨_, rfl, h, ht⟩) (fun _ h9 => nomatch h9) d_C_isFreeFromAbove_60
abbrev rm_N_rightEnd : Room := { frames := 3, cells := 0, slots := 0, locals := 63 }
set_option maxHeartbeats 4000000 in
set_option maxRecDepth 100000 in
theorem c_N_rightEnd (l : Launch) (L : cL) (a1 : Int32) (I : MI) (F : MF) (G : MG) (post : Int32 → Prop) (h : wp_N_rightEnd a1 I F G post) : Met l y_N_rightEnd (.code y_N_rightEnd b_N_rightEnd 2 (some .int) :: lwG) rm_N_rightEnd (cPc L I F G [.ref (cA L 1), .int a1]) (vp_Si post) 0 0 (fun _ => False) := by
  refine Met.ofW (cc := b_N_rightEnd) (maxL := 2) (ret := (some .int)) (by decide) rfl ?_
  intro p e s m args below meth c s₁ B hml hv
  obtain ⟨rfl, hP, hK, hN⟩ := hv
  have xc : xC p s m _ meth c b_N_rightEnd 2 lwG qR1 (some .int) := ⟨B.exec, B.bytes, hml, findClass_of_methodNamed B.named, fun w h => atoms_spec (ws := (.code y_N_rightEnd b_N_rightEnd 2 (some .int) :: lwG)) B.pre w (List.mem_cons_of_mem _ h), B.returns, B.notSynchronized⟩
  obtain ⟨hx, hb, hml, hown, hts, hr, hlocks⟩ := id xc
  have hl := lv_entry ([.ref (cA L 1), .int a1]) (n := 2) (Nat.le_of_ble_eq_true rfl)
  rw [lg_entry_eq]
  generalize (lg_sl ([.ref (cA L 1), .int a1]) ++ List.replicate (2 - (lg_sl ([.ref (cA L 1), .int a1])).length) Slot.unset).toArray = ls at hl ⊢
  have hl : lv_has ls 2 [(0, .ref (cA L 1)), (1, .int a1)] := hl
  refine lv_aload_n hx hb d_N_rightEnd_0 rfl (lv_at hl 0 rfl) ?_
  refine lv_iload_n hx hb d_N_rightEnd_1 rfl (lv_at hl 1 rfl) ?_
  refine vp_callSi (va_runV (As := [.int a1]) (rest := []) ⟨hx, hb, hml, hown, hts⟩ (c_N_isWired l L a1 I F G _ h) (cwV 1 hts (gV wG385 wG386 wG387 wG49 wG388) rfl rfl rfl (by decide +kernel) ⟨Nat.le_of_ble_eq_true rfl, Nat.le_of_ble_eq_true rfl⟩) (cPre1 hK hN hP) rfl rfl hl.1 rfl (lv_room (Nat.le_of_ble_eq_true rfl)) d_N_rightEnd_2 ⟨Nat.le_of_ble_eq_true rfl, Nat.le_of_ble_eq_true rfl⟩).run (fun r_1 h => ?_)
  refine lv_if_eq (tgt := 17) hx hb d_N_rightEnd_5 (by decide) (fun c_2 => ?_) (fun c_2 => ?_)
  · replace h := h.1 c_2
    refine lv_iconst (v := (-1)) hx hb d_N_rightEnd_17 (by decide) ?_
    exact W.iret hx hb hr (fun t ht _ => ⟨_, rfl, h, ht⟩) (fun _ h9 => nomatch h9) d_N_rightEnd_18
  · replace h := h.2 c_2
    refine lv_aload_n hx hb d_N_rightEnd_8 rfl (lv_at hl 0 rfl) ?_
    refine va_get (D := L.1) (ci := 1) (v := .ref (cA L 18)) (C := qR1) (T := qT1) (N := 13) hx hb hts qi1 hown hK hP 1 rfl rfl 11 (by decide) (hts _ wG108) (fun _ h9 => h9) rfl d_N_rightEnd_9 ?_
    refine lv_iload_n hx hb d_N_rightEnd_12 rfl (lv_at hl 1 rfl) ?_
    obtain ⟨hi_3, h⟩ := h
    refine c_iald hx hb hK hP 8 (by decide) rfl hi_3 d_N_rightEnd_13 ?_
    refine lv_goto (tgt := 18) hx hb d_N_rightEnd_14 (by decide) ?_
    exact W.iret hx hb hr (fun t ht _ => ⟨_, rfl, h, ht⟩) (fun _ h9 => nomatch h9) d_N_rightEnd_18
abbrev rm_N_hasPin : Room := { frames := 2, cells := 0, slots := 0, locals := 40 }
set_option maxHeartbeats 4000000 in
set_option maxRecDepth 100000 in
theorem c_N_hasPin (l : Launch) (L : cL) (a1 : Int32) (a2 : Int32) (I : MI) (F : MF) (G : MG) (post : Int32 → Prop) (h : wp_N_hasPin a1 a2 I F G post) : Met l y_N_hasPin (.code y_N_hasPin b_N_hasPin 3 (some .boolean) :: lwG) rm_N_hasPin (cPc L I F G [.ref (cA L 1), .int a1, .int a2]) (vp_Si post) 0 0 (fun _ => False) := by
  refine Met.ofW (cc := b_N_hasPin) (maxL := 3) (ret := (some .boolean)) (by decide) rfl ?_
  intro p e s m args below meth c s₁ B hml hv
  obtain ⟨rfl, hP, hK, hN⟩ := hv
  have xc : xC p s m _ meth c b_N_hasPin 3 lwG qR1 (some .boolean) := ⟨B.exec, B.bytes, hml, findClass_of_methodNamed B.named, fun w h => atoms_spec (ws := (.code y_N_hasPin b_N_hasPin 3 (some .boolean) :: lwG)) B.pre w (List.mem_cons_of_mem _ h), B.returns, B.notSynchronized⟩
  obtain ⟨hx, hb, hml, hown, hts, hr, hlocks⟩ := id xc
  have hl := lv_entry ([.ref (cA L 1), .int a1, .int a2]) (n := 3) (Nat.le_of_ble_eq_true rfl)
  rw [lg_entry_eq]
  generalize (lg_sl ([.ref (cA L 1), .int a1, .int a2]) ++ List.replicate (3 - (lg_sl ([.ref (cA L 1), .int a1, .int a2])).length) Slot.unset).toArray = ls at hl ⊢
  have hl : lv_has ls 3 [(0, .ref (cA L 1)), (1, .int a1), (2, .int a2)] := hl
  refine lv_iload_n hx hb d_N_hasPin_0 rfl (lv_at hl 1 rfl) ?_
  refine lv_aload_n hx hb d_N_hasPin_1 rfl (lv_at hl 0 rfl) ?_
  refine va_get (D := L.1) (ci := 1) (v := .int (I 1)) (C := qR1) (T := qT1) (N := 13) hx hb hts qi1 hown hK hP 1 rfl rfl 0 (by decide) (hts _ wG88) (fun _ h9 => h9) rfl d_N_hasPin_2 ?_
  refine vp_callSi (va_runSN (As := [.int a1, .int (I 1)]) (rest := []) ⟨hx, hb, hml, hown, hts⟩ (c_F_within l a1 (I 1) _ h) ⟨va_cnB 2 hts (gC wG251) rfl rfl rfl (hN.2.2) (hts _ wG48) (by decide +kernel) ⟨Nat.le_of_ble_eq_true rfl, Nat.le_of_ble_eq_true rfl⟩, hts _ wG250, trivial⟩ ⟨sPc_blind _, fun U hU hW => ⟨rfl, trivial⟩⟩ rfl rfl hl.1 rfl (lv_room (Nat.le_of_ble_eq_true rfl)) d_N_hasPin_5 ⟨Nat.le_of_ble_eq_true rfl, Nat.le_of_ble_eq_true rfl⟩).run (fun r_1 h => ?_)
  refine lv_if_eq (tgt := 31) hx hb d_N_hasPin_8 (by decide) (fun c_2 => ?_) (fun c_2 => ?_)
  · replace h := h.1 c_2
    refine lv_iconst (v := 0) hx hb d_N_hasPin_31 (by decide) ?_
    exact W.zret hx hb hr rfl (fun t ht _ => ⟨_, rfl, h, ht⟩) (fun _ h9 => nomatch h9) d_N_hasPin_32
  · replace h := h.2 c_2
    refine lv_iload_n hx hb d_N_hasPin_11 rfl (lv_at hl 2 rfl) ?_
    refine lv_aload_n hx hb d_N_hasPin_12 rfl (lv_at hl 0 rfl) ?_
    refine va_get (D := L.1) (ci := 1) (v := .ref (cA L 10)) (C := qR1) (T := qT1) (N := 13) hx hb hts qi1 hown hK hP 1 rfl rfl 1 (by decide) (hts _ wG91) (fun _ h9 => h9) rfl d_N_hasPin_13 ?_
    refine lv_iload_n hx hb d_N_hasPin_16 rfl (lv_at hl 1 rfl) ?_
    obtain ⟨hi_3, h⟩ := h
    refine c_iald hx hb hK hP 0 (by decide) rfl hi_3 d_N_hasPin_17 ?_
    refine vp_callSi (va_runSN (As := [.int (F 0 a1.toNatClampNeg)]) (rest := [.int a2]) ⟨hx, hb, hml, hown, hts⟩ (c_F_pinsOfKind l (F 0 a1.toNatClampNeg) _ h) ⟨va_cnB 1 hts (gC wG332) rfl rfl rfl (hN.1) (hts _ wG48) (by decide +kernel) ⟨Nat.le_of_ble_eq_true rfl, Nat.le_of_ble_eq_true rfl⟩, hts _ wG331, trivial⟩ ⟨sPc_blind _, fun U hU hW => ⟨rfl, trivial⟩⟩ rfl rfl hl.1 rfl (lv_room (Nat.le_of_ble_eq_true rfl)) d_N_hasPin_18 ⟨Nat.le_of_ble_eq_true rfl, Nat.le_of_ble_eq_true rfl⟩).run (fun r_4 h => ?_)
    refine vp_callSi (va_runSN (As := [.int a2, .int r_4]) (rest := []) ⟨hx, hb, hml, hown, hts⟩ (c_F_within l a2 r_4 _ h) ⟨va_cnB 2 hts (gC wG251) rfl rfl rfl (hN.2.2) (hts _ wG48) (by decide +kernel) ⟨Nat.le_of_ble_eq_true rfl, Nat.le_of_ble_eq_true rfl⟩, hts _ wG250, trivial⟩ ⟨sPc_blind _, fun U hU hW => ⟨rfl, trivial⟩⟩ rfl rfl hl.1 rfl (lv_room (Nat.le_of_ble_eq_true rfl)) d_N_hasPin_21 ⟨Nat.le_of_ble_eq_true rfl, Nat.le_of_ble_eq_true rfl⟩).run (fun r_5 h => ?_)
    refine lv_if_eq (tgt := 31) hx hb d_N_hasPin_24 (by decide) (fun c_6 => ?_) (fun c_6 => ?_)
    · replace h := h.1 c_6
      refine lv_iconst (v := 0) hx hb d_N_hasPin_31 (by decide) ?_
      exact W.zret hx hb hr rfl (fun t ht _ => ⟨_, rfl, h, ht⟩) (fun _ h9 => nomatch h9) d_N_hasPin_32
    · replace h := h.2 c_6
      refine lv_iconst (v := 1) hx hb d_N_hasPin_27 (by decide) ?_
      refine lv_goto (tgt := 32) hx hb d_N_hasPin_28 (by decide) ?_
      exact W.zret hx hb hr rfl (fun t ht _ => ⟨_, rfl, h, ht⟩) (fun _ h9 => nomatch h9) d_N_hasPin_32
abbrev rm_N_pinColumn : Room := { frames := 0, cells := 0, slots := 0, locals := 0 }
set_option maxHeartbeats 4000000 in
set_option maxRecDepth 100000 in
theorem c_N_pinColumn (l : Launch) (L : cL) (a1 : Int32) (a2 : Int32) (I : MI) (F : MF) (G : MG) (post : Int32 → Prop) (h : wp_N_pinColumn a1 a2 I F G post) : Met l y_N_pinColumn (.code y_N_pinColumn b_N_pinColumn 3 (some .int) :: lwG) rm_N_pinColumn (cPc L I F G [.ref (cA L 1), .int a1, .int a2]) (vp_Si post) 0 0 (fun _ => False) := by
  refine Met.ofW (cc := b_N_pinColumn) (maxL := 3) (ret := (some .int)) (by decide) rfl ?_
  intro p e s m args below meth c s₁ B hml hv
  obtain ⟨rfl, hP, hK, hN⟩ := hv
  have xc : xC p s m _ meth c b_N_pinColumn 3 lwG qR1 (some .int) := ⟨B.exec, B.bytes, hml, findClass_of_methodNamed B.named, fun w h => atoms_spec (ws := (.code y_N_pinColumn b_N_pinColumn 3 (some .int) :: lwG)) B.pre w (List.mem_cons_of_mem _ h), B.returns, B.notSynchronized⟩
  obtain ⟨hx, hb, hml, hown, hts, hr, hlocks⟩ := id xc
  have hl := lv_entry ([.ref (cA L 1), .int a1, .int a2]) (n := 3) (Nat.le_of_ble_eq_true rfl)
  rw [lg_entry_eq]
  generalize (lg_sl ([.ref (cA L 1), .int a1, .int a2]) ++ List.replicate (3 - (lg_sl ([.ref (cA L 1), .int a1, .int a2])).length) Slot.unset).toArray = ls at hl ⊢
  have hl : lv_has ls 3 [(0, .ref (cA L 1)), (1, .int a1), (2, .int a2)] := hl
  refine lv_aload_n hx hb d_N_pinColumn_0 rfl (lv_at hl 0 rfl) ?_
  refine va_get (D := L.1) (ci := 1) (v := .ref (cA L 15)) (C := qR1) (T := qT1) (N := 13) hx hb hts qi1 hown hK hP 1 rfl rfl 6 (by decide) (hts _ wG101) (fun _ h9 => h9) rfl d_N_pinColumn_1 ?_
  refine lv_iload_n hx hb d_N_pinColumn_4 rfl (lv_at hl 1 rfl) ?_
  obtain ⟨hi_1, h⟩ := h
  refine c_iald hx hb hK hP 5 (by decide) rfl hi_1 d_N_pinColumn_5 ?_
  refine lv_iload_n hx hb d_N_pinColumn_6 rfl (lv_at hl 2 rfl) ?_
  refine lv_iadd hx hb d_N_pinColumn_7 ?_
  exact W.iret hx hb hr (fun t ht _ => ⟨_, rfl, h, ht⟩) (fun _ h9 => nomatch h9) d_N_pinColumn_8
abbrev rm_C_wireLength : Room := { frames := 4, cells := 0, slots := 0, locals := 84 }
set_option maxHeartbeats 4000000 in
set_option maxRecDepth 100000 in
theorem c_C_wireLength (l : Launch) (L : cL) (a1 : Int32) (I : MI) (F : MF) (G : MG) (post : Int32 → Prop) (h : wp_C_wireLength a1 I F G post) : Met l y_C_wireLength (.code y_C_wireLength b_C_wireLength 5 (some .int) :: lwG) rm_C_wireLength (cPc L I F G [.ref (cA L 2), .int a1]) (vp_Si post) 0 0 (fun _ => False) := by
  refine Met.ofW (cc := b_C_wireLength) (maxL := 5) (ret := (some .int)) (by decide) rfl ?_
  intro p e s m args below meth c s₁ B hml hv
  obtain ⟨rfl, hP, hK, hN⟩ := hv
  have xc : xC p s m _ meth c b_C_wireLength 5 lwG qR2 (some .int) := ⟨B.exec, B.bytes, hml, findClass_of_methodNamed B.named, fun w h => atoms_spec (ws := (.code y_C_wireLength b_C_wireLength 5 (some .int) :: lwG)) B.pre w (List.mem_cons_of_mem _ h), B.returns, B.notSynchronized⟩
  obtain ⟨hx, hb, hml, hown, hts, hr, hlocks⟩ := id xc
  have hl := lv_entry ([.ref (cA L 2), .int a1]) (n := 5) (Nat.le_of_ble_eq_true rfl)
  rw [lg_entry_eq]
  generalize (lg_sl ([.ref (cA L 2), .int a1]) ++ List.replicate (5 - (lg_sl ([.ref (cA L 2), .int a1])).length) Slot.unset).toArray = ls at hl ⊢
  have hl : lv_has ls 5 [(0, .ref (cA L 2)), (1, .int a1)] := hl
  refine lv_aload_n hx hb d_C_wireLength_0 rfl (lv_at hl 0 rfl) ?_
  refine va_get (D := L.1) (ci := 2) (v := .ref (cA L 20)) (C := qR2) (T := qT2) (N := 3) hx hb hts qi2 hown hK hP 2 rfl rfl 2 (by decide) (hts _ wG149) (fun _ h9 => h9) rfl d_C_wireLength_1 ?_
  refine lv_iload_n hx hb d_C_wireLength_4 rfl (lv_at hl 1 rfl) ?_
  obtain ⟨hi_1, h⟩ := h
  refine c_iald hx hb hK hP 10 (by decide) rfl hi_1 d_C_wireLength_5 ?_
  refine lv_if_ne (tgt := 11) hx hb d_C_wireLength_6 (by decide) (fun c_2 => ?_) (fun c_2 => ?_)
  · replace h := h.1 c_2
    refine lv_aload_n hx hb d_C_wireLength_11 rfl (lv_at hl 0 rfl) ?_
    refine va_get (D := L.1) (ci := 2) (v := .ref (cA L 1)) (C := qR2) (T := qT2) (N := 3) hx hb hts qi2 hown hK hP 2 rfl rfl 0 (by decide) (hts _ wG145) (fun _ h9 => h9) rfl d_C_wireLength_12 ?_
    refine lv_iload_n hx hb d_C_wireLength_15 rfl (lv_at hl 1 rfl) ?_
    refine vp_callSi (va_runV (As := [.int a1]) (rest := []) ⟨hx, hb, hml, hown, hts⟩ (c_N_rightEnd l L a1 I F G _ h) (cwV 1 hts (gV wG414 wG415 wG416 wG49 wG417) rfl rfl rfl (by decide +kernel) ⟨Nat.le_of_ble_eq_true rfl, Nat.le_of_ble_eq_true rfl⟩) (cPre1 hK hN hP) rfl rfl hl.1 rfl (lv_room (Nat.le_of_ble_eq_true rfl)) d_C_wireLength_16 ⟨Nat.le_of_ble_eq_true rfl, Nat.le_of_ble_eq_true rfl⟩).run (fun r_3 h => ?_)
    refine lv_aload_n hx hb d_C_wireLength_19 rfl (lv_at hl 0 rfl) ?_
    refine va_get (D := L.1) (ci := 2) (v := .ref (cA L 1)) (C := qR2) (T := qT2) (N := 3) hx hb hts qi2 hown hK hP 2 rfl rfl 0 (by decide) (hts _ wG145) (fun _ h9 => h9) rfl d_C_wireLength_20 ?_
    refine lv_iload_n hx hb d_C_wireLength_23 rfl (lv_at hl 1 rfl) ?_
    refine vp_callSi (va_runV (As := [.int a1]) (rest := [.int r_3]) ⟨hx, hb, hml, hown, hts⟩ (c_N_leftEnd l L a1 I F G _ h) (cwV 1 hts (gV wG402 wG403 wG404 wG49 wG405) rfl rfl rfl (by decide +kernel) ⟨Nat.le_of_ble_eq_true rfl, Nat.le_of_ble_eq_true rfl⟩) (cPre1 hK hN hP) rfl rfl hl.1 rfl (lv_room (Nat.le_of_ble_eq_true rfl)) d_C_wireLength_24 ⟨Nat.le_of_ble_eq_true rfl, Nat.le_of_ble_eq_true rfl⟩).run (fun r_4 h => ?_)
    refine lv_isub hx hb d_C_wireLength_27 ?_
    refine lv_topi (fun x_5 ex_5 => ?_)
    replace h := h x_5 ex_5
    refine lv_istore_n (lv' := [(2, .int x_5), (0, .ref (cA L 2)), (1, .int a1)]) hx hb d_C_wireLength_28 rfl hl (by decide) rfl (fun ls hl => ?_)
    refine lv_aload_n hx hb d_C_wireLength_29 rfl (lv_at hl 1 rfl) ?_
    refine va_get (D := L.1) (ci := 2) (v := .ref (cA L 1)) (C := qR2) (T := qT2) (N := 3) hx hb hts qi2 hown hK hP 2 rfl rfl 0 (by decide) (hts _ wG145) (fun _ h9 => h9) rfl d_C_wireLength_30 ?_
    refine va_get (D := L.1) (ci := 1) (v := .ref (cA L 6)) (C := qR1) (T := qT1) (N := 13) hx hb hts qi1 hown hK hP 1 rfl rfl 9 (by decide) (hts _ wG106) (fun _ h9 => h9) rfl d_C_wireLength_33 ?_
    refine lv_iconst (v := 0) hx hb d_C_wireLength_36 (by decide) ?_
    obtain ⟨hi_6, h⟩ := h
    refine c_row6 hx hb hK hP hi_6 d_C_wireLength_37 ?_
    refine lv_iload_n hx hb d_C_wireLength_38 rfl (lv_at hl 2 rfl) ?_
    obtain ⟨hi_7, h⟩ := h
    refine c_iald hx hb hK hP (17 + (0 : Int32).toNatClampNeg) (row_lt17 hi_6) (row_len17 hi_6) hi_7 d_C_wireLength_39 ?_
    refine lv_aload_n hx hb d_C_wireLength_40 rfl (lv_at hl 1 rfl) ?_
    refine va_get (D := L.1) (ci := 2) (v := .ref (cA L 20)) (C := qR2) (T := qT2) (N := 3) hx hb hts qi2 hown hK hP 2 rfl rfl 2 (by decide) (hts _ wG149) (fun _ h9 => h9) rfl d_C_wireLength_41 ?_
    refine lv_iload_n hx hb d_C_wireLength_44 rfl (lv_at hl 2 rfl) ?_
    obtain ⟨hi_8, h⟩ := h
    refine c_iald hx hb hK hP 10 (by decide) rfl hi_8 d_C_wireLength_45 ?_
    refine lv_imul hx hb d_C_wireLength_46 ?_
    refine lv_topi (fun x_9 ex_9 => ?_)
    replace h := h x_9 ex_9
    refine lv_istore_n (lv' := [(3, .int x_9), (2, .int x_5), (0, .ref (cA L 2)), (1, .int a1)]) hx hb d_C_wireLength_47 rfl hl (by decide) rfl (fun ls hl => ?_)
    refine lv_aload_n hx hb d_C_wireLength_48 rfl (lv_at hl 2 rfl) ?_
    refine va_get (D := L.1) (ci := 2) (v := .ref (cA L 1)) (C := qR2) (T := qT2) (N := 3) hx hb hts qi2 hown hK hP 2 rfl rfl 0 (by decide) (hts _ wG145) (fun _ h9 => h9) rfl d_C_wireLength_49 ?_
    refine va_get (D := L.1) (ci := 1) (v := .ref (cA L 6)) (C := qR1) (T := qT1) (N := 13) hx hb hts qi1 hown hK hP 1 rfl rfl 9 (by decide) (hts _ wG106) (fun _ h9 => h9) rfl d_C_wireLength_52 ?_
    refine lv_iconst (v := 1) hx hb d_C_wireLength_55 (by decide) ?_
    obtain ⟨hi_10, h⟩ := h
    refine c_row6 hx hb hK hP hi_10 d_C_wireLength_56 ?_
    refine lv_iload_n hx hb d_C_wireLength_57 rfl (lv_at hl 3 rfl) ?_
    obtain ⟨hi_11, h⟩ := h
    refine c_iald hx hb hK hP (17 + (1 : Int32).toNatClampNeg) (row_lt17 hi_10) (row_len17 hi_10) hi_11 d_C_wireLength_58 ?_
    refine lv_aload_n hx hb d_C_wireLength_59 rfl (lv_at hl 2 rfl) ?_
    refine va_get (D := L.1) (ci := 2) (v := .int (I 2)) (C := qR2) (T := qT2) (N := 3) hx hb hts qi2 hown hK hP 2 rfl rfl 1 (by decide) (hts _ wG146) (fun _ h9 => h9) rfl d_C_wireLength_60 ?_
    refine lv_iconst (v := 1) hx hb d_C_wireLength_63 (by decide) ?_
    refine lv_iadd hx hb d_C_wireLength_64 ?_
    refine lv_aload_n hx hb d_C_wireLength_65 rfl (lv_at hl 2 rfl) ?_
    refine va_get (D := L.1) (ci := 2) (v := .ref (cA L 20)) (C := qR2) (T := qT2) (N := 3) hx hb hts qi2 hown hK hP 2 rfl rfl 2 (by decide) (hts _ wG149) (fun _ h9 => h9) rfl d_C_wireLength_66 ?_
    refine lv_iload_n hx hb d_C_wireLength_69 rfl (lv_at hl 3 rfl) ?_
    obtain ⟨hi_12, h⟩ := h
    refine c_iald hx hb hK hP 10 (by decide) rfl hi_12 d_C_wireLength_70 ?_
    refine lv_isub hx hb d_C_wireLength_71 ?_
    refine lv_imul hx hb d_C_wireLength_72 ?_
    refine lv_topi (fun x_13 ex_13 => ?_)
    replace h := h x_13 ex_13
    refine lv_istore (lv' := [(4, .int x_13), (3, .int x_9), (2, .int x_5), (0, .ref (cA L 2)), (1, .int a1)]) hx hb d_C_wireLength_73 hl (by decide) rfl (fun ls hl => ?_)
    refine lv_iload_n hx hb d_C_wireLength_75 rfl (lv_at hl 2 rfl) ?_
    refine lv_iload_n hx hb d_C_wireLength_76 rfl (lv_at hl 1 rfl) ?_
    refine lv_iadd hx hb d_C_wireLength_77 ?_
    refine lv_iload hx hb d_C_wireLength_78 (lv_at hl 0 rfl) ?_
    refine lv_iadd hx hb d_C_wireLength_80 ?_
    exact W.iret hx hb hr (fun t ht _ => ⟨_, rfl, h, ht⟩) (fun _ h9 => nomatch h9) d_C_wireLength_81
  · replace h := h.2 c_2
    refine lv_iconst (v := 0) hx hb d_C_wireLength_9 (by decide) ?_
    exact W.iret hx hb hr (fun t ht _ => ⟨_, rfl, h, ht⟩) (fun _ h9 => nomatch h9) d_C_wireLength_10
end
section
abbrev rm_C_lines : Room := { frames := 0, cells := 0, slots := 0, locals := 0 }
set_option maxHeartbeats 4000000 in
set_option maxRecDepth 100000 in
theorem c_C_lines (l : Launch) (L : cL) (I : MI) (F : MF) (G : MG) (post : Int32 → Prop) (h : wp_C_lines I F G post) : Met l y_C_lines (.code y_C_lines b_C_lines 1 (some .int) :: lwG) rm_C_lines (cPc L I F G [.ref (cA L 2)]) (vp_Si post) 0 0 (fun _ => False) := by
  refine Met.ofW (cc := b_C_lines) (maxL := 1) (ret := (some .int)) (by decide) rfl ?_
  intro p e s m args below meth c s₁ B hml hv
  obtain ⟨rfl, hP, hK, hN⟩ := hv
  have xc : xC p s m _ meth c b_C_lines 1 lwG qR2 (some .int) := ⟨B.exec, B.bytes, hml, findClass_of_methodNamed B.named, fun w h => atoms_spec (ws := (.code y_C_lines b_C_lines 1 (some .int) :: lwG)) B.pre w (List.mem_cons_of_mem _ h), B.returns, B.notSynchronized⟩
  obtain ⟨hx, hb, hml, hown, hts, hr, hlocks⟩ := id xc
  have hl := lv_entry ([.ref (cA L 2)]) (n := 1) (Nat.le_of_ble_eq_true rfl)
  rw [lg_entry_eq]
  generalize (lg_sl ([.ref (cA L 2)]) ++ List.replicate (1 - (lg_sl ([.ref (cA L 2)])).length) Slot.unset).toArray = ls at hl ⊢
  have hl : lv_has ls 1 [(0, .ref (cA L 2))] := hl
  refine lv_aload_n hx hb d_C_lines_0 rfl (lv_at hl 0 rfl) ?_
  refine va_get (D := L.1) (ci := 2) (v := .int (I 2)) (C := qR2) (T := qT2) (N := 3) hx hb hts qi2 hown hK hP 2 rfl rfl 1 (by decide) (hts _ wG146) (fun _ h9 => h9) rfl d_C_lines_1 ?_
  refine lv_iconst (v := 2) hx hb d_C_lines_4 (by decide) ?_
  refine lv_iadd hx hb d_C_lines_5 ?_
  exact W.iret hx hb hr (fun t ht _ => ⟨_, rfl, h, ht⟩) (fun _ h9 => nomatch h9) d_C_lines_6
abbrev rm_D_spot : Room := { frames := 0, cells := 0, slots := 0, locals := 0 }
set_option maxHeartbeats 4000000 in
set_option maxRecDepth 100000 in
theorem c_D_spot (l : Launch) (a0 : Int32) (a1 : Int32) (a2 : Int32) (post : Int32 → Prop) (h : wp_D_spot a0 a1 a2 post) : Met l y_D_spot (.code y_D_spot b_D_spot 3 (some .int) :: lwG) rm_D_spot (sPc [.int a0, .int a1, .int a2]) (vp_Si post) 0 0 (fun _ => False) := by
  refine Met.ofW (cc := b_D_spot) (maxL := 3) (ret := (some .int)) (by decide) rfl ?_
  intro p e s m args below meth c s₁ B hml hv
  obtain ⟨rfl, -⟩ := hv
  have xc : xC p s m _ meth c b_D_spot 3 lwG qR3 (some .int) := ⟨B.exec, B.bytes, hml, findClass_of_methodNamed B.named, fun w h => atoms_spec (ws := (.code y_D_spot b_D_spot 3 (some .int) :: lwG)) B.pre w (List.mem_cons_of_mem _ h), B.returns, B.notSynchronized⟩
  obtain ⟨hx, hb, hml, hown, hts, hr, hlocks⟩ := id xc
  have hl := lv_entry ([.int a0, .int a1, .int a2]) (n := 3) (Nat.le_of_ble_eq_true rfl)
  rw [lg_entry_eq]
  generalize (lg_sl ([.int a0, .int a1, .int a2]) ++ List.replicate (3 - (lg_sl ([.int a0, .int a1, .int a2])).length) Slot.unset).toArray = ls at hl ⊢
  have hl : lv_has ls 3 [(0, .int a0), (1, .int a1), (2, .int a2)] := hl
  refine lv_iload_n hx hb d_D_spot_0 rfl (lv_at hl 0 rfl) ?_
  refine lv_bipush (v := 24) hx hb d_D_spot_1 (by decide) ?_
  refine lv_imul hx hb d_D_spot_3 ?_
  refine lv_iload_n hx hb d_D_spot_4 rfl (lv_at hl 1 rfl) ?_
  refine lv_iadd hx hb d_D_spot_5 ?_
  refine lv_iconst (v := 2) hx hb d_D_spot_6 (by decide) ?_
  refine lv_imul hx hb d_D_spot_7 ?_
  refine lv_iload_n hx hb d_D_spot_8 rfl (lv_at hl 2 rfl) ?_
  refine lv_iadd hx hb d_D_spot_9 ?_
  exact W.iret hx hb hr (fun t ht _ => ⟨_, rfl, h, ht⟩) (fun _ h9 => nomatch h9) d_D_spot_10
set_option maxHeartbeats 4000000 in
set_option maxRecDepth 100000 in
theorem Wl_D_netsInGroup_4 {p : Program} {l : Launch} {e : Env} {s : State} {m : MethodId} {args : Array Value} {below : List Frame} {meth : Method} {c : Code} {L : cL} {I : MI} {F : MF} {G : MG} {post : Int32 → Prop} {K : Int32 → Int32 → Prop} {a1 : Int32} (xc : xC p s m args meth c b_D_netsInGroup 4 lwG qR3 (some .int)) (hP : va_P L.1 vwCl (WC L I F G) s.heap) (hK : va_K L.1 vwCl (cTys L) s) (hN : cNk s)
    (hk : ∀ (a2 : Int32) (a3 : Int32) (ls : Array Slot), K a2 a3 → lv_has ls 4 [(0, .ref (cA L 3)), (1, .int a1), (2, .int a2), (3, .int a3)] → W p l e rm_D_netsInGroup s m args below meth c s.heap [] 0 0 (MQ below (vp_Si post) args s 0 0 (fun _ => False)) (F0 m 39 ls [])) :
    ∀ (n : Nat) (a2 : Int32) (a3 : Int32) (ls : Array Slot), wl_D_netsInGroup_4 post K a1 I F G n a2 a3 → lv_has ls 4 [(0, .ref (cA L 3)), (1, .int a1), (2, .int a2), (3, .int a3)] → W p l e rm_D_netsInGroup s m args below meth c s.heap [] 0 0 (MQ below (vp_Si post) args s 0 0 (fun _ => False)) (F0 m 4 ls []) := by
  obtain ⟨hx, hb, hml, hown, hts, hr, hlocks⟩ := id xc
  intro n
  induction n with
  | zero => intro a2 a3 ls h; exact absurd h id
  | succ n ih =>
    intro a2 a3 ls h hl
    refine lv_iload_n hx hb d_D_netsInGroup_4 rfl (lv_at hl 3 rfl) ?_
    refine lv_aload_n hx hb d_D_netsInGroup_5 rfl (lv_at hl 0 rfl) ?_
    refine va_get (D := L.1) (ci := 3) (v := .int (I 3)) (C := qR3) (T := qT3) (N := 7) hx hb hts qi3 hown hK hP 3 rfl rfl 6 (by decide) (hts _ wG173) (fun _ h9 => h9) rfl d_D_netsInGroup_6 ?_
    refine lv_icmp_ge (tgt := 39) hx hb d_D_netsInGroup_9 (by decide) (fun c_1 => ?_) (fun c_1 => ?_)
    · replace h := h.1 c_1
      exact hk a2 a3 ls h (lv_sub hl [0, 1, 2, 3] rfl)
    · replace h := h.2 c_1
      refine lv_aload_n hx hb d_D_netsInGroup_12 rfl (lv_at hl 0 rfl) ?_
      refine va_get (D := L.1) (ci := 3) (v := .ref (cA L 23)) (C := qR3) (T := qT3) (N := 7) hx hb hts qi3 hown hK hP 3 rfl rfl 5 (by decide) (hts _ wG172) (fun _ h9 => h9) rfl d_D_netsInGroup_13 ?_
      refine lv_iload_n hx hb d_D_netsInGroup_16 rfl (lv_at hl 3 rfl) ?_
      obtain ⟨hi_2, h⟩ := h
      refine c_iald hx hb hK hP 13 (by decide) rfl hi_2 d_D_netsInGroup_17 ?_
      refine lv_iload_n hx hb d_D_netsInGroup_18 rfl (lv_at hl 1 rfl) ?_
      refine lv_icmp_ne (tgt := 33) hx hb d_D_netsInGroup_19 (by decide) (fun c_3 => ?_) (fun c_3 => ?_)
      · replace h := h.1 c_3
        obtain ⟨x_4, ex_4⟩ : ∃ y : Int32, y = a3 + 1 := ⟨_, rfl⟩
        replace h := h x_4 ex_4
        refine lv_iinc (v := x_4) (lv' := [(3, .int x_4), (0, .ref (cA L 3)), (1, .int a1), (2, .int a2)]) hx hb d_D_netsInGroup_33 hl (k := 3) rfl (by rw [ex_4]; rfl) (by decide) rfl (fun ls hl => ?_)
        refine lv_goto (tgt := 4) hx hb d_D_netsInGroup_36 (by decide) ?_
        exact ih a2 x_4 ls h (lv_sub hl [1, 2, 3, 0] rfl)
      · replace h := h.2 c_3
        refine lv_iload_n hx hb d_D_netsInGroup_22 rfl (lv_at hl 2 rfl) ?_
        refine lv_iconst (v := 1) hx hb d_D_netsInGroup_23 (by decide) ?_
        refine lv_aload_n hx hb d_D_netsInGroup_24 rfl (lv_at hl 0 rfl) ?_
        refine va_get (D := L.1) (ci := 3) (v := .ref (cA L 22)) (C := qR3) (T := qT3) (N := 7) hx hb hts qi3 hown hK hP 3 rfl rfl 4 (by decide) (hts _ wG171) (fun _ h9 => h9) rfl d_D_netsInGroup_25 ?_
        refine lv_iload_n hx hb d_D_netsInGroup_28 rfl (lv_at hl 3 rfl) ?_
        obtain ⟨hi_5, h⟩ := h
        refine c_iald hx hb hK hP 12 (by decide) rfl hi_5 d_D_netsInGroup_29 ?_
        refine lv_ishl hx hb d_D_netsInGroup_30 ?_
        refine lv_ior hx hb d_D_netsInGroup_31 ?_
        refine lv_topi (fun x_6 ex_6 => ?_)
        replace h := h x_6 ex_6
        refine lv_istore_n (lv' := [(2, .int x_6), (0, .ref (cA L 3)), (1, .int a1), (3, .int a3)]) hx hb d_D_netsInGroup_32 rfl hl (by decide) rfl (fun ls hl => ?_)
        obtain ⟨x_7, ex_7⟩ : ∃ y : Int32, y = a3 + 1 := ⟨_, rfl⟩
        replace h := h x_7 ex_7
        refine lv_iinc (v := x_7) (lv' := [(3, .int x_7), (2, .int x_6), (0, .ref (cA L 3)), (1, .int a1)]) hx hb d_D_netsInGroup_33 hl (k := 3) rfl (by rw [ex_7]; rfl) (by decide) rfl (fun ls hl => ?_)
        refine lv_goto (tgt := 4) hx hb d_D_netsInGroup_36 (by decide) ?_
        exact ih x_6 x_7 ls h (lv_sub hl [2, 3, 1, 0] rfl)
abbrev rm_D_netsInGroup : Room := { frames := 0, cells := 0, slots := 0, locals := 0 }
set_option maxHeartbeats 4000000 in
set_option maxRecDepth 100000 in
theorem c_D_netsInGroup (l : Launch) (L : cL) (a1 : Int32) (I : MI) (F : MF) (G : MG) (post : Int32 → Prop) (h : wp_D_netsInGroup a1 I F G post) : Met l y_D_netsInGroup (.code y_D_netsInGroup b_D_netsInGroup 4 (some .int) :: lwG) rm_D_netsInGroup (cPc L I F G [.ref (cA L 3), .int a1]) (vp_Si post) 0 0 (fun _ => False) := by
  refine Met.ofW (cc := b_D_netsInGroup) (maxL := 4) (ret := (some .int)) (by decide) rfl ?_
  intro p e s m args below meth c s₁ B hml hv
  obtain ⟨rfl, hP, hK, hN⟩ := hv
  have xc : xC p s m _ meth c b_D_netsInGroup 4 lwG qR3 (some .int) := ⟨B.exec, B.bytes, hml, findClass_of_methodNamed B.named, fun w h => atoms_spec (ws := (.code y_D_netsInGroup b_D_netsInGroup 4 (some .int) :: lwG)) B.pre w (List.mem_cons_of_mem _ h), B.returns, B.notSynchronized⟩
  obtain ⟨hx, hb, hml, hown, hts, hr, hlocks⟩ := id xc
  have hl := lv_entry ([.ref (cA L 3), .int a1]) (n := 4) (Nat.le_of_ble_eq_true rfl)
  rw [lg_entry_eq]
  generalize (lg_sl ([.ref (cA L 3), .int a1]) ++ List.replicate (4 - (lg_sl ([.ref (cA L 3), .int a1])).length) Slot.unset).toArray = ls at hl ⊢
  have hl : lv_has ls 4 [(0, .ref (cA L 3)), (1, .int a1)] := hl
  refine lv_iconst (v := 0) hx hb d_D_netsInGroup_0 (by decide) ?_
  refine lv_istore_n (lv' := [(2, .int 0), (0, .ref (cA L 3)), (1, .int a1)]) hx hb d_D_netsInGroup_1 rfl hl (by decide) rfl (fun ls hl => ?_)
  refine lv_iconst (v := 0) hx hb d_D_netsInGroup_2 (by decide) ?_
  refine lv_istore_n (lv' := [(3, .int 0), (2, .int 0), (0, .ref (cA L 3)), (1, .int a1)]) hx hb d_D_netsInGroup_3 rfl hl (by decide) rfl (fun ls hl => ?_)
  obtain ⟨n_10, h⟩ := h
  refine Wl_D_netsInGroup_4 xc hP hK hN (hk := fun x_8 x_9 ls h hl => ?_) n_10 0 0 ls h (lv_sub hl [2, 3, 1, 0] rfl)
  refine lv_iload_n hx hb d_D_netsInGroup_39 rfl (lv_at hl 2 rfl) ?_
  exact W.iret hx hb hr (fun t ht _ => ⟨_, rfl, h, ht⟩) (fun _ h9 => nomatch h9) d_D_netsInGroup_40
set_option maxHeartbeats 4000000 in
set_option maxRecDepth 100000 in
theorem Wl_D_netsJoinedWith_4 {p : Program} {l : Launch} {e : Env} {s : State} {m : MethodId} {args : Array Value} {below : List Frame} {meth : Method} {c : Code} {L : cL} {I : MI} {F : MF} {G : MG} {post : Int32 → Prop} {K : Int32 → Int32 → Prop} {a1 : Int32} (xc : xC p s m args meth c b_D_netsJoinedWith 4 lwG qR3 (some .int)) (hP : va_P L.1 vwCl (WC L I F G) s.heap) (hK : va_K L.1 vwCl (cTys L) s) (hN : cNk s)
    (hk : ∀ (a2 : Int32) (a3 : Int32) (ls : Array Slot), K a2 a3 → lv_has ls 4 [(0, .ref (cA L 3)), (1, .int a1), (2, .int a2), (3, .int a3)] → W p l e rm_D_netsJoinedWith s m args below meth c s.heap [] 0 0 (MQ below (vp_Si post) args s 0 0 (fun _ => False)) (F0 m 41 ls [])) :
    ∀ (n : Nat) (a2 : Int32) (a3 : Int32) (ls : Array Slot), wl_D_netsJoinedWith_4 post K a1 I F G n a2 a3 → lv_has ls 4 [(0, .ref (cA L 3)), (1, .int a1), (2, .int a2), (3, .int a3)] → W p l e rm_D_netsJoinedWith s m args below meth c s.heap [] 0 0 (MQ below (vp_Si post) args s 0 0 (fun _ => False)) (F0 m 4 ls []) := by
  obtain ⟨hx, hb, hml, hown, hts, hr, hlocks⟩ := id xc
  intro n
  induction n with
  | zero => intro a2 a3 ls h; exact absurd h id
  | succ n ih =>
    intro a2 a3 ls h hl
    refine lv_iload_n hx hb d_D_netsJoinedWith_4 rfl (lv_at hl 3 rfl) ?_
    refine lv_aload_n hx hb d_D_netsJoinedWith_5 rfl (lv_at hl 0 rfl) ?_
    refine va_get (D := L.1) (ci := 3) (v := .int (I 3)) (C := qR3) (T := qT3) (N := 7) hx hb hts qi3 hown hK hP 3 rfl rfl 6 (by decide) (hts _ wG173) (fun _ h9 => h9) rfl d_D_netsJoinedWith_6 ?_
    refine lv_icmp_ge (tgt := 41) hx hb d_D_netsJoinedWith_9 (by decide) (fun c_1 => ?_) (fun c_1 => ?_)
    · replace h := h.1 c_1
      exact hk a2 a3 ls h (lv_sub hl [0, 1, 2, 3] rfl)
    · replace h := h.2 c_1
      refine lv_aload_n hx hb d_D_netsJoinedWith_12 rfl (lv_at hl 0 rfl) ?_
      refine va_get (D := L.1) (ci := 3) (v := .ref (cA L 22)) (C := qR3) (T := qT3) (N := 7) hx hb hts qi3 hown hK hP 3 rfl rfl 4 (by decide) (hts _ wG171) (fun _ h9 => h9) rfl d_D_netsJoinedWith_13 ?_
      refine lv_iload_n hx hb d_D_netsJoinedWith_16 rfl (lv_at hl 3 rfl) ?_
      obtain ⟨hi_2, h⟩ := h
      refine c_iald hx hb hK hP 12 (by decide) rfl hi_2 d_D_netsJoinedWith_17 ?_
      refine lv_iload_n hx hb d_D_netsJoinedWith_18 rfl (lv_at hl 1 rfl) ?_
      refine lv_icmp_ne (tgt := 35) hx hb d_D_netsJoinedWith_19 (by decide) (fun c_3 => ?_) (fun c_3 => ?_)
      · replace h := h.1 c_3
        obtain ⟨x_4, ex_4⟩ : ∃ y : Int32, y = a3 + 1 := ⟨_, rfl⟩
        replace h := h x_4 ex_4
        refine lv_iinc (v := x_4) (lv' := [(3, .int x_4), (0, .ref (cA L 3)), (1, .int a1), (2, .int a2)]) hx hb d_D_netsJoinedWith_35 hl (k := 3) rfl (by rw [ex_4]; rfl) (by decide) rfl (fun ls hl => ?_)
        refine lv_goto (tgt := 4) hx hb d_D_netsJoinedWith_38 (by decide) ?_
        exact ih a2 x_4 ls h (lv_sub hl [1, 2, 3, 0] rfl)
      · replace h := h.2 c_3
        refine lv_iload_n hx hb d_D_netsJoinedWith_22 rfl (lv_at hl 2 rfl) ?_
        refine lv_aload_n hx hb d_D_netsJoinedWith_23 rfl (lv_at hl 0 rfl) ?_
        refine lv_aload_n hx hb d_D_netsJoinedWith_24 rfl (lv_at hl 0 rfl) ?_
        refine va_get (D := L.1) (ci := 3) (v := .ref (cA L 23)) (C := qR3) (T := qT3) (N := 7) hx hb hts qi3 hown hK hP 3 rfl rfl 5 (by decide) (hts _ wG172) (fun _ h9 => h9) rfl d_D_netsJoinedWith_25 ?_
        refine lv_iload_n hx hb d_D_netsJoinedWith_28 rfl (lv_at hl 3 rfl) ?_
        obtain ⟨hi_5, h⟩ := h
        refine c_iald hx hb hK hP 13 (by decide) rfl hi_5 d_D_netsJoinedWith_29 ?_
        refine vp_callSi (va_runV (As := [.int (F 13 a3.toNatClampNeg)]) (rest := [.int a2]) ⟨hx, hb, hml, hown, hts⟩ (c_D_netsInGroup l L (F 13 a3.toNatClampNeg) I F G _ h) (cwV 1 hts (gV wG606 wG608 wG17 wG52 wG609) rfl rfl rfl (by decide +kernel) ⟨Nat.le_of_ble_eq_true rfl, Nat.le_of_ble_eq_true rfl⟩) (cPre3 hK hN hP) rfl rfl hl.1 rfl (lv_room (Nat.le_of_ble_eq_true rfl)) d_D_netsJoinedWith_30 ⟨Nat.le_of_ble_eq_true rfl, Nat.le_of_ble_eq_true rfl⟩).run (fun r_6 h => ?_)
        refine lv_ior hx hb d_D_netsJoinedWith_33 ?_
        refine lv_topi (fun x_7 ex_7 => ?_)
        replace h := h x_7 ex_7
        refine lv_istore_n (lv' := [(2, .int x_7), (0, .ref (cA L 3)), (1, .int a1), (3, .int a3)]) hx hb d_D_netsJoinedWith_34 rfl hl (by decide) rfl (fun ls hl => ?_)
        obtain ⟨x_8, ex_8⟩ : ∃ y : Int32, y = a3 + 1 := ⟨_, rfl⟩
        replace h := h x_8 ex_8
        refine lv_iinc (v := x_8) (lv' := [(3, .int x_8), (2, .int x_7), (0, .ref (cA L 3)), (1, .int a1)]) hx hb d_D_netsJoinedWith_35 hl (k := 3) rfl (by rw [ex_8]; rfl) (by decide) rfl (fun ls hl => ?_)
        refine lv_goto (tgt := 4) hx hb d_D_netsJoinedWith_38 (by decide) ?_
        exact ih x_7 x_8 ls h (lv_sub hl [2, 3, 1, 0] rfl)
abbrev rm_D_netsJoinedWith : Room := { frames := 1, cells := 0, slots := 0, locals := 23 }
set_option maxHeartbeats 4000000 in
set_option maxRecDepth 100000 in
theorem c_D_netsJoinedWith (l : Launch) (L : cL) (a1 : Int32) (I : MI) (F : MF) (G : MG) (post : Int32 → Prop) (h : wp_D_netsJoinedWith a1 I F G post) : Met l y_D_netsJoinedWith (.code y_D_netsJoinedWith b_D_netsJoinedWith 4 (some .int) :: lwG) rm_D_netsJoinedWith (cPc L I F G [.ref (cA L 3), .int a1]) (vp_Si post) 0 0 (fun _ => False) := by
  refine Met.ofW (cc := b_D_netsJoinedWith) (maxL := 4) (ret := (some .int)) (by decide) rfl ?_
  intro p e s m args below meth c s₁ B hml hv
  obtain ⟨rfl, hP, hK, hN⟩ := hv
  have xc : xC p s m _ meth c b_D_netsJoinedWith 4 lwG qR3 (some .int) := ⟨B.exec, B.bytes, hml, findClass_of_methodNamed B.named, fun w h => atoms_spec (ws := (.code y_D_netsJoinedWith b_D_netsJoinedWith 4 (some .int) :: lwG)) B.pre w (List.mem_cons_of_mem _ h), B.returns, B.notSynchronized⟩
  obtain ⟨hx, hb, hml, hown, hts, hr, hlocks⟩ := id xc
  have hl := lv_entry ([.ref (cA L 3), .int a1]) (n := 4) (Nat.le_of_ble_eq_true rfl)
  rw [lg_entry_eq]
  generalize (lg_sl ([.ref (cA L 3), .int a1]) ++ List.replicate (4 - (lg_sl ([.ref (cA L 3), .int a1])).length) Slot.unset).toArray = ls at hl ⊢
  have hl : lv_has ls 4 [(0, .ref (cA L 3)), (1, .int a1)] := hl
  refine lv_iconst (v := 0) hx hb d_D_netsJoinedWith_0 (by decide) ?_
  refine lv_istore_n (lv' := [(2, .int 0), (0, .ref (cA L 3)), (1, .int a1)]) hx hb d_D_netsJoinedWith_1 rfl hl (by decide) rfl (fun ls hl => ?_)
  refine lv_iconst (v := 0) hx hb d_D_netsJoinedWith_2 (by decide) ?_
  refine lv_istore_n (lv' := [(3, .int 0), (2, .int 0), (0, .ref (cA L 3)), (1, .int a1)]) hx hb d_D_netsJoinedWith_3 rfl hl (by decide) rfl (fun ls hl => ?_)
  obtain ⟨n_11, h⟩ := h
  refine Wl_D_netsJoinedWith_4 xc hP hK hN (hk := fun x_9 x_10 ls h hl => ?_) n_11 0 0 ls h (lv_sub hl [2, 3, 1, 0] rfl)
  refine lv_iload_n hx hb d_D_netsJoinedWith_41 rfl (lv_at hl 2 rfl) ?_
  exact W.iret hx hb hr (fun t ht _ => ⟨_, rfl, h, ht⟩) (fun _ h9 => nomatch h9) d_D_netsJoinedWith_42
set_option maxHeartbeats 4000000 in
set_option maxRecDepth 100000 in
theorem Wl_D_shortPairs_4 {p : Program} {l : Launch} {e : Env} {s : State} {m : MethodId} {args : Array Value} {below : List Frame} {meth : Method} {c : Code} {L : cL} {I : MI} {F : MF} {G : MG} {post : Int32 → Prop} {K : Int32 → Int32 → Prop} (xc : xC p s m args meth c b_D_shortPairs 4 lwG qR3 (some .int)) (hP : va_P L.1 vwCl (WC L I F G) s.heap) (hK : va_K L.1 vwCl (cTys L) s) (hN : cNk s)
    (hk : ∀ (a1 : Int32) (a2 : Int32) (ls : Array Slot), K a1 a2 → lv_has ls 4 [(0, .ref (cA L 3)), (1, .int a1), (2, .int a2)] → W p l e rm_D_shortPairs s m args below meth c s.heap [] 0 0 (MQ below (vp_Si post) args s 0 0 (fun _ => False)) (F0 m 35 ls [])) :
    ∀ (n : Nat) (a1 : Int32) (a2 : Int32) (ls : Array Slot), wl_D_shortPairs_4 post K I F G n a1 a2 → lv_has ls 4 [(0, .ref (cA L 3)), (1, .int a1), (2, .int a2)] → W p l e rm_D_shortPairs s m args below meth c s.heap [] 0 0 (MQ below (vp_Si post) args s 0 0 (fun _ => False)) (F0 m 4 ls []) := by
  obtain ⟨hx, hb, hml, hown, hts, hr, hlocks⟩ := id xc
  intro n
  induction n with
  | zero => intro a1 a2 ls h; exact absurd h id
  | succ n ih =>
    intro a1 a2 ls h hl
    refine lv_iload_n hx hb d_D_shortPairs_4 rfl (lv_at hl 2 rfl) ?_
    refine lv_bipush (v := 12) hx hb d_D_shortPairs_5 (by decide) ?_
    refine lv_icmp_ge (tgt := 35) hx hb d_D_shortPairs_7 (by decide) (fun c_1 => ?_) (fun c_1 => ?_)
    · replace h := h.1 c_1
      exact hk a1 a2 ls h (lv_sub hl [0, 1, 2] rfl)
    · replace h := h.2 c_1
      refine lv_iconst (v := 1) hx hb d_D_shortPairs_10 (by decide) ?_
      refine lv_iload_n hx hb d_D_shortPairs_11 rfl (lv_at hl 2 rfl) ?_
      refine lv_ishl hx hb d_D_shortPairs_12 ?_
      refine lv_iconst (v := 1) hx hb d_D_shortPairs_13 (by decide) ?_
      refine lv_isub hx hb d_D_shortPairs_14 ?_
      refine lv_topi (fun x_2 ex_2 => ?_)
      replace h := h x_2 ex_2
      refine lv_istore_n (lv' := [(3, .int x_2), (0, .ref (cA L 3)), (1, .int a1), (2, .int a2)]) hx hb d_D_shortPairs_15 rfl hl (by decide) rfl (fun ls hl => ?_)
      refine lv_iload_n hx hb d_D_shortPairs_16 rfl (lv_at hl 2 rfl) ?_
      refine lv_aload_n hx hb d_D_shortPairs_17 rfl (lv_at hl 1 rfl) ?_
      refine lv_iload_n hx hb d_D_shortPairs_18 rfl (lv_at hl 3 rfl) ?_
      refine vp_callSi (va_runV (As := [.int a2]) (rest := [.int a1]) ⟨hx, hb, hml, hown, hts⟩ (c_D_netsJoinedWith l L a2 I F G _ h) (cwV 1 hts (gV wG602 wG604 wG16 wG52 wG605) rfl rfl rfl (by decide +kernel) ⟨Nat.le_of_ble_eq_true rfl, Nat.le_of_ble_eq_true rfl⟩) (cPre3 hK hN hP) rfl rfl hl.1 rfl (lv_room (Nat.le_of_ble_eq_true rfl)) d_D_shortPairs_19 ⟨Nat.le_of_ble_eq_true rfl, Nat.le_of_ble_eq_true rfl⟩).run (fun r_3 h => ?_)
      refine lv_iload_n hx hb d_D_shortPairs_22 rfl (lv_at hl 0 rfl) ?_
      refine lv_iand hx hb d_D_shortPairs_23 ?_
      refine vp_callSi (va_runS (As := [.int (r_3 &&& x_2)]) (rest := [.int a1]) ⟨hx, hb, hml, hown, hts⟩ (c_bitCount l (r_3 &&& x_2) _ h) (va_cwS 1 hts (gS wG610 wG611 wG63 wG612) rfl rfl rfl (by decide +kernel) ⟨Nat.le_of_ble_eq_true rfl, Nat.le_of_ble_eq_true rfl⟩) ⟨sPc_blind _, fun U hU hW => ⟨rfl, trivial⟩⟩ rfl rfl hl.1 rfl (lv_room (Nat.le_of_ble_eq_true rfl)) d_D_shortPairs_24 ⟨Nat.le_of_ble_eq_true rfl, Nat.le_of_ble_eq_true rfl⟩).run (fun r_4 h => ?_)
      refine lv_iadd hx hb d_D_shortPairs_27 ?_
      refine lv_topi (fun x_5 ex_5 => ?_)
      replace h := h x_5 ex_5
      refine lv_istore_n (lv' := [(1, .int x_5), (3, .int x_2), (0, .ref (cA L 3)), (2, .int a2)]) hx hb d_D_shortPairs_28 rfl hl (by decide) rfl (fun ls hl => ?_)
      obtain ⟨x_6, ex_6⟩ : ∃ y : Int32, y = a2 + 1 := ⟨_, rfl⟩
      replace h := h x_6 ex_6
      refine lv_iinc (v := x_6) (lv' := [(2, .int x_6), (1, .int x_5), (3, .int x_2), (0, .ref (cA L 3))]) hx hb d_D_shortPairs_29 hl (k := 3) rfl (by rw [ex_6]; rfl) (by decide) rfl (fun ls hl => ?_)
      refine lv_goto (tgt := 4) hx hb d_D_shortPairs_32 (by decide) ?_
      exact ih x_5 x_6 ls h (lv_sub hl [3, 1, 0] rfl)
abbrev rm_D_shortPairs : Room := { frames := 2, cells := 0, slots := 0, locals := 46 }
set_option maxHeartbeats 4000000 in
set_option maxRecDepth 100000 in
theorem c_D_shortPairs (l : Launch) (L : cL) (I : MI) (F : MF) (G : MG) (post : Int32 → Prop) (h : wp_D_shortPairs I F G post) : Met l y_D_shortPairs (.code y_D_shortPairs b_D_shortPairs 4 (some .int) :: lwG) rm_D_shortPairs (cPc L I F G [.ref (cA L 3)]) (vp_Si post) 0 0 (fun _ => False) := by
  refine Met.ofW (cc := b_D_shortPairs) (maxL := 4) (ret := (some .int)) (by decide) rfl ?_
  intro p e s m args below meth c s₁ B hml hv
  obtain ⟨rfl, hP, hK, hN⟩ := hv
  have xc : xC p s m _ meth c b_D_shortPairs 4 lwG qR3 (some .int) := ⟨B.exec, B.bytes, hml, findClass_of_methodNamed B.named, fun w h => atoms_spec (ws := (.code y_D_shortPairs b_D_shortPairs 4 (some .int) :: lwG)) B.pre w (List.mem_cons_of_mem _ h), B.returns, B.notSynchronized⟩
  obtain ⟨hx, hb, hml, hown, hts, hr, hlocks⟩ := id xc
  have hl := lv_entry ([.ref (cA L 3)]) (n := 4) (Nat.le_of_ble_eq_true rfl)
  rw [lg_entry_eq]
  generalize (lg_sl ([.ref (cA L 3)]) ++ List.replicate (4 - (lg_sl ([.ref (cA L 3)])).length) Slot.unset).toArray = ls at hl ⊢
  have hl : lv_has ls 4 [(0, .ref (cA L 3))] := hl
  refine lv_iconst (v := 0) hx hb d_D_shortPairs_0 (by decide) ?_
  refine lv_istore_n (lv' := [(1, .int 0), (0, .ref (cA L 3))]) hx hb d_D_shortPairs_1 rfl hl (by decide) rfl (fun ls hl => ?_)
  refine lv_iconst (v := 0) hx hb d_D_shortPairs_2 (by decide) ?_
  refine lv_istore_n (lv' := [(2, .int 0), (1, .int 0), (0, .ref (cA L 3))]) hx hb d_D_shortPairs_3 rfl hl (by decide) rfl (fun ls hl => ?_)
  obtain ⟨n_9, h⟩ := h
  refine Wl_D_shortPairs_4 xc hP hK hN (hk := fun x_7 x_8 ls h hl => ?_) n_9 0 0 ls h (lv_sub hl [2, 1, 0] rfl)
  refine lv_iload_n hx hb d_D_shortPairs_35 rfl (lv_at hl 1 rfl) ?_
  exact W.iret hx hb hr (fun t ht _ => ⟨_, rfl, h, ht⟩) (fun _ h9 => nomatch h9) d_D_shortPairs_36
set_option maxHeartbeats 4000000 in
set_option maxRecDepth 100000 in
theorem Wl_D_openNets_14 {p : Program} {l : Launch} {e : Env} {s : State} {m : MethodId} {args : Array Value} {below : List Frame} {meth : Method} {c : Code} {L : cL} {I : MI} {F : MF} {G : MG} {post : Int32 → Prop} {K : Int32 → Int32 → Prop} {a2 : Int32} (xc : xC p s m args meth c b_D_openNets 4 lwG qR3 (some .int)) (hP : va_P L.1 vwCl (WC L I F G) s.heap) (hK : va_K L.1 vwCl (cTys L) s) (hN : cNk s)
    (hk : ∀ (a1 : Int32) (a3 : Int32) (ls : Array Slot), K a1 a3 → lv_has ls 4 [(0, .ref (cA L 3)), (1, .int a1), (2, .int a2), (3, .int a3)] → W p l e rm_D_openNets s m args below meth c s.heap [] 0 0 (MQ below (vp_Si post) args s 0 0 (fun _ => False)) (F0 m 66 ls [])) :
    ∀ (n : Nat) (a1 : Int32) (a3 : Int32) (ls : Array Slot), wl_D_openNets_14 post K a2 I F G n a1 a3 → lv_has ls 4 [(0, .ref (cA L 3)), (1, .int a1), (2, .int a2), (3, .int a3)] → W p l e rm_D_openNets s m args below meth c s.heap [] 0 0 (MQ below (vp_Si post) args s 0 0 (fun _ => False)) (F0 m 14 ls []) := by
  obtain ⟨hx, hb, hml, hown, hts, hr, hlocks⟩ := id xc
  intro n
  induction n with
  | zero => intro a1 a3 ls h; exact absurd h id
  | succ n ih =>
    intro a1 a3 ls h hl
    refine lv_iload_n hx hb d_D_openNets_14 rfl (lv_at hl 3 rfl) ?_
    refine lv_iload_n hx hb d_D_openNets_15 rfl (lv_at hl 2 rfl) ?_
    refine lv_icmp_ge (tgt := 66) hx hb d_D_openNets_16 (by decide) (fun c_2 => ?_) (fun c_2 => ?_)
    · replace h := h.1 c_2
      exact hk a1 a3 ls h (lv_sub hl [0, 1, 2, 3] rfl)
    · replace h := h.2 c_2
      refine lv_aload_n hx hb d_D_openNets_19 rfl (lv_at hl 0 rfl) ?_
      refine va_get (D := L.1) (ci := 3) (v := .ref (cA L 22)) (C := qR3) (T := qT3) (N := 7) hx hb hts qi3 hown hK hP 3 rfl rfl 4 (by decide) (hts _ wG171) (fun _ h9 => h9) rfl d_D_openNets_20 ?_
      refine lv_iload_n hx hb d_D_openNets_23 rfl (lv_at hl 2 rfl) ?_
      obtain ⟨hi_3, h⟩ := h
      refine c_iald hx hb hK hP 12 (by decide) rfl hi_3 d_D_openNets_24 ?_
      refine lv_aload_n hx hb d_D_openNets_25 rfl (lv_at hl 0 rfl) ?_
      refine va_get (D := L.1) (ci := 3) (v := .ref (cA L 22)) (C := qR3) (T := qT3) (N := 7) hx hb hts qi3 hown hK hP 3 rfl rfl 4 (by decide) (hts _ wG171) (fun _ h9 => h9) rfl d_D_openNets_26 ?_
      refine lv_iload_n hx hb d_D_openNets_29 rfl (lv_at hl 3 rfl) ?_
      obtain ⟨hi_4, h⟩ := h
      refine c_iald hx hb hK hP 12 (by decide) rfl hi_4 d_D_openNets_30 ?_
      refine lv_icmp_ne (tgt := 60) hx hb d_D_openNets_31 (by decide) (fun c_5 => ?_) (fun c_5 => ?_)
      · replace h := h.1 c_5
        obtain ⟨x_6, ex_6⟩ : ∃ y : Int32, y = a3 + 1 := ⟨_, rfl⟩
        replace h := h x_6 ex_6
        refine lv_iinc (v := x_6) (lv' := [(3, .int x_6), (0, .ref (cA L 3)), (1, .int a1), (2, .int a2)]) hx hb d_D_openNets_60 hl (k := 3) rfl (by rw [ex_6]; rfl) (by decide) rfl (fun ls hl => ?_)
        refine lv_goto (tgt := 14) hx hb d_D_openNets_63 (by decide) ?_
        exact ih a1 x_6 ls h (lv_sub hl [1, 2, 3, 0] rfl)
      · replace h := h.2 c_5
        refine lv_aload_n hx hb d_D_openNets_34 rfl (lv_at hl 0 rfl) ?_
        refine va_get (D := L.1) (ci := 3) (v := .ref (cA L 23)) (C := qR3) (T := qT3) (N := 7) hx hb hts qi3 hown hK hP 3 rfl rfl 5 (by decide) (hts _ wG172) (fun _ h9 => h9) rfl d_D_openNets_35 ?_
        refine lv_iload_n hx hb d_D_openNets_38 rfl (lv_at hl 2 rfl) ?_
        obtain ⟨hi_7, h⟩ := h
        refine c_iald hx hb hK hP 13 (by decide) rfl hi_7 d_D_openNets_39 ?_
        refine lv_aload_n hx hb d_D_openNets_40 rfl (lv_at hl 0 rfl) ?_
        refine va_get (D := L.1) (ci := 3) (v := .ref (cA L 23)) (C := qR3) (T := qT3) (N := 7) hx hb hts qi3 hown hK hP 3 rfl rfl 5 (by decide) (hts _ wG172) (fun _ h9 => h9) rfl d_D_openNets_41 ?_
        refine lv_iload_n hx hb d_D_openNets_44 rfl (lv_at hl 3 rfl) ?_
        obtain ⟨hi_8, h⟩ := h
        refine c_iald hx hb hK hP 13 (by decide) rfl hi_8 d_D_openNets_45 ?_
        refine lv_icmp_eq (tgt := 60) hx hb d_D_openNets_46 (by decide) (fun c_9 => ?_) (fun c_9 => ?_)
        · replace h := h.1 c_9
          obtain ⟨x_10, ex_10⟩ : ∃ y : Int32, y = a3 + 1 := ⟨_, rfl⟩
          replace h := h x_10 ex_10
          refine lv_iinc (v := x_10) (lv' := [(3, .int x_10), (0, .ref (cA L 3)), (1, .int a1), (2, .int a2)]) hx hb d_D_openNets_60 hl (k := 3) rfl (by rw [ex_10]; rfl) (by decide) rfl (fun ls hl => ?_)
          refine lv_goto (tgt := 14) hx hb d_D_openNets_63 (by decide) ?_
          exact ih a1 x_10 ls h (lv_sub hl [1, 2, 3, 0] rfl)
        · replace h := h.2 c_9
          refine lv_iload_n hx hb d_D_openNets_49 rfl (lv_at hl 1 rfl) ?_
          refine lv_iconst (v := 1) hx hb d_D_openNets_50 (by decide) ?_
          refine lv_aload_n hx hb d_D_openNets_51 rfl (lv_at hl 0 rfl) ?_
          refine va_get (D := L.1) (ci := 3) (v := .ref (cA L 22)) (C := qR3) (T := qT3) (N := 7) hx hb hts qi3 hown hK hP 3 rfl rfl 4 (by decide) (hts _ wG171) (fun _ h9 => h9) rfl d_D_openNets_52 ?_
          refine lv_iload_n hx hb d_D_openNets_55 rfl (lv_at hl 2 rfl) ?_
          obtain ⟨hi_11, h⟩ := h
          refine c_iald hx hb hK hP 12 (by decide) rfl hi_11 d_D_openNets_56 ?_
          refine lv_ishl hx hb d_D_openNets_57 ?_
          refine lv_ior hx hb d_D_openNets_58 ?_
          refine lv_topi (fun x_12 ex_12 => ?_)
          replace h := h x_12 ex_12
          refine lv_istore_n (lv' := [(1, .int x_12), (0, .ref (cA L 3)), (2, .int a2), (3, .int a3)]) hx hb d_D_openNets_59 rfl hl (by decide) rfl (fun ls hl => ?_)
          obtain ⟨x_13, ex_13⟩ : ∃ y : Int32, y = a3 + 1 := ⟨_, rfl⟩
          replace h := h x_13 ex_13
          refine lv_iinc (v := x_13) (lv' := [(3, .int x_13), (1, .int x_12), (0, .ref (cA L 3)), (2, .int a2)]) hx hb d_D_openNets_60 hl (k := 3) rfl (by rw [ex_13]; rfl) (by decide) rfl (fun ls hl => ?_)
          refine lv_goto (tgt := 14) hx hb d_D_openNets_63 (by decide) ?_
          exact ih x_12 x_13 ls h (lv_sub hl [2, 1, 3, 0] rfl)
set_option maxHeartbeats 4000000 in
set_option maxRecDepth 100000 in
theorem Wl_D_openNets_4 {p : Program} {l : Launch} {e : Env} {s : State} {m : MethodId} {args : Array Value} {below : List Frame} {meth : Method} {c : Code} {L : cL} {I : MI} {F : MF} {G : MG} {post : Int32 → Prop} {K : Int32 → Int32 → Prop} (xc : xC p s m args meth c b_D_openNets 4 lwG qR3 (some .int)) (hP : va_P L.1 vwCl (WC L I F G) s.heap) (hK : va_K L.1 vwCl (cTys L) s) (hN : cNk s)
    (hk : ∀ (a1 : Int32) (a2 : Int32) (ls : Array Slot), K a1 a2 → lv_has ls 4 [(0, .ref (cA L 3)), (1, .int a1), (2, .int a2)] → W p l e rm_D_openNets s m args below meth c s.heap [] 0 0 (MQ below (vp_Si post) args s 0 0 (fun _ => False)) (F0 m 72 ls [])) :
    ∀ (n : Nat) (a1 : Int32) (a2 : Int32) (ls : Array Slot), wl_D_openNets_4 post K I F G n a1 a2 → lv_has ls 4 [(0, .ref (cA L 3)), (1, .int a1), (2, .int a2)] → W p l e rm_D_openNets s m args below meth c s.heap [] 0 0 (MQ below (vp_Si post) args s 0 0 (fun _ => False)) (F0 m 4 ls []) := by
  obtain ⟨hx, hb, hml, hown, hts, hr, hlocks⟩ := id xc
  intro n
  induction n with
  | zero => intro a1 a2 ls h; exact absurd h id
  | succ n ih =>
    intro a1 a2 ls h hl
    refine lv_iload_n hx hb d_D_openNets_4 rfl (lv_at hl 2 rfl) ?_
    refine lv_aload_n hx hb d_D_openNets_5 rfl (lv_at hl 0 rfl) ?_
    refine va_get (D := L.1) (ci := 3) (v := .int (I 3)) (C := qR3) (T := qT3) (N := 7) hx hb hts qi3 hown hK hP 3 rfl rfl 6 (by decide) (hts _ wG173) (fun _ h9 => h9) rfl d_D_openNets_6 ?_
    refine lv_icmp_ge (tgt := 72) hx hb d_D_openNets_9 (by decide) (fun c_1 => ?_) (fun c_1 => ?_)
    · replace h := h.1 c_1
      exact hk a1 a2 ls h (lv_sub hl [0, 1, 2] rfl)
    · replace h := h.2 c_1
      refine lv_iconst (v := 0) hx hb d_D_openNets_12 (by decide) ?_
      refine lv_istore_n (lv' := [(3, .int 0), (0, .ref (cA L 3)), (1, .int a1), (2, .int a2)]) hx hb d_D_openNets_13 rfl hl (by decide) rfl (fun ls hl => ?_)
      obtain ⟨n_17, h⟩ := h
      refine Wl_D_openNets_14 xc hP hK hN (hk := fun x_14 x_15 ls h hl => ?_) n_17 a1 0 ls h (lv_sub hl [1, 2, 3, 0] rfl)
      obtain ⟨x_16, ex_16⟩ : ∃ y : Int32, y = a2 + 1 := ⟨_, rfl⟩
      replace h := h x_16 ex_16
      refine lv_iinc (v := x_16) (lv' := [(2, .int x_16), (0, .ref (cA L 3)), (1, .int x_14), (3, .int x_15)]) hx hb d_D_openNets_66 hl (k := 2) rfl (by rw [ex_16]; rfl) (by decide) rfl (fun ls hl => ?_)
      refine lv_goto (tgt := 4) hx hb d_D_openNets_69 (by decide) ?_
      exact ih x_14 x_16 ls h (lv_sub hl [1, 2, 0] rfl)
abbrev rm_D_openNets : Room := { frames := 1, cells := 0, slots := 0, locals := 20 }
set_option maxHeartbeats 4000000 in
set_option maxRecDepth 100000 in
theorem c_D_openNets (l : Launch) (L : cL) (I : MI) (F : MF) (G : MG) (post : Int32 → Prop) (h : wp_D_openNets I F G post) : Met l y_D_openNets (.code y_D_openNets b_D_openNets 4 (some .int) :: lwG) rm_D_openNets (cPc L I F G [.ref (cA L 3)]) (vp_Si post) 0 0 (fun _ => False) := by
  refine Met.ofW (cc := b_D_openNets) (maxL := 4) (ret := (some .int)) (by decide) rfl ?_
  intro p e s m args below meth c s₁ B hml hv
  obtain ⟨rfl, hP, hK, hN⟩ := hv
  have xc : xC p s m _ meth c b_D_openNets 4 lwG qR3 (some .int) := ⟨B.exec, B.bytes, hml, findClass_of_methodNamed B.named, fun w h => atoms_spec (ws := (.code y_D_openNets b_D_openNets 4 (some .int) :: lwG)) B.pre w (List.mem_cons_of_mem _ h), B.returns, B.notSynchronized⟩
  obtain ⟨hx, hb, hml, hown, hts, hr, hlocks⟩ := id xc
  have hl := lv_entry ([.ref (cA L 3)]) (n := 4) (Nat.le_of_ble_eq_true rfl)
  rw [lg_entry_eq]
  generalize (lg_sl ([.ref (cA L 3)]) ++ List.replicate (4 - (lg_sl ([.ref (cA L 3)])).length) Slot.unset).toArray = ls at hl ⊢
  have hl : lv_has ls 4 [(0, .ref (cA L 3))] := hl
  refine lv_iconst (v := 0) hx hb d_D_openNets_0 (by decide) ?_
  refine lv_istore_n (lv' := [(1, .int 0), (0, .ref (cA L 3))]) hx hb d_D_openNets_1 rfl hl (by decide) rfl (fun ls hl => ?_)
  refine lv_iconst (v := 0) hx hb d_D_openNets_2 (by decide) ?_
  refine lv_istore_n (lv' := [(2, .int 0), (1, .int 0), (0, .ref (cA L 3))]) hx hb d_D_openNets_3 rfl hl (by decide) rfl (fun ls hl => ?_)
  obtain ⟨n_21, h⟩ := h
  refine Wl_D_openNets_4 xc hP hK hN (hk := fun x_18 x_19 ls h hl => ?_) n_21 0 0 ls h (lv_sub hl [2, 1, 0] rfl)
  refine lv_iload_n hx hb d_D_openNets_72 rfl (lv_at hl 1 rfl) ?_
  refine vp_callSi (va_runS (As := [.int x_18]) (rest := []) ⟨hx, hb, hml, hown, hts⟩ (c_bitCount l x_18 _ h) (va_cwS 1 hts (gS wG610 wG611 wG63 wG612) rfl rfl rfl (by decide +kernel) ⟨Nat.le_of_ble_eq_true rfl, Nat.le_of_ble_eq_true rfl⟩) ⟨sPc_blind _, fun U hU hW => ⟨rfl, trivial⟩⟩ rfl rfl hl.1 rfl (lv_room (Nat.le_of_ble_eq_true rfl)) d_D_openNets_73 ⟨Nat.le_of_ble_eq_true rfl, Nat.le_of_ble_eq_true rfl⟩).run (fun r_20 h => ?_)
  exact W.iret hx hb hr (fun t ht _ => ⟨_, rfl, h, ht⟩) (fun _ h9 => nomatch h9) d_D_openNets_76
abbrev rm_C_wireDelay : Room := { frames := 5, cells := 0, slots := 0, locals := 108 }
set_option maxHeartbeats 4000000 in
set_option maxRecDepth 100000 in
theorem c_C_wireDelay (l : Launch) (L : cL) (a1 : Int32) (I : MI) (F : MF) (G : MG) (post : UInt64 → Prop) (h : wp_C_wireDelay a1 I F G post) : Met l y_C_wireDelay (.code y_C_wireDelay b_C_wireDelay 4 (some .double) :: lwG) rm_C_wireDelay (cPc L I F G [.ref (cA L 2), .int a1]) (vp_Sd post) 0 0 (fun _ => False) := by
  refine Met.ofW (cc := b_C_wireDelay) (maxL := 4) (ret := (some .double)) (by decide) rfl ?_
  intro p e s m args below meth c s₁ B hml hv
  obtain ⟨rfl, hP, hK, hN⟩ := hv
  have xc : xC p s m _ meth c b_C_wireDelay 4 lwG qR2 (some .double) := ⟨B.exec, B.bytes, hml, findClass_of_methodNamed B.named, fun w h => atoms_spec (ws := (.code y_C_wireDelay b_C_wireDelay 4 (some .double) :: lwG)) B.pre w (List.mem_cons_of_mem _ h), B.returns, B.notSynchronized⟩
  obtain ⟨hx, hb, hml, hown, hts, hr, hlocks⟩ := id xc
  have hl := lv_entry ([.ref (cA L 2), .int a1]) (n := 4) (Nat.le_of_ble_eq_true rfl)
  rw [lg_entry_eq]
  generalize (lg_sl ([.ref (cA L 2), .int a1]) ++ List.replicate (4 - (lg_sl ([.ref (cA L 2), .int a1])).length) Slot.unset).toArray = ls at hl ⊢
  have hl : lv_has ls 4 [(0, .ref (cA L 2)), (1, .int a1)] := hl
  refine lv_aload_n hx hb d_C_wireDelay_0 rfl (lv_at hl 0 rfl) ?_
  refine va_get (D := L.1) (ci := 2) (v := .ref (cA L 20)) (C := qR2) (T := qT2) (N := 3) hx hb hts qi2 hown hK hP 2 rfl rfl 2 (by decide) (hts _ wG149) (fun _ h9 => h9) rfl d_C_wireDelay_1 ?_
  refine lv_iload_n hx hb d_C_wireDelay_4 rfl (lv_at hl 1 rfl) ?_
  obtain ⟨hi_1, h⟩ := h
  refine c_iald hx hb hK hP 10 (by decide) rfl hi_1 d_C_wireDelay_5 ?_
  refine lv_if_ne (tgt := 11) hx hb d_C_wireDelay_6 (by decide) (fun c_2 => ?_) (fun c_2 => ?_)
  · replace h := h.1 c_2
    refine lv_aload_n hx hb d_C_wireDelay_11 rfl (lv_at hl 0 rfl) ?_
    refine lv_iload_n hx hb d_C_wireDelay_12 rfl (lv_at hl 1 rfl) ?_
    refine vp_callSi (va_runV (As := [.int a1]) (rest := []) ⟨hx, hb, hml, hown, hts⟩ (c_C_wireLength l L a1 I F G _ h) (cwV 1 hts (gV wG640 wG506 wG507 wG51 wG508) rfl rfl rfl (by decide +kernel) ⟨Nat.le_of_ble_eq_true rfl, Nat.le_of_ble_eq_true rfl⟩) (cPre2 hK hN hP) rfl rfl hl.1 rfl (lv_room (Nat.le_of_ble_eq_true rfl)) d_C_wireDelay_13 ⟨Nat.le_of_ble_eq_true rfl, Nat.le_of_ble_eq_true rfl⟩).run (fun r_3 h => ?_)
    refine lv_i2d hx hb d_C_wireDelay_16 ?_
    refine lv_topd (fun x_4 ex_4 => ?_)
    replace h := h x_4 ex_4
    refine lv_dstore_n (lv' := [(2, .double x_4), (0, .ref (cA L 2)), (1, .int a1)]) hx hb d_C_wireDelay_17 rfl hl (by decide) rfl (fun ls hl => ?_)
    refine lv_ldc2d (v := 4598175219545276416) hx hb hown (hts (.constantDouble qR2 71 4598175219545276416) (by decide +kernel)) d_C_wireDelay_18 ?_
    refine lv_dload_n hx hb d_C_wireDelay_21 rfl (lv_at hl 0 rfl) ?_
    obtain ⟨hn_5, h⟩ := h
    refine lv_dmul hx hb d_C_wireDelay_22 hn_5 ?_
    refine lv_ldc2d (v := 4602678819172646912) hx hb hown (hts (.constantDouble qR2 73 4602678819172646912) (by decide +kernel)) d_C_wireDelay_23 ?_
    refine lv_dload_n hx hb d_C_wireDelay_26 rfl (lv_at hl 0 rfl) ?_
    obtain ⟨hn_6, h⟩ := h
    refine lv_dmul hx hb d_C_wireDelay_27 hn_6 ?_
    refine lv_aload_n hx hb d_C_wireDelay_28 rfl (lv_at hl 1 rfl) ?_
    refine va_get (D := L.1) (ci := 2) (v := .ref (cA L 1)) (C := qR2) (T := qT2) (N := 3) hx hb hts qi2 hown hK hP 2 rfl rfl 0 (by decide) (hts _ wG145) (fun _ h9 => h9) rfl d_C_wireDelay_29 ?_
    refine lv_iload_n hx hb d_C_wireDelay_32 rfl (lv_at hl 2 rfl) ?_
    refine vp_callSi (va_runV (As := [.int a1]) (rest := [.double (FP.dmul 4602678819172646912 x_4), .double (FP.dmul 4598175219545276416 x_4)]) ⟨hx, hb, hml, hown, hts⟩ (c_N_pins l L a1 I F G _ h) (cwV 1 hts (gV wG643 wG390 wG391 wG49 wG392) rfl rfl rfl (by decide +kernel) ⟨Nat.le_of_ble_eq_true rfl, Nat.le_of_ble_eq_true rfl⟩) (cPre1 hK hN hP) rfl rfl hl.1 rfl (lv_room (Nat.le_of_ble_eq_true rfl)) d_C_wireDelay_33 ⟨Nat.le_of_ble_eq_true rfl, Nat.le_of_ble_eq_true rfl⟩).run (fun r_7 h => ?_)
    refine lv_i2d hx hb d_C_wireDelay_36 ?_
    obtain ⟨hn_8, h⟩ := h
    refine lv_dadd hx hb d_C_wireDelay_37 hn_8 ?_
    obtain ⟨hn_9, h⟩ := h
    refine lv_dmul hx hb d_C_wireDelay_38 hn_9 ?_
    exact W.dret hx hb hr (fun t ht _ => ⟨_, rfl, h, ht⟩) (fun _ h9 => nomatch h9) d_C_wireDelay_39
  · replace h := h.2 c_2
    refine lv_dconst0 hx hb d_C_wireDelay_9 ?_
    exact W.dret hx hb hr (fun t ht _ => ⟨_, rfl, h, ht⟩) (fun _ h9 => nomatch h9) d_C_wireDelay_10
abbrev rm_S_bit : Room := { frames := 0, cells := 0, slots := 0, locals := 0 }
set_option maxHeartbeats 4000000 in
set_option maxRecDepth 100000 in
theorem c_S_bit (l : Launch) (a0 : Int32) (a1 : Int32) (post : Int32 → Prop) (h : wp_S_bit a0 a1 post) : Met l y_S_bit (.code y_S_bit b_S_bit 2 (some .int) :: lwG) rm_S_bit (sPc [.int a0, .int a1]) (vp_Si post) 0 0 (fun _ => False) := by
  refine Met.ofW (cc := b_S_bit) (maxL := 2) (ret := (some .int)) (by decide) rfl ?_
  intro p e s m args below meth c s₁ B hml hv
  obtain ⟨rfl, -⟩ := hv
  have xc : xC p s m _ meth c b_S_bit 2 lwG qR4 (some .int) := ⟨B.exec, B.bytes, hml, findClass_of_methodNamed B.named, fun w h => atoms_spec (ws := (.code y_S_bit b_S_bit 2 (some .int) :: lwG)) B.pre w (List.mem_cons_of_mem _ h), B.returns, B.notSynchronized⟩
  obtain ⟨hx, hb, hml, hown, hts, hr, hlocks⟩ := id xc
  have hl := lv_entry ([.int a0, .int a1]) (n := 2) (Nat.le_of_ble_eq_true rfl)
  rw [lg_entry_eq]
  generalize (lg_sl ([.int a0, .int a1]) ++ List.replicate (2 - (lg_sl ([.int a0, .int a1])).length) Slot.unset).toArray = ls at hl ⊢
  have hl : lv_has ls 2 [(0, .int a0), (1, .int a1)] := hl
  refine lv_iload_n hx hb d_S_bit_0 rfl (lv_at hl 0 rfl) ?_
  refine lv_iload_n hx hb d_S_bit_1 rfl (lv_at hl 1 rfl) ?_
  refine lv_ishr hx hb d_S_bit_2 ?_
  refine lv_iconst (v := 1) hx hb d_S_bit_3 (by decide) ?_
  refine lv_iand hx hb d_S_bit_4 ?_
  exact W.iret hx hb hr (fun t ht _ => ⟨_, rfl, h, ht⟩) (fun _ h9 => nomatch h9) d_S_bit_5
end
section
abbrev rm_S_isSettled : Room := { frames := 1, cells := 0, slots := 0, locals := 21 }
set_option maxHeartbeats 4000000 in
set_option maxRecDepth 100000 in
theorem c_S_isSettled (l : Launch) (L : cL) (a1 : Int32) (I : MI) (F : MF) (G : MG) (post : Int32 → Prop) (h : wp_S_isSettled a1 I F G post) : Met l y_S_isSettled (.code y_S_isSettled b_S_isSettled 2 (some .boolean) :: lwG) rm_S_isSettled (cPc L I F G [.ref (cA L 4), .int a1]) (vp_Si post) 0 0 (fun _ => False) := by
  refine Met.ofW (cc := b_S_isSettled) (maxL := 2) (ret := (some .boolean)) (by decide) rfl ?_
  intro p e s m args below meth c s₁ B hml hv
  obtain ⟨rfl, hP, hK, hN⟩ := hv
  have xc : xC p s m _ meth c b_S_isSettled 2 lwG qR4 (some .boolean) := ⟨B.exec, B.bytes, hml, findClass_of_methodNamed B.named, fun w h => atoms_spec (ws := (.code y_S_isSettled b_S_isSettled 2 (some .boolean) :: lwG)) B.pre w (List.mem_cons_of_mem _ h), B.returns, B.notSynchronized⟩
  obtain ⟨hx, hb, hml, hown, hts, hr, hlocks⟩ := id xc
  have hl := lv_entry ([.ref (cA L 4), .int a1]) (n := 2) (Nat.le_of_ble_eq_true rfl)
  rw [lg_entry_eq]
  generalize (lg_sl ([.ref (cA L 4), .int a1]) ++ List.replicate (2 - (lg_sl ([.ref (cA L 4), .int a1])).length) Slot.unset).toArray = ls at hl ⊢
  have hl : lv_has ls 2 [(0, .ref (cA L 4)), (1, .int a1)] := hl
  refine lv_aload_n hx hb d_S_isSettled_0 rfl (lv_at hl 0 rfl) ?_
  refine va_get (D := L.1) (ci := 4) (v := .int (I 5)) (C := qR4) (T := qT4) (N := 7) hx hb hts qi4 hown hK hP 4 rfl rfl 6 (by decide) (hts _ wG202) (fun _ h9 => h9) rfl d_S_isSettled_1 ?_
  refine lv_iload_n hx hb d_S_isSettled_4 rfl (lv_at hl 1 rfl) ?_
  refine vp_callSi (va_runS (As := [.int (I 5), .int a1]) (rest := []) ⟨hx, hb, hml, hown, hts⟩ (c_S_bit l (I 5) a1 _ h) (va_cwS 2 hts (gS wG665 wG666 wG53 wG667) rfl rfl rfl (by decide +kernel) ⟨Nat.le_of_ble_eq_true rfl, Nat.le_of_ble_eq_true rfl⟩) ⟨sPc_blind _, fun U hU hW => ⟨rfl, trivial⟩⟩ rfl rfl hl.1 rfl (lv_room (Nat.le_of_ble_eq_true rfl)) d_S_isSettled_5 ⟨Nat.le_of_ble_eq_true rfl, Nat.le_of_ble_eq_true rfl⟩).run (fun r_1 h => ?_)
  refine lv_iconst (v := 1) hx hb d_S_isSettled_8 (by decide) ?_
  refine lv_icmp_ne (tgt := 16) hx hb d_S_isSettled_9 (by decide) (fun c_2 => ?_) (fun c_2 => ?_)
  · replace h := h.1 c_2
    refine lv_iconst (v := 0) hx hb d_S_isSettled_16 (by decide) ?_
    exact W.zret hx hb hr rfl (fun t ht _ => ⟨_, rfl, h, ht⟩) (fun _ h9 => nomatch h9) d_S_isSettled_17
  · replace h := h.2 c_2
    refine lv_iconst (v := 1) hx hb d_S_isSettled_12 (by decide) ?_
    refine lv_goto (tgt := 17) hx hb d_S_isSettled_13 (by decide) ?_
    exact W.zret hx hb hr rfl (fun t ht _ => ⟨_, rfl, h, ht⟩) (fun _ h9 => nomatch h9) d_S_isSettled_17
abbrev rm_S_isReady : Room := { frames := 2, cells := 0, slots := 0, locals := 42 }
set_option maxHeartbeats 4000000 in
set_option maxRecDepth 100000 in
theorem c_S_isReady (l : Launch) (L : cL) (a1 : Int32) (I : MI) (F : MF) (G : MG) (post : Int32 → Prop) (h : wp_S_isReady a1 I F G post) : Met l y_S_isReady (.code y_S_isReady b_S_isReady 2 (some .boolean) :: lwG) rm_S_isReady (cPc L I F G [.ref (cA L 4), .int a1]) (vp_Si post) 0 0 (fun _ => False) := by
  refine Met.ofW (cc := b_S_isReady) (maxL := 2) (ret := (some .boolean)) (by decide) rfl ?_
  intro p e s m args below meth c s₁ B hml hv
  obtain ⟨rfl, hP, hK, hN⟩ := hv
  have xc : xC p s m _ meth c b_S_isReady 2 lwG qR4 (some .boolean) := ⟨B.exec, B.bytes, hml, findClass_of_methodNamed B.named, fun w h => atoms_spec (ws := (.code y_S_isReady b_S_isReady 2 (some .boolean) :: lwG)) B.pre w (List.mem_cons_of_mem _ h), B.returns, B.notSynchronized⟩
  obtain ⟨hx, hb, hml, hown, hts, hr, hlocks⟩ := id xc
  have hl := lv_entry ([.ref (cA L 4), .int a1]) (n := 2) (Nat.le_of_ble_eq_true rfl)
  rw [lg_entry_eq]
  generalize (lg_sl ([.ref (cA L 4), .int a1]) ++ List.replicate (2 - (lg_sl ([.ref (cA L 4), .int a1])).length) Slot.unset).toArray = ls at hl ⊢
  have hl : lv_has ls 2 [(0, .ref (cA L 4)), (1, .int a1)] := hl
  refine lv_aload_n hx hb d_S_isReady_0 rfl (lv_at hl 0 rfl) ?_
  refine lv_aload_n hx hb d_S_isReady_1 rfl (lv_at hl 0 rfl) ?_
  refine va_get (D := L.1) (ci := 4) (v := .ref (cA L 1)) (C := qR4) (T := qT4) (N := 7) hx hb hts qi4 hown hK hP 4 rfl rfl 0 (by decide) (hts _ wG195) (fun _ h9 => h9) rfl d_S_isReady_2 ?_
  refine va_get (D := L.1) (ci := 1) (v := .ref (cA L 13)) (C := qR1) (T := qT1) (N := 13) hx hb hts qi1 hown hK hP 1 rfl rfl 4 (by decide) (hts _ wG98) (fun _ h9 => h9) rfl d_S_isReady_5 ?_
  refine lv_iload_n hx hb d_S_isReady_8 rfl (lv_at hl 1 rfl) ?_
  obtain ⟨hi_1, h⟩ := h
  refine c_iald hx hb hK hP 3 (by decide) rfl hi_1 d_S_isReady_9 ?_
  refine vp_callSi (va_runV (As := [.int (F 3 a1.toNatClampNeg)]) (rest := []) ⟨hx, hb, hml, hown, hts⟩ (c_S_isSettled l L (F 3 a1.toNatClampNeg) I F G _ h) (cwV 1 hts (gV wG661 wG662 wG663 wG53 wG664) rfl rfl rfl (by decide +kernel) ⟨Nat.le_of_ble_eq_true rfl, Nat.le_of_ble_eq_true rfl⟩) (cPre4 hK hN hP) rfl rfl hl.1 rfl (lv_room (Nat.le_of_ble_eq_true rfl)) d_S_isReady_10 ⟨Nat.le_of_ble_eq_true rfl, Nat.le_of_ble_eq_true rfl⟩).run (fun r_2 h => ?_)
  refine lv_if_ne (tgt := 52) hx hb d_S_isReady_13 (by decide) (fun c_3 => ?_) (fun c_3 => ?_)
  · replace h := h.1 c_3
    refine lv_iconst (v := 0) hx hb d_S_isReady_52 (by decide) ?_
    exact W.zret hx hb hr rfl (fun t ht _ => ⟨_, rfl, h, ht⟩) (fun _ h9 => nomatch h9) d_S_isReady_53
  · replace h := h.2 c_3
    refine lv_aload_n hx hb d_S_isReady_16 rfl (lv_at hl 0 rfl) ?_
    refine lv_aload_n hx hb d_S_isReady_17 rfl (lv_at hl 0 rfl) ?_
    refine va_get (D := L.1) (ci := 4) (v := .ref (cA L 1)) (C := qR4) (T := qT4) (N := 7) hx hb hts qi4 hown hK hP 4 rfl rfl 0 (by decide) (hts _ wG195) (fun _ h9 => h9) rfl d_S_isReady_18 ?_
    refine va_get (D := L.1) (ci := 1) (v := .ref (cA L 11)) (C := qR1) (T := qT1) (N := 13) hx hb hts qi1 hown hK hP 1 rfl rfl 2 (by decide) (hts _ wG94) (fun _ h9 => h9) rfl d_S_isReady_21 ?_
    refine lv_iload_n hx hb d_S_isReady_24 rfl (lv_at hl 1 rfl) ?_
    obtain ⟨hi_4, h⟩ := h
    refine c_iald hx hb hK hP 1 (by decide) rfl hi_4 d_S_isReady_25 ?_
    refine vp_callSi (va_runV (As := [.int (F 1 a1.toNatClampNeg)]) (rest := []) ⟨hx, hb, hml, hown, hts⟩ (c_S_isSettled l L (F 1 a1.toNatClampNeg) I F G _ h) (cwV 1 hts (gV wG661 wG662 wG663 wG53 wG664) rfl rfl rfl (by decide +kernel) ⟨Nat.le_of_ble_eq_true rfl, Nat.le_of_ble_eq_true rfl⟩) (cPre4 hK hN hP) rfl rfl hl.1 rfl (lv_room (Nat.le_of_ble_eq_true rfl)) d_S_isReady_26 ⟨Nat.le_of_ble_eq_true rfl, Nat.le_of_ble_eq_true rfl⟩).run (fun r_5 h => ?_)
    refine lv_if_eq (tgt := 52) hx hb d_S_isReady_29 (by decide) (fun c_6 => ?_) (fun c_6 => ?_)
    · replace h := h.1 c_6
      refine lv_iconst (v := 0) hx hb d_S_isReady_52 (by decide) ?_
      exact W.zret hx hb hr rfl (fun t ht _ => ⟨_, rfl, h, ht⟩) (fun _ h9 => nomatch h9) d_S_isReady_53
    · replace h := h.2 c_6
      refine lv_aload_n hx hb d_S_isReady_32 rfl (lv_at hl 0 rfl) ?_
      refine lv_aload_n hx hb d_S_isReady_33 rfl (lv_at hl 0 rfl) ?_
      refine va_get (D := L.1) (ci := 4) (v := .ref (cA L 1)) (C := qR4) (T := qT4) (N := 7) hx hb hts qi4 hown hK hP 4 rfl rfl 0 (by decide) (hts _ wG195) (fun _ h9 => h9) rfl d_S_isReady_34 ?_
      refine va_get (D := L.1) (ci := 1) (v := .ref (cA L 12)) (C := qR1) (T := qT1) (N := 13) hx hb hts qi1 hown hK hP 1 rfl rfl 3 (by decide) (hts _ wG96) (fun _ h9 => h9) rfl d_S_isReady_37 ?_
      refine lv_iload_n hx hb d_S_isReady_40 rfl (lv_at hl 1 rfl) ?_
      obtain ⟨hi_7, h⟩ := h
      refine c_iald hx hb hK hP 2 (by decide) rfl hi_7 d_S_isReady_41 ?_
      refine vp_callSi (va_runV (As := [.int (F 2 a1.toNatClampNeg)]) (rest := []) ⟨hx, hb, hml, hown, hts⟩ (c_S_isSettled l L (F 2 a1.toNatClampNeg) I F G _ h) (cwV 1 hts (gV wG661 wG662 wG663 wG53 wG664) rfl rfl rfl (by decide +kernel) ⟨Nat.le_of_ble_eq_true rfl, Nat.le_of_ble_eq_true rfl⟩) (cPre4 hK hN hP) rfl rfl hl.1 rfl (lv_room (Nat.le_of_ble_eq_true rfl)) d_S_isReady_42 ⟨Nat.le_of_ble_eq_true rfl, Nat.le_of_ble_eq_true rfl⟩).run (fun r_8 h => ?_)
      refine lv_if_eq (tgt := 52) hx hb d_S_isReady_45 (by decide) (fun c_9 => ?_) (fun c_9 => ?_)
      · replace h := h.1 c_9
        refine lv_iconst (v := 0) hx hb d_S_isReady_52 (by decide) ?_
        exact W.zret hx hb hr rfl (fun t ht _ => ⟨_, rfl, h, ht⟩) (fun _ h9 => nomatch h9) d_S_isReady_53
      · replace h := h.2 c_9
        refine lv_iconst (v := 1) hx hb d_S_isReady_48 (by decide) ?_
        refine lv_goto (tgt := 53) hx hb d_S_isReady_49 (by decide) ?_
        exact W.zret hx hb hr rfl (fun t ht _ => ⟨_, rfl, h, ht⟩) (fun _ h9 => nomatch h9) d_S_isReady_53
abbrev rm_S_arrivalBehind : Room := { frames := 6, cells := 0, slots := 0, locals := 131 }
set_option maxHeartbeats 4000000 in
set_option maxRecDepth 100000 in
theorem c_S_arrivalBehind (l : Launch) (L : cL) (a1 : Int32) (I : MI) (F : MF) (G : MG) (post : UInt64 → Prop) (h : wp_S_arrivalBehind a1 I F G post) : Met l y_S_arrivalBehind (.code y_S_arrivalBehind b_S_arrivalBehind 2 (some .double) :: lwG) rm_S_arrivalBehind (cPc L I F G [.ref (cA L 4), .int a1]) (vp_Sd post) 0 0 (fun _ => False) := by
  refine Met.ofW (cc := b_S_arrivalBehind) (maxL := 2) (ret := (some .double)) (by decide) rfl ?_
  intro p e s m args below meth c s₁ B hml hv
  obtain ⟨rfl, hP, hK, hN⟩ := hv
  have xc : xC p s m _ meth c b_S_arrivalBehind 2 lwG qR4 (some .double) := ⟨B.exec, B.bytes, hml, findClass_of_methodNamed B.named, fun w h => atoms_spec (ws := (.code y_S_arrivalBehind b_S_arrivalBehind 2 (some .double) :: lwG)) B.pre w (List.mem_cons_of_mem _ h), B.returns, B.notSynchronized⟩
  obtain ⟨hx, hb, hml, hown, hts, hr, hlocks⟩ := id xc
  have hl := lv_entry ([.ref (cA L 4), .int a1]) (n := 2) (Nat.le_of_ble_eq_true rfl)
  rw [lg_entry_eq]
  generalize (lg_sl ([.ref (cA L 4), .int a1]) ++ List.replicate (2 - (lg_sl ([.ref (cA L 4), .int a1])).length) Slot.unset).toArray = ls at hl ⊢
  have hl : lv_has ls 2 [(0, .ref (cA L 4)), (1, .int a1)] := hl
  refine lv_aload_n hx hb d_S_arrivalBehind_0 rfl (lv_at hl 0 rfl) ?_
  refine va_get (D := L.1) (ci := 4) (v := .ref (cA L 9)) (C := qR4) (T := qT4) (N := 7) hx hb hts qi4 hown hK hP 4 rfl rfl 3 (by decide) (hts _ wG199) (fun _ h9 => h9) rfl d_S_arrivalBehind_1 ?_
  refine lv_iload_n hx hb d_S_arrivalBehind_4 rfl (lv_at hl 1 rfl) ?_
  obtain ⟨hi_1, h⟩ := h
  refine c_dald hx hb hK hP 1 rfl hi_1 d_S_arrivalBehind_5 ?_
  refine lv_aload_n hx hb d_S_arrivalBehind_6 rfl (lv_at hl 0 rfl) ?_
  refine va_get (D := L.1) (ci := 4) (v := .ref (cA L 2)) (C := qR4) (T := qT4) (N := 7) hx hb hts qi4 hown hK hP 4 rfl rfl 1 (by decide) (hts _ wG196) (fun _ h9 => h9) rfl d_S_arrivalBehind_7 ?_
  refine lv_iload_n hx hb d_S_arrivalBehind_10 rfl (lv_at hl 1 rfl) ?_
  refine vp_callSd (va_runV (As := [.int a1]) (rest := [.double (G 1 a1.toNatClampNeg)]) ⟨hx, hb, hml, hown, hts⟩ (c_C_wireDelay l L a1 I F G _ h) (cwV 1 hts (gV wG693 wG637 wG638 wG51 wG639) rfl rfl rfl (by decide +kernel) ⟨Nat.le_of_ble_eq_true rfl, Nat.le_of_ble_eq_true rfl⟩) (cPre2 hK hN hP) rfl rfl hl.1 rfl (lv_room (Nat.le_of_ble_eq_true rfl)) d_S_arrivalBehind_11 ⟨Nat.le_of_ble_eq_true rfl, Nat.le_of_ble_eq_true rfl⟩).run (fun r_2 h => ?_)
  obtain ⟨hn_3, h⟩ := h
  refine lv_dadd hx hb d_S_arrivalBehind_14 hn_3 ?_
  exact W.dret hx hb hr (fun t ht _ => ⟨_, rfl, h, ht⟩) (fun _ h9 => nomatch h9) d_S_arrivalBehind_15
abbrev rm_S_allSettled : Room := { frames := 0, cells := 0, slots := 0, locals := 0 }
set_option maxHeartbeats 4000000 in
set_option maxRecDepth 100000 in
theorem c_S_allSettled (l : Launch) (L : cL) (I : MI) (F : MF) (G : MG) (post : Int32 → Prop) (h : wp_S_allSettled I F G post) : Met l y_S_allSettled (.code y_S_allSettled b_S_allSettled 1 (some .boolean) :: lwG) rm_S_allSettled (cPc L I F G [.ref (cA L 4)]) (vp_Si post) 0 0 (fun _ => False) := by
  refine Met.ofW (cc := b_S_allSettled) (maxL := 1) (ret := (some .boolean)) (by decide) rfl ?_
  intro p e s m args below meth c s₁ B hml hv
  obtain ⟨rfl, hP, hK, hN⟩ := hv
  have xc : xC p s m _ meth c b_S_allSettled 1 lwG qR4 (some .boolean) := ⟨B.exec, B.bytes, hml, findClass_of_methodNamed B.named, fun w h => atoms_spec (ws := (.code y_S_allSettled b_S_allSettled 1 (some .boolean) :: lwG)) B.pre w (List.mem_cons_of_mem _ h), B.returns, B.notSynchronized⟩
  obtain ⟨hx, hb, hml, hown, hts, hr, hlocks⟩ := id xc
  have hl := lv_entry ([.ref (cA L 4)]) (n := 1) (Nat.le_of_ble_eq_true rfl)
  rw [lg_entry_eq]
  generalize (lg_sl ([.ref (cA L 4)]) ++ List.replicate (1 - (lg_sl ([.ref (cA L 4)])).length) Slot.unset).toArray = ls at hl ⊢
  have hl : lv_has ls 1 [(0, .ref (cA L 4))] := hl
  refine lv_aload_n hx hb d_S_allSettled_0 rfl (lv_at hl 0 rfl) ?_
  refine va_get (D := L.1) (ci := 4) (v := .int (I 4)) (C := qR4) (T := qT4) (N := 7) hx hb hts qi4 hown hK hP 4 rfl rfl 5 (by decide) (hts _ wG201) (fun _ h9 => h9) rfl d_S_allSettled_1 ?_
  refine lv_aload_n hx hb d_S_allSettled_4 rfl (lv_at hl 0 rfl) ?_
  refine va_get (D := L.1) (ci := 4) (v := .ref (cA L 1)) (C := qR4) (T := qT4) (N := 7) hx hb hts qi4 hown hK hP 4 rfl rfl 0 (by decide) (hts _ wG195) (fun _ h9 => h9) rfl d_S_allSettled_5 ?_
  refine va_get (D := L.1) (ci := 1) (v := .int (I 1)) (C := qR1) (T := qT1) (N := 13) hx hb hts qi1 hown hK hP 1 rfl rfl 0 (by decide) (hts _ wG89) (fun _ h9 => h9) rfl d_S_allSettled_8 ?_
  refine lv_icmp_ne (tgt := 18) hx hb d_S_allSettled_11 (by decide) (fun c_1 => ?_) (fun c_1 => ?_)
  · replace h := h.1 c_1
    refine lv_iconst (v := 0) hx hb d_S_allSettled_18 (by decide) ?_
    exact W.zret hx hb hr rfl (fun t ht _ => ⟨_, rfl, h, ht⟩) (fun _ h9 => nomatch h9) d_S_allSettled_19
  · replace h := h.2 c_1
    refine lv_iconst (v := 1) hx hb d_S_allSettled_14 (by decide) ?_
    refine lv_goto (tgt := 19) hx hb d_S_allSettled_15 (by decide) ?_
    exact W.zret hx hb hr rfl (fun t ht _ => ⟨_, rfl, h, ht⟩) (fun _ h9 => nomatch h9) d_S_allSettled_19
abbrev rm_S_output : Room := { frames := 0, cells := 0, slots := 0, locals := 0 }
set_option maxHeartbeats 4000000 in
set_option maxRecDepth 100000 in
theorem c_S_output (l : Launch) (a0 : Int32) (a1 : Int32) (a2 : Int32) (post : Int32 → Prop) (h : wp_S_output a0 a1 a2 post) : Met l y_S_output (.code y_S_output b_S_output 3 (some .int) :: lwG) rm_S_output (sPc [.int a0, .int a1, .int a2]) (vp_Si post) 0 0 (fun _ => False) := by
  refine Met.ofW (cc := b_S_output) (maxL := 3) (ret := (some .int)) (by decide) rfl ?_
  intro p e s m args below meth c s₁ B hml hv
  obtain ⟨rfl, -⟩ := hv
  have xc : xC p s m _ meth c b_S_output 3 lwG qR4 (some .int) := ⟨B.exec, B.bytes, hml, findClass_of_methodNamed B.named, fun w h => atoms_spec (ws := (.code y_S_output b_S_output 3 (some .int) :: lwG)) B.pre w (List.mem_cons_of_mem _ h), B.returns, B.notSynchronized⟩
  obtain ⟨hx, hb, hml, hown, hts, hr, hlocks⟩ := id xc
  have hl := lv_entry ([.int a0, .int a1, .int a2]) (n := 3) (Nat.le_of_ble_eq_true rfl)
  rw [lg_entry_eq]
  generalize (lg_sl ([.int a0, .int a1, .int a2]) ++ List.replicate (3 - (lg_sl ([.int a0, .int a1, .int a2])).length) Slot.unset).toArray = ls at hl ⊢
  have hl : lv_has ls 3 [(0, .int a0), (1, .int a1), (2, .int a2)] := hl
  refine lv_iload_n hx hb d_S_output_0 rfl (lv_at hl 0 rfl) ?_
  by_cases c0 : a0 = 0
  · replace h := h.1 c0
    refine lv_tableIn (tgt := 28) hx hb d_S_output_1 (by rw [c0]; decide) (by rw [c0]; decide) (by rw [c0]; rfl) (by decide) ?_
    refine lv_iconst (v := 1) hx hb d_S_output_28 (by decide) ?_
    refine lv_iload_n hx hb d_S_output_29 rfl (lv_at hl 1 rfl) ?_
    refine lv_isub hx hb d_S_output_30 ?_
    exact W.iret hx hb hr (fun t ht _ => ⟨_, rfl, h, ht⟩) (fun _ h9 => nomatch h9) d_S_output_31
  · replace h := h.2 c0
    by_cases c1 : a0 = 1
    · replace h := h.1 c1
      refine lv_tableIn (tgt := 32) hx hb d_S_output_1 (by rw [c1]; decide) (by rw [c1]; decide) (by rw [c1]; rfl) (by decide) ?_
      refine lv_iload_n hx hb d_S_output_32 rfl (lv_at hl 1 rfl) ?_
      exact W.iret hx hb hr (fun t ht _ => ⟨_, rfl, h, ht⟩) (fun _ h9 => nomatch h9) d_S_output_33
    · replace h := h.2 c1
      by_cases c2 : a0 = 2
      · replace h := h.1 c2
        refine lv_tableIn (tgt := 34) hx hb d_S_output_1 (by rw [c2]; decide) (by rw [c2]; decide) (by rw [c2]; rfl) (by decide) ?_
        refine lv_iconst (v := 1) hx hb d_S_output_34 (by decide) ?_
        refine lv_iload_n hx hb d_S_output_35 rfl (lv_at hl 1 rfl) ?_
        refine lv_iload_n hx hb d_S_output_36 rfl (lv_at hl 2 rfl) ?_
        refine lv_iand hx hb d_S_output_37 ?_
        refine lv_isub hx hb d_S_output_38 ?_
        exact W.iret hx hb hr (fun t ht _ => ⟨_, rfl, h, ht⟩) (fun _ h9 => nomatch h9) d_S_output_39
      · replace h := h.2 c2
        refine lv_tableOut (tgt := 40) hx hb d_S_output_1 (sw_out_0_2 c0 c1 c2) (by decide) ?_
        refine lv_iconst (v := 1) hx hb d_S_output_40 (by decide) ?_
        refine lv_iload_n hx hb d_S_output_41 rfl (lv_at hl 1 rfl) ?_
        refine lv_iload_n hx hb d_S_output_42 rfl (lv_at hl 2 rfl) ?_
        refine lv_ior hx hb d_S_output_43 ?_
        refine lv_isub hx hb d_S_output_44 ?_
        exact W.iret hx hb hr (fun t ht _ => ⟨_, rfl, h, ht⟩) (fun _ h9 => nomatch h9) d_S_output_45
set_option maxHeartbeats 4000000 in
set_option maxRecDepth 100000 in
theorem Wl_S_levels_4 {p : Program} {l : Launch} {e : Env} {s : State} {m : MethodId} {args : Array Value} {below : List Frame} {meth : Method} {c : Code} {L : cL} {I : MI} {F : MF} {G : MG} {post : Int32 → Prop} {K : Int32 → Int32 → Prop} {a1 : Int32} (xc : xC p s m args meth c b_S_levels 7 lwG qR4 (some .int)) (hP : va_P L.1 vwCl (WC L I F G) s.heap) (hK : va_K L.1 vwCl (cTys L) s) (hN : cNk s)
    (hk : ∀ (a2 : Int32) (a3 : Int32) (ls : Array Slot), K a2 a3 → lv_has ls 7 [(0, .ref (cA L 4)), (1, .int a1), (2, .int a2), (3, .int a3)] → W p l e rm_S_levels s m args below meth c s.heap [] 0 0 (MQ below (vp_Si post) args s 0 0 (fun _ => False)) (F0 m 37 ls [])) :
    ∀ (n : Nat) (a2 : Int32) (a3 : Int32) (ls : Array Slot), wl_S_levels_4 post K a1 I F G n a2 a3 → lv_has ls 7 [(0, .ref (cA L 4)), (1, .int a1), (2, .int a2), (3, .int a3)] → W p l e rm_S_levels s m args below meth c s.heap [] 0 0 (MQ below (vp_Si post) args s 0 0 (fun _ => False)) (F0 m 4 ls []) := by
  obtain ⟨hx, hb, hml, hown, hts, hr, hlocks⟩ := id xc
  intro n
  induction n with
  | zero => intro a2 a3 ls h; exact absurd h id
  | succ n ih =>
    intro a2 a3 ls h hl
    refine lv_iload_n hx hb d_S_levels_4 rfl (lv_at hl 3 rfl) ?_
    refine lv_bipush (v := 12) hx hb d_S_levels_5 (by decide) ?_
    refine lv_icmp_ge (tgt := 37) hx hb d_S_levels_7 (by decide) (fun c_1 => ?_) (fun c_1 => ?_)
    · replace h := h.1 c_1
      exact hk a2 a3 ls h (lv_sub hl [0, 1, 2, 3] rfl)
    · replace h := h.2 c_1
      refine lv_aload_n hx hb d_S_levels_10 rfl (lv_at hl 0 rfl) ?_
      refine va_get (D := L.1) (ci := 4) (v := .ref (cA L 1)) (C := qR4) (T := qT4) (N := 7) hx hb hts qi4 hown hK hP 4 rfl rfl 0 (by decide) (hts _ wG195) (fun _ h9 => h9) rfl d_S_levels_11 ?_
      refine lv_iload_n hx hb d_S_levels_14 rfl (lv_at hl 3 rfl) ?_
      refine vp_callSi (va_runV (As := [.int a3]) (rest := []) ⟨hx, hb, hml, hown, hts⟩ (c_N_isDriven l L a3 I F G _ h) (cwV 1 hts (gV wG656 wG334 wG335 wG49 wG336) rfl rfl rfl (by decide +kernel) ⟨Nat.le_of_ble_eq_true rfl, Nat.le_of_ble_eq_true rfl⟩) (cPre1 hK hN hP) rfl rfl hl.1 rfl (lv_room (Nat.le_of_ble_eq_true rfl)) d_S_levels_15 ⟨Nat.le_of_ble_eq_true rfl, Nat.le_of_ble_eq_true rfl⟩).run (fun r_2 h => ?_)
      refine lv_if_ne (tgt := 31) hx hb d_S_levels_18 (by decide) (fun c_3 => ?_) (fun c_3 => ?_)
      · replace h := h.1 c_3
        obtain ⟨x_4, ex_4⟩ : ∃ y : Int32, y = a3 + 1 := ⟨_, rfl⟩
        replace h := h x_4 ex_4
        refine lv_iinc (v := x_4) (lv' := [(3, .int x_4), (0, .ref (cA L 4)), (1, .int a1), (2, .int a2)]) hx hb d_S_levels_31 hl (k := 3) rfl (by rw [ex_4]; rfl) (by decide) rfl (fun ls hl => ?_)
        refine lv_goto (tgt := 4) hx hb d_S_levels_34 (by decide) ?_
        exact ih a2 x_4 ls h (lv_sub hl [1, 2, 3, 0] rfl)
      · replace h := h.2 c_3
        refine lv_iload_n hx hb d_S_levels_21 rfl (lv_at hl 2 rfl) ?_
        refine lv_iload_n hx hb d_S_levels_22 rfl (lv_at hl 1 rfl) ?_
        refine lv_iload_n hx hb d_S_levels_23 rfl (lv_at hl 3 rfl) ?_
        refine vp_callSi (va_runS (As := [.int a1, .int a3]) (rest := [.int a2]) ⟨hx, hb, hml, hown, hts⟩ (c_S_bit l a1 a3 _ h) (va_cwS 2 hts (gS wG665 wG666 wG53 wG667) rfl rfl rfl (by decide +kernel) ⟨Nat.le_of_ble_eq_true rfl, Nat.le_of_ble_eq_true rfl⟩) ⟨sPc_blind _, fun U hU hW => ⟨rfl, trivial⟩⟩ rfl rfl hl.1 rfl (lv_room (Nat.le_of_ble_eq_true rfl)) d_S_levels_24 ⟨Nat.le_of_ble_eq_true rfl, Nat.le_of_ble_eq_true rfl⟩).run (fun r_5 h => ?_)
        refine lv_iload_n hx hb d_S_levels_27 rfl (lv_at hl 3 rfl) ?_
        refine lv_ishl hx hb d_S_levels_28 ?_
        refine lv_ior hx hb d_S_levels_29 ?_
        refine lv_topi (fun x_6 ex_6 => ?_)
        replace h := h x_6 ex_6
        refine lv_istore_n (lv' := [(2, .int x_6), (0, .ref (cA L 4)), (1, .int a1), (3, .int a3)]) hx hb d_S_levels_30 rfl hl (by decide) rfl (fun ls hl => ?_)
        obtain ⟨x_7, ex_7⟩ : ∃ y : Int32, y = a3 + 1 := ⟨_, rfl⟩
        replace h := h x_7 ex_7
        refine lv_iinc (v := x_7) (lv' := [(3, .int x_7), (2, .int x_6), (0, .ref (cA L 4)), (1, .int a1)]) hx hb d_S_levels_31 hl (k := 3) rfl (by rw [ex_7]; rfl) (by decide) rfl (fun ls hl => ?_)
        refine lv_goto (tgt := 4) hx hb d_S_levels_34 (by decide) ?_
        exact ih x_6 x_7 ls h (lv_sub hl [2, 3, 1, 0] rfl)
set_option maxHeartbeats 4000000 in
set_option maxRecDepth 100000 in
theorem Wl_S_levels_39 {p : Program} {l : Launch} {e : Env} {s : State} {m : MethodId} {args : Array Value} {below : List Frame} {meth : Method} {c : Code} {L : cL} {I : MI} {F : MF} {G : MG} {post : Int32 → Prop} {K : Int32 → Int32 → Prop} {a1 : Int32} (xc : xC p s m args meth c b_S_levels 7 lwG qR4 (some .int)) (hP : va_P L.1 vwCl (WC L I F G) s.heap) (hK : va_K L.1 vwCl (cTys L) s) (hN : cNk s)
    (hk : ∀ (a2 : Int32) (a3 : Int32) (ls : Array Slot), K a2 a3 → lv_has ls 7 [(0, .ref (cA L 4)), (1, .int a1), (2, .int a2), (3, .int a3)] → W p l e rm_S_levels s m args below meth c s.heap [] 0 0 (MQ below (vp_Si post) args s 0 0 (fun _ => False)) (F0 m 124 ls [])) :
    ∀ (n : Nat) (a2 : Int32) (a3 : Int32) (ls : Array Slot), wl_S_levels_39 post K a1 I F G n a2 a3 → lv_has ls 7 [(0, .ref (cA L 4)), (1, .int a1), (2, .int a2), (3, .int a3)] → W p l e rm_S_levels s m args below meth c s.heap [] 0 0 (MQ below (vp_Si post) args s 0 0 (fun _ => False)) (F0 m 39 ls []) := by
  obtain ⟨hx, hb, hml, hown, hts, hr, hlocks⟩ := id xc
  intro n
  induction n with
  | zero => intro a2 a3 ls h; exact absurd h id
  | succ n ih =>
    intro a2 a3 ls h hl
    refine lv_iload_n hx hb d_S_levels_39 rfl (lv_at hl 3 rfl) ?_
    refine lv_aload_n hx hb d_S_levels_40 rfl (lv_at hl 0 rfl) ?_
    refine va_get (D := L.1) (ci := 4) (v := .int (I 4)) (C := qR4) (T := qT4) (N := 7) hx hb hts qi4 hown hK hP 4 rfl rfl 5 (by decide) (hts _ wG201) (fun _ h9 => h9) rfl d_S_levels_41 ?_
    refine lv_icmp_ge (tgt := 124) hx hb d_S_levels_44 (by decide) (fun c_10 => ?_) (fun c_10 => ?_)
    · replace h := h.1 c_10
      exact hk a2 a3 ls h (lv_sub hl [0, 1, 2, 3] rfl)
    · replace h := h.2 c_10
      refine lv_aload_n hx hb d_S_levels_47 rfl (lv_at hl 0 rfl) ?_
      refine va_get (D := L.1) (ci := 4) (v := .ref (cA L 24)) (C := qR4) (T := qT4) (N := 7) hx hb hts qi4 hown hK hP 4 rfl rfl 4 (by decide) (hts _ wG200) (fun _ h9 => h9) rfl d_S_levels_48 ?_
      refine lv_iload_n hx hb d_S_levels_51 rfl (lv_at hl 3 rfl) ?_
      obtain ⟨hi_11, h⟩ := h
      refine c_iald hx hb hK hP 14 (by decide) rfl hi_11 d_S_levels_52 ?_
      refine lv_topi (fun x_12 ex_12 => ?_)
      replace h := h x_12 ex_12
      refine lv_istore (lv' := [(4, .int x_12), (0, .ref (cA L 4)), (1, .int a1), (2, .int a2), (3, .int a3)]) hx hb d_S_levels_53 hl (by decide) rfl (fun ls hl => ?_)
      refine lv_iload_n hx hb d_S_levels_55 rfl (lv_at hl 3 rfl) ?_
      refine lv_aload_n hx hb d_S_levels_56 rfl (lv_at hl 1 rfl) ?_
      refine va_get (D := L.1) (ci := 4) (v := .ref (cA L 1)) (C := qR4) (T := qT4) (N := 7) hx hb hts qi4 hown hK hP 4 rfl rfl 0 (by decide) (hts _ wG195) (fun _ h9 => h9) rfl d_S_levels_57 ?_
      refine va_get (D := L.1) (ci := 1) (v := .ref (cA L 11)) (C := qR1) (T := qT1) (N := 13) hx hb hts qi1 hown hK hP 1 rfl rfl 2 (by decide) (hts _ wG94) (fun _ h9 => h9) rfl d_S_levels_60 ?_
      refine lv_iload hx hb d_S_levels_63 (lv_at hl 0 rfl) ?_
      obtain ⟨hi_13, h⟩ := h
      refine c_iald hx hb hK hP 1 (by decide) rfl hi_13 d_S_levels_65 ?_
      refine vp_callSi (va_runS (As := [.int a2, .int (F 1 x_12.toNatClampNeg)]) (rest := []) ⟨hx, hb, hml, hown, hts⟩ (c_S_bit l a2 (F 1 x_12.toNatClampNeg) _ h) (va_cwS 2 hts (gS wG665 wG666 wG53 wG667) rfl rfl rfl (by decide +kernel) ⟨Nat.le_of_ble_eq_true rfl, Nat.le_of_ble_eq_true rfl⟩) ⟨sPc_blind _, fun U hU hW => ⟨rfl, trivial⟩⟩ rfl rfl hl.1 rfl (lv_room (Nat.le_of_ble_eq_true rfl)) d_S_levels_66 ⟨Nat.le_of_ble_eq_true rfl, Nat.le_of_ble_eq_true rfl⟩).run (fun r_14 h => ?_)
      refine lv_istore (lv' := [(5, .int r_14), (4, .int x_12), (0, .ref (cA L 4)), (1, .int a1), (2, .int a2), (3, .int a3)]) hx hb d_S_levels_69 hl (by decide) rfl (fun ls hl => ?_)
      refine lv_iload_n hx hb d_S_levels_71 rfl (lv_at hl 4 rfl) ?_
      refine lv_aload_n hx hb d_S_levels_72 rfl (lv_at hl 2 rfl) ?_
      refine va_get (D := L.1) (ci := 4) (v := .ref (cA L 1)) (C := qR4) (T := qT4) (N := 7) hx hb hts qi4 hown hK hP 4 rfl rfl 0 (by decide) (hts _ wG195) (fun _ h9 => h9) rfl d_S_levels_73 ?_
      refine va_get (D := L.1) (ci := 1) (v := .ref (cA L 12)) (C := qR1) (T := qT1) (N := 13) hx hb hts qi1 hown hK hP 1 rfl rfl 3 (by decide) (hts _ wG96) (fun _ h9 => h9) rfl d_S_levels_76 ?_
      refine lv_iload hx hb d_S_levels_79 (lv_at hl 1 rfl) ?_
      obtain ⟨hi_15, h⟩ := h
      refine c_iald hx hb hK hP 2 (by decide) rfl hi_15 d_S_levels_81 ?_
      refine vp_callSi (va_runS (As := [.int a2, .int (F 2 x_12.toNatClampNeg)]) (rest := []) ⟨hx, hb, hml, hown, hts⟩ (c_S_bit l a2 (F 2 x_12.toNatClampNeg) _ h) (va_cwS 2 hts (gS wG665 wG666 wG53 wG667) rfl rfl rfl (by decide +kernel) ⟨Nat.le_of_ble_eq_true rfl, Nat.le_of_ble_eq_true rfl⟩) ⟨sPc_blind _, fun U hU hW => ⟨rfl, trivial⟩⟩ rfl rfl hl.1 rfl (lv_room (Nat.le_of_ble_eq_true rfl)) d_S_levels_82 ⟨Nat.le_of_ble_eq_true rfl, Nat.le_of_ble_eq_true rfl⟩).run (fun r_16 h => ?_)
      refine lv_istore (lv' := [(6, .int r_16), (5, .int r_14), (4, .int x_12), (0, .ref (cA L 4)), (1, .int a1), (2, .int a2), (3, .int a3)]) hx hb d_S_levels_85 hl (by decide) rfl (fun ls hl => ?_)
      refine lv_iload_n hx hb d_S_levels_87 rfl (lv_at hl 5 rfl) ?_
      refine lv_aload_n hx hb d_S_levels_88 rfl (lv_at hl 3 rfl) ?_
      refine va_get (D := L.1) (ci := 4) (v := .ref (cA L 1)) (C := qR4) (T := qT4) (N := 7) hx hb hts qi4 hown hK hP 4 rfl rfl 0 (by decide) (hts _ wG195) (fun _ h9 => h9) rfl d_S_levels_89 ?_
      refine va_get (D := L.1) (ci := 1) (v := .ref (cA L 10)) (C := qR1) (T := qT1) (N := 13) hx hb hts qi1 hown hK hP 1 rfl rfl 1 (by decide) (hts _ wG92) (fun _ h9 => h9) rfl d_S_levels_92 ?_
      refine lv_iload hx hb d_S_levels_95 (lv_at hl 2 rfl) ?_
      obtain ⟨hi_17, h⟩ := h
      refine c_iald hx hb hK hP 0 (by decide) rfl hi_17 d_S_levels_97 ?_
      refine lv_iload hx hb d_S_levels_98 (lv_at hl 1 rfl) ?_
      refine lv_iload hx hb d_S_levels_100 (lv_at hl 0 rfl) ?_
      refine vp_callSi (va_runS (As := [.int (F 0 x_12.toNatClampNeg), .int r_14, .int r_16]) (rest := [.int a2]) ⟨hx, hb, hml, hown, hts⟩ (c_S_output l (F 0 x_12.toNatClampNeg) r_14 r_16 _ h) (va_cwS 3 hts (gS wG710 wG711 wG53 wG712) rfl rfl rfl (by decide +kernel) ⟨Nat.le_of_ble_eq_true rfl, Nat.le_of_ble_eq_true rfl⟩) ⟨sPc_blind _, fun U hU hW => ⟨rfl, trivial⟩⟩ rfl rfl hl.1 rfl (lv_room (Nat.le_of_ble_eq_true rfl)) d_S_levels_102 ⟨Nat.le_of_ble_eq_true rfl, Nat.le_of_ble_eq_true rfl⟩).run (fun r_18 h => ?_)
      refine lv_aload_n hx hb d_S_levels_105 rfl (lv_at hl 3 rfl) ?_
      refine va_get (D := L.1) (ci := 4) (v := .ref (cA L 1)) (C := qR4) (T := qT4) (N := 7) hx hb hts qi4 hown hK hP 4 rfl rfl 0 (by decide) (hts _ wG195) (fun _ h9 => h9) rfl d_S_levels_106 ?_
      refine va_get (D := L.1) (ci := 1) (v := .ref (cA L 13)) (C := qR1) (T := qT1) (N := 13) hx hb hts qi1 hown hK hP 1 rfl rfl 4 (by decide) (hts _ wG98) (fun _ h9 => h9) rfl d_S_levels_109 ?_
      refine lv_iload hx hb d_S_levels_112 (lv_at hl 2 rfl) ?_
      obtain ⟨hi_19, h⟩ := h
      refine c_iald hx hb hK hP 3 (by decide) rfl hi_19 d_S_levels_114 ?_
      refine lv_ishl hx hb d_S_levels_115 ?_
      refine lv_ior hx hb d_S_levels_116 ?_
      refine lv_topi (fun x_20 ex_20 => ?_)
      replace h := h x_20 ex_20
      refine lv_istore_n (lv' := [(2, .int x_20), (6, .int r_16), (5, .int r_14), (4, .int x_12), (0, .ref (cA L 4)), (1, .int a1), (3, .int a3)]) hx hb d_S_levels_117 rfl hl (by decide) rfl (fun ls hl => ?_)
      obtain ⟨x_21, ex_21⟩ : ∃ y : Int32, y = a3 + 1 := ⟨_, rfl⟩
      replace h := h x_21 ex_21
      refine lv_iinc (v := x_21) (lv' := [(3, .int x_21), (2, .int x_20), (6, .int r_16), (5, .int r_14), (4, .int x_12), (0, .ref (cA L 4)), (1, .int a1)]) hx hb d_S_levels_118 hl (k := 6) rfl (by rw [ex_21]; rfl) (by decide) rfl (fun ls hl => ?_)
      refine lv_goto (tgt := 39) hx hb d_S_levels_121 (by decide) ?_
      exact ih x_20 x_21 ls h (lv_sub hl [5, 6, 1, 0] rfl)
abbrev rm_S_levels : Room := { frames := 1, cells := 0, slots := 0, locals := 22 }
set_option maxHeartbeats 4000000 in
set_option maxRecDepth 100000 in
theorem c_S_levels (l : Launch) (L : cL) (a1 : Int32) (I : MI) (F : MF) (G : MG) (post : Int32 → Prop) (h : wp_S_levels a1 I F G post) : Met l y_S_levels (.code y_S_levels b_S_levels 7 (some .int) :: lwG) rm_S_levels (cPc L I F G [.ref (cA L 4), .int a1]) (vp_Si post) 0 0 (fun _ => False) := by
  refine Met.ofW (cc := b_S_levels) (maxL := 7) (ret := (some .int)) (by decide) rfl ?_
  intro p e s m args below meth c s₁ B hml hv
  obtain ⟨rfl, hP, hK, hN⟩ := hv
  have xc : xC p s m _ meth c b_S_levels 7 lwG qR4 (some .int) := ⟨B.exec, B.bytes, hml, findClass_of_methodNamed B.named, fun w h => atoms_spec (ws := (.code y_S_levels b_S_levels 7 (some .int) :: lwG)) B.pre w (List.mem_cons_of_mem _ h), B.returns, B.notSynchronized⟩
  obtain ⟨hx, hb, hml, hown, hts, hr, hlocks⟩ := id xc
  have hl := lv_entry ([.ref (cA L 4), .int a1]) (n := 7) (Nat.le_of_ble_eq_true rfl)
  rw [lg_entry_eq]
  generalize (lg_sl ([.ref (cA L 4), .int a1]) ++ List.replicate (7 - (lg_sl ([.ref (cA L 4), .int a1])).length) Slot.unset).toArray = ls at hl ⊢
  have hl : lv_has ls 7 [(0, .ref (cA L 4)), (1, .int a1)] := hl
  refine lv_iconst (v := 0) hx hb d_S_levels_0 (by decide) ?_
  refine lv_istore_n (lv' := [(2, .int 0), (0, .ref (cA L 4)), (1, .int a1)]) hx hb d_S_levels_1 rfl hl (by decide) rfl (fun ls hl => ?_)
  refine lv_iconst (v := 0) hx hb d_S_levels_2 (by decide) ?_
  refine lv_istore_n (lv' := [(3, .int 0), (2, .int 0), (0, .ref (cA L 4)), (1, .int a1)]) hx hb d_S_levels_3 rfl hl (by decide) rfl (fun ls hl => ?_)
  obtain ⟨n_25, h⟩ := h
  refine Wl_S_levels_4 xc hP hK hN (hk := fun x_8 x_9 ls h hl => ?_) n_25 0 0 ls h (lv_sub hl [2, 3, 1, 0] rfl)
  refine lv_iconst (v := 0) hx hb d_S_levels_37 (by decide) ?_
  refine lv_istore_n (lv' := [(3, .int 0), (0, .ref (cA L 4)), (1, .int a1), (2, .int x_8)]) hx hb d_S_levels_38 rfl hl (by decide) rfl (fun ls hl => ?_)
  obtain ⟨n_24, h⟩ := h
  refine Wl_S_levels_39 xc hP hK hN (hk := fun x_22 x_23 ls h hl => ?_) n_24 x_8 0 ls h (lv_sub hl [1, 2, 3, 0] rfl)
  refine lv_iload_n hx hb d_S_levels_124 rfl (lv_at hl 2 rfl) ?_
  exact W.iret hx hb hr (fun t ht _ => ⟨_, rfl, h, ht⟩) (fun _ h9 => nomatch h9) d_S_levels_125
set_option maxHeartbeats 4000000 in
set_option maxRecDepth 100000 in
theorem Wl_D_pointsWith_18 {p : Program} {l : Launch} {e : Env} {s : State} {m : MethodId} {args : Array Value} {below : List Frame} {meth : Method} {c : Code} {L : cL} {I : MI} {F : MF} {G : MG} {post : Int32 → Prop} {K : Int32 → Int32 → Prop} {a1 : Int32} {a3 : Int32} (xc : xC p s m args meth c b_D_pointsWith 5 lwG qR3 (some .int)) (hP : va_P L.1 vwCl (WC L I F G) s.heap) (hK : va_K L.1 vwCl (cTys L) s) (hN : cNk s)
    (hk : ∀ (a2 : Int32) (a4 : Int32) (ls : Array Slot), K a2 a4 → lv_has ls 5 [(0, .ref (cA L 3)), (1, .int a1), (2, .int a2), (3, .int a3), (4, .int a4)] → W p l e rm_D_pointsWith s m args below meth c s.heap [] 0 0 (MQ below (vp_Si post) args s 0 0 (fun _ => False)) (F0 m 48 ls [])) :
    ∀ (n : Nat) (a2 : Int32) (a4 : Int32) (ls : Array Slot), wl_D_pointsWith_18 post K a1 a3 I F G n a2 a4 → lv_has ls 5 [(0, .ref (cA L 3)), (1, .int a1), (2, .int a2), (3, .int a3), (4, .int a4)] → W p l e rm_D_pointsWith s m args below meth c s.heap [] 0 0 (MQ below (vp_Si post) args s 0 0 (fun _ => False)) (F0 m 18 ls []) := by
  obtain ⟨hx, hb, hml, hown, hts, hr, hlocks⟩ := id xc
  intro n
  induction n with
  | zero => intro a2 a4 ls h; exact absurd h id
  | succ n ih =>
    intro a2 a4 ls h hl
    refine lv_iload hx hb d_D_pointsWith_18 (lv_at hl 4 rfl) ?_
    refine lv_bipush (v := 24) hx hb d_D_pointsWith_20 (by decide) ?_
    refine lv_icmp_ge (tgt := 48) hx hb d_D_pointsWith_22 (by decide) (fun c_3 => ?_) (fun c_3 => ?_)
    · replace h := h.1 c_3
      exact hk a2 a4 ls h (lv_sub hl [0, 1, 2, 3, 4] rfl)
    · replace h := h.2 c_3
      refine lv_aload_n hx hb d_D_pointsWith_25 rfl (lv_at hl 0 rfl) ?_
      refine va_get (D := L.1) (ci := 3) (v := .ref (cA L 7)) (C := qR3) (T := qT3) (N := 7) hx hb hts qi3 hown hK hP 3 rfl rfl 2 (by decide) (hts _ wG168) (fun _ h9 => h9) rfl d_D_pointsWith_26 ?_
      refine lv_iload_n hx hb d_D_pointsWith_29 rfl (lv_at hl 3 rfl) ?_
      obtain ⟨hi_4, h⟩ := h
      refine c_row7 hx hb hK hP hi_4 d_D_pointsWith_30 ?_
      refine lv_iload hx hb d_D_pointsWith_31 (lv_at hl 4 rfl) ?_
      obtain ⟨hi_5, h⟩ := h
      refine c_iald hx hb hK hP (19 + a3.toNatClampNeg) (row_lt19 hi_4) (row_len19 hi_4) hi_5 d_D_pointsWith_33 ?_
      refine lv_iload_n hx hb d_D_pointsWith_34 rfl (lv_at hl 1 rfl) ?_
      refine lv_iand hx hb d_D_pointsWith_35 ?_
      refine lv_if_eq (tgt := 42) hx hb d_D_pointsWith_36 (by decide) (fun c_6 => ?_) (fun c_6 => ?_)
      · replace h := h.1 c_6
        obtain ⟨x_7, ex_7⟩ : ∃ y : Int32, y = a4 + 1 := ⟨_, rfl⟩
        replace h := h x_7 ex_7
        refine lv_iinc (v := x_7) (lv' := [(4, .int x_7), (0, .ref (cA L 3)), (1, .int a1), (2, .int a2), (3, .int a3)]) hx hb d_D_pointsWith_42 hl (k := 4) rfl (by rw [ex_7]; rfl) (by decide) rfl (fun ls hl => ?_)
        refine lv_goto (tgt := 18) hx hb d_D_pointsWith_45 (by decide) ?_
        exact ih a2 x_7 ls h (lv_sub hl [1, 2, 3, 4, 0] rfl)
      · replace h := h.2 c_6
        obtain ⟨x_8, ex_8⟩ : ∃ y : Int32, y = a2 + 1 := ⟨_, rfl⟩
        replace h := h x_8 ex_8
        refine lv_iinc (v := x_8) (lv' := [(2, .int x_8), (0, .ref (cA L 3)), (1, .int a1), (3, .int a3), (4, .int a4)]) hx hb d_D_pointsWith_39 hl (k := 2) rfl (by rw [ex_8]; rfl) (by decide) rfl (fun ls hl => ?_)
        obtain ⟨x_9, ex_9⟩ : ∃ y : Int32, y = a4 + 1 := ⟨_, rfl⟩
        replace h := h x_9 ex_9
        refine lv_iinc (v := x_9) (lv' := [(4, .int x_9), (2, .int x_8), (0, .ref (cA L 3)), (1, .int a1), (3, .int a3)]) hx hb d_D_pointsWith_42 hl (k := 4) rfl (by rw [ex_9]; rfl) (by decide) rfl (fun ls hl => ?_)
        refine lv_goto (tgt := 18) hx hb d_D_pointsWith_45 (by decide) ?_
        exact ih x_8 x_9 ls h (lv_sub hl [2, 3, 1, 4, 0] rfl)
set_option maxHeartbeats 4000000 in
set_option maxRecDepth 100000 in
theorem Wl_D_pointsWith_4 {p : Program} {l : Launch} {e : Env} {s : State} {m : MethodId} {args : Array Value} {below : List Frame} {meth : Method} {c : Code} {L : cL} {I : MI} {F : MF} {G : MG} {post : Int32 → Prop} {K : Int32 → Int32 → Prop} {a1 : Int32} (xc : xC p s m args meth c b_D_pointsWith 5 lwG qR3 (some .int)) (hP : va_P L.1 vwCl (WC L I F G) s.heap) (hK : va_K L.1 vwCl (cTys L) s) (hN : cNk s)
    (hk : ∀ (a2 : Int32) (a3 : Int32) (ls : Array Slot), K a2 a3 → lv_has ls 5 [(0, .ref (cA L 3)), (1, .int a1), (2, .int a2), (3, .int a3)] → W p l e rm_D_pointsWith s m args below meth c s.heap [] 0 0 (MQ below (vp_Si post) args s 0 0 (fun _ => False)) (F0 m 54 ls [])) :
    ∀ (n : Nat) (a2 : Int32) (a3 : Int32) (ls : Array Slot), wl_D_pointsWith_4 post K a1 I F G n a2 a3 → lv_has ls 5 [(0, .ref (cA L 3)), (1, .int a1), (2, .int a2), (3, .int a3)] → W p l e rm_D_pointsWith s m args below meth c s.heap [] 0 0 (MQ below (vp_Si post) args s 0 0 (fun _ => False)) (F0 m 4 ls []) := by
  obtain ⟨hx, hb, hml, hown, hts, hr, hlocks⟩ := id xc
  intro n
  induction n with
  | zero => intro a2 a3 ls h; exact absurd h id
  | succ n ih =>
    intro a2 a3 ls h hl
    refine lv_iload_n hx hb d_D_pointsWith_4 rfl (lv_at hl 3 rfl) ?_
    refine lv_aload_n hx hb d_D_pointsWith_5 rfl (lv_at hl 0 rfl) ?_
    refine va_get (D := L.1) (ci := 3) (v := .ref (cA L 2)) (C := qR3) (T := qT3) (N := 7) hx hb hts qi3 hown hK hP 3 rfl rfl 1 (by decide) (hts _ wG167) (fun _ h9 => h9) rfl d_D_pointsWith_6 ?_
    refine vp_callSi (va_runV (As := []) (rest := [.int a3]) ⟨hx, hb, hml, hown, hts⟩ (c_C_lines l L I F G _ h) (cwV 0 hts (gV wG550 wG527 wG528 wG51 wG529) rfl rfl rfl (by decide +kernel) ⟨Nat.le_of_ble_eq_true rfl, Nat.le_of_ble_eq_true rfl⟩) (cPre2 hK hN hP) rfl rfl hl.1 rfl (lv_room (Nat.le_of_ble_eq_true rfl)) d_D_pointsWith_9 ⟨Nat.le_of_ble_eq_true rfl, Nat.le_of_ble_eq_true rfl⟩).run (fun r_1 h => ?_)
    refine lv_icmp_ge (tgt := 54) hx hb d_D_pointsWith_12 (by decide) (fun c_2 => ?_) (fun c_2 => ?_)
    · replace h := h.1 c_2
      exact hk a2 a3 ls h (lv_sub hl [0, 1, 2, 3] rfl)
    · replace h := h.2 c_2
      refine lv_iconst (v := 0) hx hb d_D_pointsWith_15 (by decide) ?_
      refine lv_istore (lv' := [(4, .int 0), (0, .ref (cA L 3)), (1, .int a1), (2, .int a2), (3, .int a3)]) hx hb d_D_pointsWith_16 hl (by decide) rfl (fun ls hl => ?_)
      obtain ⟨n_13, h⟩ := h
      refine Wl_D_pointsWith_18 xc hP hK hN (hk := fun x_10 x_11 ls h hl => ?_) n_13 a2 0 ls h (lv_sub hl [1, 2, 3, 4, 0] rfl)
      obtain ⟨x_12, ex_12⟩ : ∃ y : Int32, y = a3 + 1 := ⟨_, rfl⟩
      replace h := h x_12 ex_12
      refine lv_iinc (v := x_12) (lv' := [(3, .int x_12), (0, .ref (cA L 3)), (1, .int a1), (2, .int x_10), (4, .int x_11)]) hx hb d_D_pointsWith_48 hl (k := 3) rfl (by rw [ex_12]; rfl) (by decide) rfl (fun ls hl => ?_)
      refine lv_goto (tgt := 4) hx hb d_D_pointsWith_51 (by decide) ?_
      exact ih x_10 x_12 ls h (lv_sub hl [1, 2, 3, 0] rfl)
abbrev rm_D_pointsWith : Room := { frames := 1, cells := 0, slots := 0, locals := 20 }
set_option maxHeartbeats 4000000 in
set_option maxRecDepth 100000 in
theorem c_D_pointsWith (l : Launch) (L : cL) (a1 : Int32) (I : MI) (F : MF) (G : MG) (post : Int32 → Prop) (h : wp_D_pointsWith a1 I F G post) : Met l y_D_pointsWith (.code y_D_pointsWith b_D_pointsWith 5 (some .int) :: lwG) rm_D_pointsWith (cPc L I F G [.ref (cA L 3), .int a1]) (vp_Si post) 0 0 (fun _ => False) := by
  refine Met.ofW (cc := b_D_pointsWith) (maxL := 5) (ret := (some .int)) (by decide) rfl ?_
  intro p e s m args below meth c s₁ B hml hv
  obtain ⟨rfl, hP, hK, hN⟩ := hv
  have xc : xC p s m _ meth c b_D_pointsWith 5 lwG qR3 (some .int) := ⟨B.exec, B.bytes, hml, findClass_of_methodNamed B.named, fun w h => atoms_spec (ws := (.code y_D_pointsWith b_D_pointsWith 5 (some .int) :: lwG)) B.pre w (List.mem_cons_of_mem _ h), B.returns, B.notSynchronized⟩
  obtain ⟨hx, hb, hml, hown, hts, hr, hlocks⟩ := id xc
  have hl := lv_entry ([.ref (cA L 3), .int a1]) (n := 5) (Nat.le_of_ble_eq_true rfl)
  rw [lg_entry_eq]
  generalize (lg_sl ([.ref (cA L 3), .int a1]) ++ List.replicate (5 - (lg_sl ([.ref (cA L 3), .int a1])).length) Slot.unset).toArray = ls at hl ⊢
  have hl : lv_has ls 5 [(0, .ref (cA L 3)), (1, .int a1)] := hl
  refine lv_iconst (v := 0) hx hb d_D_pointsWith_0 (by decide) ?_
  refine lv_istore_n (lv' := [(2, .int 0), (0, .ref (cA L 3)), (1, .int a1)]) hx hb d_D_pointsWith_1 rfl hl (by decide) rfl (fun ls hl => ?_)
  refine lv_iconst (v := 0) hx hb d_D_pointsWith_2 (by decide) ?_
  refine lv_istore_n (lv' := [(3, .int 0), (2, .int 0), (0, .ref (cA L 3)), (1, .int a1)]) hx hb d_D_pointsWith_3 rfl hl (by decide) rfl (fun ls hl => ?_)
  obtain ⟨n_16, h⟩ := h
  refine Wl_D_pointsWith_4 xc hP hK hN (hk := fun x_14 x_15 ls h hl => ?_) n_16 0 0 ls h (lv_sub hl [2, 3, 1, 0] rfl)
  refine lv_iload_n hx hb d_D_pointsWith_54 rfl (lv_at hl 2 rfl) ?_
  exact W.iret hx hb hr (fun t ht _ => ⟨_, rfl, h, ht⟩) (fun _ h9 => nomatch h9) d_D_pointsWith_55
end
