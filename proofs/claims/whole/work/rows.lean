section
-- ===== PART A: goes FIRST, ahead of the names: the tables' words, and 'selects' of the private methods out of them =====
/-- a private method of a class that the tables say can be made, by its rows of tables_1 -/
def lw_okq (q : MethodName × Nat) : Prop := (q.1.cls ≠ "java/lang/invoke/MethodHandle" ∧ q.1.cls ≠ "java/lang/invoke/VarHandle") ∧ Cond.instantiable q.1.cls q.2 ∈ tables_1 ∧ Cond.privateMethod q.1 ∈ tables_1 ∧ Cond.instanceMethod q.1 ∈ tables_1
theorem lw_p0 : lw_okq (⟨"java/lang/Throwable", "fillInStackTrace", "(I)Ljava/lang/Throwable;"⟩, 6) := ⟨⟨by decide +kernel, by decide +kernel⟩, List.mem_of_getElem? (i := 246) (by decide +kernel), List.mem_of_getElem? (i := 244) (by decide +kernel), List.mem_of_getElem? (i := 245) (by decide +kernel)⟩
theorem lw_p1 : lw_okq (⟨"ChipForge$Netlist", "addPin", "(III)V"⟩, 13) := ⟨⟨by decide +kernel, by decide +kernel⟩, List.mem_of_getElem? (i := 27) (by decide +kernel), List.mem_of_getElem? (i := 311) (by decide +kernel), List.mem_of_getElem? (i := 312) (by decide +kernel)⟩
theorem lw_p2 : lw_okq (⟨"ChipForge$Channel", "fillTrack", "(I)I"⟩, 3) := ⟨⟨by decide +kernel, by decide +kernel⟩, List.mem_of_getElem? (i := 93) (by decide +kernel), List.mem_of_getElem? (i := 352) (by decide +kernel), List.mem_of_getElem? (i := 353) (by decide +kernel)⟩
theorem lw_p3 : lw_okq (⟨"ChipForge$Channel", "isFreeFromAbove", "(II)Z"⟩, 3) := ⟨⟨by decide +kernel, by decide +kernel⟩, List.mem_of_getElem? (i := 93) (by decide +kernel), List.mem_of_getElem? (i := 360) (by decide +kernel), List.mem_of_getElem? (i := 361) (by decide +kernel)⟩
theorem lw_p4 : lw_okq (⟨"ChipForge$Drawing", "drawBars", "(I)V"⟩, 7) := ⟨⟨by decide +kernel, by decide +kernel⟩, List.mem_of_getElem? (i := 113) (by decide +kernel), List.mem_of_getElem? (i := 396) (by decide +kernel), List.mem_of_getElem? (i := 397) (by decide +kernel)⟩
theorem lw_p5 : lw_okq (⟨"ChipForge$Drawing", "drawPin", "(II)V"⟩, 7) := ⟨⟨by decide +kernel, by decide +kernel⟩, List.mem_of_getElem? (i := 113) (by decide +kernel), List.mem_of_getElem? (i := 402) (by decide +kernel), List.mem_of_getElem? (i := 403) (by decide +kernel)⟩
theorem lw_p6 : lw_okq (⟨"ChipForge", "needPin", "(II)V"⟩, 5) := ⟨⟨by decide +kernel, by decide +kernel⟩, List.mem_of_getElem? (i := 19) (by decide +kernel), List.mem_of_getElem? (i := 414) (by decide +kernel), List.mem_of_getElem? (i := 415) (by decide +kernel)⟩
theorem lw_p7 : lw_okq (⟨"ChipForge", "needNet", "(I)V"⟩, 5) := ⟨⟨by decide +kernel, by decide +kernel⟩, List.mem_of_getElem? (i := 19) (by decide +kernel), List.mem_of_getElem? (i := 450) (by decide +kernel), List.mem_of_getElem? (i := 451) (by decide +kernel)⟩
theorem lw_p8 : lw_okq (⟨"ChipForge", "needPoint", "(II)V"⟩, 5) := ⟨⟨by decide +kernel, by decide +kernel⟩, List.mem_of_getElem? (i := 19) (by decide +kernel), List.mem_of_getElem? (i := 471) (by decide +kernel), List.mem_of_getElem? (i := 472) (by decide +kernel)⟩
theorem lw_p9 : lw_okq (⟨"ChipForge", "needRouted", "()V"⟩, 5) := ⟨⟨by decide +kernel, by decide +kernel⟩, List.mem_of_getElem? (i := 19) (by decide +kernel), List.mem_of_getElem? (i := 475) (by decide +kernel), List.mem_of_getElem? (i := 476) (by decide +kernel)⟩
theorem lw_p10 : lw_okq (⟨"ChipForge$Drawing", "joinAt", "(II)V"⟩, 7) := ⟨⟨by decide +kernel, by decide +kernel⟩, List.mem_of_getElem? (i := 113) (by decide +kernel), List.mem_of_getElem? (i := 505) (by decide +kernel), List.mem_of_getElem? (i := 506) (by decide +kernel)⟩
theorem lw_p11 : lw_okq (⟨"ChipForge$Drawing", "join", "(II)V"⟩, 7) := ⟨⟨by decide +kernel, by decide +kernel⟩, List.mem_of_getElem? (i := 113) (by decide +kernel), List.mem_of_getElem? (i := 512) (by decide +kernel), List.mem_of_getElem? (i := 513) (by decide +kernel)⟩
theorem lw_p12 : lw_okq (⟨"ChipForge$Drawing", "group", "(I)I"⟩, 7) := ⟨⟨by decide +kernel, by decide +kernel⟩, List.mem_of_getElem? (i := 113) (by decide +kernel), List.mem_of_getElem? (i := 516) (by decide +kernel), List.mem_of_getElem? (i := 517) (by decide +kernel)⟩
theorem lw_p13 : lw_okq (⟨"ChipForge$Drawing", "groupOfRow", "(II)I"⟩, 7) := ⟨⟨by decide +kernel, by decide +kernel⟩, List.mem_of_getElem? (i := 113) (by decide +kernel), List.mem_of_getElem? (i := 527) (by decide +kernel), List.mem_of_getElem? (i := 528) (by decide +kernel)⟩
theorem lw_p14 : lw_okq (⟨"ChipForge$Drawing", "addPinEnd", "(II)V"⟩, 7) := ⟨⟨by decide +kernel, by decide +kernel⟩, List.mem_of_getElem? (i := 113) (by decide +kernel), List.mem_of_getElem? (i := 542) (by decide +kernel), List.mem_of_getElem? (i := 543) (by decide +kernel)⟩
theorem lw_p15 : lw_okq (⟨"ChipForge$Drawing", "addEnd", "(II)V"⟩, 7) := ⟨⟨by decide +kernel, by decide +kernel⟩, List.mem_of_getElem? (i := 113) (by decide +kernel), List.mem_of_getElem? (i := 547) (by decide +kernel), List.mem_of_getElem? (i := 548) (by decide +kernel)⟩
def lw_privs_1 : List (MethodName × Nat) := [(⟨"java/lang/Throwable", "fillInStackTrace", "(I)Ljava/lang/Throwable;"⟩, 6), (⟨"ChipForge$Netlist", "addPin", "(III)V"⟩, 13), (⟨"ChipForge$Channel", "fillTrack", "(I)I"⟩, 3), (⟨"ChipForge$Channel", "isFreeFromAbove", "(II)Z"⟩, 3), (⟨"ChipForge$Drawing", "drawBars", "(I)V"⟩, 7), (⟨"ChipForge$Drawing", "drawPin", "(II)V"⟩, 7), (⟨"ChipForge", "needPin", "(II)V"⟩, 5), (⟨"ChipForge", "needNet", "(I)V"⟩, 5), (⟨"ChipForge", "needPoint", "(II)V"⟩, 5), (⟨"ChipForge", "needRouted", "()V"⟩, 5), (⟨"ChipForge$Drawing", "joinAt", "(II)V"⟩, 7), (⟨"ChipForge$Drawing", "join", "(II)V"⟩, 7), (⟨"ChipForge$Drawing", "group", "(I)I"⟩, 7), (⟨"ChipForge$Drawing", "groupOfRow", "(II)I"⟩, 7), (⟨"ChipForge$Drawing", "addPinEnd", "(II)V"⟩, 7), (⟨"ChipForge$Drawing", "addEnd", "(II)V"⟩, 7)]
theorem lw_r1 : ∀ q ∈ lw_privs_1, lw_okq q := List.forall_mem_cons.mpr ⟨lw_p0, List.forall_mem_cons.mpr ⟨lw_p1, List.forall_mem_cons.mpr ⟨lw_p2, List.forall_mem_cons.mpr ⟨lw_p3, List.forall_mem_cons.mpr ⟨lw_p4, List.forall_mem_cons.mpr ⟨lw_p5, List.forall_mem_cons.mpr ⟨lw_p6, List.forall_mem_cons.mpr ⟨lw_p7, List.forall_mem_cons.mpr ⟨lw_p8, List.forall_mem_cons.mpr ⟨lw_p9, List.forall_mem_cons.mpr ⟨lw_p10, List.forall_mem_cons.mpr ⟨lw_p11, List.forall_mem_cons.mpr ⟨lw_p12, List.forall_mem_cons.mpr ⟨lw_p13, List.forall_mem_cons.mpr ⟨lw_p14, List.forall_mem_cons.mpr ⟨lw_p15, fun _ h => absurd h List.not_mem_nil⟩⟩⟩⟩⟩⟩⟩⟩⟩⟩⟩⟩⟩⟩⟩⟩
theorem lw_p16 : lw_okq (⟨"ChipForge$Drawing", "netsJoinedWith", "(I)I"⟩, 7) := ⟨⟨by decide +kernel, by decide +kernel⟩, List.mem_of_getElem? (i := 113) (by decide +kernel), List.mem_of_getElem? (i := 556) (by decide +kernel), List.mem_of_getElem? (i := 557) (by decide +kernel)⟩
theorem lw_p17 : lw_okq (⟨"ChipForge$Drawing", "netsInGroup", "(I)I"⟩, 7) := ⟨⟨by decide +kernel, by decide +kernel⟩, List.mem_of_getElem? (i := 113) (by decide +kernel), List.mem_of_getElem? (i := 560) (by decide +kernel), List.mem_of_getElem? (i := 561) (by decide +kernel)⟩
theorem lw_p18 : lw_okq (⟨"ChipForge$Signals", "isReady", "(I)Z"⟩, 7) := ⟨⟨by decide +kernel, by decide +kernel⟩, List.mem_of_getElem? (i := 143) (by decide +kernel), List.mem_of_getElem? (i := 611) (by decide +kernel), List.mem_of_getElem? (i := 612) (by decide +kernel)⟩
theorem lw_p19 : lw_okq (⟨"ChipForge$Signals", "arrivalBehind", "(I)D"⟩, 7) := ⟨⟨by decide +kernel, by decide +kernel⟩, List.mem_of_getElem? (i := 143) (by decide +kernel), List.mem_of_getElem? (i := 643) (by decide +kernel), List.mem_of_getElem? (i := 644) (by decide +kernel)⟩
theorem lw_p20 : lw_okq (⟨"ChipForgeModel", "refuse", "(I)I"⟩, 16) := ⟨⟨by decide +kernel, by decide +kernel⟩, List.mem_of_getElem? (i := 680) (by decide +kernel), List.mem_of_getElem? (i := 747) (by decide +kernel), List.mem_of_getElem? (i := 748) (by decide +kernel)⟩
theorem lw_p21 : lw_okq (⟨"ChipForgeModel", "driver", "(I)I"⟩, 16) := ⟨⟨by decide +kernel, by decide +kernel⟩, List.mem_of_getElem? (i := 680) (by decide +kernel), List.mem_of_getElem? (i := 751) (by decide +kernel), List.mem_of_getElem? (i := 752) (by decide +kernel)⟩
theorem lw_p22 : lw_okq (⟨"ChipForgeModel", "waiting", "()I"⟩, 16) := ⟨⟨by decide +kernel, by decide +kernel⟩, List.mem_of_getElem? (i := 680) (by decide +kernel), List.mem_of_getElem? (i := 763) (by decide +kernel), List.mem_of_getElem? (i := 764) (by decide +kernel)⟩
theorem lw_p23 : lw_okq (⟨"ChipForgeModel", "isWired", "(I)Z"⟩, 16) := ⟨⟨by decide +kernel, by decide +kernel⟩, List.mem_of_getElem? (i := 680) (by decide +kernel), List.mem_of_getElem? (i := 767) (by decide +kernel), List.mem_of_getElem? (i := 768) (by decide +kernel)⟩
theorem lw_p24 : lw_okq (⟨"ChipForgeModel", "pins", "(I)I"⟩, 16) := ⟨⟨by decide +kernel, by decide +kernel⟩, List.mem_of_getElem? (i := 680) (by decide +kernel), List.mem_of_getElem? (i := 771) (by decide +kernel), List.mem_of_getElem? (i := 772) (by decide +kernel)⟩
theorem lw_p25 : lw_okq (⟨"ChipForgeModel", "pinsOf", "(I)I"⟩, 16) := ⟨⟨by decide +kernel, by decide +kernel⟩, List.mem_of_getElem? (i := 680) (by decide +kernel), List.mem_of_getElem? (i := 775) (by decide +kernel), List.mem_of_getElem? (i := 776) (by decide +kernel)⟩
theorem lw_p26 : lw_okq (⟨"ChipForgeModel", "netOf", "(II)I"⟩, 16) := ⟨⟨by decide +kernel, by decide +kernel⟩, List.mem_of_getElem? (i := 680) (by decide +kernel), List.mem_of_getElem? (i := 779) (by decide +kernel), List.mem_of_getElem? (i := 780) (by decide +kernel)⟩
theorem lw_p27 : lw_okq (⟨"ChipForgeModel", "hasPad", "(I)Z"⟩, 16) := ⟨⟨by decide +kernel, by decide +kernel⟩, List.mem_of_getElem? (i := 680) (by decide +kernel), List.mem_of_getElem? (i := 783) (by decide +kernel), List.mem_of_getElem? (i := 784) (by decide +kernel)⟩
theorem lw_p28 : lw_okq (⟨"ChipForgeModel", "give", "(I)I"⟩, 16) := ⟨⟨by decide +kernel, by decide +kernel⟩, List.mem_of_getElem? (i := 680) (by decide +kernel), List.mem_of_getElem? (i := 787) (by decide +kernel), List.mem_of_getElem? (i := 788) (by decide +kernel)⟩
theorem lw_p29 : lw_okq (⟨"ChipForgeModel", "left", "(I)I"⟩, 16) := ⟨⟨by decide +kernel, by decide +kernel⟩, List.mem_of_getElem? (i := 680) (by decide +kernel), List.mem_of_getElem? (i := 791) (by decide +kernel), List.mem_of_getElem? (i := 792) (by decide +kernel)⟩
theorem lw_p30 : lw_okq (⟨"ChipForgeModel", "isFree", "(II)Z"⟩, 16) := ⟨⟨by decide +kernel, by decide +kernel⟩, List.mem_of_getElem? (i := 680) (by decide +kernel), List.mem_of_getElem? (i := 795) (by decide +kernel), List.mem_of_getElem? (i := 796) (by decide +kernel)⟩
theorem lw_p31 : lw_okq (⟨"ChipForgeModel", "at", "(II)I"⟩, 16) := ⟨⟨by decide +kernel, by decide +kernel⟩, List.mem_of_getElem? (i := 680) (by decide +kernel), List.mem_of_getElem? (i := 799) (by decide +kernel), List.mem_of_getElem? (i := 800) (by decide +kernel)⟩
def lw_privs_2 : List (MethodName × Nat) := [(⟨"ChipForge$Drawing", "netsJoinedWith", "(I)I"⟩, 7), (⟨"ChipForge$Drawing", "netsInGroup", "(I)I"⟩, 7), (⟨"ChipForge$Signals", "isReady", "(I)Z"⟩, 7), (⟨"ChipForge$Signals", "arrivalBehind", "(I)D"⟩, 7), (⟨"ChipForgeModel", "refuse", "(I)I"⟩, 16), (⟨"ChipForgeModel", "driver", "(I)I"⟩, 16), (⟨"ChipForgeModel", "waiting", "()I"⟩, 16), (⟨"ChipForgeModel", "isWired", "(I)Z"⟩, 16), (⟨"ChipForgeModel", "pins", "(I)I"⟩, 16), (⟨"ChipForgeModel", "pinsOf", "(I)I"⟩, 16), (⟨"ChipForgeModel", "netOf", "(II)I"⟩, 16), (⟨"ChipForgeModel", "hasPad", "(I)Z"⟩, 16), (⟨"ChipForgeModel", "give", "(I)I"⟩, 16), (⟨"ChipForgeModel", "left", "(I)I"⟩, 16), (⟨"ChipForgeModel", "isFree", "(II)Z"⟩, 16), (⟨"ChipForgeModel", "at", "(II)I"⟩, 16)]
theorem lw_r2 : ∀ q ∈ lw_privs_2, lw_okq q := List.forall_mem_cons.mpr ⟨lw_p16, List.forall_mem_cons.mpr ⟨lw_p17, List.forall_mem_cons.mpr ⟨lw_p18, List.forall_mem_cons.mpr ⟨lw_p19, List.forall_mem_cons.mpr ⟨lw_p20, List.forall_mem_cons.mpr ⟨lw_p21, List.forall_mem_cons.mpr ⟨lw_p22, List.forall_mem_cons.mpr ⟨lw_p23, List.forall_mem_cons.mpr ⟨lw_p24, List.forall_mem_cons.mpr ⟨lw_p25, List.forall_mem_cons.mpr ⟨lw_p26, List.forall_mem_cons.mpr ⟨lw_p27, List.forall_mem_cons.mpr ⟨lw_p28, List.forall_mem_cons.mpr ⟨lw_p29, List.forall_mem_cons.mpr ⟨lw_p30, List.forall_mem_cons.mpr ⟨lw_p31, fun _ h => absurd h List.not_mem_nil⟩⟩⟩⟩⟩⟩⟩⟩⟩⟩⟩⟩⟩⟩⟩⟩
theorem lw_p32 : lw_okq (⟨"ChipForgeModel", "right", "(I)I"⟩, 16) := ⟨⟨by decide +kernel, by decide +kernel⟩, List.mem_of_getElem? (i := 680) (by decide +kernel), List.mem_of_getElem? (i := 803) (by decide +kernel), List.mem_of_getElem? (i := 804) (by decide +kernel)⟩
theorem lw_p33 : lw_okq (⟨"ChipForgeModel", "draw", "()V"⟩, 16) := ⟨⟨by decide +kernel, by decide +kernel⟩, List.mem_of_getElem? (i := 680) (by decide +kernel), List.mem_of_getElem? (i := 807) (by decide +kernel), List.mem_of_getElem? (i := 808) (by decide +kernel)⟩
theorem lw_p34 : lw_okq (⟨"ChipForgeModel", "mark", "(III)V"⟩, 16) := ⟨⟨by decide +kernel, by decide +kernel⟩, List.mem_of_getElem? (i := 680) (by decide +kernel), List.mem_of_getElem? (i := 811) (by decide +kernel), List.mem_of_getElem? (i := 812) (by decide +kernel)⟩
theorem lw_p35 : lw_okq (⟨"ChipForgeModel", "isPin", "(II)Z"⟩, 16) := ⟨⟨by decide +kernel, by decide +kernel⟩, List.mem_of_getElem? (i := 680) (by decide +kernel), List.mem_of_getElem? (i := 819) (by decide +kernel), List.mem_of_getElem? (i := 820) (by decide +kernel)⟩
theorem lw_p36 : lw_okq (⟨"ChipForgeModel", "lengthOf", "(I)I"⟩, 16) := ⟨⟨by decide +kernel, by decide +kernel⟩, List.mem_of_getElem? (i := 680) (by decide +kernel), List.mem_of_getElem? (i := 827) (by decide +kernel), List.mem_of_getElem? (i := 828) (by decide +kernel)⟩
theorem lw_p37 : lw_okq (⟨"ChipForgeModel", "isPoint", "(II)Z"⟩, 16) := ⟨⟨by decide +kernel, by decide +kernel⟩, List.mem_of_getElem? (i := 680) (by decide +kernel), List.mem_of_getElem? (i := 835) (by decide +kernel), List.mem_of_getElem? (i := 836) (by decide +kernel)⟩
theorem lw_p38 : lw_okq (⟨"ChipForgeModel", "find", "()V"⟩, 16) := ⟨⟨by decide +kernel, by decide +kernel⟩, List.mem_of_getElem? (i := 680) (by decide +kernel), List.mem_of_getElem? (i := 847) (by decide +kernel), List.mem_of_getElem? (i := 848) (by decide +kernel)⟩
theorem lw_p39 : lw_okq (⟨"ChipForgeModel", "joinAt", "(II)Z"⟩, 16) := ⟨⟨by decide +kernel, by decide +kernel⟩, List.mem_of_getElem? (i := 680) (by decide +kernel), List.mem_of_getElem? (i := 851) (by decide +kernel), List.mem_of_getElem? (i := 852) (by decide +kernel)⟩
theorem lw_p40 : lw_okq (⟨"ChipForgeModel", "join", "(II)Z"⟩, 16) := ⟨⟨by decide +kernel, by decide +kernel⟩, List.mem_of_getElem? (i := 680) (by decide +kernel), List.mem_of_getElem? (i := 855) (by decide +kernel), List.mem_of_getElem? (i := 856) (by decide +kernel)⟩
theorem lw_p41 : lw_okq (⟨"ChipForgeModel", "pinAt", "(II)I"⟩, 16) := ⟨⟨by decide +kernel, by decide +kernel⟩, List.mem_of_getElem? (i := 680) (by decide +kernel), List.mem_of_getElem? (i := 859) (by decide +kernel), List.mem_of_getElem? (i := 860) (by decide +kernel)⟩
theorem lw_p42 : lw_okq (⟨"ChipForgeModel", "isOpen", "(I)Z"⟩, 16) := ⟨⟨by decide +kernel, by decide +kernel⟩, List.mem_of_getElem? (i := 680) (by decide +kernel), List.mem_of_getElem? (i := 867) (by decide +kernel), List.mem_of_getElem? (i := 868) (by decide +kernel)⟩
theorem lw_p43 : lw_okq (⟨"ChipForgeModel", "place", "(II)I"⟩, 16) := ⟨⟨by decide +kernel, by decide +kernel⟩, List.mem_of_getElem? (i := 680) (by decide +kernel), List.mem_of_getElem? (i := 871) (by decide +kernel), List.mem_of_getElem? (i := 872) (by decide +kernel)⟩
theorem lw_p44 : lw_okq (⟨"ChipForgeModel", "isShort", "(II)Z"⟩, 16) := ⟨⟨by decide +kernel, by decide +kernel⟩, List.mem_of_getElem? (i := 680) (by decide +kernel), List.mem_of_getElem? (i := 875) (by decide +kernel), List.mem_of_getElem? (i := 876) (by decide +kernel)⟩
theorem lw_p45 : lw_okq (⟨"ChipForgeModel", "delayOf", "(I)D"⟩, 16) := ⟨⟨by decide +kernel, by decide +kernel⟩, List.mem_of_getElem? (i := 680) (by decide +kernel), List.mem_of_getElem? (i := 888) (by decide +kernel), List.mem_of_getElem? (i := 889) (by decide +kernel)⟩
theorem lw_p46 : lw_okq (⟨"ChipForgeModel", "isReady", "(I)Z"⟩, 16) := ⟨⟨by decide +kernel, by decide +kernel⟩, List.mem_of_getElem? (i := 680) (by decide +kernel), List.mem_of_getElem? (i := 898) (by decide +kernel), List.mem_of_getElem? (i := 899) (by decide +kernel)⟩
def lw_privs_3 : List (MethodName × Nat) := [(⟨"ChipForgeModel", "right", "(I)I"⟩, 16), (⟨"ChipForgeModel", "draw", "()V"⟩, 16), (⟨"ChipForgeModel", "mark", "(III)V"⟩, 16), (⟨"ChipForgeModel", "isPin", "(II)Z"⟩, 16), (⟨"ChipForgeModel", "lengthOf", "(I)I"⟩, 16), (⟨"ChipForgeModel", "isPoint", "(II)Z"⟩, 16), (⟨"ChipForgeModel", "find", "()V"⟩, 16), (⟨"ChipForgeModel", "joinAt", "(II)Z"⟩, 16), (⟨"ChipForgeModel", "join", "(II)Z"⟩, 16), (⟨"ChipForgeModel", "pinAt", "(II)I"⟩, 16), (⟨"ChipForgeModel", "isOpen", "(I)Z"⟩, 16), (⟨"ChipForgeModel", "place", "(II)I"⟩, 16), (⟨"ChipForgeModel", "isShort", "(II)Z"⟩, 16), (⟨"ChipForgeModel", "delayOf", "(I)D"⟩, 16), (⟨"ChipForgeModel", "isReady", "(I)Z"⟩, 16)]
theorem lw_r3 : ∀ q ∈ lw_privs_3, lw_okq q := List.forall_mem_cons.mpr ⟨lw_p32, List.forall_mem_cons.mpr ⟨lw_p33, List.forall_mem_cons.mpr ⟨lw_p34, List.forall_mem_cons.mpr ⟨lw_p35, List.forall_mem_cons.mpr ⟨lw_p36, List.forall_mem_cons.mpr ⟨lw_p37, List.forall_mem_cons.mpr ⟨lw_p38, List.forall_mem_cons.mpr ⟨lw_p39, List.forall_mem_cons.mpr ⟨lw_p40, List.forall_mem_cons.mpr ⟨lw_p41, List.forall_mem_cons.mpr ⟨lw_p42, List.forall_mem_cons.mpr ⟨lw_p43, List.forall_mem_cons.mpr ⟨lw_p44, List.forall_mem_cons.mpr ⟨lw_p45, List.forall_mem_cons.mpr ⟨lw_p46, fun _ h => absurd h List.not_mem_nil⟩⟩⟩⟩⟩⟩⟩⟩⟩⟩⟩⟩⟩⟩⟩
def lw_privs : List (MethodName × Nat) := lw_privs_1 ++ (lw_privs_2 ++ (lw_privs_3))
def lw_tbl : List Cond := k2_sels lw_privs ++ tables_1
theorem lw_privs_ok : ∀ q ∈ lw_privs, lw_okq q := by
  show ∀ q ∈ lw_privs_1 ++ (lw_privs_2 ++ (lw_privs_3)), lw_okq q
  exact List.forall_mem_append.mpr ⟨lw_r1, List.forall_mem_append.mpr ⟨lw_r2, lw_r3⟩⟩
end
section
/-! Exceptions that leave a method: contracts with two ends, calls with two ends, the end of a body that throws. -/
section TXA
/-- q is thrown: its class by name, its cell, the world (Xc), what was written and made -/
def tx_T (Xc : String → State → State → Prop) (mc ms : Nat) (free : Addr → Prop) (st : State) (q : Addr) (t : State) : Prop :=
  ∃ (E : String) (ce : Cell) (L : List Loc), Xc E st t ∧ t.heap[q]? = some ce ∧ ce.vm = .none ∧ st.vm.findClass E = some ce.cls ∧ st.WarmedH t.vm ∧
    st.sameButNew ({ t with vm := st.vm } : State) L mc ms ∧ ∀ z ∈ L, free z.base
def tx_Q (Qc : Array Value → State → Outcome → State → Prop) (Xc : String → State → State → Prop) (mc ms : Nat) (free : Addr → Prop) (a : Array Value) (st : State) (o : Outcome) (t : State) : Prop :=
  (Qc a st o t ∧ ∃ L, FrameEnd st o t L mc ms ∧ ∀ q ∈ L, free q.base) ∨ ∃ q, o = .threw q ∧ tx_T Xc mc ms free st q t
/-- the contract of a method that returns or throws -/
def tx_Met (l : Launch) (y : MethodName) (ws : List Cond) (rm : Room) (Pc : Array Value → State → Prop) (Qc : Array Value → State → Outcome → State → Prop) (Xc : String → State → State → Prop) (mc ms : Nat) (free : Addr → Prop) : Prop :=
  MetFree l y (headSpec ws rm) Pc (fun _ _ _ _ _ => True) (tx_Q Qc Xc mc ms free)
/-- the end that such a body owes -/
def tx_MQ (below : List Frame) (Qc : Array Value → State → Outcome → State → Prop) (Xc : String → State → State → Prop) (a : Array Value) (s : State) (mc ms : Nat) (free : Addr → Prop) : State → Prop := fun t =>
  ∃ o, t.status = .running ∧ Ended t below o ∧ tx_Q Qc Xc mc ms free a s o t
/-- q is thrown over the frame g of the method that is walked -/
def tx_W (p : Program) (l : Launch) (e : Env) (R : Room) (s : State) (m : MethodId) (args : Array Value) (below : List Frame) (meth : Method) (c : Code) (H : Heap) (locs : List Loc) (cells slots : Nat) (Q : State → Prop) (g : JFrame) (q : Addr) : Prop :=
  ∀ T : State, T.heap = H → Stand p l e R s m args below meth c T locs cells slots → ∃ t, Steps p.tables e below ((T.setTop g).pushFrame (.throwing q)) t ∧ Q t
/-- how a call of such a method goes on: it came back, or q is thrown over the caller's frame -/
def tx_Run (p : Program) (l : Launch) (e : Env) (R : Room) (s : State) (m : MethodId) (args : Array Value) (below : List Frame) (meth : Method) (c : Code) (H : Heap) (locs : List Loc) (cells slots mc ms : Nat) (g : JFrame) (rest : List Value)
    (Qa : State → Outcome → State → Prop) (Xc : String → State → State → Prop) (free : Addr → Prop) : Prop :=
  ∀ T : State, T.heap = H → Stand p l e R s m args below meth c T locs cells slots →
    (∃ (v : Option Value) (st t T' : State) (L : List Loc), st.heap = H ∧ Stand p l e R s m args below meth c T' (locs ++ L) (cells + mc) (slots + ms) ∧ (∀ z ∈ L, free z.base) ∧ T'.heap = t.heap ∧ T'.vm = t.vm ∧ Qa st (.returned v) t ∧
      Goes p e below T g T' { g with pc := g.pc + 3, stack := v.toList ++ rest }) ∨
    (∃ (q : Addr) (E : String) (ce : Cell) (st t T' : State) (L : List Loc), st.heap = H ∧ Stand p l e R s m args below meth c T' (locs ++ L) (cells + mc) (slots + ms) ∧ (∀ z ∈ L, free z.base) ∧ T'.heap = t.heap ∧ T'.vm = t.vm ∧
      Xc E st t ∧ t.heap[q]? = some ce ∧ ce.vm = .none ∧ s.vm.findClass E = some ce.cls ∧
      ∀ target, Steps p.tables e below ((T'.setTop { g with stack := rest }).pushFrame (.throwing q)) target → Steps p.tables e below (T.setTop g) target)
theorem tx_heapTop (T : State) (g : JFrame) : (T.setTop g).heap = T.heap := by simp [State.setTop, State.modifyTopJava, State.setFrames]
theorem tx_vmTop (T : State) (g : JFrame) : (T.setTop g).vm = T.vm := by simp [State.setTop, State.modifyTopJava, State.setFrames]
section Core
variable {p : Program} {l : Launch} {e : Env} {R : Room} {s : State} {m : MethodId} {args : Array Value} {below : List Frame} {meth : Method} {c : Code} {T : State} {locs : List Loc} {cells slots : Nat}
theorem tx_core (X : Stand p l e R s m args below meth c T locs cells slots) {g : JFrame} (hg : g.method = m) (hsize : g.locals.size = c.maxLocals) {ig : Instr} {len : Nat} (hdg : decode c.code g.pc = .ok (ig, len))
    (hW : 2 * g.monitorRoom + (g.stack.map fun v => v.category).sum ≤ 8) {y : MethodName} {mk : MethodId} (hn : T.methodNamed? y = some mk)
    {ws : List Cond} {rm : Room} {Pc : Array Value → State → Prop} {Qc : Array Value → State → Outcome → State → Prop} {Xc : String → State → State → Prop} {mc ms : Nat} {free : Addr → Prop} {bytes : ByteArray} {maxL : Nat} {ret : Option FieldType} {a : Array Value}
    (hM : tx_Met l y ws rm Pc Qc Xc mc ms free) (hfr : rm.frames + 1 ≤ R.frames) (hlo : 8 + (maxL + 11) + rm.locals ≤ R.locals) (hws : ∀ w ∈ ws, w.before a T = true)
    (hcode : (Cond.code y bytes maxL ret).before a T = true) (hini : (Cond.initialized y.cls).before a T = true) (hrc : rm.cells = mc) (hrs : rm.slots = ms) (hc : cells + mc ≤ R.cells) (hs : slots + ms ≤ R.slots)
    (hP : Pc a (T.calling g mk a)) :
    (∃ (v : Option Value) (t T' : State) (L : List Loc), Stand p l e R s m args below meth c T' (locs ++ L) (cells + mc) (slots + ms) ∧ (∀ z ∈ L, free z.base) ∧ T'.heap = t.heap ∧ T'.vm = t.vm ∧ Qc a (T.calling g mk a) (.returned v) t ∧
      Steps p.tables e below (doInvoke e (T.setTop g) [] mk a).1 (T'.setTop { g with pc := g.pc + len, stack := v.toList ++ g.stack })) ∨
    (∃ (q : Addr) (E : String) (ce : Cell) (t T' : State) (L : List Loc), Stand p l e R s m args below meth c T' (locs ++ L) (cells + mc) (slots + ms) ∧ (∀ z ∈ L, free z.base) ∧ T'.heap = t.heap ∧ T'.vm = t.vm ∧
      Xc E (T.calling g mk a) t ∧ t.heap[q]? = some ce ∧ ce.vm = .none ∧ T.vm.findClass E = some ce.cls ∧
      Steps p.tables e below (doInvoke e (T.setTop g) [] mk a).1 ((T'.setTop g).pushFrame (.throwing q))) := by
  obtain ⟨methY, cY, hmY, hcY, -, hlY, -, -, -, -⟩ := Cond.code_spec hn hcode
  obtain ⟨kY, hkY, -⟩ := className_of_methodNamed hn
  have hinitY : kY.init = .initialized := Cond.initialized_spec (findClass_of_methodNamed hn) hkY hini
  have h : At T g.method c below := by rw [hg]; exact X.here
  have happ : (headSpec ws rm).appliesLoose y e.platform (T.calling g mk a) = true :=
    Spec.appliesLoose_calling (g := g) h hdg hn hkY hinitY
      (X.room_calling (g := g) (R' := rm) hsize hmY hcY hfr (by rw [hlY]; omega) (by rw [hrc]; exact hc) (by rw [hrs]; exact hs)) (atoms_intro hws)
  obtain ⟨mid, hmid⟩ := h.above
  have hfrs : (T.setTop g).frames = (.java g :: mid) ++ below := by rw [State.frames_setTop' g h.top, hmid]; rfl
  obtain ⟨o, s₂, hsteps, -, hend, hq⟩ := Steps.callFree hM p X.admits X.cas X.clock (acts := []) hfrs happ hP trivial
  rw [State.frames_setTop' g h.top, X.tail] at hend
  have hq' : tx_Q Qc Xc mc ms free a (T.calling g mk a) o s₂ := hq
  rcases hq' with ⟨hq1, L, ⟨⟨v, rfl⟩, hW2, hsame⟩, hL⟩ | ⟨q, rfl, E, ce, L, hx, hce, hv, hcl, hW2, hsame, hL⟩
  · obtain ⟨T', X', -, -, ht⟩ := X.outOf hg hdg hend hW2 hsame
    refine Or.inl ⟨v, s₂, T', L, X', hL, by rw [ht, tx_heapTop], by rw [ht, tx_vmTop], hq1, ?_⟩
    rw [← ht]; exact hsteps
  · obtain ⟨T', X', -, -, ht⟩ := X.outOfThrown hg hend hW2 hsame
    refine Or.inr ⟨q, E, ce, s₂, T', L, X', hL, by rw [ht, throwing_heap], by rw [ht, throwing_vm], hx, hce, hv, hcl, ?_⟩
    rw [← ht]; exact hsteps
end Core
section Runs
variable {p : Program} {l : Launch} {e : Env} {R : Room} {s : State} {m : MethodId} {args : Array Value} {below : List Frame} {meth : Method} {c : Code} {H : Heap} {locs : List Loc} {cells slots : Nat}
variable {y : MethodName} {bytes cc : ByteArray} {maxL nL mc ms n index : Nat} {ret : Option FieldType} {ws : List Cond} {rm : Room} {Pc : Array Value → State → Prop} {Qc : Array Value → State → Outcome → State → Prop} {Xc : String → State → State → Prop} {free : Addr → Prop} {Ts : List Cond} {own C : String} {b : Addr} {As rest : List Value} {g : JFrame}
/-- invokevirtual of a method that may throw -/
theorem tx_runV (S : CallFix p m c cc nL s args Ts own) (hM : tx_Met l y ws rm Pc Qc Xc mc ms free) (cw : CallW R s args own C index y bytes maxL ret ws rm mc ms n) (hp : PreV s H C b Pc As)
    (hg : g.method = m) (hn : As.length = n) (hsize : g.locals.size = nL) (hstack : g.stack = As.reverse ++ .ref b :: rest) (hW : 2 * g.monitorRoom + (rest.map fun v => v.category).sum ≤ 8) (hdg : decode cc g.pc = .ok (.invokevirtual index, 3)) (hf : cells + mc ≤ R.cells ∧ slots + ms ≤ R.slots) :
    tx_Run p l e R s m args below meth c H locs cells slots mc ms g rest (Qc (Value.ref b :: As).toArray) Xc free := by
  obtain ⟨⟨hrc, hrs, hfr, hlo, hws, hcw, hcode, hini, hy, hlen, hl⟩, hin, hse⟩ := cw
  obtain ⟨hx, hb, hml, ho, -⟩ := S
  obtain ⟨hbl, ⟨cellB, hcB, hoB, hclB⟩, hPc⟩ := hp
  intro T hT X
  obtain ⟨mk, methM, hnamed, hmethM, hstM, habM⟩ := Cond.instanceMethod_spec hin
  obtain ⟨methM', cM, hmethM', -, -, -, -, -, -, hsigM⟩ := Cond.code_spec hnamed hcode
  cases hmethM.symm.trans hmethM'
  obtain ⟨c2, r2, m2, q1, q2, q3, q4, kP, hkP, hkPi⟩ := Cond.selects_spec hse
  cases hclB.symm.trans q1
  cases (State.methodFound?_of_named hnamed hy).symm.trans q2
  cases hnamed.symm.trans q3
  have hselP : selectMethod e.platform s.vm cellB.cls mk = .method mk := by rw [Launch.admits_selectMethod X.admits]; exact q4
  obtain ⟨vm₁, X₁, hstep₁⟩ := X.invokevirtual hx ho hl hnamed hmethM hstM hkP hkPi hy (a := b) (cell := cellB) (by rw [hT]; exact hcB)
    (fun z h => by rw [h] at hoB; cases hoB) hselP hmethM habM hkP hkPi (g := g) hg (argsL := As) (rest := rest) (hn.trans (hlen _ hsigM)) hstack (by rw [hb]; exact hdg)
  have hW₁ : s.WarmedH (T.setVm vm₁).vm := X₁.warmed
  have hP := hbl _ _ { g with stack := rest } mk (hPc (T.setVm vm₁) hT hW₁)
  rcases tx_core X₁ (g := { g with stack := rest }) hg (hsize.trans hml.symm) (by rw [hb]; exact hdg) hW (X₁.named hnamed) hM hfr hlo (fun w hw => hws w hw _ _ hW₁) (hws _ hcw _ _ hW₁)
      (word_at hW₁ (Or.inl (by first | rfl | simp [Cond.onTables, Cond.keeps, Cond.steady])) hini) hrc hrs hf.1 hf.2 hP with
    ⟨v, t, T', L, X', hL, e1, e2, hq, st⟩ | ⟨q, E, ce, t, T', L, X', hL, e1, e2, hxc, hce, hv, hcl, st⟩
  · refine Or.inl ⟨v, _, t, T', L, ?_, X', hL, e1, e2, hq, fun target h => hstep₁ _ fun acts => ?_⟩
    · show (T.setVm vm₁).heap = H
      exact hT
    · rw [doInvoke_state]; exact st.trans h
  · refine Or.inr ⟨q, E, ce, _, t, T', L, ?_, X', hL, e1, e2, hxc, hce, hv, ?_, fun target h => hstep₁ _ fun acts => ?_⟩
    · show (T.setVm vm₁).heap = H
      exact hT
    · have h9 : (T.setVm vm₁).vm.findClass E = some ce.cls := hcl
      rw [← hW₁.alike.findClass]; exact h9
    · rw [doInvoke_state]; exact st.trans h
end Runs
end TXA
end
section
/-! Rows over calls with two ends; leaving by a throw; catching. -/
section TXB
variable {p : Program} {l : Launch} {e : Env} {R : Room} {s : State} {m : MethodId} {args : Array Value} {below : List Frame} {meth : Method} {c : Code} {H : Heap} {locs : List Loc} {cells slots : Nat} {Q : State → Prop}
variable {mc ms : Nat} {free : Addr → Prop} {A0 A1 : Nat → Prop} {H0 : Heap} {a : Array Value} {pc : Nat} {ls : Array Slot} {st0 rest : List Value}
/-- what a may-throw method's returns say: the value, the world behind it -/
def tx_R {S : Type} (post : Option Value → S → Prop) (B : S → State → Prop) (A : Nat → Prop) : Array Value → State → Outcome → State → Prop := fun _ st oc t =>
  (∃ (v : Option Value) (u : S), oc = .returned v ∧ post v u ∧ B u t) ∧ va_F A st t
/-- .. and what its throws say -/
def tx_X {S : Type} (px : String → S → Prop) (B : S → State → Prop) (A : Nat → Prop) : String → State → State → Prop := fun E st t => (∃ u : S, px E u ∧ B u t) ∧ va_F A st t
theorem tx_keep {st t T' : State} {L : List Loc} (h0 : st.heap = H) (e1 : T'.heap = t.heap) (hS : va_S A0 H0 H locs) (hA : ∀ q, q < H.size → A1 q → A0 q) (hf : ∀ q, free q → A0 q) (hL : ∀ q ∈ L, free q.base) (hF : va_F A1 st t) :
    H.size ≤ T'.heap.size ∧ (∀ q : Nat, q < H.size → ¬ A1 q → T'.heap[q]? = H[q]?) ∧ va_S A0 H0 T'.heap (locs ++ L) := by
  obtain ⟨hz, hk⟩ := hF
  rw [h0] at hz hk
  rw [e1]
  refine ⟨hz, hk, Nat.le_trans hS.1 hz, fun q h1 h2 => ?_, fun q hq => ?_⟩
  · rw [hk q (Nat.lt_of_lt_of_le h1 hS.1) (fun z => h2 (hA q (Nat.lt_of_lt_of_le h1 hS.1) z))]
    exact hS.2.1 q h1 h2
  · rcases List.mem_append.mp hq with h | h
    · exact hS.2.2 q h
    · exact hf _ (hL q h)
theorem tx_call {S : Type} {post : Option Value → S → Prop} {px : String → S → Prop} {B : S → State → Prop}
    (hr : tx_Run p l e R s m args below meth c H locs cells slots mc ms (F0 m pc ls st0) rest (tx_R post B A1 a) (tx_X px B A1) free) (hS : va_S A0 H0 H locs) (hA : ∀ q, q < H.size → A1 q → A0 q) (hf : ∀ q, free q → A0 q)
    (kk : ∀ (v : Option Value) (u : S) (t : State) (H1 : Heap) (locs1 : List Loc), t.heap = H1 → s.vm.Alike t.vm → post v u → B u t → H.size ≤ H1.size → (∀ q : Nat, q < H.size → ¬ A1 q → H1[q]? = H[q]?) → va_S A0 H0 H1 locs1 →
      W p l e R s m args below meth c H1 locs1 (cells + mc) (slots + ms) Q (F0 m (pc + 3) ls (v.toList ++ rest)))
    (kx : ∀ (q : Addr) (E : String) (ce : Cell) (u : S) (t : State) (H1 : Heap) (locs1 : List Loc), t.heap = H1 → s.vm.Alike t.vm → px E u → B u t → H.size ≤ H1.size → (∀ q : Nat, q < H.size → ¬ A1 q → H1[q]? = H[q]?) → va_S A0 H0 H1 locs1 →
      H1[q]? = some ce → ce.vm = .none → s.vm.findClass E = some ce.cls → tx_W p l e R s m args below meth c H1 locs1 (cells + mc) (slots + ms) Q (F0 m pc ls rest) q) :
    W p l e R s m args below meth c H locs cells slots Q (F0 m pc ls st0) := by
  intro T hT X
  rcases hr T hT X with ⟨v, st, t, T', L, h0, X', hL, e1, e2, ⟨⟨v', u, hv, hp, hB⟩, hF⟩, st1⟩ | ⟨q, E, ce, st, t, T', L, h0, X', hL, e1, e2, ⟨⟨u, hp, hB⟩, hF⟩, hce, hv, hcl, st1⟩
  · cases hv
    obtain ⟨k1, k2, k3⟩ := tx_keep h0 e1 hS hA hf hL hF
    have hal : s.vm.Alike t.vm := by rw [← e2]; exact X'.warmed.alike
    obtain ⟨z, a1, b1⟩ := kk v u t T'.heap (locs ++ L) e1.symm hal hp hB k1 k2 k3 T' rfl X'
    exact ⟨z, st1 _ a1, b1⟩
  · obtain ⟨k1, k2, k3⟩ := tx_keep h0 e1 hS hA hf hL hF
    have hal : s.vm.Alike t.vm := by rw [← e2]; exact X'.warmed.alike
    obtain ⟨z, a1, b1⟩ := kx q E ce u t T'.heap (locs ++ L) e1.symm hal hp hB k1 k2 k3 (by rw [e1]; exact hce) hv hcl T' rfl X'
    exact ⟨z, st1 _ a1, b1⟩
section Ends
variable {Qc : Array Value → State → Outcome → State → Prop} {Xc : String → State → State → Prop}
/-- a return in a body that may throw -/
theorem tx_ret {g : JFrame} (k : W p l e R s m args below meth c H locs cells slots (MQ below Qc args s mc ms free) g) : W p l e R s m args below meth c H locs cells slots (tx_MQ below Qc Xc args s mc ms free) g := by
  intro T hT X
  obtain ⟨t, a1, o, b1, b2, b3⟩ := k T hT X
  exact ⟨t, a1, o, b1, b2, Or.inl b3⟩
theorem tx_wider {g : JFrame} {q : Addr} {k n : Nat} (h1 : cells ≤ k) (h2 : slots ≤ n) (kk : tx_W p l e R s m args below meth c H locs k n Q g q) : tx_W p l e R s m args below meth c H locs cells slots Q g q :=
  fun T hT X => kk T hT (stand_widen X h1 h2)
/-- nothing in this method catches: the throw goes on to the caller -/
theorem tx_out {E : String} {ce : Cell} {q : Addr} (hnt : ∀ x ∈ c.exceptionTable.toList, False) (hlocks : meth.locks = false) (hcell : H[q]? = some ce) (hv : ce.vm = .none) (hcl : s.vm.findClass E = some ce.cls)
    (hx : ∀ t : State, t.heap = H → s.WarmedH t.vm → Xc E s t) (hf : ∀ z ∈ locs, free z.base) :
    tx_W p l e R s m args below meth c H locs mc ms (tx_MQ below Qc Xc args s mc ms free) (F0 m pc ls rest) q := by
  intro T hT X
  obtain ⟨st, hrun, hend, hW, hsame⟩ := X.leaveThrown q (g := F0 m pc ls rest) rfl rfl rfl (fun x hx => absurd (hnt x hx) id) hlocks
  refine ⟨_, st, .threw q, hrun, hend, Or.inr ⟨q, rfl, E, ce, locs, hx _ hT hW, ?_, hv, hcl, hW, hsame, hf⟩⟩
  show T.heap[q]? = some ce
  rw [hT]; exact hcell
end Ends
/-- the body of a may-throw method without a table of its own gives its contract -/
theorem tx_ofW {y : MethodName} {ws ws' : List Cond} {rm : Room} {Pc : Array Value → State → Prop} {Qc : Array Value → State → Outcome → State → Prop} {Xc : String → State → State → Prop} {cc : ByteArray} {maxL : Nat} {ret : Option FieldType}
    (hy : plainName y.cls = true) (hw : ws = Cond.code y cc maxL ret :: ws')
    (body : ∀ p e s m args below meth c s₁, BodyLoose p l y (headSpec ws rm) cc maxL ret e s m args below meth c s₁ → c.maxLocals = maxL → (∀ x ∈ c.exceptionTable.toList, False) → Pc args s →
      W p l e (headSpec ws rm).room s m args below meth c s.heap [] 0 0 (tx_MQ below Qc Xc args s mc ms free) (entryFrame m args maxL)) : tx_Met l y ws rm Pc Qc Xc mc ms free := by
  have hcw : Cond.code y cc maxL ret ∈ ws := by rw [hw]; exact List.mem_cons_self
  refine MetFree.of_bodyS (code := cc) (maxLocals := maxL) (ret := ret) hy (fun args s m h hn => ?_) (fun p e s m args below meth c s₁ B hml hP _ => ?_)
  · obtain ⟨meth, c, h1, h2, h3, h4, h5, h6, -, -⟩ := Cond.code_spec hn (atoms_spec (ws := ws) h _ hcw)
    exact ⟨meth, c, h1, h2, h3, h4, h5, h6⟩
  · have hh0 : s₁.heap = s.heap := by rw [B.state]; rfl
    have ht : ∀ x ∈ c.exceptionTable.toList, False := by
      obtain ⟨meth9, c9, h1, h2, -, -, -, -, h7, -⟩ := Cond.code_spec B.named (atoms_spec (ws := ws) B.pre _ hcw)
      cases Option.some.inj (h1.symm.trans B.method)
      cases Option.some.inj (h2.symm.trans (Stand.of_body B).code)
      intro x hx
      rw [Array.isEmpty_iff.mp h7] at hx
      cases hx
    obtain ⟨t, a1, o, b1, b2, b3⟩ := body p e s m args below meth c s₁ B hml ht hP s₁ hh0 (Stand.of_body B)
    exact ⟨t, o, a1, b1, b2, b3⟩
/-! a handler is found -/
/-- the first entry that covers pc and takes the class k is at h; those ahead that cover it name other classes -/
def tx_fits (pl : Platform) (s0 : State) (d : ClassId) (pc : Nat) (k : ClassId) : List ExceptionTableEntry → Nat → Prop
  | [], _ => False
  | x :: r, h => (covers x pc = false ∧ tx_fits pl s0 d pc k r h) ∨ (covers x pc = true ∧ x.catchType ≠ 0 ∧ ∃ cc, s0.vm.ClassLinks pl d x.catchType cc ∧ ((s0.vm.assignable k cc = true ∧ x.handlerPc = h) ∨ (s0.vm.assignable k cc = false ∧ tx_fits pl s0 d pc k r h)))
theorem tx_go {s0 : State} {f : JFrame} {q : Addr} {ce : Cell} (hv : ce.vm = .none) {k0 : Class} (hk0 : s0.vm.classes[ce.cls]? = some k0) {h : Nat} :
    ∀ (L : List ExceptionTableEntry) (S : State), s0.WarmedH S.vm → S.heap[q]? = some ce → tx_fits e.platform s0 f.method.cls f.pc ce.cls L h →
      ∃ vm', s0.WarmedH vm' ∧ ∀ (Q : Handler → Pre) (E : CtlPost) (d : Bool) (acts : List Action), wp (findHandler.go f q L) Q E e d acts S ↔ Q (.found h) d acts (S.setVm vm') := by
  intro L
  induction L with
  | nil => intro S _ _ hf; exact absurd hf id
  | cons x r ih =>
    intro S hW hce hf
    rcases hf with ⟨hx, hr⟩ | ⟨hx, h0, cc, hl, hcase⟩
    · obtain ⟨vm', hW', hq⟩ := ih S hW hce hr
      exact ⟨vm', hW', fun Q E d acts => (W.findHandler_go_skip hx).trans (hq Q E d acts)⟩
    · obtain ⟨dk, _, _, kt, hd, _, _, _, _, hkt, _, hopen⟩ := hl.here
      have hl' := hW.classLinks hl
      have hWn : s0.WarmedH (S.vm.noted f.method.cls x.catchType (.cls cc)) := hW.noted hd hopen (State.rightAt_cls hl)
      obtain ⟨ha, ht⟩ := (resolveClass_links e.toSetting hl').op (op := VmOp.resolveClass f.method.cls x.catchType) rfl
      obtain ⟨k1, hk1, -⟩ := hWn.alike.2.2 _ _ hk0
      obtain ⟨k2, hk2, -⟩ := hWn.alike.2.2 _ _ hkt
      have hobj : ∀ z, ce.vm ≠ .statics z := fun z hz => by rw [hv] at hz; cases hz
      have hcov : (decide (x.startPc ≤ f.pc) && decide (f.pc < x.endPc)) = true := hx
      rcases hcase with ⟨hfit, hh⟩ | ⟨hno, hr⟩
      · have hfit' : (S.vm.noted f.method.cls x.catchType (.cls cc)).assignable ce.cls cc = true := by rw [hWn.alike.assignable]; exact hfit
        refine ⟨_, hWn, fun Q E d acts => ?_⟩
        rw [← hh]
        simp [findHandler.go, hcov, h0, ha, ht, hce, hobj, hk1, hk2, hfit', VmOp.dirties, VmOp.acts]
      · have hno' : (S.vm.noted f.method.cls x.catchType (.cls cc)).assignable ce.cls cc = false := by rw [hWn.alike.assignable]; exact hno
        obtain ⟨vm', hW', hq⟩ := ih (S.setVm (S.vm.noted f.method.cls x.catchType (.cls cc))) hWn hce hr
        refine ⟨vm', hW', fun Q E d acts => ?_⟩
        refine Iff.trans ?_ (hq Q E d acts)
        simp [findHandler.go, hcov, h0, ha, ht, hce, hobj, hk1, hk2, hno', VmOp.dirties, VmOp.acts]
theorem tx_frames2 (u : State) (vm' : Vm) (F G : List Frame) : ((u.setFrames F).setVm vm').setFrames G = (u.setVm vm').setFrames G := by
  show (((u.setVm vm').setFrames F)).setFrames G = _
  rw [State.setFrames_setFrames]
/-- caught in this method: it goes on at the handler, the exception alone on the stack -/
theorem tx_catch {E : String} {ce : Cell} {q : Addr} {h : Nat} (hcell : H[q]? = some ce) (hv : ce.vm = .none) (hcl : s.vm.findClass E = some ce.cls)
    (hfit : e.platform.magicAccessors = ({} : Platform).magicAccessors → tx_fits e.platform s m.cls pc ce.cls c.exceptionTable.toList h)
    (kk : W p l e R s m args below meth c H locs cells slots Q (F0 m h ls [.ref q])) : tx_W p l e R s m args below meth c H locs cells slots Q (F0 m pc ls rest) q := by
  intro T hT X
  have hpl : e.platform.magicAccessors = ({} : Platform).magicAccessors := by rw [X.admits.platform]
  obtain ⟨k0, hk0, -⟩ := Vm.findClass_spec hcl
  have hg0 : (F0 m pc ls rest).method = m := rfl
  obtain ⟨vm', hW', hq⟩ := tx_go (e := e) (s0 := s) (f := F0 m pc ls rest) (q := q) hv hk0 c.exceptionTable.toList ((T.setTop (F0 m pc ls rest)).pushFrame (.throwing q)) X.warmed (by rw [throwing_heap, hT]; exact hcell) (hfit hpl)
  obtain ⟨t, a1, b1⟩ := kk (T.setVm vm') hT (X.noted hW')
  refine ⟨t, ?_, b1⟩
  have hAt : At T (F0 m pc ls rest).method c below := X.here
  obtain ⟨hgo, hw⟩ := hAt.throwing q
  refine Steps.head hgo hw ?_
  have hstep : (stepThrowing e ((T.setTop (F0 m pc ls rest)).pushFrame (.throwing q)) q (.java (F0 m pc ls rest) :: T.frames.tail)).Is ((((T.setTop (F0 m pc ls rest)).pushFrame (.throwing q)).setVm vm').setFrames (.java (F0 m h ls [.ref q]) :: T.frames.tail)) [] := by
    simp only [stepThrowing, searchFrame, vmDo]
    generalize hr : Sem.go _ e false [] ((T.setTop (F0 m pc ls rest)).pushFrame (.throwing q)) = res
    obtain ⟨as, rfl, ha⟩ := Sem.eq_ok_of hr (a := Handler.found h) (s' := ((T.setTop (F0 m pc ls rest)).pushFrame (.throwing q)).setVm vm') (acts' := []) (by
      have hm : ((T.setTop (F0 m pc ls rest)).pushFrame (.throwing q)).vm.method? (F0 m pc ls rest).method = some meth := by rw [throwing_vm]; exact X.method'
      simp [W.findHandler_eq hm X.code, hq _ _ _ _])
    exact ⟨rfl, ha⟩
  rw [stepThread_throwing (frames_entered hAt.top _), hstep.1]
  obtain ⟨g₀, hr⟩ := X.frames_eq
  have hr' : (T.setVm vm').frames = .java g₀ :: below := hr
  rw [State.setTop_of_frames _ hr'] at a1
  rw [hr, List.tail_cons, State.pushFrame, tx_frames2, State.setTop_of_frames _ hr, tx_frames2]
  exact a1
end TXB
end
section
/-! throw new E("text") in the middle of a method -/
section TXC
/-- the words of a throw that look at the heap -/
def tx_four : List Cond := [.laysStatic Bundle.tN "UNASSIGNED_STACK" Bundle.steD, .laysStatic Bundle.tN "SUPPRESSED_SENTINEL" Bundle.listD, .isRef (.static Bundle.tN "UNASSIGNED_STACK" Bundle.steD), .isRef (.static Bundle.tN "SUPPRESSED_SENTINEL" Bundle.listD)]
/-- they hold in every state that has these tables, and this heap outside A -/
def tx_Z (A : Nat → Prop) (U : State) (H : Heap) : Prop := ∀ (V : State) (ar : Array Value), U.vm.Alike V.vm → (∀ q : Nat, q < H.size → ¬ A q → V.heap[q]? = H[q]?) → ∀ w ∈ tx_four, w.before ar V = true
theorem tx_Z.moved {A : Nat → Prop} {u U : State} {H : Heap} (hvm : u.vm.Alike U.vm) (h : tx_Z A u H) : tx_Z A U H := fun V ar hv hq => h V ar (hvm.trans hv) hq
theorem tx_Z.kept {A : Nat → Prop} {U : State} {H H1 : Heap} (h : tx_Z A U H) (hz : H.size ≤ H1.size) (hq : ∀ q : Nat, q < H.size → ¬ A q → H1[q]? = H[q]?) : tx_Z A U H1 :=
  fun V ar hv h1 => h V ar hv (fun q a b => (h1 q (Nat.lt_of_lt_of_le a hz) b).trans (hq q a b))
theorem tx_Z.narrow {A B : Nat → Prop} {U : State} {H : Heap} (h : tx_Z A U H) (hAB : ∀ q, q < H.size → B q → A q) : tx_Z B U H :=
  fun V ar hv h1 => h V ar hv (fun q a b => h1 q a (fun z => b (hAB q a z)))
theorem tx_lays {ar ar' : Array Value} {s V : State} {C n d : String} (h : (Cond.laysStatic C n d).before ar s = true) (hal : s.vm.Alike V.vm) (hk : ∀ q : Nat, q < s.heap.size → V.heap[q]? = s.heap[q]?) :
    (Cond.laysStatic C n d).before ar' V = true ∧ ((Cond.isRef (.static C n d)).before ar s = true → (Cond.isRef (.static C n d)).before ar' V = true) := by
  obtain ⟨c, k, i, f, a, cell, h1, h2, h3, h4, h5, h6, h7, h8, h9⟩ := Cond.laysStatic_spec h
  obtain ⟨k', hi', he⟩ := State.fieldFound?_setVm hal h2
  have hi2 : V.fieldFound? C n d = some (c, k', i, f) := hi'
  have h5' : V.heap[a]? = some cell := by rw [hk a (Array.getElem?_eq_some_iff.mp h5).1]; exact h5
  have h4' : k'.statics = some a := by rw [he]; exact h4
  refine ⟨?_, fun hr => ?_⟩
  · show (Cond.laysStatic C n d).holds ar' V none V [] = true
    exact Cond.laysStatic_of (by rw [hal.findClass]; exact h1) hi' h3 h4' h5' h6 h7 h8 (by rw [he]; exact h9)
  · have e1 : (Term.static C n d).eval ar s none [] s = cell.slots[f.slot]? := by simp [Term.eval, State.fieldNamed?, h2, h3, h4, h5, h6]
    have e2 : (Term.static C n d).eval ar' V none [] V = cell.slots[f.slot]? := by simp [Term.eval, State.fieldNamed?, hi2, h3, h4', h5', h6]
    simp only [Cond.before, Cond.holds, Cond.value, e1] at hr
    simp only [Cond.before, Cond.holds, Cond.value, e2]
    exact hr
theorem tx_Zof {ar : Array Value} {s : State} {A : Nat → Prop} (h : ∀ w ∈ tx_four, w.before ar s = true) (hA : ∀ q : Nat, q < s.heap.size → ¬ A q) : tx_Z A s s.heap := by
  intro V ar' hal hq w hw
  have hk : ∀ q : Nat, q < s.heap.size → V.heap[q]? = s.heap[q]? := fun q h1 => hq q h1 (hA q h1)
  have a1 := tx_lays (ar' := ar') (h _ (show Cond.laysStatic Bundle.tN "UNASSIGNED_STACK" Bundle.steD ∈ tx_four from List.mem_cons_self)) hal hk
  have a2 := tx_lays (ar' := ar') (h _ (show Cond.laysStatic Bundle.tN "SUPPRESSED_SENTINEL" Bundle.listD ∈ tx_four from List.mem_cons_of_mem _ List.mem_cons_self)) hal hk
  simp only [tx_four, List.mem_cons, List.not_mem_nil, or_false] at hw
  rcases hw with rfl | rfl | rfl | rfl
  · exact a1.1
  · exact a2.1
  · exact a1.2 (h _ (List.mem_cons_of_mem _ (List.mem_cons_of_mem _ List.mem_cons_self)))
  · exact a2.2 (h _ (List.mem_cons_of_mem _ (List.mem_cons_of_mem _ (List.mem_cons_of_mem _ List.mem_cons_self))))
/-- a list of words at another state of the same tables: each is one of the method's words and looks at tables alone, or is one of the four -/
theorem tx_atoms {Ts L : List Cond} {ar : Array Value} {s V : State} (hts : ∀ w ∈ Ts, w.before ar s = true) (hvm : s.vm = V.vm) (hz : ∀ w ∈ tx_four, w.before ar V = true)
    (hL : L.all (fun w => (decide (w ∈ Ts) && w.onTables) || decide (w ∈ tx_four)) = true) : ∀ w ∈ L, w.before ar V = true := by
  intro w hw
  have h := List.all_eq_true.mp hL w hw
  simp only [Bool.or_eq_true, Bool.and_eq_true, decide_eq_true_eq] at h
  rcases h with ⟨h1, h2⟩ | h1
  · exact va_tabs h2 hvm (hts w h1)
  · exact hz w h1
variable {p : Program} {l : Launch} {e : Env} {R : Room} {s : State} {m : MethodId} {args : Array Value} {below : List Frame} {meth : Method} {c : Code} {H : Heap} {locs : List Loc} {cells slots : Nat}
/-- the method as if it had been called just now, in this heap -/
theorem tx_anew {T : State} (X : Stand p l e R s m args below meth c T locs cells slots) {k n : Nat} (hc : cells + k ≤ R.cells) (hs : slots + n ≤ R.slots) :
    Stand p l e { frames := R.frames, cells := k, slots := n, locals := R.locals } ((T.setVm s.vm).setFrames (.invoking m args :: below)) m args below meth c T [] 0 0 := by
  obtain ⟨g₀, hg0⟩ := X.frames_eq
  have hg1 : (T.setVm s.vm).frames = .java g₀ :: below := hg0
  have hF : ((T.setVm s.vm).setFrames (.invoking m args :: below)).frames = .invoking m args :: below := State.frames_setFrames _ (State.cur_lt_of_frames hg1)
  have hlim : e.platform.stackLimits (T.setVm s.vm).me = e.platform.stackLimits s.me := X.limits
  have hby : (T.setVm s.vm).me.stackBytes = s.me.stackBytes := X.bytes
  refine ⟨X.admits, X.cas, X.clock, hF, ?_, X.hears, X.method, X.code, X.here, X.tail, X.warmed, by rw [State.stackLimits_setFrames]; rfl, by rw [State.stackBytes_setFrames]; rfl, ?_⟩
  · have h := X.room
    have hU : ((T.setVm s.vm).setFrames (.invoking m args :: below)).localsInUse = s.localsInUse := by
      rw [State.localsInUse_invoking hF (meth := meth) (c := c) X.method X.code, State.localsInUse_invoking X.frames X.method X.code]
    simp only [State.hasRoom, Bool.and_eq_true, decide_eq_true_eq] at h ⊢
    obtain ⟨⟨⟨⟨h1, h2, h3, h4, h5, h6⟩, h7⟩, h8⟩, h9⟩ := h
    rw [X.frames] at h2 h3
    have q1 := X.heapSize
    have q2 := X.used
    rw [hF, hU, State.stackLimits_setFrames, State.stackBytes_setFrames, hlim, hby]
    refine ⟨⟨⟨⟨h1, h2, h3, h4, h5, h6⟩, ?_⟩, ?_⟩, X.book⟩
    · show T.heap.size + k ≤ e.platform.maxCells
      omega
    · show T.slotsUsed + n ≤ e.platform.maxSlots
      omega
  · obtain ⟨t, ht, -⟩ := State.frames_cons hg1
    have hd : T.heap.toList.drop T.heap.size = [] := List.drop_eq_nil_of_le (Nat.le_of_eq Array.length_toList)
    refine ⟨?_, Nat.le_refl _, Nat.le_refl _, ?_, ?_, fun a c9 h9 => ⟨c9, h9, rfl, rfl, fun _ _ => rfl⟩⟩
    · show T.setVm s.vm = { ((T.setVm s.vm).setFrames (.invoking m args :: below)).setFrames (T.setVm s.vm).frames with heap := T.heap, slotsUsed := T.slotsUsed }
      rw [State.setFrames_setFrames, State.setFrames_self ht]
      rfl
    · show T.slotsUsed = T.slotsUsed + ((T.heap.toList.drop T.heap.size).map (·.slots.size)).sum
      rw [hd]; rfl
    · show ((T.heap.toList.drop T.heap.size).map (·.slots.size)).sum ≤ 0
      rw [hd]; exact Nat.le_refl _
variable {mc ms : Nat} {free : Addr → Prop} {Qc : Array Value → State → Outcome → State → Prop} {Xc : String → State → State → Prop}
theorem tx_throwS {cc : ByteArray} {pc : Nat} {ls : Array Slot} {rest : List Value} (hexec : p.tables.exec = Jvm.exec) (hb : c.code = cc) (hl : l.stackTraces = false) {own cls text : String} {names : List String} {ik is ic sa : Nat} {A : Nat → Prop} {Ts : List Cond}
    (hown : s.vm.findClass own = some m.cls) (hts : ∀ w ∈ Ts, w.before args s = true) (hz : tx_Z A s s.heap) (hS : va_S A s.heap H locs) (hcls : Bundle.fit cls = true) (hnames : ∀ n ∈ names, Bundle.fit n = true)
    (hw : (Cond.classLink own ik cls :: Cond.initialized cls :: Bundle.ownAtoms own ic cls names).all (fun w => (decide (w ∈ Ts) && w.onTables) || decide (w ∈ tx_four)) = true) (hstr : vk_R own is text sa s)
    (hsize : ls.size = c.maxLocals) (d0 : decode cc pc = .ok (.new ik, 3)) (d3 : decode cc (pc + 3) = .ok (.dup, 1)) (d4 : decode cc (pc + 4) = .ok (.ldc is, 2)) (d6 : decode cc (pc + 6) = .ok (.invokespecial ic, 3)) (d9 : decode cc (pc + 9) = .ok (.athrow, 1))
    (hnt : ∀ x ∈ c.exceptionTable.toList, False) (hRf : names.length + 3 < R.frames) (hRl : (rest.map fun v => v.category).sum + (13 * (names.length + 1) + 43) ≤ R.locals) (hRc : cells + 1 ≤ R.cells) (hRs : slots + 6 ≤ R.slots) (hlocks : meth.locks = false)
    (hx : ∀ t : State, s.vm.Alike t.vm → H.size ≤ t.heap.size → (∀ q : Nat, q < H.size → t.heap[q]? = H[q]?) → Xc cls s t) (hf : ∀ z ∈ locs, free z.base) (hc : cells + 1 ≤ mc) (hs : slots + 6 ≤ ms) :
    W p l e R s m args below meth c H locs cells slots (tx_MQ below Qc Xc args s mc ms free) (F0 m pc ls rest) := by
  intro T hT X
  have htr : e.platform.stackTraces = false := (show e.platform.stackTraces = l.stackTraces by rw [X.admits.platform]).trans hl
  have Y := tx_anew X hRc hRs
  obtain ⟨s', hs'⟩ : ∃ z, z = (T.setVm s.vm).setFrames (.invoking m args :: below) := ⟨_, rfl⟩
  rw [← hs'] at Y
  have hvm : s.vm = s'.vm := by rw [hs']; rfl
  have hhp : s'.heap = H := by rw [hs']; exact hT
  have hal0 : s.vm.Alike s'.vm := by rw [← hvm]; exact Vm.Alike.refl s.vm
  have hfour : ∀ w ∈ tx_four, w.before args s' = true := (hz.kept hS.1 hS.2.1) s' args hal0 (fun q h1 _ => by rw [hhp])
  have hall := tx_atoms hts hvm hfour hw
  have hk' : (Cond.classLink own ik cls).before args s' = true := hall _ List.mem_cons_self
  have hini' : (Cond.initialized cls).before args s' = true := hall _ (List.mem_cons_of_mem _ List.mem_cons_self)
  have hat : ∀ w ∈ Bundle.ownAtoms own ic cls names, w.before args s' = true := fun w h => hall w (List.mem_cons_of_mem _ (List.mem_cons_of_mem _ h))
  have hown' : s'.vm.findClass own = some m.cls := by rw [← hvm]; exact hown
  have hins : (Cond.instantiable cls 6).before args s' = true := hat _ (by simp [Bundle.ownAtoms])
  obtain ⟨vm₁, cX, kX, hfX, hkX, -, -, X₁, st1⟩ := Y.newCold hexec (own := own) (C := cls) (index := ik) (n := 6) hown' hk' hins hini'
    (g := F0 m pc ls rest) rfl (by rw [hb]; exact d0) (Nat.le_refl _) (Nat.le_refl _)
  generalize hT1 : (T.setVm vm₁).pushCell { cls := cX, slots := kX.instanceTypes.map defaultValue, vm := .none } = T1 at X₁ st1
  have hcat : (Value.ref T.heap.size).category = 1 := rfl
  have hcellA : T1.heap[T.heap.size]? = some (freshCell cX kX) := by rw [← hT1]; exact State.heap_pushCell_size _ _
  have hstr' : vk_R own is text sa s' := vk_R.same hvm.symm hstr
  obtain ⟨U, hsteps, hrun, hend, hW, hsame, ce, hce, hO⟩ := X₁.ctorThrowS hexec htr (own := own) (cls := cls) (names := names) (ic := ic) hown' hcls hnames hat (fun x hx => nomatch hx) hfX hkX hcellA (by rw [hhp, hT]; exact Nat.le_refl _) (msg := .ref sa) rfl
    (g := { method := m, pc := pc + 6, locals := ls, stack := .ref sa :: .ref T.heap.size :: .ref T.heap.size :: rest, locked := none }) rfl hsize rfl rfl (rest := rest) rfl
    (by rw [hb]; exact d6) (by rw [hb]; exact d9) (fun x hx => absurd (hnt x hx) id) hRf (by simp only [List.map_cons, List.sum_cons, hcat]; omega) hlocks
  have hW0 : s.WarmedH s'.vm := by rw [← hvm]; exact State.WarmedH.refl s
  have hWs : s.WarmedH U.vm := State.WarmedH.trans hW0 hW
  have hold : s'.heap.size ≤ U.heap.size ∧ ∀ q : Nat, q < s'.heap.size → U.heap[q]? = s'.heap[q]? := by
    obtain ⟨-, z1, -, -, -, z2⟩ := hsame
    refine ⟨z1, fun q hq => ?_⟩
    obtain ⟨c1, y1, y2, y3, y4⟩ := z2 q s'.heap[q] (Array.getElem?_eq_getElem hq)
    rw [Array.getElem?_eq_getElem hq]
    have y1' : U.heap[q]? = some c1 := y1
    have hsl : c1.slots = (s'.heap[q]).slots := Array.ext_getElem? fun i => y4 i (fun h => nomatch h)
    rw [hsl] at y2
    rw [y1']
    exact congrArg some y2
  rw [hhp] at hold
  have hcl : s.vm.findClass cls = some ce.cls := by rw [hvm]; exact hO.cls
  have hsm : s.sameButNew ({ U with vm := s.vm } : State) locs mc ms := by
    subst hs'
    obtain ⟨e1, e2⟩ := hsame
    rw [State.setFrames_setFrames] at e1
    have h2 : (T.setVm s.vm).sameButNew ({ U with vm := s.vm } : State) [] (0 + 1) (0 + 6) := ⟨e1, e2⟩
    have h3 := X.same.trans h2
    rw [List.append_nil] at h3
    exact h3.mono hc hs
  refine ⟨U, ?_, .threw T.heap.size, hrun, hend, Or.inr ⟨T.heap.size, rfl, cls, ce, locs, hx U hWs.alike hold.1 hold.2, hce, hO.vm, hcl, hWs, hsm, hf⟩⟩
  refine st1 _ ?_
  have d3' : decode c.code (pc + 3) = .ok (.dup, 1) := by rw [hb]; exact d3
  have d4' : decode c.code (pc + 4) = .ok (.ldc is, 2) := by rw [hb]; exact d4
  show Steps p.tables e below (T1.setTop { method := m, pc := pc + 3, locals := ls, stack := .ref T.heap.size :: rest, locked := none }) _
  jvm_step X₁.here [X₁.here.top, hexec, d3', Value.category]
  exact X₁.ldcString hexec (own := own) (text := text) (index := is) (a := sa) hown' hstr'.1 hstr'.2
    (g := { method := m, pc := pc + 4, locals := ls, stack := .ref T.heap.size :: .ref T.heap.size :: rest, locked := none }) rfl d4' _ hsteps
end TXC
end
section
/-! new int[n][k]: an outer array of n references, and behind it n rows of k ints -/
section GX
def gx_row (comp : ClassId) (M : Nat) : Cell := arrV comp M (fun _ => .int 0)
def gx_out (cA : ClassId) (N h i : Nat) : Cell := arrV cA N (fun j => if j < i then Value.ref (h + 1 + j) else Value.null)
theorem gx_out_size (cA : ClassId) (N h i : Nat) : (gx_out cA N h i).slots.size = N := arrV_size _ _ _
theorem gx_out_0 (cA : ClassId) (N h : Nat) : ({ cls := cA, slots := Array.replicate N .null, vm := .none } : Cell) = gx_out cA N h 0 := by
  rw [arrV_new]
  unfold gx_out
  congr 1
theorem gx_out_s (cA : ClassId) (N h i : Nat) : (gx_out cA N h i).setSlot i (.ref (h + 1 + i)) = gx_out cA N h (i + 1) := by
  unfold gx_out
  rw [arrV_store]
  congr 1
  funext j
  by_cases e : j = i
  · subst e; simp [updV]
  · by_cases hj : j < i
    · simp [updV, e, hj, Nat.lt_succ_of_lt hj]
    · simp [updV, e, hj, show ¬ j < i + 1 by omega]
/-- the state with the outer array and i rows laid -/
def gx (T : State) (cA comp : ClassId) (N M : Nat) : Nat → State
  | 0 => T.pushCell (gx_out cA N T.heap.size 0)
  | i + 1 => ((gx T cA comp N M i).pushCell (gx_row comp M)).setCell T.heap.size (gx_out cA N T.heap.size (i + 1))
theorem gx_all (T : State) (cA comp : ClassId) (N M : Nat) : ∀ i, (gx T cA comp N M i).heap.size = T.heap.size + 1 + i ∧ (gx T cA comp N M i).vm = T.vm ∧ (gx T cA comp N M i).slotsUsed = T.slotsUsed + N + i * M ∧
    (gx T cA comp N M i).heap[T.heap.size]? = some (gx_out cA N T.heap.size i) ∧ (∀ q : Nat, q < T.heap.size → (gx T cA comp N M i).heap[q]? = T.heap[q]?) ∧ ∀ j, j < i → (gx T cA comp N M i).heap[T.heap.size + 1 + j]? = some (gx_row comp M)
  | 0 => ⟨by simp [gx], rfl, by simp [gx, gx_out_size], by simp [gx], fun q h => State.heap_pushCell_of_lt _ _ h, fun j h => absurd h (Nat.not_lt_zero _)⟩
  | i + 1 => by
    obtain ⟨a, b, d, f, u, v⟩ := gx_all T cA comp N M i
    have hlt : T.heap.size < (gx T cA comp N M i).heap.size := by omega
    have hf : ((gx T cA comp N M i).pushCell (gx_row comp M)).heap[T.heap.size]? = some (gx_out cA N T.heap.size i) := by rw [State.heap_pushCell_of_lt (h := hlt)]; exact f
    have hrs : (gx_row comp M).slots.size = M := arrV_size _ _ _
    refine ⟨?_, by simp [gx, b], ?_, State.heap_setCell_self hf, fun q hq => ?_, fun j hj => ?_⟩
    · simp [gx, State.setCell, a]; omega
    · simp [gx, d, hrs, Nat.succ_mul]; omega
    · show (((gx T cA comp N M i).pushCell (gx_row comp M)).setCell T.heap.size _).heap[q]? = _
      rw [State.heap_setCell_other (Nat.ne_of_gt hq), State.heap_pushCell_of_lt (h := (show q < (gx T cA comp N M i).heap.size by omega))]
      exact u q hq
    · show (((gx T cA comp N M i).pushCell (gx_row comp M)).setCell T.heap.size _).heap[T.heap.size + 1 + j]? = _
      rw [State.heap_setCell_other (show T.heap.size ≠ T.heap.size + 1 + j by omega)]
      rcases Nat.lt_or_ge j i with h | h
      · rw [State.heap_pushCell_of_lt (h := (show T.heap.size + 1 + j < (gx T cA comp N M i).heap.size by omega))]
        exact v j h
      · have e : j = i := by omega
        subst e
        rw [← a]
        exact State.heap_pushCell_size _ _
theorem gx_top (T : State) (f : JFrame) (cA comp : ClassId) (N M : Nat) : ∀ i, gx (T.setTop f) cA comp N M i = (gx T cA comp N M i).setTop f
  | 0 => rfl
  | i + 1 => by simp only [gx, gx_top T f cA comp N M i, State.heap_setTop, State.pushCell_setTop, State.setCell_setTop]
section GXW
variable {E : CtlPost} {e : Env} {d : Bool} {acts : List Action} {s : State}
theorem gx_newArray {c comp : ClassId} {k : Class} {type : FieldType} {len : Nat} {init : Value} (hk : s.vm.classes[c]? = some k) (hkind : k.kind = .array comp type)
    (hlimit : ¬ len > e.platform.arrayLengthLimit) (hheap : ¬ len * componentBytes type > e.platform.maxHeapBytes) (hfit : fits type init = true) (hdef : init.isDefault = true) {Q : Addr → Pre}
    (h1 : s.heap.size < e.platform.maxCells) (h2 : s.slotsUsed + len ≤ e.platform.maxSlots) (hq : Q s.heap.size d acts (s.pushCell { cls := c, slots := Array.replicate len init, vm := .none })) :
    wp (Jvm.newArray c len init) Q E e d acts s := by
  have hfits : ∀ i v, (Array.replicate len init)[i]? = some v → s.fitsSlot c .none i v = true := by
    intro i v hv
    rw [Array.getElem?_replicate] at hv
    split at hv
    · cases hv; simp [State.fitsSlot, State.slotType?, hk, hkind, hfit]
    · cases hv
  have hda : allocActs (Array.replicate len init) s.heap.size acts = acts := by
    have hall : ((Array.replicate len init).all (·.isDefault)) = true := by
      rw [Array.all_replicate]; split <;> simp [hdef]
    unfold allocActs; rw [if_pos hall]
  simp only [Jvm.newArray, Jvm.arrayFits, wp_bind', W.ask, W.ite, hlimit, if_false, wp_pure', W.theClass, hk, hkind, hheap, W.alloc, W.stop, Option.some.injEq, exists_eq_left', Array.size_replicate, hda]
  rw [if_neg (by omega)]
  exact ⟨h1, h2, hfits, hq⟩
theorem gx_make {c comp cc : ClassId} {k kc : Class} {n m : Int32} {N M : Nat} (hk : s.vm.classes[c]? = some k) (hkind : k.kind = .array comp (.array .int)) (hkc : s.vm.classes[comp]? = some kc) (hkindc : kc.kind = .array cc .int)
    (hn : ¬ n < 0) (hm : ¬ m < 0) (hN : n.toNatClampNeg = N) (hM : m.toNatClampNeg = M) (hl1 : ¬ N > e.platform.arrayLengthLimit) (hh1 : ¬ N * componentBytes (.array .int) > e.platform.maxHeapBytes) (hl2 : ¬ M > e.platform.arrayLengthLimit) (hh2 : ¬ M * componentBytes .int > e.platform.maxHeapBytes)
    (hc : s.heap.size + 1 + N ≤ e.platform.maxCells) (hs : s.slotsUsed + N + N * M ≤ e.platform.maxSlots) {Q : Addr → Pre} (hq : ∀ d' acts', Q s.heap.size d' acts' (gx s c comp N M N)) :
    wp (Op.multianewarray.make c [n, m]) Q E e d acts s := by
  have hfind : ([m].find? (· < 0)) = none := by simp [hm]
  rw [Op.multianewarray.make]
  simp only [wp_bind', W.ite, hn, if_false, wp_pure', W.theClass, hk, hkind, Option.some.injEq, exists_eq_left', hN]
  refine gx_newArray hk hkind hl1 hh1 rfl rfl (by omega) (by have := Nat.zero_le (N * M); omega) ?_
  simp only [hfind]
  rw [ite_self, wp_bind', Std.Legacy.Range.forIn_eq_forIn_range']
  have hsz : ([:N] : Std.Legacy.Range).size = N := by simp [Std.Legacy.Range.size]
  rw [hsz]
  show wp (forIn (List.range' 0 N 1) PUnit.unit _) _ E e d acts _
  refine wp_forIn_inv (fun rest s' => ∃ i, i ≤ N ∧ rest = List.range' i (N - i) ∧ s' = gx s c comp N M i) _ _ ⟨0, Nat.zero_le _, rfl, by rw [gx, gx_out_0 c N s.heap.size]⟩ ?_ ?_
  · rintro x rest s' d' acts' Q' ⟨i, hi, hl, rfl⟩ hnext
    have hlt : i < N := by
      rcases Nat.lt_or_ge i N with h | h
      · exact h
      · rw [show N - i = 0 from by omega] at hl; simp at hl
    rw [show N - i = (N - (i + 1)) + 1 from by omega, List.range'_succ] at hl
    obtain ⟨rfl, hrest⟩ := List.cons.inj hl
    obtain ⟨f1, f2, f3, f4, -, -⟩ := gx_all s c comp N M x
    have hmul : x * M + M ≤ N * M := by
      have := Nat.mul_le_mul_right M (show x + 1 ≤ N from hlt)
      rw [Nat.succ_mul] at this; exact this
    simp only [wp_bind']
    rw [Op.multianewarray.make]
    simp only [wp_bind', W.ite, hm, if_false, wp_pure', W.theClass, f2, hkc, hkindc, Option.some.injEq, exists_eq_left', hM]
    refine gx_newArray (by rw [f2]; exact hkc) hkindc hl2 hh2 rfl rfl (by rw [f1]; omega) (by rw [f3]; omega) ?_
    have hlt0 : s.heap.size < (gx s c comp N M x).heap.size := by rw [f1]; omega
    have hrow : ({ cls := comp, slots := Array.replicate M (defaultValue .int), vm := .none } : Cell) = gx_row comp M := arrV_new _ _ _
    simp only [W.writeLoc, wp_pure', hrow]
    refine ⟨gx_out c N s.heap.size x, by rw [State.heap_pushCell_of_lt (h := hlt0)]; exact f4, by simp [gx_out, arrV], by rw [gx_out_size]; exact hlt, ?_, hnext _ _ _ ⟨x + 1, hlt, hrest, ?_⟩⟩
    · simp [gx_out, arrV, State.fitsSlot, State.slotType?, f2, hk, hkind, fits]
    · rw [f1, gx_out_s]; rfl
  · rintro s' d' acts' ⟨i, hi, hl, rfl⟩
    have hiN : i = N := by
      rcases Nat.lt_or_ge i N with h | h
      · rw [show N - i = (N - (i + 1)) + 1 from by omega, List.range'_succ] at hl; cases hl
      · omega
    subst hiN
    simp only [wp_pure']
    exact hq _ _
end GXW
section GXS
variable {p : Program} {l : Launch} {e : Env} {R : Room} {s : State} {m : MethodId} {args : Array Value} {below : List Frame} {meth : Method} {c : Code} {T : State} {locs : List Loc} {cells slots : Nat}
theorem gx_stand (X : Stand p l e R s m args below meth c T locs cells slots) (cA comp : ClassId) (N M : Nat) :
    ∀ i, ∃ L : List Loc, (∀ z ∈ L, z.base = T.heap.size) ∧ Stand p l e R s m args below meth c (gx T cA comp N M i) (locs ++ L) (cells + 1 + i) (slots + N + i * M)
  | 0 => by
    have h := X.pushed (gx_out cA N T.heap.size 0)
    rw [gx_out_size] at h
    exact ⟨[], (fun z hz => by cases hz), by simpa [gx] using h⟩
  | i + 1 => by
    obtain ⟨L, hL, Xi⟩ := gx_stand X cA comp N M i
    obtain ⟨f1, f2, f3, f4, -, -⟩ := gx_all T cA comp N M i
    have hlt0 : T.heap.size < (gx T cA comp N M i).heap.size := by rw [f1]; omega
    have hcell : ((gx T cA comp N M i).pushCell (gx_row comp M)).heap[T.heap.size]? = some (gx_out cA N T.heap.size i) := by rw [State.heap_pushCell_of_lt (h := hlt0)]; exact f4
    have h := (Xi.pushed (gx_row comp M)).stored hcell i (.ref (T.heap.size + 1 + i))
    rw [gx_out_s, show (gx_row comp M).slots.size = M from arrV_size _ _ _] at h
    refine ⟨L ++ [⟨T.heap.size, i⟩], fun z hz => ?_, ?_⟩
    · rcases List.mem_append.mp hz with h1 | h1
      · exact hL z h1
      · rw [List.mem_singleton.mp h1]
    · rw [← List.append_assoc, show slots + N + (i + 1) * M = slots + N + i * M + M by rw [Nat.succ_mul]; omega]
      exact h
end GXS
section GXR
variable {p : Program} {l : Launch} {e : Env} {R : Room} {s : State} {m : MethodId} {args : Array Value} {below : List Frame} {meth : Method} {c : Code} {H : Heap} {locs : List Loc} {cells slots : Nat} {Q : State → Prop}
variable {cc : ByteArray} {pc : Nat} {ls : Array Slot} {rest : List Value} {D : va_G} {cl : List vw_C} {A : Nat → Prop} {tys : List (ClassId × FieldType)} {ws : va_W} {H0 : Heap} {a : Nat}
/-- the row of an array of rows -/
theorem gx_ald (hexec : p.tables.exec = Jvm.exec) (hb : c.code = cc) (hK : va_K D cl tys s) (hP : va_P D cl ws H) (q0 t0 : Nat) {cA : ClassId} {n : Nat} {f : Nat → Nat} (ha : ws[q0]? = some (a, .inl (cA, n, .inr (.inr (.inr (.inr (fun i => some (f i)))))))) (ht : tys[t0]? = some (cA, .array .int)) {i : Int32} (hin : vp_in i n) (hdg : decode cc pc = .ok (.aaload, 1))
    (kk : W p l e R s m args below meth c H locs cells slots Q (F0 m (pc + 1) ls (.ref (f i.toNatClampNeg) :: rest))) : W p l e R s m args below meth c H locs cells slots Q (F0 m pc ls (.int i :: .ref a :: rest)) := by
  have hlt : i.toNatClampNeg < n := by
    rcases Nat.lt_or_ge i.toNatClampNeg n with h | h
    · exact h
    · exact absurd (Or.inr h) hin
  refine W.aald hexec hb (ty := .array .int) (v := .ref (f i.toNatClampNeg)) (hP q0 _ ha) ((hK.2 t0 _ ht).1 n (fun j => va_rf (some (f j)))) rfl (fun q => by cases q) (by show ¬ (i < 0 ∨ (arrV _ _ _).slots.size ≤ _); rw [arrV_size]; exact hin) ?_ rfl rfl hdg kk
  exact arrV_read _ _ hlt
/-- multianewarray of two dimensions of ints -/
theorem gx_new (hexec : p.tables.exec = Jvm.exec) (hb : c.code = cc) {own : String} {index : Nat} (hown : s.vm.findClass own = some m.cls) (hclink : (Cond.classLink own index "[[I").before args s = true) (hover : (Cond.arrayOver (.array .int)).before args s = true) (harr : (Cond.arrayClass .int).before args s = true)
    (hK : va_K D cl tys s) (hP : va_P D cl ws H) (hD : va_D A ws) (hS : va_S A s.heap H locs) (hA : ∀ q, s.heap.size ≤ q → A q) {n k : Int32} {N M : Nat} (hn : ¬ n < 0) (hk : ¬ k < 0) (hN : n.toNatClampNeg = N) (hM : k.toNatClampNeg = M) (hb1 : N ≤ 1000) (hb2 : M ≤ 1000)
    (hcells : cells + (1 + N) ≤ R.cells) (hslots : slots + (N + N * M) ≤ R.slots) (hdg : decode cc pc = .ok (.multianewarray index 2, 4))
    (kk : ∀ (q : Nat) (cA cI : ClassId) (H1 : Heap), va_K D cl (tys ++ [(cA, .array .int), (cI, .int)]) s →
      va_P D cl (ws ++ ((q, .inl (cA, N, .inr (.inr (.inr (.inr (fun i => some (q + 1 + i))))))) :: (List.range N).map (fun i => (q + 1 + i, .inl (cI, M, .inl (fun _ => 0)))))) H1 →
      va_D A (ws ++ ((q, .inl (cA, N, .inr (.inr (.inr (.inr (fun i => some (q + 1 + i))))))) :: (List.range N).map (fun i => (q + 1 + i, .inl (cI, M, .inl (fun _ => 0)))))) → va_S A s.heap H1 locs →
      W p l e R s m args below meth c H1 locs (cells + (1 + N)) (slots + (N + N * M)) Q (F0 m (pc + 4) ls (.ref q :: rest))) :
    W p l e R s m args below meth c H locs cells slots Q (F0 m pc ls (.int k :: .int n :: rest)) := by
  intro T hT X
  have hpl : e.platform.magicAccessors = ({} : Platform).magicAccessors := by rw [X.admits.platform]
  obtain ⟨comp, cA, kA, hcomp, -, hkA, hkindA, hnameA⟩ := arrayOverA_spec hover
  obtain ⟨comp', kC, cc', hcomp', hkC, hkindC⟩ := Cond.arrayClass_spec harr
  have ecomp : comp' = comp := Option.some.inj (hcomp'.symm.trans hcomp)
  subst ecomp
  obtain ⟨c0, hfc0, hcl⟩ := Cond.classLink_spec hown hclink e.platform hpl
  cases Option.some.inj (hnameA.symm.trans hfc0)
  obtain ⟨hg₁, hwarm₁, hready₁⟩ := State.classEntry (e := e) X.warmed hcl
  generalize T.vm.noted m.cls index (.cls cA) = vm₁ at hg₁ hwarm₁ hready₁
  have hal : s.vm.Alike vm₁ := hwarm₁.alike
  obtain ⟨kA₁, hkA₁, heA⟩ := hal.2.2 _ _ hkA
  obtain ⟨kC₁, hkC₁, heC⟩ := hal.2.2 _ _ hkC
  have hkindA₁ : kA₁.kind = .array comp' (.array .int) := by rw [heA]; exact hkindA
  have hkindC₁ : kC₁.kind = .array cc' .int := by rw [heC]; exact hkindC
  have X₁ := X.noted hwarm₁
  obtain ⟨hr1, hr2⟩ := X.roomAbove hcells hslots
  obtain ⟨L, hL, X₂⟩ := gx_stand X₁ cA comp' N M N
  have X₃ : Stand p l e R s m args below meth c (gx (T.setVm vm₁) cA comp' N M N) locs (cells + (1 + N)) (slots + (N + N * M)) := by
    have h := Stand.forget X₂ (fun z hz => by rw [hL z hz]; exact X.same.2.1)
    rw [← Nat.add_assoc, ← Nat.add_assoc]; exact h
  obtain ⟨f1, f2, f3, f4, f5, f6⟩ := gx_all (T.setVm vm₁) cA comp' N M N
  have hsz : (T.setVm vm₁).heap.size = H.size := by show T.heap.size = _; rw [hT]
  have hhp : (T.setVm vm₁).heap = H := hT
  rw [hsz] at f1 f4 f5 f6
  rw [hhp] at f5
  have hK1 : va_K D cl (tys ++ [(cA, .array .int), (comp', .int)]) s := by
    refine hK.app ⟨hK.1, fun j q hq => ?_⟩
    match j, hq with
    | 0, hq => cases hq; exact ⟨fun n z => ⟨fun x => by simp [arrV], kA, hkA, comp', hkindA⟩, hnameA⟩
    | 1, hq => cases hq; exact ⟨fun n z => ⟨fun x => by simp [arrV], kC, hkC, cc', hkindC⟩, hcomp⟩
    | j + 2, hq => simp at hq
  have hnew : va_P D cl ((H.size, .inl (cA, N, .inr (.inr (.inr (.inr (fun i => some (H.size + 1 + i))))))) :: (List.range N).map (fun i => (H.size + 1 + i, .inl (comp', M, .inl (fun _ => 0))))) (gx (T.setVm vm₁) cA comp' N M N).heap := by
    intro j q hq
    match j, hq with
    | 0, hq =>
      cases hq
      show (gx (T.setVm vm₁) cA comp' N M N).heap[H.size]? = some (arrV cA N (fun j => va_rf (some (H.size + 1 + j))))
      rw [f4]
      unfold gx_out arrV
      congr 2
      apply Array.ext
      · simp
      · intro j h1 h2
        have hj : j < N := by simpa using h1
        simp [hj, va_rf]
    | j + 1, hq =>
      rw [List.getElem?_cons_succ, List.getElem?_map] at hq
      obtain ⟨z, hz, rfl⟩ := Option.map_eq_some_iff.mp hq
      obtain ⟨hj, rfl⟩ := List.getElem?_eq_some_iff.mp hz
      rw [List.length_range] at hj
      rw [List.getElem_range]
      exact f6 j hj
  have hold : va_P D cl ws (gx (T.setVm vm₁) cA comp' N M N).heap := hP.kept (fun j q hq => f5 q.1 (hP j q hq).lt)
  have hDnew : va_D A ((H.size, .inl (cA, N, .inr (.inr (.inr (.inr (fun i => some (H.size + 1 + i))))))) :: (List.range N).map (fun i => (H.size + 1 + i, .inl (comp', M, .inl (fun _ => 0))))) := by
    have hk : ∀ (j : Nat) (q : Nat × va_E), ((H.size, .inl (cA, N, .inr (.inr (.inr (.inr (fun i => some (H.size + 1 + i))))))) :: (List.range N).map (fun i => (H.size + 1 + i, .inl (comp', M, .inl (fun _ => 0)))) : va_W)[j]? = some q → q.1 = H.size + j := by
      intro j q hq
      match j, hq with
      | 0, hq => cases hq; rfl
      | j + 1, hq =>
        rw [List.getElem?_cons_succ, List.getElem?_map] at hq
        obtain ⟨z, hz, rfl⟩ := Option.map_eq_some_iff.mp hq
        obtain ⟨hj, rfl⟩ := List.getElem?_eq_some_iff.mp hz
        rw [List.getElem_range]
        show H.size + 1 + j = _
        omega
    refine ⟨fun i j q r hq hr e => ?_, fun j q hq => ?_⟩
    · rw [hk i q hq, hk j r hr] at e; omega
    · rw [hk j q hq]; exact hA _ (by have := hS.1; omega)
  have hDall := hD.app hDnew (fun i j q r hq hr e => by
    have h1 := (hP i q hq).lt
    have h2 : H.size ≤ r.1 := by
      match j, hr with
      | 0, hr => cases hr; exact Nat.le_refl _
      | j + 1, hr =>
        rw [List.getElem?_cons_succ, List.getElem?_map] at hr
        obtain ⟨z, hz, rfl⟩ := Option.map_eq_some_iff.mp hr
        show H.size ≤ H.size + 1 + z
        omega
    omega)
  have hS1 : va_S A s.heap (gx (T.setVm vm₁) cA comp' N M N).heap locs := ⟨by rw [f1]; have := hS.1; omega, fun q h1 h2 => by rw [f5 q (by have := hS.1; omega)]; exact hS.2.1 q h1 h2, hS.2.2⟩
  obtain ⟨t, a1, b1⟩ := kk H.size cA comp' _ hK1 (hold.app hnew) hDall hS1 (gx (T.setVm vm₁) cA comp' N M N) rfl X₃
  refine ⟨t, ?_, b1⟩
  have hl1 : ¬ N > e.platform.arrayLengthLimit := by rw [Launch.admits_arrayLengthLimit X.admits]; omega
  have hh1 : ¬ N * componentBytes (.array .int) > e.platform.maxHeapBytes := by
    rw [Launch.admits_maxHeapBytes X.admits]; show ¬ N * 4 > 536870912; omega
  have hl2 : ¬ M > e.platform.arrayLengthLimit := by rw [Launch.admits_arrayLengthLimit X.admits]; omega
  have hh2 : ¬ M * componentBytes .int > e.platform.maxHeapBytes := by
    rw [Launch.admits_maxHeapBytes X.admits]; show ¬ M * 4 > 536870912; omega
  have hdg' : decode c.code (F0 m pc ls (.int k :: .int n :: rest)).pc = .ok (.multianewarray index 2, 4) := by rw [hb]; exact hdg
  have hat : At T (F0 m pc ls (.int k :: .int n :: rest)).method c below := X.here
  generalize hgg : F0 m pc ls (.int k :: .int n :: rest) = g at hdg' hat ⊢
  have hgm : g.method = m := by rw [← hgg]
  have hgs : g.stack = .int k :: .int n :: rest := by rw [← hgg]
  have hgf : ({ g with pc := g.pc + 4, stack := .ref H.size :: rest } : JFrame) = F0 m (pc + 4) ls (.ref H.size :: rest) := by rw [← hgg]
  subst hgm
  jvm_step X.here [hexec, hdg']
  simp only [Op.multianewarray.sem, wp_bind', W.resolveClassAt_links (State.method?_setTop g X.here.top) hg₁]
  rw [W.popN, if_neg (by decide)]
  refine ⟨g, State.topJava?_setTop' (s := T.setVm vm₁) g X.here.top, [.int n, .int k], rest, rfl, hgs, ?_⟩
  simp only [List.mapM_cons, List.mapM_nil, wp_bind', wp_pure']
  refine gx_make (k := kA₁) (kc := kC₁) (comp := comp') (cc := cc') hkA₁ hkindA₁ hkC₁ hkindC₁ hn hk hN hM hl1 hh1 hl2 hh2 (by show T.heap.size + 1 + _ ≤ _; omega) (by show T.slotsUsed + _ + _ ≤ _; omega) (fun d' acts' => ?_)
  have eS : ((T.setTop g).setVm vm₁).setTop { g with stack := rest } = (T.setVm vm₁).setTop { g with stack := rest } := by
    show ((T.setVm vm₁).setTop g).setTop _ = _
    rw [State.setTop_setTop]
  rw [eS, gx_top]
  simp only [wp_bind', W.mark, W.pushRef, State.topJava?_setTop' _ X₃.here.top, Option.some.injEq, exists_eq_left', State.setTop_setTop, State.heap_setTop]
  intro acts
  simp [jvm, X₃.here.top]
  rw [hT, hgf]
  exact a1
end GXR
end GX
end
