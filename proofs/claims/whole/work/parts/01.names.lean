-- ===== PART A: goes FIRST, ahead of the names: the tables' words, and 'selects' of the private methods out of them =====
/-- a private method of a class that the tables say can be made, by its rows of tables_1 -/
def lw_okq (q : MethodName × Nat) : Prop := (q.1.cls ≠ "java/lang/invoke/MethodHandle" ∧ q.1.cls ≠ "java/lang/invoke/VarHandle") ∧ Cond.instantiable q.1.cls q.2 ∈ tables_1 ∧ Cond.privateMethod q.1 ∈ tables_1 ∧ Cond.instanceMethod q.1 ∈ tables_1
theorem lw_p0 : lw_okq (⟨"SureHunters$Rows", "tell", "(IIII)V"⟩, 9) := ⟨⟨by decide +kernel, by decide +kernel⟩, List.mem_of_getElem? (i := 124) (by decide +kernel), List.mem_of_getElem? (i := 133) (by decide +kernel), List.mem_of_getElem? (i := 134) (by decide +kernel)⟩
theorem lw_p1 : lw_okq (⟨"SureHunters$Rows", "tellNumber", "(IIII)V"⟩, 9) := ⟨⟨by decide +kernel, by decide +kernel⟩, List.mem_of_getElem? (i := 124) (by decide +kernel), List.mem_of_getElem? (i := 137) (by decide +kernel), List.mem_of_getElem? (i := 138) (by decide +kernel)⟩
theorem lw_p2 : lw_okq (⟨"SureHunters$Script", "append", "(I)V"⟩, 9) := ⟨⟨by decide +kernel, by decide +kernel⟩, List.mem_of_getElem? (i := 34) (by decide +kernel), List.mem_of_getElem? (i := 391) (by decide +kernel), List.mem_of_getElem? (i := 392) (by decide +kernel)⟩
theorem lw_p3 : lw_okq (⟨"SureHunters$Script", "parse", "(LSureHunters$Net;)V"⟩, 9) := ⟨⟨by decide +kernel, by decide +kernel⟩, List.mem_of_getElem? (i := 34) (by decide +kernel), List.mem_of_getElem? (i := 403) (by decide +kernel), List.mem_of_getElem? (i := 404) (by decide +kernel)⟩
theorem lw_p4 : lw_okq (⟨"SureHunters$Net", "clear", "()V"⟩, 2) := ⟨⟨by decide +kernel, by decide +kernel⟩, List.mem_of_getElem? (i := 72) (by decide +kernel), List.mem_of_getElem? (i := 407) (by decide +kernel), List.mem_of_getElem? (i := 408) (by decide +kernel)⟩
theorem lw_p5 : lw_okq (⟨"SureHunters$Script", "advance", "()V"⟩, 9) := ⟨⟨by decide +kernel, by decide +kernel⟩, List.mem_of_getElem? (i := 34) (by decide +kernel), List.mem_of_getElem? (i := 412) (by decide +kernel), List.mem_of_getElem? (i := 413) (by decide +kernel)⟩
theorem lw_p6 : lw_okq (⟨"SureHunters$Script", "byteAt", "(I)I"⟩, 9) := ⟨⟨by decide +kernel, by decide +kernel⟩, List.mem_of_getElem? (i := 34) (by decide +kernel), List.mem_of_getElem? (i := 416) (by decide +kernel), List.mem_of_getElem? (i := 417) (by decide +kernel)⟩
theorem lw_p7 : lw_okq (⟨"SureHunters$Script", "wordToken", "()I"⟩, 9) := ⟨⟨by decide +kernel, by decide +kernel⟩, List.mem_of_getElem? (i := 34) (by decide +kernel), List.mem_of_getElem? (i := 426) (by decide +kernel), List.mem_of_getElem? (i := 427) (by decide +kernel)⟩
theorem lw_p8 : lw_okq (⟨"SureHunters$Script", "isWord", "(Ljava/lang/String;)Z"⟩, 9) := ⟨⟨by decide +kernel, by decide +kernel⟩, List.mem_of_getElem? (i := 34) (by decide +kernel), List.mem_of_getElem? (i := 431) (by decide +kernel), List.mem_of_getElem? (i := 432) (by decide +kernel)⟩
theorem lw_p9 : lw_okq (⟨"SureHunters$Script", "parsePlace", "(LSureHunters$Net;)V"⟩, 9) := ⟨⟨by decide +kernel, by decide +kernel⟩, List.mem_of_getElem? (i := 34) (by decide +kernel), List.mem_of_getElem? (i := 484) (by decide +kernel), List.mem_of_getElem? (i := 485) (by decide +kernel)⟩
theorem lw_p10 : lw_okq (⟨"SureHunters$Script", "refuse", "(I)V"⟩, 9) := ⟨⟨by decide +kernel, by decide +kernel⟩, List.mem_of_getElem? (i := 34) (by decide +kernel), List.mem_of_getElem? (i := 488) (by decide +kernel), List.mem_of_getElem? (i := 489) (by decide +kernel)⟩
theorem lw_p11 : lw_okq (⟨"SureHunters$Script", "refuseToken", "()V"⟩, 9) := ⟨⟨by decide +kernel, by decide +kernel⟩, List.mem_of_getElem? (i := 34) (by decide +kernel), List.mem_of_getElem? (i := 492) (by decide +kernel), List.mem_of_getElem? (i := 493) (by decide +kernel)⟩
theorem lw_p12 : lw_okq (⟨"SureHunters$Script", "placeNamed", "(LSureHunters$Net;)I"⟩, 9) := ⟨⟨by decide +kernel, by decide +kernel⟩, List.mem_of_getElem? (i := 34) (by decide +kernel), List.mem_of_getElem? (i := 496) (by decide +kernel), List.mem_of_getElem? (i := 497) (by decide +kernel)⟩
theorem lw_p13 : lw_okq (⟨"SureHunters$Script", "isNameOf", "(I)Z"⟩, 9) := ⟨⟨by decide +kernel, by decide +kernel⟩, List.mem_of_getElem? (i := 34) (by decide +kernel), List.mem_of_getElem? (i := 500) (by decide +kernel), List.mem_of_getElem? (i := 501) (by decide +kernel)⟩
theorem lw_p14 : lw_okq (⟨"SureHunters$Net", "addPlace", "()V"⟩, 2) := ⟨⟨by decide +kernel, by decide +kernel⟩, List.mem_of_getElem? (i := 72) (by decide +kernel), List.mem_of_getElem? (i := 504) (by decide +kernel), List.mem_of_getElem? (i := 505) (by decide +kernel)⟩
theorem lw_p15 : lw_okq (⟨"SureHunters$Script", "passSign", "()V"⟩, 9) := ⟨⟨by decide +kernel, by decide +kernel⟩, List.mem_of_getElem? (i := 34) (by decide +kernel), List.mem_of_getElem? (i := 508) (by decide +kernel), List.mem_of_getElem? (i := 509) (by decide +kernel)⟩
def lw_privs_1 : List (MethodName × Nat) := [(⟨"SureHunters$Rows", "tell", "(IIII)V"⟩, 9), (⟨"SureHunters$Rows", "tellNumber", "(IIII)V"⟩, 9), (⟨"SureHunters$Script", "append", "(I)V"⟩, 9), (⟨"SureHunters$Script", "parse", "(LSureHunters$Net;)V"⟩, 9), (⟨"SureHunters$Net", "clear", "()V"⟩, 2), (⟨"SureHunters$Script", "advance", "()V"⟩, 9), (⟨"SureHunters$Script", "byteAt", "(I)I"⟩, 9), (⟨"SureHunters$Script", "wordToken", "()I"⟩, 9), (⟨"SureHunters$Script", "isWord", "(Ljava/lang/String;)Z"⟩, 9), (⟨"SureHunters$Script", "parsePlace", "(LSureHunters$Net;)V"⟩, 9), (⟨"SureHunters$Script", "refuse", "(I)V"⟩, 9), (⟨"SureHunters$Script", "refuseToken", "()V"⟩, 9), (⟨"SureHunters$Script", "placeNamed", "(LSureHunters$Net;)I"⟩, 9), (⟨"SureHunters$Script", "isNameOf", "(I)Z"⟩, 9), (⟨"SureHunters$Net", "addPlace", "()V"⟩, 2), (⟨"SureHunters$Script", "passSign", "()V"⟩, 9)]
theorem lw_r1 : ∀ q ∈ lw_privs_1, lw_okq q := List.forall_mem_cons.mpr ⟨lw_p0, List.forall_mem_cons.mpr ⟨lw_p1, List.forall_mem_cons.mpr ⟨lw_p2, List.forall_mem_cons.mpr ⟨lw_p3, List.forall_mem_cons.mpr ⟨lw_p4, List.forall_mem_cons.mpr ⟨lw_p5, List.forall_mem_cons.mpr ⟨lw_p6, List.forall_mem_cons.mpr ⟨lw_p7, List.forall_mem_cons.mpr ⟨lw_p8, List.forall_mem_cons.mpr ⟨lw_p9, List.forall_mem_cons.mpr ⟨lw_p10, List.forall_mem_cons.mpr ⟨lw_p11, List.forall_mem_cons.mpr ⟨lw_p12, List.forall_mem_cons.mpr ⟨lw_p13, List.forall_mem_cons.mpr ⟨lw_p14, List.forall_mem_cons.mpr ⟨lw_p15, fun _ h => absurd h List.not_mem_nil⟩⟩⟩⟩⟩⟩⟩⟩⟩⟩⟩⟩⟩⟩⟩⟩
theorem lw_p16 : lw_okq (⟨"SureHunters$Script", "parseLine", "(LSureHunters$Net;)V"⟩, 9) := ⟨⟨by decide +kernel, by decide +kernel⟩, List.mem_of_getElem? (i := 34) (by decide +kernel), List.mem_of_getElem? (i := 512) (by decide +kernel), List.mem_of_getElem? (i := 513) (by decide +kernel)⟩
theorem lw_p17 : lw_okq (⟨"SureHunters$Script", "parseEnd", "(LSureHunters$Net;)I"⟩, 9) := ⟨⟨by decide +kernel, by decide +kernel⟩, List.mem_of_getElem? (i := 34) (by decide +kernel), List.mem_of_getElem? (i := 516) (by decide +kernel), List.mem_of_getElem? (i := 517) (by decide +kernel)⟩
theorem lw_p18 : lw_okq (⟨"SureHunters$Net", "joined", "(II)Z"⟩, 2) := ⟨⟨by decide +kernel, by decide +kernel⟩, List.mem_of_getElem? (i := 72) (by decide +kernel), List.mem_of_getElem? (i := 520) (by decide +kernel), List.mem_of_getElem? (i := 521) (by decide +kernel)⟩
theorem lw_p19 : lw_okq (⟨"SureHunters$Net", "has", "(I)Z"⟩, 2) := ⟨⟨by decide +kernel, by decide +kernel⟩, List.mem_of_getElem? (i := 72) (by decide +kernel), List.mem_of_getElem? (i := 524) (by decide +kernel), List.mem_of_getElem? (i := 525) (by decide +kernel)⟩
theorem lw_p20 : lw_okq (⟨"SureHunters$Net", "around", "(I)I"⟩, 2) := ⟨⟨by decide +kernel, by decide +kernel⟩, List.mem_of_getElem? (i := 72) (by decide +kernel), List.mem_of_getElem? (i := 528) (by decide +kernel), List.mem_of_getElem? (i := 529) (by decide +kernel)⟩
theorem lw_p21 : lw_okq (⟨"SureHunters$Net", "flip", "(II)V"⟩, 2) := ⟨⟨by decide +kernel, by decide +kernel⟩, List.mem_of_getElem? (i := 72) (by decide +kernel), List.mem_of_getElem? (i := 532) (by decide +kernel), List.mem_of_getElem? (i := 533) (by decide +kernel)⟩
theorem lw_p22 : lw_okq (⟨"SureHunters$Net", "copyFrom", "(LSureHunters$Net;)V"⟩, 2) := ⟨⟨by decide +kernel, by decide +kernel⟩, List.mem_of_getElem? (i := 72) (by decide +kernel), List.mem_of_getElem? (i := 536) (by decide +kernel), List.mem_of_getElem? (i := 537) (by decide +kernel)⟩
theorem lw_p23 : lw_okq (⟨"SureHunters$Past", "forget", "()V"⟩, 4) := ⟨⟨by decide +kernel, by decide +kernel⟩, List.mem_of_getElem? (i := 327) (by decide +kernel), List.mem_of_getElem? (i := 540) (by decide +kernel), List.mem_of_getElem? (i := 541) (by decide +kernel)⟩
theorem lw_p24 : lw_okq (⟨"SureHunters", "renew", "()V"⟩, 11) := ⟨⟨by decide +kernel, by decide +kernel⟩, List.mem_of_getElem? (i := 26) (by decide +kernel), List.mem_of_getElem? (i := 544) (by decide +kernel), List.mem_of_getElem? (i := 545) (by decide +kernel)⟩
theorem lw_p25 : lw_okq (⟨"SureHunters$Games", "renew", "()V"⟩, 6) := ⟨⟨by decide +kernel, by decide +kernel⟩, List.mem_of_getElem? (i := 118) (by decide +kernel), List.mem_of_getElem? (i := 548) (by decide +kernel), List.mem_of_getElem? (i := 549) (by decide +kernel)⟩
theorem lw_p26 : lw_okq (⟨"SureHunters$Rows", "learn", "(LSureHunters$Net;)V"⟩, 9) := ⟨⟨by decide +kernel, by decide +kernel⟩, List.mem_of_getElem? (i := 124) (by decide +kernel), List.mem_of_getElem? (i := 552) (by decide +kernel), List.mem_of_getElem? (i := 553) (by decide +kernel)⟩
theorem lw_p27 : lw_okq (⟨"SureHunters$Search", "renew", "()V"⟩, 9) := ⟨⟨by decide +kernel, by decide +kernel⟩, List.mem_of_getElem? (i := 261) (by decide +kernel), List.mem_of_getElem? (i := 557) (by decide +kernel), List.mem_of_getElem? (i := 558) (by decide +kernel)⟩
theorem lw_p28 : lw_okq (⟨"SureHunters$Net", "lines", "()I"⟩, 2) := ⟨⟨by decide +kernel, by decide +kernel⟩, List.mem_of_getElem? (i := 72) (by decide +kernel), List.mem_of_getElem? (i := 570) (by decide +kernel), List.mem_of_getElem? (i := 571) (by decide +kernel)⟩
theorem lw_p29 : lw_okq (⟨"SureHunters$Net", "linesAt", "(I)I"⟩, 2) := ⟨⟨by decide +kernel, by decide +kernel⟩, List.mem_of_getElem? (i := 72) (by decide +kernel), List.mem_of_getElem? (i := 574) (by decide +kernel), List.mem_of_getElem? (i := 575) (by decide +kernel)⟩
theorem lw_p30 : lw_okq (⟨"SureHunters$Net", "parts", "()I"⟩, 2) := ⟨⟨by decide +kernel, by decide +kernel⟩, List.mem_of_getElem? (i := 72) (by decide +kernel), List.mem_of_getElem? (i := 587) (by decide +kernel), List.mem_of_getElem? (i := 588) (by decide +kernel)⟩
theorem lw_p31 : lw_okq (⟨"SureHunters$Net", "partOf", "(I)I"⟩, 2) := ⟨⟨by decide +kernel, by decide +kernel⟩, List.mem_of_getElem? (i := 72) (by decide +kernel), List.mem_of_getElem? (i := 591) (by decide +kernel), List.mem_of_getElem? (i := 592) (by decide +kernel)⟩
def lw_privs_2 : List (MethodName × Nat) := [(⟨"SureHunters$Script", "parseLine", "(LSureHunters$Net;)V"⟩, 9), (⟨"SureHunters$Script", "parseEnd", "(LSureHunters$Net;)I"⟩, 9), (⟨"SureHunters$Net", "joined", "(II)Z"⟩, 2), (⟨"SureHunters$Net", "has", "(I)Z"⟩, 2), (⟨"SureHunters$Net", "around", "(I)I"⟩, 2), (⟨"SureHunters$Net", "flip", "(II)V"⟩, 2), (⟨"SureHunters$Net", "copyFrom", "(LSureHunters$Net;)V"⟩, 2), (⟨"SureHunters$Past", "forget", "()V"⟩, 4), (⟨"SureHunters", "renew", "()V"⟩, 11), (⟨"SureHunters$Games", "renew", "()V"⟩, 6), (⟨"SureHunters$Rows", "learn", "(LSureHunters$Net;)V"⟩, 9), (⟨"SureHunters$Search", "renew", "()V"⟩, 9), (⟨"SureHunters$Net", "lines", "()I"⟩, 2), (⟨"SureHunters$Net", "linesAt", "(I)I"⟩, 2), (⟨"SureHunters$Net", "parts", "()I"⟩, 2), (⟨"SureHunters$Net", "partOf", "(I)I"⟩, 2)]
theorem lw_r2 : ∀ q ∈ lw_privs_2, lw_okq q := List.forall_mem_cons.mpr ⟨lw_p16, List.forall_mem_cons.mpr ⟨lw_p17, List.forall_mem_cons.mpr ⟨lw_p18, List.forall_mem_cons.mpr ⟨lw_p19, List.forall_mem_cons.mpr ⟨lw_p20, List.forall_mem_cons.mpr ⟨lw_p21, List.forall_mem_cons.mpr ⟨lw_p22, List.forall_mem_cons.mpr ⟨lw_p23, List.forall_mem_cons.mpr ⟨lw_p24, List.forall_mem_cons.mpr ⟨lw_p25, List.forall_mem_cons.mpr ⟨lw_p26, List.forall_mem_cons.mpr ⟨lw_p27, List.forall_mem_cons.mpr ⟨lw_p28, List.forall_mem_cons.mpr ⟨lw_p29, List.forall_mem_cons.mpr ⟨lw_p30, List.forall_mem_cons.mpr ⟨lw_p31, fun _ h => absurd h List.not_mem_nil⟩⟩⟩⟩⟩⟩⟩⟩⟩⟩⟩⟩⟩⟩⟩⟩
theorem lw_p32 : lw_okq (⟨"SureHunters$Net", "widen", "(I)I"⟩, 2) := ⟨⟨by decide +kernel, by decide +kernel⟩, List.mem_of_getElem? (i := 72) (by decide +kernel), List.mem_of_getElem? (i := 595) (by decide +kernel), List.mem_of_getElem? (i := 596) (by decide +kernel)⟩
theorem lw_p33 : lw_okq (⟨"SureHunters$Net", "girth", "()I"⟩, 2) := ⟨⟨by decide +kernel, by decide +kernel⟩, List.mem_of_getElem? (i := 72) (by decide +kernel), List.mem_of_getElem? (i := 599) (by decide +kernel), List.mem_of_getElem? (i := 600) (by decide +kernel)⟩
theorem lw_p34 : lw_okq (⟨"SureHunters$Net", "steps", "(II)I"⟩, 2) := ⟨⟨by decide +kernel, by decide +kernel⟩, List.mem_of_getElem? (i := 72) (by decide +kernel), List.mem_of_getElem? (i := 605) (by decide +kernel), List.mem_of_getElem? (i := 606) (by decide +kernel)⟩
theorem lw_p35 : lw_okq (⟨"SureHunters", "low", "()I"⟩, 11) := ⟨⟨by decide +kernel, by decide +kernel⟩, List.mem_of_getElem? (i := 26) (by decide +kernel), List.mem_of_getElem? (i := 609) (by decide +kernel), List.mem_of_getElem? (i := 610) (by decide +kernel)⟩
theorem lw_p36 : lw_okq (⟨"SureHunters$Net", "fewestLines", "()I"⟩, 2) := ⟨⟨by decide +kernel, by decide +kernel⟩, List.mem_of_getElem? (i := 72) (by decide +kernel), List.mem_of_getElem? (i := 613) (by decide +kernel), List.mem_of_getElem? (i := 614) (by decide +kernel)⟩
theorem lw_p37 : lw_okq (⟨"SureHunters$Dismantling", "settle", "(LSureHunters$Net;)V"⟩, 5) := ⟨⟨by decide +kernel, by decide +kernel⟩, List.mem_of_getElem? (i := 92) (by decide +kernel), List.mem_of_getElem? (i := 621) (by decide +kernel), List.mem_of_getElem? (i := 622) (by decide +kernel)⟩
theorem lw_p38 : lw_okq (⟨"SureHunters$Net", "all", "()I"⟩, 2) := ⟨⟨by decide +kernel, by decide +kernel⟩, List.mem_of_getElem? (i := 72) (by decide +kernel), List.mem_of_getElem? (i := 625) (by decide +kernel), List.mem_of_getElem? (i := 626) (by decide +kernel)⟩
theorem lw_p39 : lw_okq (⟨"SureHunters$Dismantling", "takeLeastCorner", "(LSureHunters$Net;)V"⟩, 5) := ⟨⟨by decide +kernel, by decide +kernel⟩, List.mem_of_getElem? (i := 92) (by decide +kernel), List.mem_of_getElem? (i := 629) (by decide +kernel), List.mem_of_getElem? (i := 630) (by decide +kernel)⟩
theorem lw_p40 : lw_okq (⟨"SureHunters$Net", "cover", "()I"⟩, 2) := ⟨⟨by decide +kernel, by decide +kernel⟩, List.mem_of_getElem? (i := 72) (by decide +kernel), List.mem_of_getElem? (i := 638) (by decide +kernel), List.mem_of_getElem? (i := 639) (by decide +kernel)⟩
theorem lw_p41 : lw_okq (⟨"SureHunters$Dismantling", "comesAtLast", "(I)I"⟩, 5) := ⟨⟨by decide +kernel, by decide +kernel⟩, List.mem_of_getElem? (i := 92) (by decide +kernel), List.mem_of_getElem? (i := 664) (by decide +kernel), List.mem_of_getElem? (i := 665) (by decide +kernel)⟩
theorem lw_p42 : lw_okq (⟨"SureHunters$Games", "solved", "(II)LSureHunters$Game;"⟩, 6) := ⟨⟨by decide +kernel, by decide +kernel⟩, List.mem_of_getElem? (i := 118) (by decide +kernel), List.mem_of_getElem? (i := 672) (by decide +kernel), List.mem_of_getElem? (i := 673) (by decide +kernel)⟩
theorem lw_p43 : lw_okq (⟨"SureHunters$Games", "solve", "(LSureHunters$Game;)V"⟩, 6) := ⟨⟨by decide +kernel, by decide +kernel⟩, List.mem_of_getElem? (i := 118) (by decide +kernel), List.mem_of_getElem? (i := 676) (by decide +kernel), List.mem_of_getElem? (i := 677) (by decide +kernel)⟩
theorem lw_p44 : lw_okq (⟨"SureHunters$Game", "clear", "()V"⟩, 9) := ⟨⟨by decide +kernel, by decide +kernel⟩, List.mem_of_getElem? (i := 175) (by decide +kernel), List.mem_of_getElem? (i := 680) (by decide +kernel), List.mem_of_getElem? (i := 681) (by decide +kernel)⟩
theorem lw_p45 : lw_okq (⟨"SureHunters$Games", "isOnNet", "(I)Z"⟩, 6) := ⟨⟨by decide +kernel, by decide +kernel⟩, List.mem_of_getElem? (i := 118) (by decide +kernel), List.mem_of_getElem? (i := 686) (by decide +kernel), List.mem_of_getElem? (i := 687) (by decide +kernel)⟩
theorem lw_p46 : lw_okq (⟨"SureHunters$Rows", "standBits", "(I)I"⟩, 9) := ⟨⟨by decide +kernel, by decide +kernel⟩, List.mem_of_getElem? (i := 124) (by decide +kernel), List.mem_of_getElem? (i := 690) (by decide +kernel), List.mem_of_getElem? (i := 691) (by decide +kernel)⟩
theorem lw_p47 : lw_okq (⟨"SureHunters$Game", "setWorth", "(III)V"⟩, 9) := ⟨⟨by decide +kernel, by decide +kernel⟩, List.mem_of_getElem? (i := 175) (by decide +kernel), List.mem_of_getElem? (i := 695) (by decide +kernel), List.mem_of_getElem? (i := 696) (by decide +kernel)⟩
def lw_privs_3 : List (MethodName × Nat) := [(⟨"SureHunters$Net", "widen", "(I)I"⟩, 2), (⟨"SureHunters$Net", "girth", "()I"⟩, 2), (⟨"SureHunters$Net", "steps", "(II)I"⟩, 2), (⟨"SureHunters", "low", "()I"⟩, 11), (⟨"SureHunters$Net", "fewestLines", "()I"⟩, 2), (⟨"SureHunters$Dismantling", "settle", "(LSureHunters$Net;)V"⟩, 5), (⟨"SureHunters$Net", "all", "()I"⟩, 2), (⟨"SureHunters$Dismantling", "takeLeastCorner", "(LSureHunters$Net;)V"⟩, 5), (⟨"SureHunters$Net", "cover", "()I"⟩, 2), (⟨"SureHunters$Dismantling", "comesAtLast", "(I)I"⟩, 5), (⟨"SureHunters$Games", "solved", "(II)LSureHunters$Game;"⟩, 6), (⟨"SureHunters$Games", "solve", "(LSureHunters$Game;)V"⟩, 6), (⟨"SureHunters$Game", "clear", "()V"⟩, 9), (⟨"SureHunters$Games", "isOnNet", "(I)Z"⟩, 6), (⟨"SureHunters$Rows", "standBits", "(I)I"⟩, 9), (⟨"SureHunters$Game", "setWorth", "(III)V"⟩, 9)]
theorem lw_r3 : ∀ q ∈ lw_privs_3, lw_okq q := List.forall_mem_cons.mpr ⟨lw_p32, List.forall_mem_cons.mpr ⟨lw_p33, List.forall_mem_cons.mpr ⟨lw_p34, List.forall_mem_cons.mpr ⟨lw_p35, List.forall_mem_cons.mpr ⟨lw_p36, List.forall_mem_cons.mpr ⟨lw_p37, List.forall_mem_cons.mpr ⟨lw_p38, List.forall_mem_cons.mpr ⟨lw_p39, List.forall_mem_cons.mpr ⟨lw_p40, List.forall_mem_cons.mpr ⟨lw_p41, List.forall_mem_cons.mpr ⟨lw_p42, List.forall_mem_cons.mpr ⟨lw_p43, List.forall_mem_cons.mpr ⟨lw_p44, List.forall_mem_cons.mpr ⟨lw_p45, List.forall_mem_cons.mpr ⟨lw_p46, List.forall_mem_cons.mpr ⟨lw_p47, fun _ h => absurd h List.not_mem_nil⟩⟩⟩⟩⟩⟩⟩⟩⟩⟩⟩⟩⟩⟩⟩⟩
theorem lw_p48 : lw_okq (⟨"SureHunters$Game", "indexOf", "(II)I"⟩, 9) := ⟨⟨by decide +kernel, by decide +kernel⟩, List.mem_of_getElem? (i := 175) (by decide +kernel), List.mem_of_getElem? (i := 699) (by decide +kernel), List.mem_of_getElem? (i := 700) (by decide +kernel)⟩
theorem lw_p49 : lw_okq (⟨"SureHunters$Games", "spreadHeld", "(LSureHunters$Game;)V"⟩, 6) := ⟨⟨by decide +kernel, by decide +kernel⟩, List.mem_of_getElem? (i := 118) (by decide +kernel), List.mem_of_getElem? (i := 703) (by decide +kernel), List.mem_of_getElem? (i := 704) (by decide +kernel)⟩
theorem lw_p50 : lw_okq (⟨"SureHunters$Games", "holds", "(LSureHunters$Game;I)I"⟩, 6) := ⟨⟨by decide +kernel, by decide +kernel⟩, List.mem_of_getElem? (i := 118) (by decide +kernel), List.mem_of_getElem? (i := 707) (by decide +kernel), List.mem_of_getElem? (i := 708) (by decide +kernel)⟩
theorem lw_p51 : lw_okq (⟨"SureHunters$Games", "reach", "(III)I"⟩, 6) := ⟨⟨by decide +kernel, by decide +kernel⟩, List.mem_of_getElem? (i := 118) (by decide +kernel), List.mem_of_getElem? (i := 711) (by decide +kernel), List.mem_of_getElem? (i := 712) (by decide +kernel)⟩
theorem lw_p52 : lw_okq (⟨"SureHunters$Rows", "stepFrom", "(IZ)V"⟩, 9) := ⟨⟨by decide +kernel, by decide +kernel⟩, List.mem_of_getElem? (i := 124) (by decide +kernel), List.mem_of_getElem? (i := 717) (by decide +kernel), List.mem_of_getElem? (i := 718) (by decide +kernel)⟩
theorem lw_p53 : lw_okq (⟨"SureHunters$Rows", "spotAt", "(II)I"⟩, 9) := ⟨⟨by decide +kernel, by decide +kernel⟩, List.mem_of_getElem? (i := 124) (by decide +kernel), List.mem_of_getElem? (i := 721) (by decide +kernel), List.mem_of_getElem? (i := 722) (by decide +kernel)⟩
theorem lw_p54 : lw_okq (⟨"SureHunters$Rows", "stepOne", "(III)V"⟩, 9) := ⟨⟨by decide +kernel, by decide +kernel⟩, List.mem_of_getElem? (i := 124) (by decide +kernel), List.mem_of_getElem? (i := 725) (by decide +kernel), List.mem_of_getElem? (i := 726) (by decide +kernel)⟩
theorem lw_p55 : lw_okq (⟨"SureHunters$Rows", "note", "(III)V"⟩, 9) := ⟨⟨by decide +kernel, by decide +kernel⟩, List.mem_of_getElem? (i := 124) (by decide +kernel), List.mem_of_getElem? (i := 729) (by decide +kernel), List.mem_of_getElem? (i := 730) (by decide +kernel)⟩
theorem lw_p56 : lw_okq (⟨"SureHunters$Games", "takeNews", "(LSureHunters$Game;I)Z"⟩, 6) := ⟨⟨by decide +kernel, by decide +kernel⟩, List.mem_of_getElem? (i := 118) (by decide +kernel), List.mem_of_getElem? (i := 733) (by decide +kernel), List.mem_of_getElem? (i := 734) (by decide +kernel)⟩
theorem lw_p57 : lw_okq (⟨"SureHunters$Games", "findOpening", "(LSureHunters$Game;)V"⟩, 6) := ⟨⟨by decide +kernel, by decide +kernel⟩, List.mem_of_getElem? (i := 118) (by decide +kernel), List.mem_of_getElem? (i := 737) (by decide +kernel), List.mem_of_getElem? (i := 738) (by decide +kernel)⟩
theorem lw_p58 : lw_okq (⟨"SureHunters$Games", "greatestRank", "(LSureHunters$Game;II)I"⟩, 6) := ⟨⟨by decide +kernel, by decide +kernel⟩, List.mem_of_getElem? (i := 118) (by decide +kernel), List.mem_of_getElem? (i := 742) (by decide +kernel), List.mem_of_getElem? (i := 743) (by decide +kernel)⟩
theorem lw_p59 : lw_okq (⟨"SureHunters$Game", "worthAt", "(II)I"⟩, 9) := ⟨⟨by decide +kernel, by decide +kernel⟩, List.mem_of_getElem? (i := 175) (by decide +kernel), List.mem_of_getElem? (i := 746) (by decide +kernel), List.mem_of_getElem? (i := 747) (by decide +kernel)⟩
theorem lw_p60 : lw_okq (⟨"SureHunters$Rows", "hunterAt", "(II)I"⟩, 9) := ⟨⟨by decide +kernel, by decide +kernel⟩, List.mem_of_getElem? (i := 124) (by decide +kernel), List.mem_of_getElem? (i := 766) (by decide +kernel), List.mem_of_getElem? (i := 767) (by decide +kernel)⟩
theorem lw_p61 : lw_okq (⟨"SureHunters", "rowOf", "(III)I"⟩, 11) := ⟨⟨by decide +kernel, by decide +kernel⟩, List.mem_of_getElem? (i := 26) (by decide +kernel), List.mem_of_getElem? (i := 774) (by decide +kernel), List.mem_of_getElem? (i := 775) (by decide +kernel)⟩
theorem lw_p62 : lw_okq (⟨"SureHunters$Rows", "numberOf", "(III)I"⟩, 9) := ⟨⟨by decide +kernel, by decide +kernel⟩, List.mem_of_getElem? (i := 124) (by decide +kernel), List.mem_of_getElem? (i := 778) (by decide +kernel), List.mem_of_getElem? (i := 779) (by decide +kernel)⟩
theorem lw_p63 : lw_okq (⟨"SureHunters$Game", "sureBits", "(II)I"⟩, 9) := ⟨⟨by decide +kernel, by decide +kernel⟩, List.mem_of_getElem? (i := 175) (by decide +kernel), List.mem_of_getElem? (i := 786) (by decide +kernel), List.mem_of_getElem? (i := 787) (by decide +kernel)⟩
def lw_privs_4 : List (MethodName × Nat) := [(⟨"SureHunters$Game", "indexOf", "(II)I"⟩, 9), (⟨"SureHunters$Games", "spreadHeld", "(LSureHunters$Game;)V"⟩, 6), (⟨"SureHunters$Games", "holds", "(LSureHunters$Game;I)I"⟩, 6), (⟨"SureHunters$Games", "reach", "(III)I"⟩, 6), (⟨"SureHunters$Rows", "stepFrom", "(IZ)V"⟩, 9), (⟨"SureHunters$Rows", "spotAt", "(II)I"⟩, 9), (⟨"SureHunters$Rows", "stepOne", "(III)V"⟩, 9), (⟨"SureHunters$Rows", "note", "(III)V"⟩, 9), (⟨"SureHunters$Games", "takeNews", "(LSureHunters$Game;I)Z"⟩, 6), (⟨"SureHunters$Games", "findOpening", "(LSureHunters$Game;)V"⟩, 6), (⟨"SureHunters$Games", "greatestRank", "(LSureHunters$Game;II)I"⟩, 6), (⟨"SureHunters$Game", "worthAt", "(II)I"⟩, 9), (⟨"SureHunters$Rows", "hunterAt", "(II)I"⟩, 9), (⟨"SureHunters", "rowOf", "(III)I"⟩, 11), (⟨"SureHunters$Rows", "numberOf", "(III)I"⟩, 9), (⟨"SureHunters$Game", "sureBits", "(II)I"⟩, 9)]
theorem lw_r4 : ∀ q ∈ lw_privs_4, lw_okq q := List.forall_mem_cons.mpr ⟨lw_p48, List.forall_mem_cons.mpr ⟨lw_p49, List.forall_mem_cons.mpr ⟨lw_p50, List.forall_mem_cons.mpr ⟨lw_p51, List.forall_mem_cons.mpr ⟨lw_p52, List.forall_mem_cons.mpr ⟨lw_p53, List.forall_mem_cons.mpr ⟨lw_p54, List.forall_mem_cons.mpr ⟨lw_p55, List.forall_mem_cons.mpr ⟨lw_p56, List.forall_mem_cons.mpr ⟨lw_p57, List.forall_mem_cons.mpr ⟨lw_p58, List.forall_mem_cons.mpr ⟨lw_p59, List.forall_mem_cons.mpr ⟨lw_p60, List.forall_mem_cons.mpr ⟨lw_p61, List.forall_mem_cons.mpr ⟨lw_p62, List.forall_mem_cons.mpr ⟨lw_p63, fun _ h => absurd h List.not_mem_nil⟩⟩⟩⟩⟩⟩⟩⟩⟩⟩⟩⟩⟩⟩⟩⟩
theorem lw_p64 : lw_okq (⟨"SureHunters$Games", "refusedCouple", "(LSureHunters$Game;I)I"⟩, 6) := ⟨⟨by decide +kernel, by decide +kernel⟩, List.mem_of_getElem? (i := 118) (by decide +kernel), List.mem_of_getElem? (i := 799) (by decide +kernel), List.mem_of_getElem? (i := 800) (by decide +kernel)⟩
theorem lw_p65 : lw_okq (⟨"SureHunters$Games", "tryOut", "(LSureHunters$Game;I)I"⟩, 6) := ⟨⟨by decide +kernel, by decide +kernel⟩, List.mem_of_getElem? (i := 118) (by decide +kernel), List.mem_of_getElem? (i := 807) (by decide +kernel), List.mem_of_getElem? (i := 808) (by decide +kernel)⟩
theorem lw_p66 : lw_okq (⟨"SureHunters$Rows", "standsAt", "(II)Z"⟩, 9) := ⟨⟨by decide +kernel, by decide +kernel⟩, List.mem_of_getElem? (i := 124) (by decide +kernel), List.mem_of_getElem? (i := 818) (by decide +kernel), List.mem_of_getElem? (i := 819) (by decide +kernel)⟩
theorem lw_p67 : lw_okq (⟨"SureHunters$Games", "bestRow", "(LSureHunters$Game;II)I"⟩, 6) := ⟨⟨by decide +kernel, by decide +kernel⟩, List.mem_of_getElem? (i := 118) (by decide +kernel), List.mem_of_getElem? (i := 823) (by decide +kernel), List.mem_of_getElem? (i := 824) (by decide +kernel)⟩
theorem lw_p68 : lw_okq (⟨"SureHunters$Games", "runnersRank", "(LSureHunters$Game;II)I"⟩, 6) := ⟨⟨by decide +kernel, by decide +kernel⟩, List.mem_of_getElem? (i := 118) (by decide +kernel), List.mem_of_getElem? (i := 827) (by decide +kernel), List.mem_of_getElem? (i := 828) (by decide +kernel)⟩
theorem lw_p69 : lw_okq (⟨"SureHunters", "helpingLine", "(II)I"⟩, 11) := ⟨⟨by decide +kernel, by decide +kernel⟩, List.mem_of_getElem? (i := 26) (by decide +kernel), List.mem_of_getElem? (i := 835) (by decide +kernel), List.mem_of_getElem? (i := 836) (by decide +kernel)⟩
theorem lw_p70 : lw_okq (⟨"SureHunters$Symmetries", "howMany", "(LSureHunters$Net;)I"⟩, 2) := ⟨⟨by decide +kernel, by decide +kernel⟩, List.mem_of_getElem? (i := 238) (by decide +kernel), List.mem_of_getElem? (i := 844) (by decide +kernel), List.mem_of_getElem? (i := 845) (by decide +kernel)⟩
theorem lw_p71 : lw_okq (⟨"SureHunters$Symmetries", "imagesOf", "(LSureHunters$Net;I)I"⟩, 2) := ⟨⟨by decide +kernel, by decide +kernel⟩, List.mem_of_getElem? (i := 238) (by decide +kernel), List.mem_of_getElem? (i := 848) (by decide +kernel), List.mem_of_getElem? (i := 849) (by decide +kernel)⟩
theorem lw_p72 : lw_okq (⟨"SureHunters$Symmetries", "canBe", "(LSureHunters$Net;II)Z"⟩, 2) := ⟨⟨by decide +kernel, by decide +kernel⟩, List.mem_of_getElem? (i := 238) (by decide +kernel), List.mem_of_getElem? (i := 852) (by decide +kernel), List.mem_of_getElem? (i := 853) (by decide +kernel)⟩
theorem lw_p73 : lw_okq (⟨"SureHunters$Symmetries", "leastAlike", "(LSureHunters$Net;I)I"⟩, 2) := ⟨⟨by decide +kernel, by decide +kernel⟩, List.mem_of_getElem? (i := 238) (by decide +kernel), List.mem_of_getElem? (i := 868) (by decide +kernel), List.mem_of_getElem? (i := 869) (by decide +kernel)⟩
theorem lw_p74 : lw_okq (⟨"SureHunters", "isSet", "(I)Z"⟩, 11) := ⟨⟨by decide +kernel, by decide +kernel⟩, List.mem_of_getElem? (i := 26) (by decide +kernel), List.mem_of_getElem? (i := 876) (by decide +kernel), List.mem_of_getElem? (i := 877) (by decide +kernel)⟩
theorem lw_p75 : lw_okq (⟨"SureHunters$Watch", "settle", "(LSureHunters$Net;I)V"⟩, 1) := ⟨⟨by decide +kernel, by decide +kernel⟩, List.mem_of_getElem? (i := 251) (by decide +kernel), List.mem_of_getElem? (i := 881) (by decide +kernel), List.mem_of_getElem? (i := 882) (by decide +kernel)⟩
theorem lw_p76 : lw_okq (⟨"SureHunters$Watch", "dropCouples", "(LSureHunters$Net;I)Z"⟩, 1) := ⟨⟨by decide +kernel, by decide +kernel⟩, List.mem_of_getElem? (i := 251) (by decide +kernel), List.mem_of_getElem? (i := 886) (by decide +kernel), List.mem_of_getElem? (i := 887) (by decide +kernel)⟩
theorem lw_p77 : lw_okq (⟨"SureHunters$Watch", "answers", "(LSureHunters$Net;III)Z"⟩, 1) := ⟨⟨by decide +kernel, by decide +kernel⟩, List.mem_of_getElem? (i := 251) (by decide +kernel), List.mem_of_getElem? (i := 890) (by decide +kernel), List.mem_of_getElem? (i := 891) (by decide +kernel)⟩
theorem lw_p78 : lw_okq (⟨"SureHunters$Watch", "couples", "()I"⟩, 1) := ⟨⟨by decide +kernel, by decide +kernel⟩, List.mem_of_getElem? (i := 251) (by decide +kernel), List.mem_of_getElem? (i := 895) (by decide +kernel), List.mem_of_getElem? (i := 896) (by decide +kernel)⟩
theorem lw_p79 : lw_okq (⟨"SureHunters$Watch", "isCouple", "(II)Z"⟩, 1) := ⟨⟨by decide +kernel, by decide +kernel⟩, List.mem_of_getElem? (i := 251) (by decide +kernel), List.mem_of_getElem? (i := 904) (by decide +kernel), List.mem_of_getElem? (i := 905) (by decide +kernel)⟩
def lw_privs_5 : List (MethodName × Nat) := [(⟨"SureHunters$Games", "refusedCouple", "(LSureHunters$Game;I)I"⟩, 6), (⟨"SureHunters$Games", "tryOut", "(LSureHunters$Game;I)I"⟩, 6), (⟨"SureHunters$Rows", "standsAt", "(II)Z"⟩, 9), (⟨"SureHunters$Games", "bestRow", "(LSureHunters$Game;II)I"⟩, 6), (⟨"SureHunters$Games", "runnersRank", "(LSureHunters$Game;II)I"⟩, 6), (⟨"SureHunters", "helpingLine", "(II)I"⟩, 11), (⟨"SureHunters$Symmetries", "howMany", "(LSureHunters$Net;)I"⟩, 2), (⟨"SureHunters$Symmetries", "imagesOf", "(LSureHunters$Net;I)I"⟩, 2), (⟨"SureHunters$Symmetries", "canBe", "(LSureHunters$Net;II)Z"⟩, 2), (⟨"SureHunters$Symmetries", "leastAlike", "(LSureHunters$Net;I)I"⟩, 2), (⟨"SureHunters", "isSet", "(I)Z"⟩, 11), (⟨"SureHunters$Watch", "settle", "(LSureHunters$Net;I)V"⟩, 1), (⟨"SureHunters$Watch", "dropCouples", "(LSureHunters$Net;I)Z"⟩, 1), (⟨"SureHunters$Watch", "answers", "(LSureHunters$Net;III)Z"⟩, 1), (⟨"SureHunters$Watch", "couples", "()I"⟩, 1), (⟨"SureHunters$Watch", "isCouple", "(II)Z"⟩, 1)]
theorem lw_r5 : ∀ q ∈ lw_privs_5, lw_okq q := List.forall_mem_cons.mpr ⟨lw_p64, List.forall_mem_cons.mpr ⟨lw_p65, List.forall_mem_cons.mpr ⟨lw_p66, List.forall_mem_cons.mpr ⟨lw_p67, List.forall_mem_cons.mpr ⟨lw_p68, List.forall_mem_cons.mpr ⟨lw_p69, List.forall_mem_cons.mpr ⟨lw_p70, List.forall_mem_cons.mpr ⟨lw_p71, List.forall_mem_cons.mpr ⟨lw_p72, List.forall_mem_cons.mpr ⟨lw_p73, List.forall_mem_cons.mpr ⟨lw_p74, List.forall_mem_cons.mpr ⟨lw_p75, List.forall_mem_cons.mpr ⟨lw_p76, List.forall_mem_cons.mpr ⟨lw_p77, List.forall_mem_cons.mpr ⟨lw_p78, List.forall_mem_cons.mpr ⟨lw_p79, fun _ h => absurd h List.not_mem_nil⟩⟩⟩⟩⟩⟩⟩⟩⟩⟩⟩⟩⟩⟩⟩⟩
theorem lw_p80 : lw_okq (⟨"SureHunters$Search", "roundsOf", "(I)I"⟩, 9) := ⟨⟨by decide +kernel, by decide +kernel⟩, List.mem_of_getElem? (i := 261) (by decide +kernel), List.mem_of_getElem? (i := 912) (by decide +kernel), List.mem_of_getElem? (i := 913) (by decide +kernel)⟩
theorem lw_p81 : lw_okq (⟨"SureHunters$Search", "opensLit", "(I)Z"⟩, 9) := ⟨⟨by decide +kernel, by decide +kernel⟩, List.mem_of_getElem? (i := 261) (by decide +kernel), List.mem_of_getElem? (i := 916) (by decide +kernel), List.mem_of_getElem? (i := 917) (by decide +kernel)⟩
theorem lw_p82 : lw_okq (⟨"SureHunters$Search", "explore", "(I)V"⟩, 9) := ⟨⟨by decide +kernel, by decide +kernel⟩, List.mem_of_getElem? (i := 261) (by decide +kernel), List.mem_of_getElem? (i := 926) (by decide +kernel), List.mem_of_getElem? (i := 927) (by decide +kernel)⟩
theorem lw_p83 : lw_okq (⟨"SureHunters$Search", "prepare", "()V"⟩, 9) := ⟨⟨by decide +kernel, by decide +kernel⟩, List.mem_of_getElem? (i := 261) (by decide +kernel), List.mem_of_getElem? (i := 930) (by decide +kernel), List.mem_of_getElem? (i := 931) (by decide +kernel)⟩
theorem lw_p84 : lw_okq (⟨"SureHunters$Search", "isOnNet", "(I)Z"⟩, 9) := ⟨⟨by decide +kernel, by decide +kernel⟩, List.mem_of_getElem? (i := 261) (by decide +kernel), List.mem_of_getElem? (i := 936) (by decide +kernel), List.mem_of_getElem? (i := 937) (by decide +kernel)⟩
theorem lw_p85 : lw_okq (⟨"SureHunters$Search", "enqueue", "(II)V"⟩, 9) := ⟨⟨by decide +kernel, by decide +kernel⟩, List.mem_of_getElem? (i := 261) (by decide +kernel), List.mem_of_getElem? (i := 940) (by decide +kernel), List.mem_of_getElem? (i := 941) (by decide +kernel)⟩
theorem lw_p86 : lw_okq (⟨"SureHunters$Search", "stepsToLight", "(III)Z"⟩, 9) := ⟨⟨by decide +kernel, by decide +kernel⟩, List.mem_of_getElem? (i := 261) (by decide +kernel), List.mem_of_getElem? (i := 944) (by decide +kernel), List.mem_of_getElem? (i := 945) (by decide +kernel)⟩
theorem lw_p87 : lw_okq (⟨"SureHunters$Rows", "isFound", "(I)Z"⟩, 9) := ⟨⟨by decide +kernel, by decide +kernel⟩, List.mem_of_getElem? (i := 124) (by decide +kernel), List.mem_of_getElem? (i := 949) (by decide +kernel), List.mem_of_getElem? (i := 950) (by decide +kernel)⟩
theorem lw_p88 : lw_okq (⟨"SureHunters$Search", "tellPath", "(III)V"⟩, 9) := ⟨⟨by decide +kernel, by decide +kernel⟩, List.mem_of_getElem? (i := 261) (by decide +kernel), List.mem_of_getElem? (i := 953) (by decide +kernel), List.mem_of_getElem? (i := 954) (by decide +kernel)⟩
theorem lw_p89 : lw_okq (⟨"SureHunters$Search", "rowIn", "(II)I"⟩, 9) := ⟨⟨by decide +kernel, by decide +kernel⟩, List.mem_of_getElem? (i := 261) (by decide +kernel), List.mem_of_getElem? (i := 961) (by decide +kernel), List.mem_of_getElem? (i := 962) (by decide +kernel)⟩
theorem lw_p90 : lw_okq (⟨"SureHunters$Past", "keep", "(LSureHunters$Net;LSureHunters$Scene;)V"⟩, 4) := ⟨⟨by decide +kernel, by decide +kernel⟩, List.mem_of_getElem? (i := 327) (by decide +kernel), List.mem_of_getElem? (i := 970) (by decide +kernel), List.mem_of_getElem? (i := 971) (by decide +kernel)⟩
theorem lw_p91 : lw_okq (⟨"SureHunters$Scene", "copyFrom", "(LSureHunters$Scene;)V"⟩, 6) := ⟨⟨by decide +kernel, by decide +kernel⟩, List.mem_of_getElem? (i := 296) (by decide +kernel), List.mem_of_getElem? (i := 975) (by decide +kernel), List.mem_of_getElem? (i := 976) (by decide +kernel)⟩
theorem lw_p92 : lw_okq (⟨"SureHunters$Scene", "open", "(III)V"⟩, 6) := ⟨⟨by decide +kernel, by decide +kernel⟩, List.mem_of_getElem? (i := 296) (by decide +kernel), List.mem_of_getElem? (i := 980) (by decide +kernel), List.mem_of_getElem? (i := 981) (by decide +kernel)⟩
theorem lw_p93 : lw_okq (⟨"SureHunters", "isCaught", "()Z"⟩, 11) := ⟨⟨by decide +kernel, by decide +kernel⟩, List.mem_of_getElem? (i := 26) (by decide +kernel), List.mem_of_getElem? (i := 988) (by decide +kernel), List.mem_of_getElem? (i := 989) (by decide +kernel)⟩
theorem lw_p94 : lw_okq (⟨"SureHunters", "stageWorth", "()I"⟩, 11) := ⟨⟨by decide +kernel, by decide +kernel⟩, List.mem_of_getElem? (i := 26) (by decide +kernel), List.mem_of_getElem? (i := 993) (by decide +kernel), List.mem_of_getElem? (i := 994) (by decide +kernel)⟩
theorem lw_p95 : lw_okq (⟨"SureHunters$Games", "runnersWorth", "(LSureHunters$Game;II)I"⟩, 6) := ⟨⟨by decide +kernel, by decide +kernel⟩, List.mem_of_getElem? (i := 118) (by decide +kernel), List.mem_of_getElem? (i := 997) (by decide +kernel), List.mem_of_getElem? (i := 998) (by decide +kernel)⟩
def lw_privs_6 : List (MethodName × Nat) := [(⟨"SureHunters$Search", "roundsOf", "(I)I"⟩, 9), (⟨"SureHunters$Search", "opensLit", "(I)Z"⟩, 9), (⟨"SureHunters$Search", "explore", "(I)V"⟩, 9), (⟨"SureHunters$Search", "prepare", "()V"⟩, 9), (⟨"SureHunters$Search", "isOnNet", "(I)Z"⟩, 9), (⟨"SureHunters$Search", "enqueue", "(II)V"⟩, 9), (⟨"SureHunters$Search", "stepsToLight", "(III)Z"⟩, 9), (⟨"SureHunters$Rows", "isFound", "(I)Z"⟩, 9), (⟨"SureHunters$Search", "tellPath", "(III)V"⟩, 9), (⟨"SureHunters$Search", "rowIn", "(II)I"⟩, 9), (⟨"SureHunters$Past", "keep", "(LSureHunters$Net;LSureHunters$Scene;)V"⟩, 4), (⟨"SureHunters$Scene", "copyFrom", "(LSureHunters$Scene;)V"⟩, 6), (⟨"SureHunters$Scene", "open", "(III)V"⟩, 6), (⟨"SureHunters", "isCaught", "()Z"⟩, 11), (⟨"SureHunters", "stageWorth", "()I"⟩, 11), (⟨"SureHunters$Games", "runnersWorth", "(LSureHunters$Game;II)I"⟩, 6)]
theorem lw_r6 : ∀ q ∈ lw_privs_6, lw_okq q := List.forall_mem_cons.mpr ⟨lw_p80, List.forall_mem_cons.mpr ⟨lw_p81, List.forall_mem_cons.mpr ⟨lw_p82, List.forall_mem_cons.mpr ⟨lw_p83, List.forall_mem_cons.mpr ⟨lw_p84, List.forall_mem_cons.mpr ⟨lw_p85, List.forall_mem_cons.mpr ⟨lw_p86, List.forall_mem_cons.mpr ⟨lw_p87, List.forall_mem_cons.mpr ⟨lw_p88, List.forall_mem_cons.mpr ⟨lw_p89, List.forall_mem_cons.mpr ⟨lw_p90, List.forall_mem_cons.mpr ⟨lw_p91, List.forall_mem_cons.mpr ⟨lw_p92, List.forall_mem_cons.mpr ⟨lw_p93, List.forall_mem_cons.mpr ⟨lw_p94, List.forall_mem_cons.mpr ⟨lw_p95, fun _ h => absurd h List.not_mem_nil⟩⟩⟩⟩⟩⟩⟩⟩⟩⟩⟩⟩⟩⟩⟩⟩
theorem lw_p96 : lw_okq (⟨"SureHunters", "stageGame", "()LSureHunters$Game;"⟩, 11) := ⟨⟨by decide +kernel, by decide +kernel⟩, List.mem_of_getElem? (i := 26) (by decide +kernel), List.mem_of_getElem? (i := 1006) (by decide +kernel), List.mem_of_getElem? (i := 1007) (by decide +kernel)⟩
theorem lw_p97 : lw_okq (⟨"SureHunters$Games", "bestPlace", "(LSureHunters$Game;II)I"⟩, 6) := ⟨⟨by decide +kernel, by decide +kernel⟩, List.mem_of_getElem? (i := 118) (by decide +kernel), List.mem_of_getElem? (i := 1010) (by decide +kernel), List.mem_of_getElem? (i := 1011) (by decide +kernel)⟩
theorem lw_p98 : lw_okq (⟨"SureHunters$Games", "safeBits", "(LSureHunters$Game;II)I"⟩, 6) := ⟨⟨by decide +kernel, by decide +kernel⟩, List.mem_of_getElem? (i := 118) (by decide +kernel), List.mem_of_getElem? (i := 1019) (by decide +kernel), List.mem_of_getElem? (i := 1020) (by decide +kernel)⟩
theorem lw_p99 : lw_okq (⟨"SureHunters$Rows", "leads", "(IIZ)Z"⟩, 9) := ⟨⟨by decide +kernel, by decide +kernel⟩, List.mem_of_getElem? (i := 124) (by decide +kernel), List.mem_of_getElem? (i := 1028) (by decide +kernel), List.mem_of_getElem? (i := 1029) (by decide +kernel)⟩
theorem lw_p100 : lw_okq (⟨"SureHunters$Scene", "huntersGo", "(I)V"⟩, 6) := ⟨⟨by decide +kernel, by decide +kernel⟩, List.mem_of_getElem? (i := 296) (by decide +kernel), List.mem_of_getElem? (i := 1034) (by decide +kernel), List.mem_of_getElem? (i := 1035) (by decide +kernel)⟩
theorem lw_p101 : lw_okq (⟨"SureHunters$Scene", "runnerGoes", "(I)V"⟩, 6) := ⟨⟨by decide +kernel, by decide +kernel⟩, List.mem_of_getElem? (i := 296) (by decide +kernel), List.mem_of_getElem? (i := 1043) (by decide +kernel), List.mem_of_getElem? (i := 1044) (by decide +kernel)⟩
theorem lw_p102 : lw_okq (⟨"SureHunters", "playTurn", "(LSureHunters$Game;)V"⟩, 11) := ⟨⟨by decide +kernel, by decide +kernel⟩, List.mem_of_getElem? (i := 26) (by decide +kernel), List.mem_of_getElem? (i := 1051) (by decide +kernel), List.mem_of_getElem? (i := 1052) (by decide +kernel)⟩
theorem lw_p103 : lw_okq (⟨"SureHunters", "takeDraft", "()V"⟩, 11) := ⟨⟨by decide +kernel, by decide +kernel⟩, List.mem_of_getElem? (i := 26) (by decide +kernel), List.mem_of_getElem? (i := 1059) (by decide +kernel), List.mem_of_getElem? (i := 1060) (by decide +kernel)⟩
theorem lw_p104 : lw_okq (⟨"SureHunters$Net", "takePart", "(LSureHunters$Net;I)V"⟩, 2) := ⟨⟨by decide +kernel, by decide +kernel⟩, List.mem_of_getElem? (i := 72) (by decide +kernel), List.mem_of_getElem? (i := 1068) (by decide +kernel), List.mem_of_getElem? (i := 1069) (by decide +kernel)⟩
theorem lw_p105 : lw_okq (⟨"SureHunters$Net", "takeTurned", "(LSureHunters$Net;)V"⟩, 2) := ⟨⟨by decide +kernel, by decide +kernel⟩, List.mem_of_getElem? (i := 72) (by decide +kernel), List.mem_of_getElem? (i := 1077) (by decide +kernel), List.mem_of_getElem? (i := 1078) (by decide +kernel)⟩
theorem lw_p106 : lw_okq (⟨"SureHunters$Net", "takeTwice", "(LSureHunters$Net;)V"⟩, 2) := ⟨⟨by decide +kernel, by decide +kernel⟩, List.mem_of_getElem? (i := 72) (by decide +kernel), List.mem_of_getElem? (i := 1082) (by decide +kernel), List.mem_of_getElem? (i := 1083) (by decide +kernel)⟩
theorem lw_p107 : lw_okq (⟨"SureHunters$Past", "takeBack", "(LSureHunters$Net;LSureHunters$Scene;)Z"⟩, 4) := ⟨⟨by decide +kernel, by decide +kernel⟩, List.mem_of_getElem? (i := 327) (by decide +kernel), List.mem_of_getElem? (i := 1090) (by decide +kernel), List.mem_of_getElem? (i := 1091) (by decide +kernel)⟩
theorem lw_p108 : lw_okq (⟨"SureHunters$Net", "sameAs", "(LSureHunters$Net;)Z"⟩, 2) := ⟨⟨by decide +kernel, by decide +kernel⟩, List.mem_of_getElem? (i := 72) (by decide +kernel), List.mem_of_getElem? (i := 1094) (by decide +kernel), List.mem_of_getElem? (i := 1095) (by decide +kernel)⟩
theorem lw_p109 : lw_okq (⟨"java/lang/Throwable", "fillInStackTrace", "(I)Ljava/lang/Throwable;"⟩, 6) := ⟨⟨by decide +kernel, by decide +kernel⟩, List.mem_of_getElem? (i := 1142) (by decide +kernel), List.mem_of_getElem? (i := 1140) (by decide +kernel), List.mem_of_getElem? (i := 1141) (by decide +kernel)⟩
theorem lw_p110 : lw_okq (⟨"SureHuntersModel", "four", "(I)V"⟩, 58) := ⟨⟨by decide +kernel, by decide +kernel⟩, List.mem_of_getElem? (i := 1180) (by decide +kernel), List.mem_of_getElem? (i := 1369) (by decide +kernel), List.mem_of_getElem? (i := 1370) (by decide +kernel)⟩
theorem lw_p111 : lw_okq (⟨"SureHuntersModel", "next", "()V"⟩, 58) := ⟨⟨by decide +kernel, by decide +kernel⟩, List.mem_of_getElem? (i := 1180) (by decide +kernel), List.mem_of_getElem? (i := 1384) (by decide +kernel), List.mem_of_getElem? (i := 1385) (by decide +kernel)⟩
def lw_privs_7 : List (MethodName × Nat) := [(⟨"SureHunters", "stageGame", "()LSureHunters$Game;"⟩, 11), (⟨"SureHunters$Games", "bestPlace", "(LSureHunters$Game;II)I"⟩, 6), (⟨"SureHunters$Games", "safeBits", "(LSureHunters$Game;II)I"⟩, 6), (⟨"SureHunters$Rows", "leads", "(IIZ)Z"⟩, 9), (⟨"SureHunters$Scene", "huntersGo", "(I)V"⟩, 6), (⟨"SureHunters$Scene", "runnerGoes", "(I)V"⟩, 6), (⟨"SureHunters", "playTurn", "(LSureHunters$Game;)V"⟩, 11), (⟨"SureHunters", "takeDraft", "()V"⟩, 11), (⟨"SureHunters$Net", "takePart", "(LSureHunters$Net;I)V"⟩, 2), (⟨"SureHunters$Net", "takeTurned", "(LSureHunters$Net;)V"⟩, 2), (⟨"SureHunters$Net", "takeTwice", "(LSureHunters$Net;)V"⟩, 2), (⟨"SureHunters$Past", "takeBack", "(LSureHunters$Net;LSureHunters$Scene;)Z"⟩, 4), (⟨"SureHunters$Net", "sameAs", "(LSureHunters$Net;)Z"⟩, 2), (⟨"java/lang/Throwable", "fillInStackTrace", "(I)Ljava/lang/Throwable;"⟩, 6), (⟨"SureHuntersModel", "four", "(I)V"⟩, 58), (⟨"SureHuntersModel", "next", "()V"⟩, 58)]
theorem lw_r7 : ∀ q ∈ lw_privs_7, lw_okq q := List.forall_mem_cons.mpr ⟨lw_p96, List.forall_mem_cons.mpr ⟨lw_p97, List.forall_mem_cons.mpr ⟨lw_p98, List.forall_mem_cons.mpr ⟨lw_p99, List.forall_mem_cons.mpr ⟨lw_p100, List.forall_mem_cons.mpr ⟨lw_p101, List.forall_mem_cons.mpr ⟨lw_p102, List.forall_mem_cons.mpr ⟨lw_p103, List.forall_mem_cons.mpr ⟨lw_p104, List.forall_mem_cons.mpr ⟨lw_p105, List.forall_mem_cons.mpr ⟨lw_p106, List.forall_mem_cons.mpr ⟨lw_p107, List.forall_mem_cons.mpr ⟨lw_p108, List.forall_mem_cons.mpr ⟨lw_p109, List.forall_mem_cons.mpr ⟨lw_p110, List.forall_mem_cons.mpr ⟨lw_p111, fun _ h => absurd h List.not_mem_nil⟩⟩⟩⟩⟩⟩⟩⟩⟩⟩⟩⟩⟩⟩⟩⟩
theorem lw_p112 : lw_okq (⟨"SureHuntersModel", "byteAt", "(I)I"⟩, 58) := ⟨⟨by decide +kernel, by decide +kernel⟩, List.mem_of_getElem? (i := 1180) (by decide +kernel), List.mem_of_getElem? (i := 1388) (by decide +kernel), List.mem_of_getElem? (i := 1389) (by decide +kernel)⟩
theorem lw_p113 : lw_okq (⟨"SureHuntersModel", "isGood", "()Z"⟩, 58) := ⟨⟨by decide +kernel, by decide +kernel⟩, List.mem_of_getElem? (i := 1180) (by decide +kernel), List.mem_of_getElem? (i := 1395) (by decide +kernel), List.mem_of_getElem? (i := 1396) (by decide +kernel)⟩
theorem lw_p114 : lw_okq (⟨"SureHuntersModel", "isWord", "(I)Z"⟩, 58) := ⟨⟨by decide +kernel, by decide +kernel⟩, List.mem_of_getElem? (i := 1180) (by decide +kernel), List.mem_of_getElem? (i := 1400) (by decide +kernel), List.mem_of_getElem? (i := 1401) (by decide +kernel)⟩
theorem lw_p115 : lw_okq (⟨"SureHuntersModel", "readPlace", "()V"⟩, 58) := ⟨⟨by decide +kernel, by decide +kernel⟩, List.mem_of_getElem? (i := 1180) (by decide +kernel), List.mem_of_getElem? (i := 1404) (by decide +kernel), List.mem_of_getElem? (i := 1405) (by decide +kernel)⟩
theorem lw_p116 : lw_okq (⟨"SureHuntersModel", "fails", "(I)V"⟩, 58) := ⟨⟨by decide +kernel, by decide +kernel⟩, List.mem_of_getElem? (i := 1180) (by decide +kernel), List.mem_of_getElem? (i := 1408) (by decide +kernel), List.mem_of_getElem? (i := 1409) (by decide +kernel)⟩
theorem lw_p117 : lw_okq (⟨"SureHuntersModel", "mustBeName", "()V"⟩, 58) := ⟨⟨by decide +kernel, by decide +kernel⟩, List.mem_of_getElem? (i := 1180) (by decide +kernel), List.mem_of_getElem? (i := 1412) (by decide +kernel), List.mem_of_getElem? (i := 1413) (by decide +kernel)⟩
theorem lw_p118 : lw_okq (⟨"SureHuntersModel", "called", "()I"⟩, 58) := ⟨⟨by decide +kernel, by decide +kernel⟩, List.mem_of_getElem? (i := 1180) (by decide +kernel), List.mem_of_getElem? (i := 1417) (by decide +kernel), List.mem_of_getElem? (i := 1418) (by decide +kernel)⟩
theorem lw_p119 : lw_okq (⟨"SureHuntersModel", "goOn", "()V"⟩, 58) := ⟨⟨by decide +kernel, by decide +kernel⟩, List.mem_of_getElem? (i := 1180) (by decide +kernel), List.mem_of_getElem? (i := 1421) (by decide +kernel), List.mem_of_getElem? (i := 1422) (by decide +kernel)⟩
theorem lw_p120 : lw_okq (⟨"SureHuntersModel", "readLine", "()V"⟩, 58) := ⟨⟨by decide +kernel, by decide +kernel⟩, List.mem_of_getElem? (i := 1180) (by decide +kernel), List.mem_of_getElem? (i := 1425) (by decide +kernel), List.mem_of_getElem? (i := 1426) (by decide +kernel)⟩
theorem lw_p121 : lw_okq (⟨"SureHuntersModel", "another", "()V"⟩, 58) := ⟨⟨by decide +kernel, by decide +kernel⟩, List.mem_of_getElem? (i := 1180) (by decide +kernel), List.mem_of_getElem? (i := 1432) (by decide +kernel), List.mem_of_getElem? (i := 1433) (by decide +kernel)⟩
theorem lw_p122 : lw_okq (⟨"SureHuntersModel", "isPlace", "(I)Z"⟩, 58) := ⟨⟨by decide +kernel, by decide +kernel⟩, List.mem_of_getElem? (i := 1180) (by decide +kernel), List.mem_of_getElem? (i := 1444) (by decide +kernel), List.mem_of_getElem? (i := 1445) (by decide +kernel)⟩
theorem lw_p123 : lw_okq (⟨"SureHuntersModel", "steps", "(III)I"⟩, 58) := ⟨⟨by decide +kernel, by decide +kernel⟩, List.mem_of_getElem? (i := 1180) (by decide +kernel), List.mem_of_getElem? (i := 1452) (by decide +kernel), List.mem_of_getElem? (i := 1453) (by decide +kernel)⟩
theorem lw_p124 : lw_okq (⟨"SureHuntersModel", "lines", "()I"⟩, 58) := ⟨⟨by decide +kernel, by decide +kernel⟩, List.mem_of_getElem? (i := 1180) (by decide +kernel), List.mem_of_getElem? (i := 1460) (by decide +kernel), List.mem_of_getElem? (i := 1461) (by decide +kernel)⟩
theorem lw_p125 : lw_okq (⟨"SureHuntersModel", "parts", "()I"⟩, 58) := ⟨⟨by decide +kernel, by decide +kernel⟩, List.mem_of_getElem? (i := 1180) (by decide +kernel), List.mem_of_getElem? (i := 1467) (by decide +kernel), List.mem_of_getElem? (i := 1468) (by decide +kernel)⟩
theorem lw_p126 : lw_okq (⟨"SureHuntersModel", "allPlaces", "()I"⟩, 58) := ⟨⟨by decide +kernel, by decide +kernel⟩, List.mem_of_getElem? (i := 1180) (by decide +kernel), List.mem_of_getElem? (i := 1471) (by decide +kernel), List.mem_of_getElem? (i := 1472) (by decide +kernel)⟩
theorem lw_p127 : lw_okq (⟨"SureHuntersModel", "nearAll", "(I)I"⟩, 58) := ⟨⟨by decide +kernel, by decide +kernel⟩, List.mem_of_getElem? (i := 1180) (by decide +kernel), List.mem_of_getElem? (i := 1475) (by decide +kernel), List.mem_of_getElem? (i := 1476) (by decide +kernel)⟩
def lw_privs_8 : List (MethodName × Nat) := [(⟨"SureHuntersModel", "byteAt", "(I)I"⟩, 58), (⟨"SureHuntersModel", "isGood", "()Z"⟩, 58), (⟨"SureHuntersModel", "isWord", "(I)Z"⟩, 58), (⟨"SureHuntersModel", "readPlace", "()V"⟩, 58), (⟨"SureHuntersModel", "fails", "(I)V"⟩, 58), (⟨"SureHuntersModel", "mustBeName", "()V"⟩, 58), (⟨"SureHuntersModel", "called", "()I"⟩, 58), (⟨"SureHuntersModel", "goOn", "()V"⟩, 58), (⟨"SureHuntersModel", "readLine", "()V"⟩, 58), (⟨"SureHuntersModel", "another", "()V"⟩, 58), (⟨"SureHuntersModel", "isPlace", "(I)Z"⟩, 58), (⟨"SureHuntersModel", "steps", "(III)I"⟩, 58), (⟨"SureHuntersModel", "lines", "()I"⟩, 58), (⟨"SureHuntersModel", "parts", "()I"⟩, 58), (⟨"SureHuntersModel", "allPlaces", "()I"⟩, 58), (⟨"SureHuntersModel", "nearAll", "(I)I"⟩, 58)]
theorem lw_r8 : ∀ q ∈ lw_privs_8, lw_okq q := List.forall_mem_cons.mpr ⟨lw_p112, List.forall_mem_cons.mpr ⟨lw_p113, List.forall_mem_cons.mpr ⟨lw_p114, List.forall_mem_cons.mpr ⟨lw_p115, List.forall_mem_cons.mpr ⟨lw_p116, List.forall_mem_cons.mpr ⟨lw_p117, List.forall_mem_cons.mpr ⟨lw_p118, List.forall_mem_cons.mpr ⟨lw_p119, List.forall_mem_cons.mpr ⟨lw_p120, List.forall_mem_cons.mpr ⟨lw_p121, List.forall_mem_cons.mpr ⟨lw_p122, List.forall_mem_cons.mpr ⟨lw_p123, List.forall_mem_cons.mpr ⟨lw_p124, List.forall_mem_cons.mpr ⟨lw_p125, List.forall_mem_cons.mpr ⟨lw_p126, List.forall_mem_cons.mpr ⟨lw_p127, fun _ h => absurd h List.not_mem_nil⟩⟩⟩⟩⟩⟩⟩⟩⟩⟩⟩⟩⟩⟩⟩⟩
theorem lw_p128 : lw_okq (⟨"SureHuntersModel", "girth", "()I"⟩, 58) := ⟨⟨by decide +kernel, by decide +kernel⟩, List.mem_of_getElem? (i := 1180) (by decide +kernel), List.mem_of_getElem? (i := 1479) (by decide +kernel), List.mem_of_getElem? (i := 1480) (by decide +kernel)⟩
theorem lw_p129 : lw_okq (⟨"SureHuntersModel", "low", "()I"⟩, 58) := ⟨⟨by decide +kernel, by decide +kernel⟩, List.mem_of_getElem? (i := 1180) (by decide +kernel), List.mem_of_getElem? (i := 1483) (by decide +kernel), List.mem_of_getElem? (i := 1484) (by decide +kernel)⟩
theorem lw_p130 : lw_okq (⟨"SureHuntersModel", "dismantle", "()V"⟩, 58) := ⟨⟨by decide +kernel, by decide +kernel⟩, List.mem_of_getElem? (i := 1180) (by decide +kernel), List.mem_of_getElem? (i := 1487) (by decide +kernel), List.mem_of_getElem? (i := 1488) (by decide +kernel)⟩
theorem lw_p131 : lw_okq (⟨"SureHuntersModel", "cornerBy", "(II)I"⟩, 58) := ⟨⟨by decide +kernel, by decide +kernel⟩, List.mem_of_getElem? (i := 1180) (by decide +kernel), List.mem_of_getElem? (i := 1491) (by decide +kernel), List.mem_of_getElem? (i := 1492) (by decide +kernel)⟩
theorem lw_p132 : lw_okq (⟨"SureHuntersModel", "cover", "()I"⟩, 58) := ⟨⟨by decide +kernel, by decide +kernel⟩, List.mem_of_getElem? (i := 1180) (by decide +kernel), List.mem_of_getElem? (i := 1501) (by decide +kernel), List.mem_of_getElem? (i := 1502) (by decide +kernel)⟩
theorem lw_p133 : lw_okq (⟨"SureHuntersModel", "isGame", "(II)Z"⟩, 58) := ⟨⟨by decide +kernel, by decide +kernel⟩, List.mem_of_getElem? (i := 1180) (by decide +kernel), List.mem_of_getElem? (i := 1528) (by decide +kernel), List.mem_of_getElem? (i := 1529) (by decide +kernel)⟩
theorem lw_p134 : lw_okq (⟨"SureHuntersModel", "timeOf", "(II)I"⟩, 58) := ⟨⟨by decide +kernel, by decide +kernel⟩, List.mem_of_getElem? (i := 1180) (by decide +kernel), List.mem_of_getElem? (i := 1532) (by decide +kernel), List.mem_of_getElem? (i := 1533) (by decide +kernel)⟩
theorem lw_p135 : lw_okq (⟨"SureHuntersModel", "solve", "(II)V"⟩, 58) := ⟨⟨by decide +kernel, by decide +kernel⟩, List.mem_of_getElem? (i := 1180) (by decide +kernel), List.mem_of_getElem? (i := 1536) (by decide +kernel), List.mem_of_getElem? (i := 1537) (by decide +kernel)⟩
theorem lw_p136 : lw_okq (⟨"SureHuntersModel", "layGoing", "(II)V"⟩, 58) := ⟨⟨by decide +kernel, by decide +kernel⟩, List.mem_of_getElem? (i := 1180) (by decide +kernel), List.mem_of_getElem? (i := 1540) (by decide +kernel), List.mem_of_getElem? (i := 1541) (by decide +kernel)⟩
theorem lw_p137 : lw_okq (⟨"SureHuntersModel", "layRows", "(I)V"⟩, 58) := ⟨⟨by decide +kernel, by decide +kernel⟩, List.mem_of_getElem? (i := 1180) (by decide +kernel), List.mem_of_getElem? (i := 1544) (by decide +kernel), List.mem_of_getElem? (i := 1545) (by decide +kernel)⟩
theorem lw_p138 : lw_okq (⟨"SureHuntersModel", "comes", "(III)Z"⟩, 58) := ⟨⟨by decide +kernel, by decide +kernel⟩, List.mem_of_getElem? (i := 1180) (by decide +kernel), List.mem_of_getElem? (i := 1548) (by decide +kernel), List.mem_of_getElem? (i := 1549) (by decide +kernel)⟩
theorem lw_p139 : lw_okq (⟨"SureHuntersModel", "layRunner", "(I)V"⟩, 58) := ⟨⟨by decide +kernel, by decide +kernel⟩, List.mem_of_getElem? (i := 1180) (by decide +kernel), List.mem_of_getElem? (i := 1552) (by decide +kernel), List.mem_of_getElem? (i := 1553) (by decide +kernel)⟩
theorem lw_p140 : lw_okq (⟨"SureHuntersModel", "runs", "(III)I"⟩, 58) := ⟨⟨by decide +kernel, by decide +kernel⟩, List.mem_of_getElem? (i := 1180) (by decide +kernel), List.mem_of_getElem? (i := 1556) (by decide +kernel), List.mem_of_getElem? (i := 1557) (by decide +kernel)⟩
theorem lw_p141 : lw_okq (⟨"SureHuntersModel", "leastBehind", "(II)I"⟩, 58) := ⟨⟨by decide +kernel, by decide +kernel⟩, List.mem_of_getElem? (i := 1180) (by decide +kernel), List.mem_of_getElem? (i := 1560) (by decide +kernel), List.mem_of_getElem? (i := 1561) (by decide +kernel)⟩
theorem lw_p142 : lw_okq (⟨"SureHuntersModel", "startRow", "()I"⟩, 58) := ⟨⟨by decide +kernel, by decide +kernel⟩, List.mem_of_getElem? (i := 1180) (by decide +kernel), List.mem_of_getElem? (i := 1564) (by decide +kernel), List.mem_of_getElem? (i := 1565) (by decide +kernel)⟩
theorem lw_p143 : lw_okq (⟨"SureHuntersModel", "greatestOf", "(I)I"⟩, 58) := ⟨⟨by decide +kernel, by decide +kernel⟩, List.mem_of_getElem? (i := 1180) (by decide +kernel), List.mem_of_getElem? (i := 1568) (by decide +kernel), List.mem_of_getElem? (i := 1569) (by decide +kernel)⟩
def lw_privs_9 : List (MethodName × Nat) := [(⟨"SureHuntersModel", "girth", "()I"⟩, 58), (⟨"SureHuntersModel", "low", "()I"⟩, 58), (⟨"SureHuntersModel", "dismantle", "()V"⟩, 58), (⟨"SureHuntersModel", "cornerBy", "(II)I"⟩, 58), (⟨"SureHuntersModel", "cover", "()I"⟩, 58), (⟨"SureHuntersModel", "isGame", "(II)Z"⟩, 58), (⟨"SureHuntersModel", "timeOf", "(II)I"⟩, 58), (⟨"SureHuntersModel", "solve", "(II)V"⟩, 58), (⟨"SureHuntersModel", "layGoing", "(II)V"⟩, 58), (⟨"SureHuntersModel", "layRows", "(I)V"⟩, 58), (⟨"SureHuntersModel", "comes", "(III)Z"⟩, 58), (⟨"SureHuntersModel", "layRunner", "(I)V"⟩, 58), (⟨"SureHuntersModel", "runs", "(III)I"⟩, 58), (⟨"SureHuntersModel", "leastBehind", "(II)I"⟩, 58), (⟨"SureHuntersModel", "startRow", "()I"⟩, 58), (⟨"SureHuntersModel", "greatestOf", "(I)I"⟩, 58)]
theorem lw_r9 : ∀ q ∈ lw_privs_9, lw_okq q := List.forall_mem_cons.mpr ⟨lw_p128, List.forall_mem_cons.mpr ⟨lw_p129, List.forall_mem_cons.mpr ⟨lw_p130, List.forall_mem_cons.mpr ⟨lw_p131, List.forall_mem_cons.mpr ⟨lw_p132, List.forall_mem_cons.mpr ⟨lw_p133, List.forall_mem_cons.mpr ⟨lw_p134, List.forall_mem_cons.mpr ⟨lw_p135, List.forall_mem_cons.mpr ⟨lw_p136, List.forall_mem_cons.mpr ⟨lw_p137, List.forall_mem_cons.mpr ⟨lw_p138, List.forall_mem_cons.mpr ⟨lw_p139, List.forall_mem_cons.mpr ⟨lw_p140, List.forall_mem_cons.mpr ⟨lw_p141, List.forall_mem_cons.mpr ⟨lw_p142, List.forall_mem_cons.mpr ⟨lw_p143, fun _ h => absurd h List.not_mem_nil⟩⟩⟩⟩⟩⟩⟩⟩⟩⟩⟩⟩⟩⟩⟩⟩
theorem lw_p144 : lw_okq (⟨"SureHuntersModel", "tell", "(III)I"⟩, 58) := ⟨⟨by decide +kernel, by decide +kernel⟩, List.mem_of_getElem? (i := 1180) (by decide +kernel), List.mem_of_getElem? (i := 1584) (by decide +kernel), List.mem_of_getElem? (i := 1585) (by decide +kernel)⟩
theorem lw_p145 : lw_okq (⟨"SureHuntersModel", "rowTold", "()I"⟩, 58) := ⟨⟨by decide +kernel, by decide +kernel⟩, List.mem_of_getElem? (i := 1180) (by decide +kernel), List.mem_of_getElem? (i := 1588) (by decide +kernel), List.mem_of_getElem? (i := 1589) (by decide +kernel)⟩
theorem lw_p146 : lw_okq (⟨"SureHuntersModel", "refused", "(I)I"⟩, 58) := ⟨⟨by decide +kernel, by decide +kernel⟩, List.mem_of_getElem? (i := 1180) (by decide +kernel), List.mem_of_getElem? (i := 1596) (by decide +kernel), List.mem_of_getElem? (i := 1597) (by decide +kernel)⟩
theorem lw_p147 : lw_okq (⟨"SureHuntersModel", "drawn", "(I)I"⟩, 58) := ⟨⟨by decide +kernel, by decide +kernel⟩, List.mem_of_getElem? (i := 1180) (by decide +kernel), List.mem_of_getElem? (i := 1608) (by decide +kernel), List.mem_of_getElem? (i := 1609) (by decide +kernel)⟩
theorem lw_p148 : lw_okq (⟨"SureHuntersModel", "bestRow", "(II)I"⟩, 58) := ⟨⟨by decide +kernel, by decide +kernel⟩, List.mem_of_getElem? (i := 1180) (by decide +kernel), List.mem_of_getElem? (i := 1613) (by decide +kernel), List.mem_of_getElem? (i := 1614) (by decide +kernel)⟩
theorem lw_p149 : lw_okq (⟨"SureHuntersModel", "turns", "(II)V"⟩, 58) := ⟨⟨by decide +kernel, by decide +kernel⟩, List.mem_of_getElem? (i := 1180) (by decide +kernel), List.mem_of_getElem? (i := 1621) (by decide +kernel), List.mem_of_getElem? (i := 1622) (by decide +kernel)⟩
theorem lw_p150 : lw_okq (⟨"SureHuntersModel", "laySymmetries", "()V"⟩, 58) := ⟨⟨by decide +kernel, by decide +kernel⟩, List.mem_of_getElem? (i := 1180) (by decide +kernel), List.mem_of_getElem? (i := 1629) (by decide +kernel), List.mem_of_getElem? (i := 1630) (by decide +kernel)⟩
theorem lw_p151 : lw_okq (⟨"SureHuntersModel", "fits", "(I)Z"⟩, 58) := ⟨⟨by decide +kernel, by decide +kernel⟩, List.mem_of_getElem? (i := 1180) (by decide +kernel), List.mem_of_getElem? (i := 1633) (by decide +kernel), List.mem_of_getElem? (i := 1634) (by decide +kernel)⟩
theorem lw_p152 : lw_okq (⟨"SureHuntersModel", "isSet", "(I)Z"⟩, 58) := ⟨⟨by decide +kernel, by decide +kernel⟩, List.mem_of_getElem? (i := 1180) (by decide +kernel), List.mem_of_getElem? (i := 1645) (by decide +kernel), List.mem_of_getElem? (i := 1646) (by decide +kernel)⟩
theorem lw_p153 : lw_okq (⟨"SureHuntersModel", "layGuard", "(I)V"⟩, 58) := ⟨⟨by decide +kernel, by decide +kernel⟩, List.mem_of_getElem? (i := 1180) (by decide +kernel), List.mem_of_getElem? (i := 1649) (by decide +kernel), List.mem_of_getElem? (i := 1650) (by decide +kernel)⟩
theorem lw_p154 : lw_okq (⟨"SureHuntersModel", "holds", "(III)Z"⟩, 58) := ⟨⟨by decide +kernel, by decide +kernel⟩, List.mem_of_getElem? (i := 1180) (by decide +kernel), List.mem_of_getElem? (i := 1653) (by decide +kernel), List.mem_of_getElem? (i := 1654) (by decide +kernel)⟩
theorem lw_p155 : lw_okq (⟨"SureHuntersModel", "isSweep", "(I)Z"⟩, 58) := ⟨⟨by decide +kernel, by decide +kernel⟩, List.mem_of_getElem? (i := 1180) (by decide +kernel), List.mem_of_getElem? (i := 1665) (by decide +kernel), List.mem_of_getElem? (i := 1666) (by decide +kernel)⟩
theorem lw_p156 : lw_okq (⟨"SureHuntersModel", "laySweep", "(I)V"⟩, 58) := ⟨⟨by decide +kernel, by decide +kernel⟩, List.mem_of_getElem? (i := 1180) (by decide +kernel), List.mem_of_getElem? (i := 1669) (by decide +kernel), List.mem_of_getElem? (i := 1670) (by decide +kernel)⟩
theorem lw_p157 : lw_okq (⟨"SureHuntersModel", "bestBegin", "()I"⟩, 58) := ⟨⟨by decide +kernel, by decide +kernel⟩, List.mem_of_getElem? (i := 1180) (by decide +kernel), List.mem_of_getElem? (i := 1673) (by decide +kernel), List.mem_of_getElem? (i := 1674) (by decide +kernel)⟩
theorem lw_p158 : lw_okq (⟨"SureHuntersModel", "leastLeft", "(II)I"⟩, 58) := ⟨⟨by decide +kernel, by decide +kernel⟩, List.mem_of_getElem? (i := 1180) (by decide +kernel), List.mem_of_getElem? (i := 1677) (by decide +kernel), List.mem_of_getElem? (i := 1678) (by decide +kernel)⟩
theorem lw_p159 : lw_okq (⟨"SureHuntersModel", "leftBehind", "(II)I"⟩, 58) := ⟨⟨by decide +kernel, by decide +kernel⟩, List.mem_of_getElem? (i := 1180) (by decide +kernel), List.mem_of_getElem? (i := 1681) (by decide +kernel), List.mem_of_getElem? (i := 1682) (by decide +kernel)⟩
def lw_privs_10 : List (MethodName × Nat) := [(⟨"SureHuntersModel", "tell", "(III)I"⟩, 58), (⟨"SureHuntersModel", "rowTold", "()I"⟩, 58), (⟨"SureHuntersModel", "refused", "(I)I"⟩, 58), (⟨"SureHuntersModel", "drawn", "(I)I"⟩, 58), (⟨"SureHuntersModel", "bestRow", "(II)I"⟩, 58), (⟨"SureHuntersModel", "turns", "(II)V"⟩, 58), (⟨"SureHuntersModel", "laySymmetries", "()V"⟩, 58), (⟨"SureHuntersModel", "fits", "(I)Z"⟩, 58), (⟨"SureHuntersModel", "isSet", "(I)Z"⟩, 58), (⟨"SureHuntersModel", "layGuard", "(I)V"⟩, 58), (⟨"SureHuntersModel", "holds", "(III)Z"⟩, 58), (⟨"SureHuntersModel", "isSweep", "(I)Z"⟩, 58), (⟨"SureHuntersModel", "laySweep", "(I)V"⟩, 58), (⟨"SureHuntersModel", "bestBegin", "()I"⟩, 58), (⟨"SureHuntersModel", "leastLeft", "(II)I"⟩, 58), (⟨"SureHuntersModel", "leftBehind", "(II)I"⟩, 58)]
theorem lw_r10 : ∀ q ∈ lw_privs_10, lw_okq q := List.forall_mem_cons.mpr ⟨lw_p144, List.forall_mem_cons.mpr ⟨lw_p145, List.forall_mem_cons.mpr ⟨lw_p146, List.forall_mem_cons.mpr ⟨lw_p147, List.forall_mem_cons.mpr ⟨lw_p148, List.forall_mem_cons.mpr ⟨lw_p149, List.forall_mem_cons.mpr ⟨lw_p150, List.forall_mem_cons.mpr ⟨lw_p151, List.forall_mem_cons.mpr ⟨lw_p152, List.forall_mem_cons.mpr ⟨lw_p153, List.forall_mem_cons.mpr ⟨lw_p154, List.forall_mem_cons.mpr ⟨lw_p155, List.forall_mem_cons.mpr ⟨lw_p156, List.forall_mem_cons.mpr ⟨lw_p157, List.forall_mem_cons.mpr ⟨lw_p158, List.forall_mem_cons.mpr ⟨lw_p159, fun _ h => absurd h List.not_mem_nil⟩⟩⟩⟩⟩⟩⟩⟩⟩⟩⟩⟩⟩⟩⟩⟩
theorem lw_p160 : lw_okq (⟨"SureHuntersModel", "darkBehind", "(II)I"⟩, 58) := ⟨⟨by decide +kernel, by decide +kernel⟩, List.mem_of_getElem? (i := 1180) (by decide +kernel), List.mem_of_getElem? (i := 1685) (by decide +kernel), List.mem_of_getElem? (i := 1686) (by decide +kernel)⟩
theorem lw_p161 : lw_okq (⟨"SureHuntersModel", "layWay", "(I)V"⟩, 58) := ⟨⟨by decide +kernel, by decide +kernel⟩, List.mem_of_getElem? (i := 1180) (by decide +kernel), List.mem_of_getElem? (i := 1689) (by decide +kernel), List.mem_of_getElem? (i := 1690) (by decide +kernel)⟩
theorem lw_p162 : lw_okq (⟨"SureHuntersModel", "keep", "()V"⟩, 58) := ⟨⟨by decide +kernel, by decide +kernel⟩, List.mem_of_getElem? (i := 1180) (by decide +kernel), List.mem_of_getElem? (i := 1701) (by decide +kernel), List.mem_of_getElem? (i := 1702) (by decide +kernel)⟩
theorem lw_p163 : lw_okq (⟨"SureHuntersModel", "isCaught", "()Z"⟩, 58) := ⟨⟨by decide +kernel, by decide +kernel⟩, List.mem_of_getElem? (i := 1180) (by decide +kernel), List.mem_of_getElem? (i := 1709) (by decide +kernel), List.mem_of_getElem? (i := 1710) (by decide +kernel)⟩
theorem lw_p164 : lw_okq (⟨"SureHuntersModel", "worthNow", "()I"⟩, 58) := ⟨⟨by decide +kernel, by decide +kernel⟩, List.mem_of_getElem? (i := 1180) (by decide +kernel), List.mem_of_getElem? (i := 1713) (by decide +kernel), List.mem_of_getElem? (i := 1714) (by decide +kernel)⟩
theorem lw_p165 : lw_okq (⟨"SureHuntersModel", "sceneRow", "()I"⟩, 58) := ⟨⟨by decide +kernel, by decide +kernel⟩, List.mem_of_getElem? (i := 1180) (by decide +kernel), List.mem_of_getElem? (i := 1717) (by decide +kernel), List.mem_of_getElem? (i := 1718) (by decide +kernel)⟩
theorem lw_p166 : lw_okq (⟨"SureHuntersModel", "bestPlace", "(I)I"⟩, 58) := ⟨⟨by decide +kernel, by decide +kernel⟩, List.mem_of_getElem? (i := 1180) (by decide +kernel), List.mem_of_getElem? (i := 1725) (by decide +kernel), List.mem_of_getElem? (i := 1726) (by decide +kernel)⟩
theorem lw_p167 : lw_okq (⟨"SureHuntersModel", "stand", "(I)V"⟩, 58) := ⟨⟨by decide +kernel, by decide +kernel⟩, List.mem_of_getElem? (i := 1180) (by decide +kernel), List.mem_of_getElem? (i := 1737) (by decide +kernel), List.mem_of_getElem? (i := 1738) (by decide +kernel)⟩
theorem lw_p168 : lw_okq (⟨"SureHuntersModel", "becomeLeft", "(I)V"⟩, 58) := ⟨⟨by decide +kernel, by decide +kernel⟩, List.mem_of_getElem? (i := 1180) (by decide +kernel), List.mem_of_getElem? (i := 1761) (by decide +kernel), List.mem_of_getElem? (i := 1762) (by decide +kernel)⟩
def lw_privs_11 : List (MethodName × Nat) := [(⟨"SureHuntersModel", "darkBehind", "(II)I"⟩, 58), (⟨"SureHuntersModel", "layWay", "(I)V"⟩, 58), (⟨"SureHuntersModel", "keep", "()V"⟩, 58), (⟨"SureHuntersModel", "isCaught", "()Z"⟩, 58), (⟨"SureHuntersModel", "worthNow", "()I"⟩, 58), (⟨"SureHuntersModel", "sceneRow", "()I"⟩, 58), (⟨"SureHuntersModel", "bestPlace", "(I)I"⟩, 58), (⟨"SureHuntersModel", "stand", "(I)V"⟩, 58), (⟨"SureHuntersModel", "becomeLeft", "(I)V"⟩, 58)]
theorem lw_r11 : ∀ q ∈ lw_privs_11, lw_okq q := List.forall_mem_cons.mpr ⟨lw_p160, List.forall_mem_cons.mpr ⟨lw_p161, List.forall_mem_cons.mpr ⟨lw_p162, List.forall_mem_cons.mpr ⟨lw_p163, List.forall_mem_cons.mpr ⟨lw_p164, List.forall_mem_cons.mpr ⟨lw_p165, List.forall_mem_cons.mpr ⟨lw_p166, List.forall_mem_cons.mpr ⟨lw_p167, List.forall_mem_cons.mpr ⟨lw_p168, fun _ h => absurd h List.not_mem_nil⟩⟩⟩⟩⟩⟩⟩⟩⟩
def lw_privs : List (MethodName × Nat) := lw_privs_1 ++ (lw_privs_2 ++ (lw_privs_3 ++ (lw_privs_4 ++ (lw_privs_5 ++ (lw_privs_6 ++ (lw_privs_7 ++ (lw_privs_8 ++ (lw_privs_9 ++ (lw_privs_10 ++ (lw_privs_11))))))))))
def lw_tbl : List Cond := k2_sels lw_privs ++ tables_1
theorem lw_privs_ok : ∀ q ∈ lw_privs, lw_okq q := by
  show ∀ q ∈ lw_privs_1 ++ (lw_privs_2 ++ (lw_privs_3 ++ (lw_privs_4 ++ (lw_privs_5 ++ (lw_privs_6 ++ (lw_privs_7 ++ (lw_privs_8 ++ (lw_privs_9 ++ (lw_privs_10 ++ (lw_privs_11)))))))))), lw_okq q
  exact List.forall_mem_append.mpr ⟨lw_r1, List.forall_mem_append.mpr ⟨lw_r2, List.forall_mem_append.mpr ⟨lw_r3, List.forall_mem_append.mpr ⟨lw_r4, List.forall_mem_append.mpr ⟨lw_r5, List.forall_mem_append.mpr ⟨lw_r6, List.forall_mem_append.mpr ⟨lw_r7, List.forall_mem_append.mpr ⟨lw_r8, List.forall_mem_append.mpr ⟨lw_r9, List.forall_mem_append.mpr ⟨lw_r10, lw_r11⟩⟩⟩⟩⟩⟩⟩⟩⟩⟩
-- names
def RX0 : String := "SureHunters$Dismantling"
def TX0 : u_T := fun k => match k with
  | 0 => ("SureHunters$Dismantling", "settled", "Z", false)
  | 1 => ("SureHunters$Dismantling", "stay", "I", false)
  | 2 => ("SureHunters$Dismantling", "gone", "I", false)
  | 3 => ("SureHunters$Dismantling", "turn", "[I", true)
  | _ => ("SureHunters$Dismantling", "comesTo", "[I", true)
def tyX0 : Nat → FieldType := fun k => match k with
  | 0 => .boolean
  | 1 => .int
  | 2 => .int
  | 3 => .array .int
  | _ => .array .int
theorem nmX0 : ∀ a, a < 5 → ∀ b, b < 5 → a ≠ b → (TX0 a).2.1 ≠ (TX0 b).2.1 := by decide +kernel
theorem tyX0_ok : ∀ k, k < 5 → parseFieldDescriptor (TX0 k).2.2.1 = some (tyX0 k) := by decide +kernel
abbrev cX0_init : ByteArray := prog_2_method_1_code
def yX0_init : MethodName := ⟨RX0, "<init>", "()V"⟩
abbrev cX0_settle : ByteArray := prog_2_method_2_code
def yX0_settle : MethodName := ⟨RX0, "settle", "(LSureHunters$Net;)V"⟩
abbrev cX0_takeLeastCorner : ByteArray := prog_2_method_3_code
def yX0_takeLeastCorner : MethodName := ⟨RX0, "takeLeastCorner", "(LSureHunters$Net;)V"⟩
abbrev cX0_cornerBy : ByteArray := prog_2_method_4_code
def yX0_cornerBy : MethodName := ⟨RX0, "cornerBy", "(LSureHunters$Net;II)I"⟩
abbrev cX0_comesAtLast : ByteArray := prog_2_method_5_code
def yX0_comesAtLast : MethodName := ⟨RX0, "comesAtLast", "(I)I"⟩
def RX1 : String := "SureHunters$Game"
def TX1 : u_T := fun k => match k with
  | 0 => ("SureHunters$Game", "kind", "I", true)
  | 1 => ("SureHunters$Game", "first", "I", true)
  | 2 => ("SureHunters$Game", "past", "I", true)
  | 3 => ("SureHunters$Game", "ready", "Z", false)
  | 4 => ("SureHunters$Game", "worths", "[I", false)
  | 5 => ("SureHunters$Game", "opening", "I", false)
  | 6 => ("SureHunters$Game", "turns", "I", false)
  | 7 => ("SureHunters$Game", "refused", "I", false)
  | _ => ("SureHunters$Game", "helping", "I", false)
def tyX1 : Nat → FieldType := fun k => match k with
  | 0 => .int
  | 1 => .int
  | 2 => .int
  | 3 => .boolean
  | 4 => .array .int
  | 5 => .int
  | 6 => .int
  | 7 => .int
  | _ => .int
theorem nmX1 : ∀ a, a < 9 → ∀ b, b < 9 → a ≠ b → (TX1 a).2.1 ≠ (TX1 b).2.1 := by decide +kernel
theorem tyX1_ok : ∀ k, k < 9 → parseFieldDescriptor (TX1 k).2.2.1 = some (tyX1 k) := by decide +kernel
abbrev cX1_init : ByteArray := prog_3_method_1_code
def yX1_init : MethodName := ⟨RX1, "<init>", "(III)V"⟩
abbrev cX1_clear : ByteArray := prog_3_method_2_code
def yX1_clear : MethodName := ⟨RX1, "clear", "()V"⟩
abbrev cX1_indexOf : ByteArray := prog_3_method_3_code
def yX1_indexOf : MethodName := ⟨RX1, "indexOf", "(II)I"⟩
abbrev cX1_worthAt : ByteArray := prog_3_method_4_code
def yX1_worthAt : MethodName := ⟨RX1, "worthAt", "(II)I"⟩
abbrev cX1_setWorth : ByteArray := prog_3_method_5_code
def yX1_setWorth : MethodName := ⟨RX1, "setWorth", "(III)V"⟩
abbrev cX1_sureBits : ByteArray := prog_3_method_6_code
def yX1_sureBits : MethodName := ⟨RX1, "sureBits", "(II)I"⟩
def RX2 : String := "SureHunters$Games"
def TX2 : u_T := fun k => match k with
  | 0 => ("SureHunters$Games", "net", "LSureHunters$Net;", true)
  | 1 => ("SureHunters$Games", "rows", "LSureHunters$Rows;", true)
  | 2 => ("SureHunters$Games", "tables", "[LSureHunters$Game;", true)
  | 3 => ("SureHunters$Games", "won", "[I", true)
  | 4 => ("SureHunters$Games", "held", "[I", true)
  | _ => ("SureHunters$Games", "news", "[I", true)
def tyX2 : Nat → FieldType := fun k => match k with
  | 0 => .object "SureHunters$Net"
  | 1 => .object "SureHunters$Rows"
  | 2 => .array (.object "SureHunters$Game")
  | 3 => .array .int
  | 4 => .array .int
  | _ => .array .int
theorem nmX2 : ∀ a, a < 6 → ∀ b, b < 6 → a ≠ b → (TX2 a).2.1 ≠ (TX2 b).2.1 := by decide +kernel
theorem tyX2_ok : ∀ k, k < 6 → parseFieldDescriptor (TX2 k).2.2.1 = some (tyX2 k) := by decide +kernel
abbrev cX2_init : ByteArray := prog_4_method_1_code
def yX2_init : MethodName := ⟨RX2, "<init>", "(LSureHunters$Net;)V"⟩
abbrev cX2_renew : ByteArray := prog_4_method_2_code
def yX2_renew : MethodName := ⟨RX2, "renew", "()V"⟩
abbrev cX2_solved : ByteArray := prog_4_method_3_code
def yX2_solved : MethodName := ⟨RX2, "solved", "(II)LSureHunters$Game;"⟩
abbrev cX2_solve : ByteArray := prog_4_method_4_code
def yX2_solve : MethodName := ⟨RX2, "solve", "(LSureHunters$Game;)V"⟩
abbrev cX2_isOnNet : ByteArray := prog_4_method_5_code
def yX2_isOnNet : MethodName := ⟨RX2, "isOnNet", "(I)Z"⟩
abbrev cX2_spreadHeld : ByteArray := prog_4_method_6_code
def yX2_spreadHeld : MethodName := ⟨RX2, "spreadHeld", "(LSureHunters$Game;)V"⟩
abbrev cX2_holds : ByteArray := prog_4_method_7_code
def yX2_holds : MethodName := ⟨RX2, "holds", "(LSureHunters$Game;I)I"⟩
abbrev cX2_takeNews : ByteArray := prog_4_method_8_code
def yX2_takeNews : MethodName := ⟨RX2, "takeNews", "(LSureHunters$Game;I)Z"⟩
abbrev cX2_findOpening : ByteArray := prog_4_method_9_code
def yX2_findOpening : MethodName := ⟨RX2, "findOpening", "(LSureHunters$Game;)V"⟩
abbrev cX2_rankOf : ByteArray := prog_4_method_10_code
def yX2_rankOf : MethodName := ⟨RX2, "rankOf", "(I)I"⟩
abbrev cX2_worthOf : ByteArray := prog_4_method_11_code
def yX2_worthOf : MethodName := ⟨RX2, "worthOf", "(I)I"⟩
abbrev cX2_greatestRank : ByteArray := prog_4_method_12_code
def yX2_greatestRank : MethodName := ⟨RX2, "greatestRank", "(LSureHunters$Game;II)I"⟩
abbrev cX2_reach : ByteArray := prog_4_method_13_code
def yX2_reach : MethodName := ⟨RX2, "reach", "(III)I"⟩
abbrev cX2_runnersRank : ByteArray := prog_4_method_14_code
def yX2_runnersRank : MethodName := ⟨RX2, "runnersRank", "(LSureHunters$Game;II)I"⟩
abbrev cX2_runnersWorth : ByteArray := prog_4_method_15_code
def yX2_runnersWorth : MethodName := ⟨RX2, "runnersWorth", "(LSureHunters$Game;II)I"⟩
abbrev cX2_bestRow : ByteArray := prog_4_method_16_code
def yX2_bestRow : MethodName := ⟨RX2, "bestRow", "(LSureHunters$Game;II)I"⟩
abbrev cX2_bestPlace : ByteArray := prog_4_method_17_code
def yX2_bestPlace : MethodName := ⟨RX2, "bestPlace", "(LSureHunters$Game;II)I"⟩
abbrev cX2_safeBits : ByteArray := prog_4_method_18_code
def yX2_safeBits : MethodName := ⟨RX2, "safeBits", "(LSureHunters$Game;II)I"⟩
abbrev cX2_refusedCouple : ByteArray := prog_4_method_19_code
def yX2_refusedCouple : MethodName := ⟨RX2, "refusedCouple", "(LSureHunters$Game;I)I"⟩
abbrev cX2_tryOut : ByteArray := prog_4_method_20_code
def yX2_tryOut : MethodName := ⟨RX2, "tryOut", "(LSureHunters$Game;I)I"⟩
abbrev cX2_nextSeed : ByteArray := prog_4_method_21_code
def yX2_nextSeed : MethodName := ⟨RX2, "nextSeed", "(I)I"⟩
abbrev cX2_drawn : ByteArray := prog_4_method_22_code
def yX2_drawn : MethodName := ⟨RX2, "drawn", "(II)I"⟩
def RX3 : String := "SureHunters$Net"
def TX3 : u_T := fun k => match k with
  | 0 => ("SureHunters$Net", "count", "I", false)
  | _ => ("SureHunters$Net", "nearBits", "[I", true)
def tyX3 : Nat → FieldType := fun k => match k with
  | 0 => .int
  | _ => .array .int
theorem nmX3 : ∀ a, a < 2 → ∀ b, b < 2 → a ≠ b → (TX3 a).2.1 ≠ (TX3 b).2.1 := by decide +kernel
theorem tyX3_ok : ∀ k, k < 2 → parseFieldDescriptor (TX3 k).2.2.1 = some (tyX3 k) := by decide +kernel
abbrev cX3_init : ByteArray := prog_5_method_1_code
def yX3_init : MethodName := ⟨RX3, "<init>", "()V"⟩
abbrev cX3_clear : ByteArray := prog_5_method_2_code
def yX3_clear : MethodName := ⟨RX3, "clear", "()V"⟩
abbrev cX3_copyFrom : ByteArray := prog_5_method_3_code
def yX3_copyFrom : MethodName := ⟨RX3, "copyFrom", "(LSureHunters$Net;)V"⟩
abbrev cX3_sameAs : ByteArray := prog_5_method_4_code
def yX3_sameAs : MethodName := ⟨RX3, "sameAs", "(LSureHunters$Net;)Z"⟩
abbrev cX3_has : ByteArray := prog_5_method_5_code
def yX3_has : MethodName := ⟨RX3, "has", "(I)Z"⟩
abbrev cX3_all : ByteArray := prog_5_method_6_code
def yX3_all : MethodName := ⟨RX3, "all", "()I"⟩
abbrev cX3_addPlace : ByteArray := prog_5_method_7_code
def yX3_addPlace : MethodName := ⟨RX3, "addPlace", "()V"⟩
abbrev cX3_around : ByteArray := prog_5_method_8_code
def yX3_around : MethodName := ⟨RX3, "around", "(I)I"⟩
abbrev cX3_joined : ByteArray := prog_5_method_9_code
def yX3_joined : MethodName := ⟨RX3, "joined", "(II)Z"⟩
abbrev cX3_flip : ByteArray := prog_5_method_10_code
def yX3_flip : MethodName := ⟨RX3, "flip", "(II)V"⟩
abbrev cX3_linesAt : ByteArray := prog_5_method_11_code
def yX3_linesAt : MethodName := ⟨RX3, "linesAt", "(I)I"⟩
abbrev cX3_widen : ByteArray := prog_5_method_12_code
def yX3_widen : MethodName := ⟨RX3, "widen", "(I)I"⟩
abbrev cX3_lines : ByteArray := prog_5_method_13_code
def yX3_lines : MethodName := ⟨RX3, "lines", "()I"⟩
abbrev cX3_fewestLines : ByteArray := prog_5_method_14_code
def yX3_fewestLines : MethodName := ⟨RX3, "fewestLines", "()I"⟩
abbrev cX3_parts : ByteArray := prog_5_method_15_code
def yX3_parts : MethodName := ⟨RX3, "parts", "()I"⟩
abbrev cX3_partOf : ByteArray := prog_5_method_16_code
def yX3_partOf : MethodName := ⟨RX3, "partOf", "(I)I"⟩
abbrev cX3_steps : ByteArray := prog_5_method_17_code
def yX3_steps : MethodName := ⟨RX3, "steps", "(II)I"⟩
abbrev cX3_girth : ByteArray := prog_5_method_18_code
def yX3_girth : MethodName := ⟨RX3, "girth", "()I"⟩
abbrev cX3_cover : ByteArray := prog_5_method_19_code
def yX3_cover : MethodName := ⟨RX3, "cover", "()I"⟩
abbrev cX3_isBetterCover : ByteArray := prog_5_method_20_code
def yX3_isBetterCover : MethodName := ⟨RX3, "isBetterCover", "(II)Z"⟩
abbrev cX3_takePart : ByteArray := prog_5_method_21_code
def yX3_takePart : MethodName := ⟨RX3, "takePart", "(LSureHunters$Net;I)V"⟩
abbrev cX3_countBelow : ByteArray := prog_5_method_22_code
def yX3_countBelow : MethodName := ⟨RX3, "countBelow", "(II)I"⟩
abbrev cX3_takeTurned : ByteArray := prog_5_method_23_code
def yX3_takeTurned : MethodName := ⟨RX3, "takeTurned", "(LSureHunters$Net;)V"⟩
abbrev cX3_takeTwice : ByteArray := prog_5_method_24_code
def yX3_takeTwice : MethodName := ⟨RX3, "takeTwice", "(LSureHunters$Net;)V"⟩
def RX4 : String := "SureHunters$Past"
def TX4 : u_T := fun k => match k with
  | 0 => ("SureHunters$Past", "nets", "[LSureHunters$Net;", true)
  | 1 => ("SureHunters$Past", "scenes", "[LSureHunters$Scene;", true)
  | 2 => ("SureHunters$Past", "kept", "I", false)
  | _ => ("SureHunters$Past", "next", "I", false)
def tyX4 : Nat → FieldType := fun k => match k with
  | 0 => .array (.object "SureHunters$Net")
  | 1 => .array (.object "SureHunters$Scene")
  | 2 => .int
  | _ => .int
theorem nmX4 : ∀ a, a < 4 → ∀ b, b < 4 → a ≠ b → (TX4 a).2.1 ≠ (TX4 b).2.1 := by decide +kernel
theorem tyX4_ok : ∀ k, k < 4 → parseFieldDescriptor (TX4 k).2.2.1 = some (tyX4 k) := by decide +kernel
abbrev cX4_init : ByteArray := prog_6_method_1_code
def yX4_init : MethodName := ⟨RX4, "<init>", "()V"⟩
abbrev cX4_forget : ByteArray := prog_6_method_2_code
def yX4_forget : MethodName := ⟨RX4, "forget", "()V"⟩
abbrev cX4_keep : ByteArray := prog_6_method_3_code
def yX4_keep : MethodName := ⟨RX4, "keep", "(LSureHunters$Net;LSureHunters$Scene;)V"⟩
abbrev cX4_takeBack : ByteArray := prog_6_method_4_code
def yX4_takeBack : MethodName := ⟨RX4, "takeBack", "(LSureHunters$Net;LSureHunters$Scene;)Z"⟩
def RX5 : String := "SureHunters$Rows"
def TX5 : u_T := fun k => match k with
  | 0 => ("SureHunters$Rows", "spots", "[I", true)
  | 1 => ("SureHunters$Rows", "standing", "[I", true)
  | 2 => ("SureHunters$Rows", "numbers", "[I", true)
  | 3 => ("SureHunters$Rows", "nearSpots", "[I", true)
  | 4 => ("SureHunters$Rows", "nearCount", "[I", true)
  | 5 => ("SureHunters$Rows", "found", "[I", true)
  | 6 => ("SureHunters$Rows", "foundCount", "I", false)
  | 7 => ("SureHunters$Rows", "seen", "[I", true)
  | _ => ("SureHunters$Rows", "stamp", "I", false)
def tyX5 : Nat → FieldType := fun k => match k with
  | 0 => .array .int
  | 1 => .array .int
  | 2 => .array .int
  | 3 => .array .int
  | 4 => .array .int
  | 5 => .array .int
  | 6 => .int
  | 7 => .array .int
  | _ => .int
theorem nmX5 : ∀ a, a < 9 → ∀ b, b < 9 → a ≠ b → (TX5 a).2.1 ≠ (TX5 b).2.1 := by decide +kernel
theorem tyX5_ok : ∀ k, k < 9 → parseFieldDescriptor (TX5 k).2.2.1 = some (tyX5 k) := by decide +kernel
abbrev cX5_init : ByteArray := prog_7_method_1_code
def yX5_init : MethodName := ⟨RX5, "<init>", "()V"⟩
abbrev cX5_tell : ByteArray := prog_7_method_2_code
def yX5_tell : MethodName := ⟨RX5, "tell", "(IIII)V"⟩
abbrev cX5_tellNumber : ByteArray := prog_7_method_3_code
def yX5_tellNumber : MethodName := ⟨RX5, "tellNumber", "(IIII)V"⟩
abbrev cX5_isSpot : ByteArray := prog_7_method_4_code
def yX5_isSpot : MethodName := ⟨RX5, "isSpot", "(I)Z"⟩
abbrev cX5_numberOf : ByteArray := prog_7_method_5_code
def yX5_numberOf : MethodName := ⟨RX5, "numberOf", "(III)I"⟩
abbrev cX5_huntersOf : ByteArray := prog_7_method_6_code
def yX5_huntersOf : MethodName := ⟨RX5, "huntersOf", "(I)I"⟩
abbrev cX5_spotAt : ByteArray := prog_7_method_7_code
def yX5_spotAt : MethodName := ⟨RX5, "spotAt", "(II)I"⟩
abbrev cX5_hunterAt : ByteArray := prog_7_method_8_code
def yX5_hunterAt : MethodName := ⟨RX5, "hunterAt", "(II)I"⟩
abbrev cX5_standBits : ByteArray := prog_7_method_9_code
def yX5_standBits : MethodName := ⟨RX5, "standBits", "(I)I"⟩
abbrev cX5_standsAt : ByteArray := prog_7_method_10_code
def yX5_standsAt : MethodName := ⟨RX5, "standsAt", "(II)Z"⟩
abbrev cX5_learn : ByteArray := prog_7_method_11_code
def yX5_learn : MethodName := ⟨RX5, "learn", "(LSureHunters$Net;)V"⟩
abbrev cX5_stepFrom : ByteArray := prog_7_method_12_code
def yX5_stepFrom : MethodName := ⟨RX5, "stepFrom", "(IZ)V"⟩
abbrev cX5_stepOne : ByteArray := prog_7_method_13_code
def yX5_stepOne : MethodName := ⟨RX5, "stepOne", "(III)V"⟩
abbrev cX5_note : ByteArray := prog_7_method_14_code
def yX5_note : MethodName := ⟨RX5, "note", "(III)V"⟩
abbrev cX5_isFound : ByteArray := prog_7_method_15_code
def yX5_isFound : MethodName := ⟨RX5, "isFound", "(I)Z"⟩
abbrev cX5_leads : ByteArray := prog_7_method_16_code
def yX5_leads : MethodName := ⟨RX5, "leads", "(IIZ)Z"⟩
def RX6 : String := "SureHunters$Scene"
def TX6 : u_T := fun k => match k with
  | 0 => ("SureHunters$Scene", "on", "Z", false)
  | 1 => ("SureHunters$Scene", "kind", "I", false)
  | 2 => ("SureHunters$Scene", "row", "I", false)
  | 3 => ("SureHunters$Scene", "runner", "I", false)
  | 4 => ("SureHunters$Scene", "runnersTurn", "Z", false)
  | _ => ("SureHunters$Scene", "rounds", "I", false)
def tyX6 : Nat → FieldType := fun k => match k with
  | 0 => .boolean
  | 1 => .int
  | 2 => .int
  | 3 => .int
  | 4 => .boolean
  | _ => .int
theorem nmX6 : ∀ a, a < 6 → ∀ b, b < 6 → a ≠ b → (TX6 a).2.1 ≠ (TX6 b).2.1 := by decide +kernel
theorem tyX6_ok : ∀ k, k < 6 → parseFieldDescriptor (TX6 k).2.2.1 = some (tyX6 k) := by decide +kernel
abbrev cX6_init : ByteArray := prog_8_method_1_code
def yX6_init : MethodName := ⟨RX6, "<init>", "()V"⟩
abbrev cX6_copyFrom : ByteArray := prog_8_method_2_code
def yX6_copyFrom : MethodName := ⟨RX6, "copyFrom", "(LSureHunters$Scene;)V"⟩
abbrev cX6_open : ByteArray := prog_8_method_3_code
def yX6_open : MethodName := ⟨RX6, "open", "(III)V"⟩
abbrev cX6_huntersGo : ByteArray := prog_8_method_4_code
def yX6_huntersGo : MethodName := ⟨RX6, "huntersGo", "(I)V"⟩
abbrev cX6_runnerGoes : ByteArray := prog_8_method_5_code
def yX6_runnerGoes : MethodName := ⟨RX6, "runnerGoes", "(I)V"⟩
def RX7 : String := "SureHunters$Script"
def TX7 : u_T := fun k => match k with
  | 0 => ("SureHunters$Script", "bytes", "[I", true)
  | 1 => ("SureHunters$Script", "length", "I", false)
  | 2 => ("SureHunters$Script", "fault", "I", false)
  | 3 => ("SureHunters$Script", "faultAt", "I", false)
  | 4 => ("SureHunters$Script", "token", "I", false)
  | 5 => ("SureHunters$Script", "from", "I", false)
  | 6 => ("SureHunters$Script", "behind", "I", false)
  | 7 => ("SureHunters$Script", "nameFrom", "[I", true)
  | _ => ("SureHunters$Script", "nameLength", "[I", true)
def tyX7 : Nat → FieldType := fun k => match k with
  | 0 => .array .int
  | 1 => .int
  | 2 => .int
  | 3 => .int
  | 4 => .int
  | 5 => .int
  | 6 => .int
  | 7 => .array .int
  | _ => .array .int
theorem nmX7 : ∀ a, a < 9 → ∀ b, b < 9 → a ≠ b → (TX7 a).2.1 ≠ (TX7 b).2.1 := by decide +kernel
theorem tyX7_ok : ∀ k, k < 9 → parseFieldDescriptor (TX7 k).2.2.1 = some (tyX7 k) := by decide +kernel
abbrev cX7_init : ByteArray := prog_9_method_1_code
def yX7_init : MethodName := ⟨RX7, "<init>", "()V"⟩
abbrev cX7_append : ByteArray := prog_9_method_2_code
def yX7_append : MethodName := ⟨RX7, "append", "(I)V"⟩
abbrev cX7_parse : ByteArray := prog_9_method_3_code
def yX7_parse : MethodName := ⟨RX7, "parse", "(LSureHunters$Net;)V"⟩
abbrev cX7_parsePlace : ByteArray := prog_9_method_4_code
def yX7_parsePlace : MethodName := ⟨RX7, "parsePlace", "(LSureHunters$Net;)V"⟩
abbrev cX7_parseLine : ByteArray := prog_9_method_5_code
def yX7_parseLine : MethodName := ⟨RX7, "parseLine", "(LSureHunters$Net;)V"⟩
abbrev cX7_parseEnd : ByteArray := prog_9_method_6_code
def yX7_parseEnd : MethodName := ⟨RX7, "parseEnd", "(LSureHunters$Net;)I"⟩
abbrev cX7_passSign : ByteArray := prog_9_method_7_code
def yX7_passSign : MethodName := ⟨RX7, "passSign", "()V"⟩
abbrev cX7_refuseToken : ByteArray := prog_9_method_8_code
def yX7_refuseToken : MethodName := ⟨RX7, "refuseToken", "()V"⟩
abbrev cX7_refuse : ByteArray := prog_9_method_9_code
def yX7_refuse : MethodName := ⟨RX7, "refuse", "(I)V"⟩
abbrev cX7_advance : ByteArray := prog_9_method_10_code
def yX7_advance : MethodName := ⟨RX7, "advance", "()V"⟩
abbrev cX7_wordToken : ByteArray := prog_9_method_11_code
def yX7_wordToken : MethodName := ⟨RX7, "wordToken", "()I"⟩
abbrev cX7_isWord : ByteArray := prog_9_method_12_code
def yX7_isWord : MethodName := ⟨RX7, "isWord", "(Ljava/lang/String;)Z"⟩
abbrev cX7_placeNamed : ByteArray := prog_9_method_13_code
def yX7_placeNamed : MethodName := ⟨RX7, "placeNamed", "(LSureHunters$Net;)I"⟩
abbrev cX7_isNameOf : ByteArray := prog_9_method_14_code
def yX7_isNameOf : MethodName := ⟨RX7, "isNameOf", "(I)Z"⟩
abbrev cX7_byteAt : ByteArray := prog_9_method_15_code
def yX7_byteAt : MethodName := ⟨RX7, "byteAt", "(I)I"⟩
abbrev cX7_isBlank : ByteArray := prog_9_method_16_code
def yX7_isBlank : MethodName := ⟨RX7, "isBlank", "(I)Z"⟩
abbrev cX7_isLetter : ByteArray := prog_9_method_17_code
def yX7_isLetter : MethodName := ⟨RX7, "isLetter", "(I)Z"⟩
def RX8 : String := "SureHunters$Search"
def TX8 : u_T := fun k => match k with
  | 0 => ("SureHunters$Search", "net", "LSureHunters$Net;", true)
  | 1 => ("SureHunters$Search", "rows", "LSureHunters$Rows;", true)
  | 2 => ("SureHunters$Search", "ready", "[Z", true)
  | 3 => ("SureHunters$Search", "rounds", "[I", true)
  | 4 => ("SureHunters$Search", "path", "[I", true)
  | 5 => ("SureHunters$Search", "ahead", "[I", false)
  | 6 => ("SureHunters$Search", "queue", "[I", false)
  | 7 => ("SureHunters$Search", "wide", "[I", false)
  | _ => ("SureHunters$Search", "queued", "I", false)
def tyX8 : Nat → FieldType := fun k => match k with
  | 0 => .object "SureHunters$Net"
  | 1 => .object "SureHunters$Rows"
  | 2 => .array .boolean
  | 3 => .array .int
  | 4 => .array .int
  | 5 => .array .int
  | 6 => .array .int
  | 7 => .array .int
  | _ => .int
theorem nmX8 : ∀ a, a < 9 → ∀ b, b < 9 → a ≠ b → (TX8 a).2.1 ≠ (TX8 b).2.1 := by decide +kernel
theorem tyX8_ok : ∀ k, k < 9 → parseFieldDescriptor (TX8 k).2.2.1 = some (tyX8 k) := by decide +kernel
abbrev cX8_init : ByteArray := prog_10_method_1_code
def yX8_init : MethodName := ⟨RX8, "<init>", "(LSureHunters$Net;LSureHunters$Rows;)V"⟩
abbrev cX8_renew : ByteArray := prog_10_method_2_code
def yX8_renew : MethodName := ⟨RX8, "renew", "()V"⟩
abbrev cX8_roundsOf : ByteArray := prog_10_method_3_code
def yX8_roundsOf : MethodName := ⟨RX8, "roundsOf", "(I)I"⟩
abbrev cX8_rowIn : ByteArray := prog_10_method_4_code
def yX8_rowIn : MethodName := ⟨RX8, "rowIn", "(II)I"⟩
abbrev cX8_pathIndex : ByteArray := prog_10_method_5_code
def yX8_pathIndex : MethodName := ⟨RX8, "pathIndex", "(II)I"⟩
abbrev cX8_isOnNet : ByteArray := prog_10_method_6_code
def yX8_isOnNet : MethodName := ⟨RX8, "isOnNet", "(I)Z"⟩
abbrev cX8_opensLit : ByteArray := prog_10_method_7_code
def yX8_opensLit : MethodName := ⟨RX8, "opensLit", "(I)Z"⟩
abbrev cX8_explore : ByteArray := prog_10_method_8_code
def yX8_explore : MethodName := ⟨RX8, "explore", "(I)V"⟩
abbrev cX8_prepare : ByteArray := prog_10_method_9_code
def yX8_prepare : MethodName := ⟨RX8, "prepare", "()V"⟩
abbrev cX8_enqueue : ByteArray := prog_10_method_10_code
def yX8_enqueue : MethodName := ⟨RX8, "enqueue", "(II)V"⟩
abbrev cX8_stepsToLight : ByteArray := prog_10_method_11_code
def yX8_stepsToLight : MethodName := ⟨RX8, "stepsToLight", "(III)Z"⟩
abbrev cX8_tellPath : ByteArray := prog_10_method_12_code
def yX8_tellPath : MethodName := ⟨RX8, "tellPath", "(III)V"⟩
def RX9 : String := "SureHunters$Symmetries"
def TX9 : u_T := fun k => match k with
  | 0 => ("SureHunters$Symmetries", "order", "[I", true)
  | _ => ("SureHunters$Symmetries", "numbers", "[I", true)
def tyX9 : Nat → FieldType := fun k => match k with
  | 0 => .array .int
  | _ => .array .int
theorem nmX9 : ∀ a, a < 2 → ∀ b, b < 2 → a ≠ b → (TX9 a).2.1 ≠ (TX9 b).2.1 := by decide +kernel
theorem tyX9_ok : ∀ k, k < 2 → parseFieldDescriptor (TX9 k).2.2.1 = some (tyX9 k) := by decide +kernel
abbrev cX9_init : ByteArray := prog_11_method_1_code
def yX9_init : MethodName := ⟨RX9, "<init>", "()V"⟩
abbrev cX9_howMany : ByteArray := prog_11_method_2_code
def yX9_howMany : MethodName := ⟨RX9, "howMany", "(LSureHunters$Net;)I"⟩
abbrev cX9_imagesOf : ByteArray := prog_11_method_3_code
def yX9_imagesOf : MethodName := ⟨RX9, "imagesOf", "(LSureHunters$Net;I)I"⟩
abbrev cX9_leastAlike : ByteArray := prog_11_method_4_code
def yX9_leastAlike : MethodName := ⟨RX9, "leastAlike", "(LSureHunters$Net;I)I"⟩
abbrev cX9_canBe : ByteArray := prog_11_method_5_code
def yX9_canBe : MethodName := ⟨RX9, "canBe", "(LSureHunters$Net;II)Z"⟩
abbrev cX9_completes : ByteArray := prog_11_method_6_code
def yX9_completes : MethodName := ⟨RX9, "completes", "(LSureHunters$Net;[I[II)Z"⟩
abbrev cX9_fits : ByteArray := prog_11_method_7_code
def yX9_fits : MethodName := ⟨RX9, "fits", "(LSureHunters$Net;[I[III)Z"⟩
def RX10 : String := "SureHunters$Watch"
def TX10 : u_T := fun k => match k with
  | _ => ("SureHunters$Watch", "kept", "[I", true)
def tyX10 : Nat → FieldType := fun k => match k with
  | _ => .array .int
theorem nmX10 : ∀ a, a < 1 → ∀ b, b < 1 → a ≠ b → (TX10 a).2.1 ≠ (TX10 b).2.1 := by decide +kernel
theorem tyX10_ok : ∀ k, k < 1 → parseFieldDescriptor (TX10 k).2.2.1 = some (tyX10 k) := by decide +kernel
abbrev cX10_init : ByteArray := prog_12_method_1_code
def yX10_init : MethodName := ⟨RX10, "<init>", "()V"⟩
abbrev cX10_settle : ByteArray := prog_12_method_2_code
def yX10_settle : MethodName := ⟨RX10, "settle", "(LSureHunters$Net;I)V"⟩
abbrev cX10_dropCouples : ByteArray := prog_12_method_3_code
def yX10_dropCouples : MethodName := ⟨RX10, "dropCouples", "(LSureHunters$Net;I)Z"⟩
abbrev cX10_answers : ByteArray := prog_12_method_4_code
def yX10_answers : MethodName := ⟨RX10, "answers", "(LSureHunters$Net;III)Z"⟩
abbrev cX10_couples : ByteArray := prog_12_method_5_code
def yX10_couples : MethodName := ⟨RX10, "couples", "()I"⟩
abbrev cX10_isCouple : ByteArray := prog_12_method_6_code
def yX10_isCouple : MethodName := ⟨RX10, "isCouple", "(II)Z"⟩
def RX11 : String := "SureHunters"
def TX11 : u_T := fun k => match k with
  | 0 => ("SureHunters", "script", "LSureHunters$Script;", true)
  | 1 => ("SureHunters", "current", "LSureHunters$Net;", true)
  | 2 => ("SureHunters", "draft", "LSureHunters$Net;", true)
  | 3 => ("SureHunters", "dismantling", "LSureHunters$Dismantling;", true)
  | 4 => ("SureHunters", "games", "LSureHunters$Games;", true)
  | 5 => ("SureHunters", "mirrors", "LSureHunters$Symmetries;", true)
  | 6 => ("SureHunters", "watch", "LSureHunters$Watch;", true)
  | 7 => ("SureHunters", "search", "LSureHunters$Search;", true)
  | 8 => ("SureHunters", "stage", "LSureHunters$Scene;", true)
  | 9 => ("SureHunters", "past", "LSureHunters$Past;", true)
  | _ => ("SureHunters", "tried", "LSureHunters$Games;", false)
def tyX11 : Nat → FieldType := fun k => match k with
  | 0 => .object "SureHunters$Script"
  | 1 => .object "SureHunters$Net"
  | 2 => .object "SureHunters$Net"
  | 3 => .object "SureHunters$Dismantling"
  | 4 => .object "SureHunters$Games"
  | 5 => .object "SureHunters$Symmetries"
  | 6 => .object "SureHunters$Watch"
  | 7 => .object "SureHunters$Search"
  | 8 => .object "SureHunters$Scene"
  | 9 => .object "SureHunters$Past"
  | _ => .object "SureHunters$Games"
theorem nmX11 : ∀ a, a < 11 → ∀ b, b < 11 → a ≠ b → (TX11 a).2.1 ≠ (TX11 b).2.1 := by decide +kernel
theorem tyX11_ok : ∀ k, k < 11 → parseFieldDescriptor (TX11 k).2.2.1 = some (tyX11 k) := by decide +kernel
abbrev cX11_init : ByteArray := prog_1_method_1_code
def yX11_init : MethodName := ⟨RX11, "<init>", "()V"⟩
abbrev cX11_feed : ByteArray := prog_1_method_2_code
def yX11_feed : MethodName := ⟨RX11, "feed", "(IIIII)I"⟩
abbrev cX11_end : ByteArray := prog_1_method_3_code
def yX11_end : MethodName := ⟨RX11, "end", "(I)I"⟩
abbrev cX11_net : ByteArray := prog_1_method_4_code
def yX11_net : MethodName := ⟨RX11, "net", "()I"⟩
abbrev cX11_fault : ByteArray := prog_1_method_5_code
def yX11_fault : MethodName := ⟨RX11, "fault", "(I)I"⟩
abbrev cX11_about : ByteArray := prog_1_method_6_code
def yX11_about : MethodName := ⟨RX11, "about", "(I)I"⟩
abbrev cX11_near : ByteArray := prog_1_method_7_code
def yX11_near : MethodName := ⟨RX11, "near", "(I)I"⟩
abbrev cX11_distance : ByteArray := prog_1_method_8_code
def yX11_distance : MethodName := ⟨RX11, "distance", "(II)I"⟩
abbrev cX11_corner : ByteArray := prog_1_method_9_code
def yX11_corner : MethodName := ⟨RX11, "corner", "(I)I"⟩
abbrev cX11_goes : ByteArray := prog_1_method_10_code
def yX11_goes : MethodName := ⟨RX11, "goes", "(I)I"⟩
abbrev cX11_left : ByteArray := prog_1_method_11_code
def yX11_left : MethodName := ⟨RX11, "left", "()I"⟩
abbrev cX11_image : ByteArray := prog_1_method_12_code
def yX11_image : MethodName := ⟨RX11, "image", "(I)I"⟩
abbrev cX11_fewest : ByteArray := prog_1_method_13_code
def yX11_fewest : MethodName := ⟨RX11, "fewest", "(I)I"⟩
abbrev cX11_time : ByteArray := prog_1_method_14_code
def yX11_time : MethodName := ⟨RX11, "time", "(II)I"⟩
abbrev cX11_start : ByteArray := prog_1_method_15_code
def yX11_start : MethodName := ⟨RX11, "start", "(III)I"⟩
abbrev cX11_sure : ByteArray := prog_1_method_16_code
def yX11_sure : MethodName := ⟨RX11, "sure", "(IIII)I"⟩
abbrev cX11_refusals : ByteArray := prog_1_method_17_code
def yX11_refusals : MethodName := ⟨RX11, "refusals", "(II)I"⟩
abbrev cX11_refusal : ByteArray := prog_1_method_18_code
def yX11_refusal : MethodName := ⟨RX11, "refusal", "(IIII)I"⟩
abbrev cX11_trial : ByteArray := prog_1_method_19_code
def yX11_trial : MethodName := ⟨RX11, "trial", "(III)I"⟩
abbrev cX11_helps : ByteArray := prog_1_method_20_code
def yX11_helps : MethodName := ⟨RX11, "helps", "(II)I"⟩
abbrev cX11_symmetries : ByteArray := prog_1_method_21_code
def yX11_symmetries : MethodName := ⟨RX11, "symmetries", "()I"⟩
abbrev cX11_alike : ByteArray := prog_1_method_22_code
def yX11_alike : MethodName := ⟨RX11, "alike", "(I)I"⟩
abbrev cX11_guard : ByteArray := prog_1_method_23_code
def yX11_guard : MethodName := ⟨RX11, "guard", "(I)I"⟩
abbrev cX11_guards : ByteArray := prog_1_method_24_code
def yX11_guards : MethodName := ⟨RX11, "guards", "(III)I"⟩
abbrev cX11_sweep : ByteArray := prog_1_method_25_code
def yX11_sweep : MethodName := ⟨RX11, "sweep", "(I)I"⟩
abbrev cX11_swept : ByteArray := prog_1_method_26_code
def yX11_swept : MethodName := ⟨RX11, "swept", "(III)I"⟩
abbrev cX11_begin : ByteArray := prog_1_method_27_code
def yX11_begin : MethodName := ⟨RX11, "begin", "(IIIII)I"⟩
abbrev cX11_scene : ByteArray := prog_1_method_28_code
def yX11_scene : MethodName := ⟨RX11, "scene", "(I)I"⟩
abbrev cX11_best : ByteArray := prog_1_method_29_code
def yX11_best : MethodName := ⟨RX11, "best", "(I)I"⟩
abbrev cX11_safe : ByteArray := prog_1_method_30_code
def yX11_safe : MethodName := ⟨RX11, "safe", "()I"⟩
abbrev cX11_hunt : ByteArray := prog_1_method_31_code
def yX11_hunt : MethodName := ⟨RX11, "hunt", "(III)Z"⟩
abbrev cX11_run : ByteArray := prog_1_method_32_code
def yX11_run : MethodName := ⟨RX11, "run", "(I)Z"⟩
abbrev cX11_play : ByteArray := prog_1_method_33_code
def yX11_play : MethodName := ⟨RX11, "play", "(I)I"⟩
abbrev cX11_toggle : ByteArray := prog_1_method_34_code
def yX11_toggle : MethodName := ⟨RX11, "toggle", "(II)I"⟩
abbrev cX11_become : ByteArray := prog_1_method_35_code
def yX11_become : MethodName := ⟨RX11, "become", "(I)I"⟩
abbrev cX11_undo : ByteArray := prog_1_method_36_code
def yX11_undo : MethodName := ⟨RX11, "undo", "()Z"⟩
abbrev cX11_takeDraft : ByteArray := prog_1_method_37_code
def yX11_takeDraft : MethodName := ⟨RX11, "takeDraft", "()V"⟩
abbrev cX11_renew : ByteArray := prog_1_method_38_code
def yX11_renew : MethodName := ⟨RX11, "renew", "()V"⟩
abbrev cX11_low : ByteArray := prog_1_method_39_code
def yX11_low : MethodName := ⟨RX11, "low", "()I"⟩
abbrev cX11_rowOf : ByteArray := prog_1_method_40_code
def yX11_rowOf : MethodName := ⟨RX11, "rowOf", "(III)I"⟩
abbrev cX11_isSet : ByteArray := prog_1_method_41_code
def yX11_isSet : MethodName := ⟨RX11, "isSet", "(I)Z"⟩
abbrev cX11_helpingLine : ByteArray := prog_1_method_42_code
def yX11_helpingLine : MethodName := ⟨RX11, "helpingLine", "(II)I"⟩
abbrev cX11_isCaught : ByteArray := prog_1_method_43_code
def yX11_isCaught : MethodName := ⟨RX11, "isCaught", "()Z"⟩
abbrev cX11_stageGame : ByteArray := prog_1_method_44_code
def yX11_stageGame : MethodName := ⟨RX11, "stageGame", "()LSureHunters$Game;"⟩
abbrev cX11_stageWorth : ByteArray := prog_1_method_45_code
def yX11_stageWorth : MethodName := ⟨RX11, "stageWorth", "()I"⟩
abbrev cX11_playTurn : ByteArray := prog_1_method_46_code
def yX11_playTurn : MethodName := ⟨RX11, "playTurn", "(LSureHunters$Game;)V"⟩
def RX12 : String := "SureHuntersModel"
def TX12 : u_T := fun k => match k with
  | 0 => ("SureHuntersModel", "thrown", "I", false)
  | 1 => ("SureHuntersModel", "near", "[I", true)
  | 2 => ("SureHuntersModel", "places", "I", false)
  | 3 => ("SureHuntersModel", "tape", "[I", true)
  | 4 => ("SureHuntersModel", "name", "[I", true)
  | 5 => ("SureHuntersModel", "nearRead", "[I", true)
  | 6 => ("SureHuntersModel", "taped", "I", false)
  | 7 => ("SureHuntersModel", "size", "I", false)
  | 8 => ("SureHuntersModel", "at", "I", false)
  | 9 => ("SureHuntersModel", "behind", "I", false)
  | 10 => ("SureHuntersModel", "token", "I", false)
  | 11 => ("SureHuntersModel", "value", "I", false)
  | 12 => ("SureHuntersModel", "faultKind", "I", false)
  | 13 => ("SureHuntersModel", "faultPlace", "I", false)
  | 14 => ("SureHuntersModel", "wrong", "I", false)
  | 15 => ("SureHuntersModel", "wrongAt", "I", false)
  | 16 => ("SureHuntersModel", "read", "I", false)
  | 17 => ("SureHuntersModel", "dismantled", "Z", false)
  | 18 => ("SureHuntersModel", "symmetriesAre", "Z", false)
  | 19 => ("SureHuntersModel", "solvedKind", "I", false)
  | 20 => ("SureHuntersModel", "solvedHunters", "I", false)
  | 21 => ("SureHuntersModel", "sweptHunters", "I", false)
  | 22 => ("SureHuntersModel", "gone", "[I", true)
  | 23 => ("SureHuntersModel", "comesTo", "[I", true)
  | 24 => ("SureHuntersModel", "goneMany", "I", false)
  | 25 => ("SureHuntersModel", "leftPlaces", "I", false)
  | 26 => ("SureHuntersModel", "row", "[I", true)
  | 27 => ("SureHuntersModel", "orders", "[I", true)
  | 28 => ("SureHuntersModel", "canGo", "[Z", true)
  | 29 => ("SureHuntersModel", "worth", "[I", true)
  | 30 => ("SureHuntersModel", "runnerWorth", "[I", true)
  | 31 => ("SureHuntersModel", "standing", "[I", true)
  | 32 => ("SureHuntersModel", "rows", "I", false)
  | 33 => ("SureHuntersModel", "rowHunters", "I", false)
  | 34 => ("SureHuntersModel", "a0", "I", false)
  | 35 => ("SureHuntersModel", "b0", "I", false)
  | 36 => ("SureHuntersModel", "c0", "I", false)
  | 37 => ("SureHuntersModel", "told", "I", false)
  | 38 => ("SureHuntersModel", "draw", "I", false)
  | 39 => ("SureHuntersModel", "toPlace", "[I", true)
  | 40 => ("SureHuntersModel", "alikes", "[I", true)
  | 41 => ("SureHuntersModel", "symmetryMany", "I", false)
  | 42 => ("SureHuntersModel", "couple", "[Z", true)
  | 43 => ("SureHuntersModel", "left", "[I", true)
  | 44 => ("SureHuntersModel", "sweptRow", "[I", true)
  | 45 => ("SureHuntersModel", "sweepRounds", "I", false)
  | 46 => ("SureHuntersModel", "hasScene", "Z", false)
  | 47 => ("SureHuntersModel", "kind", "I", false)
  | 48 => ("SureHuntersModel", "hunters", "I", false)
  | 49 => ("SureHuntersModel", "at0", "I", false)
  | 50 => ("SureHuntersModel", "at1", "I", false)
  | 51 => ("SureHuntersModel", "at2", "I", false)
  | 52 => ("SureHuntersModel", "runner", "I", false)
  | 53 => ("SureHuntersModel", "turn", "I", false)
  | 54 => ("SureHuntersModel", "begun", "I", false)
  | 55 => ("SureHuntersModel", "kept", "[I", true)
  | 56 => ("SureHuntersModel", "was", "[I", true)
  | _ => ("SureHuntersModel", "acts", "I", false)
def tyX12 : Nat → FieldType := fun k => match k with
  | 0 => .int
  | 1 => .array .int
  | 2 => .int
  | 3 => .array .int
  | 4 => .array .int
  | 5 => .array .int
  | 6 => .int
  | 7 => .int
  | 8 => .int
  | 9 => .int
  | 10 => .int
  | 11 => .int
  | 12 => .int
  | 13 => .int
  | 14 => .int
  | 15 => .int
  | 16 => .int
  | 17 => .boolean
  | 18 => .boolean
  | 19 => .int
  | 20 => .int
  | 21 => .int
  | 22 => .array .int
  | 23 => .array .int
  | 24 => .int
  | 25 => .int
  | 26 => .array .int
  | 27 => .array .int
  | 28 => .array .boolean
  | 29 => .array .int
  | 30 => .array .int
  | 31 => .array .int
  | 32 => .int
  | 33 => .int
  | 34 => .int
  | 35 => .int
  | 36 => .int
  | 37 => .int
  | 38 => .int
  | 39 => .array .int
  | 40 => .array .int
  | 41 => .int
  | 42 => .array .boolean
  | 43 => .array .int
  | 44 => .array .int
  | 45 => .int
  | 46 => .boolean
  | 47 => .int
  | 48 => .int
  | 49 => .int
  | 50 => .int
  | 51 => .int
  | 52 => .int
  | 53 => .int
  | 54 => .int
  | 55 => .array .int
  | 56 => .array .int
  | _ => .int
theorem nmX12 : ∀ a, a < 58 → ∀ b, b < 58 → a ≠ b → (TX12 a).2.1 ≠ (TX12 b).2.1 := by decide +kernel
theorem tyX12_ok : ∀ k, k < 58 → parseFieldDescriptor (TX12 k).2.2.1 = some (tyX12 k) := by decide +kernel
abbrev cX12_init : ByteArray := prog_14_method_1_code
def yX12_init : MethodName := ⟨RX12, "<init>", "()V"⟩
abbrev cX12_thrown : ByteArray := prog_14_method_2_code
def yX12_thrown : MethodName := ⟨RX12, "thrown", "()I"⟩
abbrev cX12_in : ByteArray := prog_14_method_3_code
def yX12_in : MethodName := ⟨RX12, "in", "(III)Z"⟩
abbrev cX12_isOf : ByteArray := prog_14_method_4_code
def yX12_isOf : MethodName := ⟨RX12, "isOf", "(II)Z"⟩
abbrev cX12_lesser : ByteArray := prog_14_method_5_code
def yX12_lesser : MethodName := ⟨RX12, "lesser", "(II)I"⟩
abbrev cX12_greater : ByteArray := prog_14_method_6_code
def yX12_greater : MethodName := ⟨RX12, "greater", "(II)I"⟩
abbrev cX12_many : ByteArray := prog_14_method_7_code
def yX12_many : MethodName := ⟨RX12, "many", "(I)I"⟩
abbrev cX12_isPlace : ByteArray := prog_14_method_8_code
def yX12_isPlace : MethodName := ⟨RX12, "isPlace", "(I)Z"⟩
abbrev cX12_allPlaces : ByteArray := prog_14_method_9_code
def yX12_allPlaces : MethodName := ⟨RX12, "allPlaces", "()I"⟩
abbrev cX12_four : ByteArray := prog_14_method_10_code
def yX12_four : MethodName := ⟨RX12, "four", "(I)V"⟩
abbrev cX12_feed : ByteArray := prog_14_method_11_code
def yX12_feed : MethodName := ⟨RX12, "feed", "(IIIII)I"⟩
abbrev cX12_end : ByteArray := prog_14_method_12_code
def yX12_end : MethodName := ⟨RX12, "end", "(I)I"⟩
abbrev cX12_byteAt : ByteArray := prog_14_method_13_code
def yX12_byteAt : MethodName := ⟨RX12, "byteAt", "(I)I"⟩
abbrev cX12_isSmall : ByteArray := prog_14_method_14_code
def yX12_isSmall : MethodName := ⟨RX12, "isSmall", "(I)Z"⟩
abbrev cX12_next : ByteArray := prog_14_method_15_code
def yX12_next : MethodName := ⟨RX12, "next", "()V"⟩
abbrev cX12_isGood : ByteArray := prog_14_method_16_code
def yX12_isGood : MethodName := ⟨RX12, "isGood", "()Z"⟩
abbrev cX12_fails : ByteArray := prog_14_method_17_code
def yX12_fails : MethodName := ⟨RX12, "fails", "(I)V"⟩
abbrev cX12_isWord : ByteArray := prog_14_method_18_code
def yX12_isWord : MethodName := ⟨RX12, "isWord", "(I)Z"⟩
abbrev cX12_goOn : ByteArray := prog_14_method_19_code
def yX12_goOn : MethodName := ⟨RX12, "goOn", "()V"⟩
abbrev cX12_called : ByteArray := prog_14_method_20_code
def yX12_called : MethodName := ⟨RX12, "called", "()I"⟩
abbrev cX12_mustBeName : ByteArray := prog_14_method_21_code
def yX12_mustBeName : MethodName := ⟨RX12, "mustBeName", "()V"⟩
abbrev cX12_readPlace : ByteArray := prog_14_method_22_code
def yX12_readPlace : MethodName := ⟨RX12, "readPlace", "()V"⟩
abbrev cX12_readLine : ByteArray := prog_14_method_23_code
def yX12_readLine : MethodName := ⟨RX12, "readLine", "()V"⟩
abbrev cX12_net : ByteArray := prog_14_method_24_code
def yX12_net : MethodName := ⟨RX12, "net", "()I"⟩
abbrev cX12_fault : ByteArray := prog_14_method_25_code
def yX12_fault : MethodName := ⟨RX12, "fault", "(I)I"⟩
abbrev cX12_another : ByteArray := prog_14_method_26_code
def yX12_another : MethodName := ⟨RX12, "another", "()V"⟩
abbrev cX12_near : ByteArray := prog_14_method_27_code
def yX12_near : MethodName := ⟨RX12, "near", "(I)I"⟩
abbrev cX12_nearAll : ByteArray := prog_14_method_28_code
def yX12_nearAll : MethodName := ⟨RX12, "nearAll", "(I)I"⟩
abbrev cX12_steps : ByteArray := prog_14_method_29_code
def yX12_steps : MethodName := ⟨RX12, "steps", "(III)I"⟩
abbrev cX12_distance : ByteArray := prog_14_method_30_code
def yX12_distance : MethodName := ⟨RX12, "distance", "(II)I"⟩
abbrev cX12_lines : ByteArray := prog_14_method_31_code
def yX12_lines : MethodName := ⟨RX12, "lines", "()I"⟩
abbrev cX12_parts : ByteArray := prog_14_method_32_code
def yX12_parts : MethodName := ⟨RX12, "parts", "()I"⟩
abbrev cX12_girth : ByteArray := prog_14_method_33_code
def yX12_girth : MethodName := ⟨RX12, "girth", "()I"⟩
abbrev cX12_low : ByteArray := prog_14_method_34_code
def yX12_low : MethodName := ⟨RX12, "low", "()I"⟩
abbrev cX12_isAhead : ByteArray := prog_14_method_35_code
def yX12_isAhead : MethodName := ⟨RX12, "isAhead", "(II)Z"⟩
abbrev cX12_cover : ByteArray := prog_14_method_36_code
def yX12_cover : MethodName := ⟨RX12, "cover", "()I"⟩
abbrev cX12_about : ByteArray := prog_14_method_37_code
def yX12_about : MethodName := ⟨RX12, "about", "(I)I"⟩
abbrev cX12_cornerBy : ByteArray := prog_14_method_38_code
def yX12_cornerBy : MethodName := ⟨RX12, "cornerBy", "(II)I"⟩
abbrev cX12_dismantle : ByteArray := prog_14_method_39_code
def yX12_dismantle : MethodName := ⟨RX12, "dismantle", "()V"⟩
abbrev cX12_corner : ByteArray := prog_14_method_40_code
def yX12_corner : MethodName := ⟨RX12, "corner", "(I)I"⟩
abbrev cX12_goes : ByteArray := prog_14_method_41_code
def yX12_goes : MethodName := ⟨RX12, "goes", "(I)I"⟩
abbrev cX12_left : ByteArray := prog_14_method_42_code
def yX12_left : MethodName := ⟨RX12, "left", "()I"⟩
abbrev cX12_image : ByteArray := prog_14_method_43_code
def yX12_image : MethodName := ⟨RX12, "image", "(I)I"⟩
abbrev cX12_layRows : ByteArray := prog_14_method_44_code
def yX12_layRows : MethodName := ⟨RX12, "layRows", "(I)V"⟩
abbrev cX12_comes : ByteArray := prog_14_method_45_code
def yX12_comes : MethodName := ⟨RX12, "comes", "(III)Z"⟩
abbrev cX12_layGoing : ByteArray := prog_14_method_46_code
def yX12_layGoing : MethodName := ⟨RX12, "layGoing", "(II)V"⟩
abbrev cX12_runs : ByteArray := prog_14_method_47_code
def yX12_runs : MethodName := ⟨RX12, "runs", "(III)I"⟩
abbrev cX12_solve : ByteArray := prog_14_method_48_code
def yX12_solve : MethodName := ⟨RX12, "solve", "(II)V"⟩
abbrev cX12_layRunner : ByteArray := prog_14_method_49_code
def yX12_layRunner : MethodName := ⟨RX12, "layRunner", "(I)V"⟩
abbrev cX12_leastBehind : ByteArray := prog_14_method_50_code
def yX12_leastBehind : MethodName := ⟨RX12, "leastBehind", "(II)I"⟩
abbrev cX12_bestRow : ByteArray := prog_14_method_51_code
def yX12_bestRow : MethodName := ⟨RX12, "bestRow", "(II)I"⟩
abbrev cX12_greatestOf : ByteArray := prog_14_method_52_code
def yX12_greatestOf : MethodName := ⟨RX12, "greatestOf", "(I)I"⟩
abbrev cX12_startRow : ByteArray := prog_14_method_53_code
def yX12_startRow : MethodName := ⟨RX12, "startRow", "()I"⟩
abbrev cX12_isGame : ByteArray := prog_14_method_54_code
def yX12_isGame : MethodName := ⟨RX12, "isGame", "(II)Z"⟩
abbrev cX12_timeOf : ByteArray := prog_14_method_55_code
def yX12_timeOf : MethodName := ⟨RX12, "timeOf", "(II)I"⟩
abbrev cX12_time : ByteArray := prog_14_method_56_code
def yX12_time : MethodName := ⟨RX12, "time", "(II)I"⟩
abbrev cX12_fewest : ByteArray := prog_14_method_57_code
def yX12_fewest : MethodName := ⟨RX12, "fewest", "(I)I"⟩
abbrev cX12_start : ByteArray := prog_14_method_58_code
def yX12_start : MethodName := ⟨RX12, "start", "(III)I"⟩
abbrev cX12_tell : ByteArray := prog_14_method_59_code
def yX12_tell : MethodName := ⟨RX12, "tell", "(III)I"⟩
abbrev cX12_rowTold : ByteArray := prog_14_method_60_code
def yX12_rowTold : MethodName := ⟨RX12, "rowTold", "()I"⟩
abbrev cX12_sure : ByteArray := prog_14_method_61_code
def yX12_sure : MethodName := ⟨RX12, "sure", "(IIII)I"⟩
abbrev cX12_refused : ByteArray := prog_14_method_62_code
def yX12_refused : MethodName := ⟨RX12, "refused", "(I)I"⟩
abbrev cX12_refusals : ByteArray := prog_14_method_63_code
def yX12_refusals : MethodName := ⟨RX12, "refusals", "(II)I"⟩
abbrev cX12_refusal : ByteArray := prog_14_method_64_code
def yX12_refusal : MethodName := ⟨RX12, "refusal", "(IIII)I"⟩
abbrev cX12_drawn : ByteArray := prog_14_method_65_code
def yX12_drawn : MethodName := ⟨RX12, "drawn", "(I)I"⟩
abbrev cX12_trial : ByteArray := prog_14_method_66_code
def yX12_trial : MethodName := ⟨RX12, "trial", "(III)I"⟩
abbrev cX12_turns : ByteArray := prog_14_method_67_code
def yX12_turns : MethodName := ⟨RX12, "turns", "(II)V"⟩
abbrev cX12_helps : ByteArray := prog_14_method_68_code
def yX12_helps : MethodName := ⟨RX12, "helps", "(II)I"⟩
abbrev cX12_fits : ByteArray := prog_14_method_69_code
def yX12_fits : MethodName := ⟨RX12, "fits", "(I)Z"⟩
abbrev cX12_laySymmetries : ByteArray := prog_14_method_70_code
def yX12_laySymmetries : MethodName := ⟨RX12, "laySymmetries", "()V"⟩
abbrev cX12_symmetries : ByteArray := prog_14_method_71_code
def yX12_symmetries : MethodName := ⟨RX12, "symmetries", "()I"⟩
abbrev cX12_alike : ByteArray := prog_14_method_72_code
def yX12_alike : MethodName := ⟨RX12, "alike", "(I)I"⟩
abbrev cX12_holds : ByteArray := prog_14_method_73_code
def yX12_holds : MethodName := ⟨RX12, "holds", "(III)Z"⟩
abbrev cX12_layGuard : ByteArray := prog_14_method_74_code
def yX12_layGuard : MethodName := ⟨RX12, "layGuard", "(I)V"⟩
abbrev cX12_isSet : ByteArray := prog_14_method_75_code
def yX12_isSet : MethodName := ⟨RX12, "isSet", "(I)Z"⟩
abbrev cX12_guard : ByteArray := prog_14_method_76_code
def yX12_guard : MethodName := ⟨RX12, "guard", "(I)I"⟩
abbrev cX12_guards : ByteArray := prog_14_method_77_code
def yX12_guards : MethodName := ⟨RX12, "guards", "(III)I"⟩
abbrev cX12_darkBehind : ByteArray := prog_14_method_78_code
def yX12_darkBehind : MethodName := ⟨RX12, "darkBehind", "(II)I"⟩
abbrev cX12_leftBehind : ByteArray := prog_14_method_79_code
def yX12_leftBehind : MethodName := ⟨RX12, "leftBehind", "(II)I"⟩
abbrev cX12_leastLeft : ByteArray := prog_14_method_80_code
def yX12_leastLeft : MethodName := ⟨RX12, "leastLeft", "(II)I"⟩
abbrev cX12_laySweep : ByteArray := prog_14_method_81_code
def yX12_laySweep : MethodName := ⟨RX12, "laySweep", "(I)V"⟩
abbrev cX12_bestBegin : ByteArray := prog_14_method_82_code
def yX12_bestBegin : MethodName := ⟨RX12, "bestBegin", "()I"⟩
abbrev cX12_layWay : ByteArray := prog_14_method_83_code
def yX12_layWay : MethodName := ⟨RX12, "layWay", "(I)V"⟩
abbrev cX12_isSweep : ByteArray := prog_14_method_84_code
def yX12_isSweep : MethodName := ⟨RX12, "isSweep", "(I)Z"⟩
abbrev cX12_sweep : ByteArray := prog_14_method_85_code
def yX12_sweep : MethodName := ⟨RX12, "sweep", "(I)I"⟩
abbrev cX12_swept : ByteArray := prog_14_method_86_code
def yX12_swept : MethodName := ⟨RX12, "swept", "(III)I"⟩
abbrev cX12_isCaught : ByteArray := prog_14_method_87_code
def yX12_isCaught : MethodName := ⟨RX12, "isCaught", "()Z"⟩
abbrev cX12_sceneRow : ByteArray := prog_14_method_88_code
def yX12_sceneRow : MethodName := ⟨RX12, "sceneRow", "()I"⟩
abbrev cX12_stand : ByteArray := prog_14_method_89_code
def yX12_stand : MethodName := ⟨RX12, "stand", "(I)V"⟩
abbrev cX12_begin : ByteArray := prog_14_method_90_code
def yX12_begin : MethodName := ⟨RX12, "begin", "(IIIII)I"⟩
abbrev cX12_worthNow : ByteArray := prog_14_method_91_code
def yX12_worthNow : MethodName := ⟨RX12, "worthNow", "()I"⟩
abbrev cX12_scene : ByteArray := prog_14_method_92_code
def yX12_scene : MethodName := ⟨RX12, "scene", "(I)I"⟩
abbrev cX12_bestPlace : ByteArray := prog_14_method_93_code
def yX12_bestPlace : MethodName := ⟨RX12, "bestPlace", "(I)I"⟩
abbrev cX12_best : ByteArray := prog_14_method_94_code
def yX12_best : MethodName := ⟨RX12, "best", "(I)I"⟩
abbrev cX12_safe : ByteArray := prog_14_method_95_code
def yX12_safe : MethodName := ⟨RX12, "safe", "()I"⟩
abbrev cX12_hunt : ByteArray := prog_14_method_96_code
def yX12_hunt : MethodName := ⟨RX12, "hunt", "(III)Z"⟩
abbrev cX12_run : ByteArray := prog_14_method_97_code
def yX12_run : MethodName := ⟨RX12, "run", "(I)Z"⟩
abbrev cX12_play : ByteArray := prog_14_method_98_code
def yX12_play : MethodName := ⟨RX12, "play", "(I)I"⟩
abbrev cX12_keep : ByteArray := prog_14_method_99_code
def yX12_keep : MethodName := ⟨RX12, "keep", "()V"⟩
abbrev cX12_undo : ByteArray := prog_14_method_100_code
def yX12_undo : MethodName := ⟨RX12, "undo", "()Z"⟩
abbrev cX12_toggle : ByteArray := prog_14_method_101_code
def yX12_toggle : MethodName := ⟨RX12, "toggle", "(II)I"⟩
abbrev cX12_become : ByteArray := prog_14_method_102_code
def yX12_become : MethodName := ⟨RX12, "become", "(I)I"⟩
abbrev cX12_becomeLeft : ByteArray := prog_14_method_103_code
def yX12_becomeLeft : MethodName := ⟨RX12, "becomeLeft", "(I)V"⟩
def RJ6 : String := "java/lang/Integer"
def TJ6 : u_T := fun k => match k with
  | _ => ("", "", "", false)
def tyJ6 : Nat → FieldType := fun k => match k with
  | _ => .int
theorem nmJ6 : ∀ a, a < 0 → ∀ b, b < 0 → a ≠ b → (TJ6 a).2.1 ≠ (TJ6 b).2.1 := by decide +kernel
theorem tyJ6_ok : ∀ k, k < 0 → parseFieldDescriptor (TJ6 k).2.2.1 = some (tyJ6 k) := by decide +kernel
abbrev cJ6_bitCount_0f7a4 : ByteArray := prog_19_method_49_code
def yJ6_bitCount_0f7a4 : MethodName := ⟨RJ6, "bitCount", "(I)I"⟩
def RJ7 : String := "java/util/Arrays"
def TJ7 : u_T := fun k => match k with
  | _ => ("", "", "", false)
def tyJ7 : Nat → FieldType := fun k => match k with
  | _ => .int
theorem nmJ7 : ∀ a, a < 0 → ∀ b, b < 0 → a ≠ b → (TJ7 a).2.1 ≠ (TJ7 b).2.1 := by decide +kernel
theorem tyJ7_ok : ∀ k, k < 0 → parseFieldDescriptor (TJ7 k).2.2.1 = some (tyJ7 k) := by decide +kernel
abbrev cJ7_fill_53178 : ByteArray := prog_28_method_103_code
def yJ7_fill_53178 : MethodName := ⟨RJ7, "fill", "([II)V"⟩
def RL : String := "SureHuntersLaw"
abbrev cL_distance : ByteArray := method_3_code
def yL_distance : MethodName := ⟨RL, "distance", "(LSureHunters;II[J)I"⟩
abbrev cL_corner : ByteArray := method_4_code
def yL_corner : MethodName := ⟨RL, "corner", "(LSureHunters;I[J)I"⟩
abbrev cL_law : ByteArray := code
def yL_law : MethodName := ⟨RL, "law", "([I)Z"⟩
theorem goodIn_r {big : List Cond} (ws : List Cond) (ps : List Nat) (hp : ws = ps.filterMap (fun i => big[i]?)) (h : ws.all goodWord = true) : ∀ w ∈ ws, w ∈ big ∧ goodWord w = true := by
  intro w hw
  have h1 := List.all_eq_true.mp h w hw
  rw [hp] at hw
  obtain ⟨i, -, hi⟩ := List.mem_filterMap.mp hw
  exact ⟨by first | exact List.mem_of_getElem? hi | exact List.getElem?_mem hi, h1⟩
/-- the words that callees get -/
def lw_ok : List Cond := lw_tbl.filter goodWord
theorem okm {w : Cond} (i : Nat) (h : lw_tbl[i]? = some w) (g : goodWord w = true) : w ∈ lw_ok := List.mem_filter.mpr ⟨List.mem_of_getElem? h, g⟩
theorem okr (ws : List Cond) (ps : List Nat) (hp : ws = ps.filterMap (fun i => lw_tbl[i]?)) (h : ws.all goodWord = true) : ∀ w ∈ ws, w ∈ lw_ok := fun w hw => List.mem_filter.mpr (goodIn_r ws ps hp h w hw)
def isNest : Cond → Bool
  | .fieldLinkNest .. => true
  | .methodLinkNest .. => true
  | _ => false
def lw_nest : List Cond := lw_tbl.filter isNest
theorem nem {w : Cond} (i : Nat) (h : lw_tbl[i]? = some w) (g : isNest w = true) : w ∈ lw_nest := List.mem_filter.mpr ⟨List.mem_of_getElem? h, g⟩
abbrev clX : List vw_C := [(RX0, TX0, 5), (RX1, TX1, 9), (RX2, TX2, 6), (RX3, TX3, 2), (RX4, TX4, 4), (RX5, TX5, 9), (RX6, TX6, 6), (RX7, TX7, 9), (RX8, TX8, 9), (RX9, TX9, 2), (RX10, TX10, 1), (RX11, TX11, 11), (RX12, TX12, 58)]
/-- what is known of a kind of objects -/
def KC (ci : Nat) (C : String) (T : u_T) (N : Nat) (ty : Nat → FieldType) : Prop := clX[ci]? = some (C, T, N) ∧ (∀ w ∈ u_ws C T N, w ∈ lw_ok) ∧ (∀ k, k < N → parseFieldDescriptor (T k).2.2.1 = some (ty k)) ∧ (∀ a, a < N → ∀ b, b < N → a ≠ b → (T a).2.1 ≠ (T b).2.1)
set_option maxRecDepth 20000 in
theorem kcX0 : KC 0 RX0 TX0 5 tyX0 := ⟨rfl, okr _ [275, 277, 279, 281, 283] (by decide +kernel) (by decide +kernel), tyX0_ok, nmX0⟩
set_option maxRecDepth 20000 in
theorem kcX1 : KC 1 RX1 TX1 9 tyX1 := ⟨rfl, okr _ [367, 369, 371, 373, 375, 377, 379, 381, 383] (by decide +kernel) (by decide +kernel), tyX1_ok, nmX1⟩
set_option maxRecDepth 20000 in
theorem kcX2 : KC 2 RX2 TX2 6 tyX2 := ⟨rfl, okr _ [393, 395, 397, 399, 401, 403] (by decide +kernel) (by decide +kernel), tyX2_ok, nmX2⟩
set_option maxRecDepth 20000 in
theorem kcX3 : KC 3 RX3 TX3 2 tyX3 := ⟨rfl, okr _ [255, 257] (by decide +kernel) (by decide +kernel), tyX3_ok, nmX3⟩
set_option maxRecDepth 20000 in
theorem kcX4 : KC 4 RX4 TX4 4 tyX4 := ⟨rfl, okr _ [512, 514, 516, 518] (by decide +kernel) (by decide +kernel), tyX4_ok, nmX4⟩
set_option maxRecDepth 20000 in
theorem kcX5 : KC 5 RX5 TX5 9 tyX5 := ⟨rfl, okr _ [323, 325, 327, 329, 331, 333, 335, 337, 339] (by decide +kernel) (by decide +kernel), tyX5_ok, nmX5⟩
set_option maxRecDepth 20000 in
theorem kcX6 : KC 6 RX6 TX6 6 tyX6 := ⟨rfl, okr _ [482, 484, 486, 488, 490, 492] (by decide +kernel) (by decide +kernel), tyX6_ok, nmX6⟩
set_option maxRecDepth 20000 in
theorem kcX7 : KC 7 RX7 TX7 9 tyX7 := ⟨rfl, okr _ [220, 222, 224, 226, 228, 230, 232, 234, 236] (by decide +kernel) (by decide +kernel), tyX7_ok, nmX7⟩
set_option maxRecDepth 20000 in
theorem kcX8 : KC 8 RX8 TX8 9 tyX8 := ⟨rfl, okr _ [444, 446, 448, 450, 452, 454, 456, 458, 460] (by decide +kernel) (by decide +kernel), tyX8_ok, nmX8⟩
set_option maxRecDepth 20000 in
theorem kcX9 : KC 9 RX9 TX9 2 tyX9 := ⟨rfl, okr _ [414, 416] (by decide +kernel) (by decide +kernel), tyX9_ok, nmX9⟩
set_option maxRecDepth 20000 in
theorem kcX10 : KC 10 RX10 TX10 1 tyX10 := ⟨rfl, okr _ [426] (by decide +kernel) (by decide +kernel), tyX10_ok, nmX10⟩
set_option maxRecDepth 20000 in
theorem kcX11 : KC 11 RX11 TX11 11 tyX11 := ⟨rfl, okr _ [532, 534, 536, 538, 540, 542, 544, 546, 548, 550, 552] (by decide +kernel) (by decide +kernel), tyX11_ok, nmX11⟩
set_option maxRecDepth 20000 in
theorem kcX12 : KC 12 RX12 TX12 58 tyX12 := ⟨rfl, okr _ [1412, 1414, 1416, 1418, 1420, 1422, 1424, 1426, 1428, 1430, 1432, 1434, 1436, 1438, 1440, 1442, 1444, 1446, 1448, 1450, 1452, 1454, 1456, 1458, 1460, 1462, 1464, 1466, 1468, 1470, 1472, 1474, 1476, 1478, 1480, 1482, 1484, 1486, 1488, 1490, 1492, 1494, 1496, 1498, 1500, 1502, 1504, 1506, 1508, 1510, 1512, 1514, 1516, 1518, 1520, 1522, 1524, 1526] (by decide +kernel) (by decide +kernel), tyX12_ok, nmX12⟩
abbrev Md : Type := MethodName × ByteArray × Nat × Option FieldType
def mX0_init : Md := (yX0_init, cX0_init, 1, none)
def mX0_settle : Md := (yX0_settle, cX0_settle, 3, none)
def mX0_takeLeastCorner : Md := (yX0_takeLeastCorner, cX0_takeLeastCorner, 4, none)
def mX0_cornerBy : Md := (yX0_cornerBy, cX0_cornerBy, 5, some .int)
def mX0_comesAtLast : Md := (yX0_comesAtLast, cX0_comesAtLast, 4, some .int)
def mX1_init : Md := (yX1_init, cX1_init, 4, none)
def mX1_clear : Md := (yX1_clear, cX1_clear, 1, none)
def mX1_indexOf : Md := (yX1_indexOf, cX1_indexOf, 4, some .int)
def mX1_worthAt : Md := (yX1_worthAt, cX1_worthAt, 4, some .int)
def mX1_setWorth : Md := (yX1_setWorth, cX1_setWorth, 6, none)
def mX1_sureBits : Md := (yX1_sureBits, cX1_sureBits, 5, some .int)
def mX2_init : Md := (yX2_init, cX2_init, 4, none)
def mX2_renew : Md := (yX2_renew, cX2_renew, 2, none)
def mX2_solved : Md := (yX2_solved, cX2_solved, 5, some (.object "SureHunters$Game"))
def mX2_solve : Md := (yX2_solve, cX2_solve, 4, none)
def mX2_isOnNet : Md := (yX2_isOnNet, cX2_isOnNet, 2, some .boolean)
def mX2_spreadHeld : Md := (yX2_spreadHeld, cX2_spreadHeld, 5, none)
def mX2_holds : Md := (yX2_holds, cX2_holds, 5, some .int)
def mX2_takeNews : Md := (yX2_takeNews, cX2_takeNews, 7, some .boolean)
def mX2_findOpening : Md := (yX2_findOpening, cX2_findOpening, 5, none)
def mX2_rankOf : Md := (yX2_rankOf, cX2_rankOf, 1, some .int)
def mX2_worthOf : Md := (yX2_worthOf, cX2_worthOf, 1, some .int)
def mX2_greatestRank : Md := (yX2_greatestRank, cX2_greatestRank, 6, some .int)
def mX2_reach : Md := (yX2_reach, cX2_reach, 5, some .int)
def mX2_runnersRank : Md := (yX2_runnersRank, cX2_runnersRank, 4, some .int)
def mX2_runnersWorth : Md := (yX2_runnersWorth, cX2_runnersWorth, 4, some .int)
def mX2_bestRow : Md := (yX2_bestRow, cX2_bestRow, 9, some .int)
def mX2_bestPlace : Md := (yX2_bestPlace, cX2_bestPlace, 9, some .int)
def mX2_safeBits : Md := (yX2_safeBits, cX2_safeBits, 4, some .int)
def mX2_refusedCouple : Md := (yX2_refusedCouple, cX2_refusedCouple, 6, some .int)
def mX2_tryOut : Md := (yX2_tryOut, cX2_tryOut, 7, some .int)
def mX2_nextSeed : Md := (yX2_nextSeed, cX2_nextSeed, 1, some .int)
def mX2_drawn : Md := (yX2_drawn, cX2_drawn, 5, some .int)
def mX3_init : Md := (yX3_init, cX3_init, 1, none)
def mX3_clear : Md := (yX3_clear, cX3_clear, 1, none)
def mX3_copyFrom : Md := (yX3_copyFrom, cX3_copyFrom, 3, none)
def mX3_sameAs : Md := (yX3_sameAs, cX3_sameAs, 4, some .boolean)
def mX3_has : Md := (yX3_has, cX3_has, 2, some .boolean)
def mX3_all : Md := (yX3_all, cX3_all, 1, some .int)
def mX3_addPlace : Md := (yX3_addPlace, cX3_addPlace, 1, none)
def mX3_around : Md := (yX3_around, cX3_around, 2, some .int)
def mX3_joined : Md := (yX3_joined, cX3_joined, 3, some .boolean)
def mX3_flip : Md := (yX3_flip, cX3_flip, 3, none)
def mX3_linesAt : Md := (yX3_linesAt, cX3_linesAt, 2, some .int)
def mX3_widen : Md := (yX3_widen, cX3_widen, 4, some .int)
def mX3_lines : Md := (yX3_lines, cX3_lines, 3, some .int)
def mX3_fewestLines : Md := (yX3_fewestLines, cX3_fewestLines, 3, some .int)
def mX3_parts : Md := (yX3_parts, cX3_parts, 4, some .int)
def mX3_partOf : Md := (yX3_partOf, cX3_partOf, 4, some .int)
def mX3_steps : Md := (yX3_steps, cX3_steps, 5, some .int)
def mX3_girth : Md := (yX3_girth, cX3_girth, 5, some .int)
def mX3_cover : Md := (yX3_cover, cX3_cover, 3, some .int)
def mX3_isBetterCover : Md := (yX3_isBetterCover, cX3_isBetterCover, 4, some .boolean)
def mX3_takePart : Md := (yX3_takePart, cX3_takePart, 5, none)
def mX3_countBelow : Md := (yX3_countBelow, cX3_countBelow, 2, some .int)
def mX3_takeTurned : Md := (yX3_takeTurned, cX3_takeTurned, 4, none)
def mX3_takeTwice : Md := (yX3_takeTwice, cX3_takeTwice, 5, none)
def mX4_init : Md := (yX4_init, cX4_init, 2, none)
def mX4_forget : Md := (yX4_forget, cX4_forget, 1, none)
def mX4_keep : Md := (yX4_keep, cX4_keep, 3, none)
def mX4_takeBack : Md := (yX4_takeBack, cX4_takeBack, 3, some .boolean)
def mX5_init : Md := (yX5_init, cX5_init, 8, none)
def mX5_tell : Md := (yX5_tell, cX5_tell, 5, none)
def mX5_tellNumber : Md := (yX5_tellNumber, cX5_tellNumber, 5, none)
def mX5_isSpot : Md := (yX5_isSpot, cX5_isSpot, 1, some .boolean)
def mX5_numberOf : Md := (yX5_numberOf, cX5_numberOf, 5, some .int)
def mX5_huntersOf : Md := (yX5_huntersOf, cX5_huntersOf, 1, some .int)
def mX5_spotAt : Md := (yX5_spotAt, cX5_spotAt, 4, some .int)
def mX5_hunterAt : Md := (yX5_hunterAt, cX5_hunterAt, 4, some .int)
def mX5_standBits : Md := (yX5_standBits, cX5_standBits, 2, some .int)
def mX5_standsAt : Md := (yX5_standsAt, cX5_standsAt, 3, some .boolean)
def mX5_learn : Md := (yX5_learn, cX5_learn, 4, none)
def mX5_stepFrom : Md := (yX5_stepFrom, cX5_stepFrom, 8, none)
def mX5_stepOne : Md := (yX5_stepOne, cX5_stepOne, 5, none)
def mX5_note : Md := (yX5_note, cX5_note, 6, none)
def mX5_isFound : Md := (yX5_isFound, cX5_isFound, 2, some .boolean)
def mX5_leads : Md := (yX5_leads, cX5_leads, 4, some .boolean)
def mX6_init : Md := (yX6_init, cX6_init, 1, none)
def mX6_copyFrom : Md := (yX6_copyFrom, cX6_copyFrom, 2, none)
def mX6_open : Md := (yX6_open, cX6_open, 4, none)
def mX6_huntersGo : Md := (yX6_huntersGo, cX6_huntersGo, 2, none)
def mX6_runnerGoes : Md := (yX6_runnerGoes, cX6_runnerGoes, 2, none)
def mX7_init : Md := (yX7_init, cX7_init, 1, none)
def mX7_append : Md := (yX7_append, cX7_append, 3, none)
def mX7_parse : Md := (yX7_parse, cX7_parse, 3, none)
def mX7_parsePlace : Md := (yX7_parsePlace, cX7_parsePlace, 2, none)
def mX7_parseLine : Md := (yX7_parseLine, cX7_parseLine, 4, none)
def mX7_parseEnd : Md := (yX7_parseEnd, cX7_parseEnd, 3, some .int)
def mX7_passSign : Md := (yX7_passSign, cX7_passSign, 1, none)
def mX7_refuseToken : Md := (yX7_refuseToken, cX7_refuseToken, 1, none)
def mX7_refuse : Md := (yX7_refuse, cX7_refuse, 2, none)
def mX7_advance : Md := (yX7_advance, cX7_advance, 3, none)
def mX7_wordToken : Md := (yX7_wordToken, cX7_wordToken, 1, some .int)
def mX7_isWord : Md := (yX7_isWord, cX7_isWord, 4, some .boolean)
def mX7_placeNamed : Md := (yX7_placeNamed, cX7_placeNamed, 3, some .int)
def mX7_isNameOf : Md := (yX7_isNameOf, cX7_isNameOf, 4, some .boolean)
def mX7_byteAt : Md := (yX7_byteAt, cX7_byteAt, 2, some .int)
def mX7_isBlank : Md := (yX7_isBlank, cX7_isBlank, 1, some .boolean)
def mX7_isLetter : Md := (yX7_isLetter, cX7_isLetter, 1, some .boolean)
def mX8_init : Md := (yX8_init, cX8_init, 3, none)
def mX8_renew : Md := (yX8_renew, cX8_renew, 1, none)
def mX8_roundsOf : Md := (yX8_roundsOf, cX8_roundsOf, 2, some .int)
def mX8_rowIn : Md := (yX8_rowIn, cX8_rowIn, 4, some .int)
def mX8_pathIndex : Md := (yX8_pathIndex, cX8_pathIndex, 2, some .int)
def mX8_isOnNet : Md := (yX8_isOnNet, cX8_isOnNet, 2, some .boolean)
def mX8_opensLit : Md := (yX8_opensLit, cX8_opensLit, 3, some .boolean)
def mX8_explore : Md := (yX8_explore, cX8_explore, 5, none)
def mX8_prepare : Md := (yX8_prepare, cX8_prepare, 2, none)
def mX8_enqueue : Md := (yX8_enqueue, cX8_enqueue, 3, none)
def mX8_stepsToLight : Md := (yX8_stepsToLight, cX8_stepsToLight, 8, some .boolean)
def mX8_tellPath : Md := (yX8_tellPath, cX8_tellPath, 6, none)
def mX9_init : Md := (yX9_init, cX9_init, 1, none)
def mX9_howMany : Md := (yX9_howMany, cX9_howMany, 4, some .int)
def mX9_imagesOf : Md := (yX9_imagesOf, cX9_imagesOf, 5, some .int)
def mX9_leastAlike : Md := (yX9_leastAlike, cX9_leastAlike, 5, some .int)
def mX9_canBe : Md := (yX9_canBe, cX9_canBe, 4, some .boolean)
def mX9_completes : Md := (yX9_completes, cX9_completes, 5, some .boolean)
def mX9_fits : Md := (yX9_fits, cX9_fits, 8, some .boolean)
def mX10_init : Md := (yX10_init, cX10_init, 1, none)
def mX10_settle : Md := (yX10_settle, cX10_settle, 6, none)
def mX10_dropCouples : Md := (yX10_dropCouples, cX10_dropCouples, 6, some .boolean)
def mX10_answers : Md := (yX10_answers, cX10_answers, 8, some .boolean)
def mX10_couples : Md := (yX10_couples, cX10_couples, 3, some .int)
def mX10_isCouple : Md := (yX10_isCouple, cX10_isCouple, 3, some .boolean)
def mX11_init : Md := (yX11_init, cX11_init, 1, none)
def mX11_feed : Md := (yX11_feed, cX11_feed, 6, some .int)
def mX11_end : Md := (yX11_end, cX11_end, 2, some .int)
def mX11_net : Md := (yX11_net, cX11_net, 1, some .int)
def mX11_fault : Md := (yX11_fault, cX11_fault, 2, some .int)
def mX11_about : Md := (yX11_about, cX11_about, 2, some .int)
def mX11_near : Md := (yX11_near, cX11_near, 2, some .int)
def mX11_distance : Md := (yX11_distance, cX11_distance, 3, some .int)
def mX11_corner : Md := (yX11_corner, cX11_corner, 2, some .int)
def mX11_goes : Md := (yX11_goes, cX11_goes, 2, some .int)
def mX11_left : Md := (yX11_left, cX11_left, 1, some .int)
def mX11_image : Md := (yX11_image, cX11_image, 2, some .int)
def mX11_fewest : Md := (yX11_fewest, cX11_fewest, 4, some .int)
def mX11_time : Md := (yX11_time, cX11_time, 4, some .int)
def mX11_start : Md := (yX11_start, cX11_start, 5, some .int)
def mX11_sure : Md := (yX11_sure, cX11_sure, 7, some .int)
def mX11_refusals : Md := (yX11_refusals, cX11_refusals, 4, some .int)
def mX11_refusal : Md := (yX11_refusal, cX11_refusal, 7, some .int)
def mX11_trial : Md := (yX11_trial, cX11_trial, 5, some .int)
def mX11_helps : Md := (yX11_helps, cX11_helps, 4, some .int)
def mX11_symmetries : Md := (yX11_symmetries, cX11_symmetries, 1, some .int)
def mX11_alike : Md := (yX11_alike, cX11_alike, 2, some .int)
def mX11_guard : Md := (yX11_guard, cX11_guard, 2, some .int)
def mX11_guards : Md := (yX11_guards, cX11_guards, 4, some .int)
def mX11_sweep : Md := (yX11_sweep, cX11_sweep, 2, some .int)
def mX11_swept : Md := (yX11_swept, cX11_swept, 5, some .int)
def mX11_begin : Md := (yX11_begin, cX11_begin, 7, some .int)
def mX11_scene : Md := (yX11_scene, cX11_scene, 3, some .int)
def mX11_best : Md := (yX11_best, cX11_best, 3, some .int)
def mX11_safe : Md := (yX11_safe, cX11_safe, 2, some .int)
def mX11_hunt : Md := (yX11_hunt, cX11_hunt, 5, some .boolean)
def mX11_run : Md := (yX11_run, cX11_run, 2, some .boolean)
def mX11_play : Md := (yX11_play, cX11_play, 5, some .int)
def mX11_toggle : Md := (yX11_toggle, cX11_toggle, 3, some .int)
def mX11_become : Md := (yX11_become, cX11_become, 2, some .int)
def mX11_undo : Md := (yX11_undo, cX11_undo, 1, some .boolean)
def mX11_takeDraft : Md := (yX11_takeDraft, cX11_takeDraft, 1, none)
def mX11_renew : Md := (yX11_renew, cX11_renew, 1, none)
def mX11_low : Md := (yX11_low, cX11_low, 2, some .int)
def mX11_rowOf : Md := (yX11_rowOf, cX11_rowOf, 4, some .int)
def mX11_isSet : Md := (yX11_isSet, cX11_isSet, 2, some .boolean)
def mX11_helpingLine : Md := (yX11_helpingLine, cX11_helpingLine, 6, some .int)
def mX11_isCaught : Md := (yX11_isCaught, cX11_isCaught, 1, some .boolean)
def mX11_stageGame : Md := (yX11_stageGame, cX11_stageGame, 1, some (.object "SureHunters$Game"))
def mX11_stageWorth : Md := (yX11_stageWorth, cX11_stageWorth, 2, some .int)
def mX11_playTurn : Md := (yX11_playTurn, cX11_playTurn, 2, none)
def mX12_init : Md := (yX12_init, cX12_init, 1, none)
def mX12_thrown : Md := (yX12_thrown, cX12_thrown, 1, some .int)
def mX12_in : Md := (yX12_in, cX12_in, 3, some .boolean)
def mX12_isOf : Md := (yX12_isOf, cX12_isOf, 2, some .boolean)
def mX12_lesser : Md := (yX12_lesser, cX12_lesser, 2, some .int)
def mX12_greater : Md := (yX12_greater, cX12_greater, 2, some .int)
def mX12_many : Md := (yX12_many, cX12_many, 3, some .int)
def mX12_isPlace : Md := (yX12_isPlace, cX12_isPlace, 2, some .boolean)
def mX12_allPlaces : Md := (yX12_allPlaces, cX12_allPlaces, 1, some .int)
def mX12_four : Md := (yX12_four, cX12_four, 3, none)
def mX12_feed : Md := (yX12_feed, cX12_feed, 6, some .int)
def mX12_end : Md := (yX12_end, cX12_end, 2, some .int)
def mX12_byteAt : Md := (yX12_byteAt, cX12_byteAt, 2, some .int)
def mX12_isSmall : Md := (yX12_isSmall, cX12_isSmall, 1, some .boolean)
def mX12_next : Md := (yX12_next, cX12_next, 2, none)
def mX12_isGood : Md := (yX12_isGood, cX12_isGood, 1, some .boolean)
def mX12_fails : Md := (yX12_fails, cX12_fails, 2, none)
def mX12_isWord : Md := (yX12_isWord, cX12_isWord, 2, some .boolean)
def mX12_goOn : Md := (yX12_goOn, cX12_goOn, 1, none)
def mX12_called : Md := (yX12_called, cX12_called, 2, some .int)
def mX12_mustBeName : Md := (yX12_mustBeName, cX12_mustBeName, 1, none)
def mX12_readPlace : Md := (yX12_readPlace, cX12_readPlace, 1, none)
def mX12_readLine : Md := (yX12_readLine, cX12_readLine, 3, none)
def mX12_net : Md := (yX12_net, cX12_net, 2, some .int)
def mX12_fault : Md := (yX12_fault, cX12_fault, 2, some .int)
def mX12_another : Md := (yX12_another, cX12_another, 1, none)
def mX12_near : Md := (yX12_near, cX12_near, 2, some .int)
def mX12_nearAll : Md := (yX12_nearAll, cX12_nearAll, 4, some .int)
def mX12_steps : Md := (yX12_steps, cX12_steps, 9, some .int)
def mX12_distance : Md := (yX12_distance, cX12_distance, 3, some .int)
def mX12_lines : Md := (yX12_lines, cX12_lines, 3, some .int)
def mX12_parts : Md := (yX12_parts, cX12_parts, 5, some .int)
def mX12_girth : Md := (yX12_girth, cX12_girth, 5, some .int)
def mX12_low : Md := (yX12_low, cX12_low, 4, some .int)
def mX12_isAhead : Md := (yX12_isAhead, cX12_isAhead, 3, some .boolean)
def mX12_cover : Md := (yX12_cover, cX12_cover, 5, some .int)
def mX12_about : Md := (yX12_about, cX12_about, 2, some .int)
def mX12_cornerBy : Md := (yX12_cornerBy, cX12_cornerBy, 4, some .int)
def mX12_dismantle : Md := (yX12_dismantle, cX12_dismantle, 4, none)
def mX12_corner : Md := (yX12_corner, cX12_corner, 2, some .int)
def mX12_goes : Md := (yX12_goes, cX12_goes, 2, some .int)
def mX12_left : Md := (yX12_left, cX12_left, 1, some .int)
def mX12_image : Md := (yX12_image, cX12_image, 3, some .int)
def mX12_layRows : Md := (yX12_layRows, cX12_layRows, 5, none)
def mX12_comes : Md := (yX12_comes, cX12_comes, 11, some .boolean)
def mX12_layGoing : Md := (yX12_layGoing, cX12_layGoing, 5, none)
def mX12_runs : Md := (yX12_runs, cX12_runs, 4, some .int)
def mX12_solve : Md := (yX12_solve, cX12_solve, 7, none)
def mX12_layRunner : Md := (yX12_layRunner, cX12_layRunner, 8, none)
def mX12_leastBehind : Md := (yX12_leastBehind, cX12_leastBehind, 6, some .int)
def mX12_bestRow : Md := (yX12_bestRow, cX12_bestRow, 5, some .int)
def mX12_greatestOf : Md := (yX12_greatestOf, cX12_greatestOf, 5, some .int)
def mX12_startRow : Md := (yX12_startRow, cX12_startRow, 5, some .int)
def mX12_isGame : Md := (yX12_isGame, cX12_isGame, 3, some .boolean)
def mX12_timeOf : Md := (yX12_timeOf, cX12_timeOf, 3, some .int)
def mX12_time : Md := (yX12_time, cX12_time, 3, some .int)
def mX12_fewest : Md := (yX12_fewest, cX12_fewest, 3, some .int)
def mX12_start : Md := (yX12_start, cX12_start, 4, some .int)
def mX12_tell : Md := (yX12_tell, cX12_tell, 8, some .int)
def mX12_rowTold : Md := (yX12_rowTold, cX12_rowTold, 2, some .int)
def mX12_sure : Md := (yX12_sure, cX12_sure, 8, some .int)
def mX12_refused : Md := (yX12_refused, cX12_refused, 5, some .int)
def mX12_refusals : Md := (yX12_refusals, cX12_refusals, 3, some .int)
def mX12_refusal : Md := (yX12_refusal, cX12_refusal, 6, some .int)
def mX12_drawn : Md := (yX12_drawn, cX12_drawn, 2, some .int)
def mX12_trial : Md := (yX12_trial, cX12_trial, 9, some .int)
def mX12_turns : Md := (yX12_turns, cX12_turns, 3, none)
def mX12_helps : Md := (yX12_helps, cX12_helps, 6, some .int)
def mX12_fits : Md := (yX12_fits, cX12_fits, 4, some .boolean)
def mX12_laySymmetries : Md := (yX12_laySymmetries, cX12_laySymmetries, 3, none)
def mX12_symmetries : Md := (yX12_symmetries, cX12_symmetries, 1, some .int)
def mX12_alike : Md := (yX12_alike, cX12_alike, 3, some .int)
def mX12_holds : Md := (yX12_holds, cX12_holds, 7, some .boolean)
def mX12_layGuard : Md := (yX12_layGuard, cX12_layGuard, 5, none)
def mX12_isSet : Md := (yX12_isSet, cX12_isSet, 2, some .boolean)
def mX12_guard : Md := (yX12_guard, cX12_guard, 5, some .int)
def mX12_guards : Md := (yX12_guards, cX12_guards, 4, some .int)
def mX12_darkBehind : Md := (yX12_darkBehind, cX12_darkBehind, 3, some .int)
def mX12_leftBehind : Md := (yX12_leftBehind, cX12_leftBehind, 4, some .int)
def mX12_leastLeft : Md := (yX12_leastLeft, cX12_leastLeft, 6, some .int)
def mX12_laySweep : Md := (yX12_laySweep, cX12_laySweep, 7, none)
def mX12_bestBegin : Md := (yX12_bestBegin, cX12_bestBegin, 5, some .int)
def mX12_layWay : Md := (yX12_layWay, cX12_layWay, 6, none)
def mX12_isSweep : Md := (yX12_isSweep, cX12_isSweep, 2, some .boolean)
def mX12_sweep : Md := (yX12_sweep, cX12_sweep, 2, some .int)
def mX12_swept : Md := (yX12_swept, cX12_swept, 4, some .int)
def mX12_isCaught : Md := (yX12_isCaught, cX12_isCaught, 1, some .boolean)
def mX12_sceneRow : Md := (yX12_sceneRow, cX12_sceneRow, 1, some .int)
def mX12_stand : Md := (yX12_stand, cX12_stand, 2, none)
def mX12_begin : Md := (yX12_begin, cX12_begin, 6, some .int)
def mX12_worthNow : Md := (yX12_worthNow, cX12_worthNow, 2, some .int)
def mX12_scene : Md := (yX12_scene, cX12_scene, 2, some .int)
def mX12_bestPlace : Md := (yX12_bestPlace, cX12_bestPlace, 7, some .int)
def mX12_best : Md := (yX12_best, cX12_best, 3, some .int)
def mX12_safe : Md := (yX12_safe, cX12_safe, 5, some .int)
def mX12_hunt : Md := (yX12_hunt, cX12_hunt, 9, some .boolean)
def mX12_run : Md := (yX12_run, cX12_run, 3, some .boolean)
def mX12_play : Md := (yX12_play, cX12_play, 4, some .int)
def mX12_keep : Md := (yX12_keep, cX12_keep, 3, none)
def mX12_undo : Md := (yX12_undo, cX12_undo, 4, some .boolean)
def mX12_toggle : Md := (yX12_toggle, cX12_toggle, 3, some .int)
def mX12_become : Md := (yX12_become, cX12_become, 4, some .int)
def mX12_becomeLeft : Md := (yX12_becomeLeft, cX12_becomeLeft, 7, none)
def mJ6_bitCount_0f7a4 : Md := (yJ6_bitCount_0f7a4, cJ6_bitCount_0f7a4, 1, some .int)
def mJ7_fill_53178 : Md := (yJ7_fill_53178, cJ7_fill_53178, 4, none)
def mL_distance : Md := (yL_distance, cL_distance, 5, some .int)
def mL_corner : Md := (yL_corner, cL_corner, 4, some .int)
