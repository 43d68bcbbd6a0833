section
/-- a private method of a class that the tables say can be made, by its rows of tables_1 -/
def lw_okq (q : MethodName × Nat) : Prop := (q.1.cls ≠ "java/lang/invoke/MethodHandle" ∧ q.1.cls ≠ "java/lang/invoke/VarHandle") ∧ Cond.instantiable q.1.cls q.2 ∈ tables_1 ∧ Cond.privateMethod q.1 ∈ tables_1 ∧ Cond.instanceMethod q.1 ∈ tables_1
theorem lw_p0 : lw_okq (⟨"SkittleMen$Alley", "take", "(IIII)I"⟩, 10) := ⟨⟨by decide +kernel, by decide +kernel⟩, List.mem_of_getElem? (i := 29) (by decide +kernel), List.mem_of_getElem? (i := 326) (by decide +kernel), List.mem_of_getElem? (i := 327) (by decide +kernel)⟩
theorem lw_p1 : lw_okq (⟨"SkittleMen$Alley", "has", "(I)Z"⟩, 10) := ⟨⟨by decide +kernel, by decide +kernel⟩, List.mem_of_getElem? (i := 29) (by decide +kernel), List.mem_of_getElem? (i := 335) (by decide +kernel), List.mem_of_getElem? (i := 336) (by decide +kernel)⟩
theorem lw_p2 : lw_okq (⟨"SkittleMen$Man", "pushing", "()I"⟩, 6) := ⟨⟨by decide +kernel, by decide +kernel⟩, List.mem_of_getElem? (i := 38) (by decide +kernel), List.mem_of_getElem? (i := 339) (by decide +kernel), List.mem_of_getElem? (i := 340) (by decide +kernel)⟩
theorem lw_p3 : lw_okq (⟨"SkittleMen$Man", "worth", "()I"⟩, 6) := ⟨⟨by decide +kernel, by decide +kernel⟩, List.mem_of_getElem? (i := 38) (by decide +kernel), List.mem_of_getElem? (i := 343) (by decide +kernel), List.mem_of_getElem? (i := 344) (by decide +kernel)⟩
theorem lw_p4 : lw_okq (⟨"SkittleMen$Alley", "bearing", "(II)I"⟩, 10) := ⟨⟨by decide +kernel, by decide +kernel⟩, List.mem_of_getElem? (i := 29) (by decide +kernel), List.mem_of_getElem? (i := 351) (by decide +kernel), List.mem_of_getElem? (i := 352) (by decide +kernel)⟩
theorem lw_p5 : lw_okq (⟨"SkittleMen$Alley", "standing", "()I"⟩, 10) := ⟨⟨by decide +kernel, by decide +kernel⟩, List.mem_of_getElem? (i := 29) (by decide +kernel), List.mem_of_getElem? (i := 355) (by decide +kernel), List.mem_of_getElem? (i := 356) (by decide +kernel)⟩
theorem lw_p6 : lw_okq (⟨"SkittleMen$Alley", "standingSet", "()I"⟩, 10) := ⟨⟨by decide +kernel, by decide +kernel⟩, List.mem_of_getElem? (i := 29) (by decide +kernel), List.mem_of_getElem? (i := 359) (by decide +kernel), List.mem_of_getElem? (i := 360) (by decide +kernel)⟩
theorem lw_p7 : lw_okq (⟨"SkittleMen$Alley", "plainBearing", "(II)I"⟩, 10) := ⟨⟨by decide +kernel, by decide +kernel⟩, List.mem_of_getElem? (i := 29) (by decide +kernel), List.mem_of_getElem? (i := 369) (by decide +kernel), List.mem_of_getElem? (i := 370) (by decide +kernel)⟩
theorem lw_p8 : lw_okq (⟨"SkittleMen$Alley", "counted", "(I)LSkittleMen$Text;"⟩, 10) := ⟨⟨by decide +kernel, by decide +kernel⟩, List.mem_of_getElem? (i := 29) (by decide +kernel), List.mem_of_getElem? (i := 373) (by decide +kernel), List.mem_of_getElem? (i := 374) (by decide +kernel)⟩
theorem lw_p9 : lw_okq (⟨"SkittleMen$Text", "gives", "(IIII)I"⟩, 4) := ⟨⟨by decide +kernel, by decide +kernel⟩, List.mem_of_getElem? (i := 380) (by decide +kernel), List.mem_of_getElem? (i := 378) (by decide +kernel), List.mem_of_getElem? (i := 379) (by decide +kernel)⟩
theorem lw_p10 : lw_okq (⟨"SkittleMen$Man", "bearing", "(III)I"⟩, 6) := ⟨⟨by decide +kernel, by decide +kernel⟩, List.mem_of_getElem? (i := 38) (by decide +kernel), List.mem_of_getElem? (i := 398) (by decide +kernel), List.mem_of_getElem? (i := 399) (by decide +kernel)⟩
theorem lw_p11 : lw_okq (⟨"SkittleMen$Man", "isOf", "(I)Z"⟩, 6) := ⟨⟨by decide +kernel, by decide +kernel⟩, List.mem_of_getElem? (i := 38) (by decide +kernel), List.mem_of_getElem? (i := 407) (by decide +kernel), List.mem_of_getElem? (i := 408) (by decide +kernel)⟩
theorem lw_p12 : lw_okq (⟨"SkittleMen$Alley", "stands", "(I)Z"⟩, 10) := ⟨⟨by decide +kernel, by decide +kernel⟩, List.mem_of_getElem? (i := 29) (by decide +kernel), List.mem_of_getElem? (i := 431) (by decide +kernel), List.mem_of_getElem? (i := 432) (by decide +kernel)⟩
theorem lw_p13 : lw_okq (⟨"SkittleMen$Alley", "hit", "(IIIII)V"⟩, 10) := ⟨⟨by decide +kernel, by decide +kernel⟩, List.mem_of_getElem? (i := 29) (by decide +kernel), List.mem_of_getElem? (i := 437) (by decide +kernel), List.mem_of_getElem? (i := 438) (by decide +kernel)⟩
theorem lw_p14 : lw_okq (⟨"SkittleMen$Alley", "setUp", "()V"⟩, 10) := ⟨⟨by decide +kernel, by decide +kernel⟩, List.mem_of_getElem? (i := 29) (by decide +kernel), List.mem_of_getElem? (i := 455) (by decide +kernel), List.mem_of_getElem? (i := 456) (by decide +kernel)⟩
theorem lw_p15 : lw_okq (⟨"SkittleMen$Alley", "takeByLot", "()V"⟩, 10) := ⟨⟨by decide +kernel, by decide +kernel⟩, List.mem_of_getElem? (i := 29) (by decide +kernel), List.mem_of_getElem? (i := 463) (by decide +kernel), List.mem_of_getElem? (i := 464) (by decide +kernel)⟩
def lw_privs_1 : List (MethodName × Nat) := [(⟨"SkittleMen$Alley", "take", "(IIII)I"⟩, 10), (⟨"SkittleMen$Alley", "has", "(I)Z"⟩, 10), (⟨"SkittleMen$Man", "pushing", "()I"⟩, 6), (⟨"SkittleMen$Man", "worth", "()I"⟩, 6), (⟨"SkittleMen$Alley", "bearing", "(II)I"⟩, 10), (⟨"SkittleMen$Alley", "standing", "()I"⟩, 10), (⟨"SkittleMen$Alley", "standingSet", "()I"⟩, 10), (⟨"SkittleMen$Alley", "plainBearing", "(II)I"⟩, 10), (⟨"SkittleMen$Alley", "counted", "(I)LSkittleMen$Text;"⟩, 10), (⟨"SkittleMen$Text", "gives", "(IIII)I"⟩, 4), (⟨"SkittleMen$Man", "bearing", "(III)I"⟩, 6), (⟨"SkittleMen$Man", "isOf", "(I)Z"⟩, 6), (⟨"SkittleMen$Alley", "stands", "(I)Z"⟩, 10), (⟨"SkittleMen$Alley", "hit", "(IIIII)V"⟩, 10), (⟨"SkittleMen$Alley", "setUp", "()V"⟩, 10), (⟨"SkittleMen$Alley", "takeByLot", "()V"⟩, 10)]
theorem lw_r1 : ∀ q ∈ lw_privs_1, lw_okq q := List.forall_mem_cons.mpr ⟨lw_p0, List.forall_mem_cons.mpr ⟨lw_p1, List.forall_mem_cons.mpr ⟨lw_p2, List.forall_mem_cons.mpr ⟨lw_p3, List.forall_mem_cons.mpr ⟨lw_p4, List.forall_mem_cons.mpr ⟨lw_p5, List.forall_mem_cons.mpr ⟨lw_p6, List.forall_mem_cons.mpr ⟨lw_p7, List.forall_mem_cons.mpr ⟨lw_p8, List.forall_mem_cons.mpr ⟨lw_p9, List.forall_mem_cons.mpr ⟨lw_p10, List.forall_mem_cons.mpr ⟨lw_p11, List.forall_mem_cons.mpr ⟨lw_p12, List.forall_mem_cons.mpr ⟨lw_p13, List.forall_mem_cons.mpr ⟨lw_p14, List.forall_mem_cons.mpr ⟨lw_p15, fun _ h => absurd h List.not_mem_nil⟩⟩⟩⟩⟩⟩⟩⟩⟩⟩⟩⟩⟩⟩⟩⟩
theorem lw_p16 : lw_okq (⟨"SkittleMen$Alley", "draw", "()I"⟩, 10) := ⟨⟨by decide +kernel, by decide +kernel⟩, List.mem_of_getElem? (i := 29) (by decide +kernel), List.mem_of_getElem? (i := 467) (by decide +kernel), List.mem_of_getElem? (i := 468) (by decide +kernel)⟩
theorem lw_p17 : lw_okq (⟨"SkittleMen$Alley", "goOn", "(I)V"⟩, 10) := ⟨⟨by decide +kernel, by decide +kernel⟩, List.mem_of_getElem? (i := 29) (by decide +kernel), List.mem_of_getElem? (i := 481) (by decide +kernel), List.mem_of_getElem? (i := 482) (by decide +kernel)⟩
theorem lw_p18 : lw_okq (⟨"SkittleMen$Alley", "goOnce", "()V"⟩, 10) := ⟨⟨by decide +kernel, by decide +kernel⟩, List.mem_of_getElem? (i := 29) (by decide +kernel), List.mem_of_getElem? (i := 485) (by decide +kernel), List.mem_of_getElem? (i := 486) (by decide +kernel)⟩
theorem lw_p19 : lw_okq (⟨"SkittleMen$Alley", "firstStandingFrom", "(I)I"⟩, 10) := ⟨⟨by decide +kernel, by decide +kernel⟩, List.mem_of_getElem? (i := 29) (by decide +kernel), List.mem_of_getElem? (i := 490) (by decide +kernel), List.mem_of_getElem? (i := 491) (by decide +kernel)⟩
theorem lw_p20 : lw_okq (⟨"SkittleMen$Alley", "moveNerves", "()V"⟩, 10) := ⟨⟨by decide +kernel, by decide +kernel⟩, List.mem_of_getElem? (i := 29) (by decide +kernel), List.mem_of_getElem? (i := 494) (by decide +kernel), List.mem_of_getElem? (i := 495) (by decide +kernel)⟩
theorem lw_p21 : lw_okq (⟨"SkittleMen$Alley", "nerveOfAll", "()I"⟩, 10) := ⟨⟨by decide +kernel, by decide +kernel⟩, List.mem_of_getElem? (i := 29) (by decide +kernel), List.mem_of_getElem? (i := 503) (by decide +kernel), List.mem_of_getElem? (i := 504) (by decide +kernel)⟩
theorem lw_p22 : lw_okq (⟨"SkittleMen$Alley", "mostFelled", "()I"⟩, 10) := ⟨⟨by decide +kernel, by decide +kernel⟩, List.mem_of_getElem? (i := 29) (by decide +kernel), List.mem_of_getElem? (i := 507) (by decide +kernel), List.mem_of_getElem? (i := 508) (by decide +kernel)⟩
theorem lw_p23 : lw_okq (⟨"SkittleMen$Search", "lookAt", "(LSkittleMen$Alley;I)V"⟩, 11) := ⟨⟨by decide +kernel, by decide +kernel⟩, List.mem_of_getElem? (i := 122) (by decide +kernel), List.mem_of_getElem? (i := 516) (by decide +kernel), List.mem_of_getElem? (i := 517) (by decide +kernel)⟩
theorem lw_p24 : lw_okq (⟨"SkittleMen$Search", "writeBearings", "(LSkittleMen$Alley;II)V"⟩, 11) := ⟨⟨by decide +kernel, by decide +kernel⟩, List.mem_of_getElem? (i := 122) (by decide +kernel), List.mem_of_getElem? (i := 524) (by decide +kernel), List.mem_of_getElem? (i := 525) (by decide +kernel)⟩
theorem lw_p25 : lw_okq (⟨"SkittleMen$Search", "findBest", "()V"⟩, 11) := ⟨⟨by decide +kernel, by decide +kernel⟩, List.mem_of_getElem? (i := 122) (by decide +kernel), List.mem_of_getElem? (i := 533) (by decide +kernel), List.mem_of_getElem? (i := 534) (by decide +kernel)⟩
theorem lw_p26 : lw_okq (⟨"SkittleMen$Search", "fallsBy", "(IIII)Z"⟩, 11) := ⟨⟨by decide +kernel, by decide +kernel⟩, List.mem_of_getElem? (i := 122) (by decide +kernel), List.mem_of_getElem? (i := 540) (by decide +kernel), List.mem_of_getElem? (i := 541) (by decide +kernel)⟩
theorem lw_p27 : lw_okq (⟨"SkittleMen$Search", "leftBehind", "(IIIII)I"⟩, 11) := ⟨⟨by decide +kernel, by decide +kernel⟩, List.mem_of_getElem? (i := 122) (by decide +kernel), List.mem_of_getElem? (i := 544) (by decide +kernel), List.mem_of_getElem? (i := 545) (by decide +kernel)⟩
theorem lw_p28 : lw_okq (⟨"SkittleMen$Search", "offer", "(IIII)V"⟩, 11) := ⟨⟨by decide +kernel, by decide +kernel⟩, List.mem_of_getElem? (i := 122) (by decide +kernel), List.mem_of_getElem? (i := 550) (by decide +kernel), List.mem_of_getElem? (i := 551) (by decide +kernel)⟩
theorem lw_p29 : lw_okq (⟨"SkittleMen$Search", "mostByTwo", "()I"⟩, 11) := ⟨⟨by decide +kernel, by decide +kernel⟩, List.mem_of_getElem? (i := 122) (by decide +kernel), List.mem_of_getElem? (i := 558) (by decide +kernel), List.mem_of_getElem? (i := 559) (by decide +kernel)⟩
theorem lw_p30 : lw_okq (⟨"SkittleMen$Search", "startQueue", "()V"⟩, 11) := ⟨⟨by decide +kernel, by decide +kernel⟩, List.mem_of_getElem? (i := 122) (by decide +kernel), List.mem_of_getElem? (i := 562) (by decide +kernel), List.mem_of_getElem? (i := 563) (by decide +kernel)⟩
theorem lw_p31 : lw_okq (⟨"SkittleMen$Search", "queueAllBehind", "(I)V"⟩, 11) := ⟨⟨by decide +kernel, by decide +kernel⟩, List.mem_of_getElem? (i := 122) (by decide +kernel), List.mem_of_getElem? (i := 567) (by decide +kernel), List.mem_of_getElem? (i := 568) (by decide +kernel)⟩
def lw_privs_2 : List (MethodName × Nat) := [(⟨"SkittleMen$Alley", "draw", "()I"⟩, 10), (⟨"SkittleMen$Alley", "goOn", "(I)V"⟩, 10), (⟨"SkittleMen$Alley", "goOnce", "()V"⟩, 10), (⟨"SkittleMen$Alley", "firstStandingFrom", "(I)I"⟩, 10), (⟨"SkittleMen$Alley", "moveNerves", "()V"⟩, 10), (⟨"SkittleMen$Alley", "nerveOfAll", "()I"⟩, 10), (⟨"SkittleMen$Alley", "mostFelled", "()I"⟩, 10), (⟨"SkittleMen$Search", "lookAt", "(LSkittleMen$Alley;I)V"⟩, 11), (⟨"SkittleMen$Search", "writeBearings", "(LSkittleMen$Alley;II)V"⟩, 11), (⟨"SkittleMen$Search", "findBest", "()V"⟩, 11), (⟨"SkittleMen$Search", "fallsBy", "(IIII)Z"⟩, 11), (⟨"SkittleMen$Search", "leftBehind", "(IIIII)I"⟩, 11), (⟨"SkittleMen$Search", "offer", "(IIII)V"⟩, 11), (⟨"SkittleMen$Search", "mostByTwo", "()I"⟩, 11), (⟨"SkittleMen$Search", "startQueue", "()V"⟩, 11), (⟨"SkittleMen$Search", "queueAllBehind", "(I)V"⟩, 11)]
theorem lw_r2 : ∀ q ∈ lw_privs_2, lw_okq q := List.forall_mem_cons.mpr ⟨lw_p16, List.forall_mem_cons.mpr ⟨lw_p17, List.forall_mem_cons.mpr ⟨lw_p18, List.forall_mem_cons.mpr ⟨lw_p19, List.forall_mem_cons.mpr ⟨lw_p20, List.forall_mem_cons.mpr ⟨lw_p21, List.forall_mem_cons.mpr ⟨lw_p22, List.forall_mem_cons.mpr ⟨lw_p23, List.forall_mem_cons.mpr ⟨lw_p24, List.forall_mem_cons.mpr ⟨lw_p25, List.forall_mem_cons.mpr ⟨lw_p26, List.forall_mem_cons.mpr ⟨lw_p27, List.forall_mem_cons.mpr ⟨lw_p28, List.forall_mem_cons.mpr ⟨lw_p29, List.forall_mem_cons.mpr ⟨lw_p30, List.forall_mem_cons.mpr ⟨lw_p31, fun _ h => absurd h List.not_mem_nil⟩⟩⟩⟩⟩⟩⟩⟩⟩⟩⟩⟩⟩⟩⟩⟩
theorem lw_p32 : lw_okq (⟨"SkittleMen$Search", "enqueue", "(II)V"⟩, 11) := ⟨⟨by decide +kernel, by decide +kernel⟩, List.mem_of_getElem? (i := 122) (by decide +kernel), List.mem_of_getElem? (i := 571) (by decide +kernel), List.mem_of_getElem? (i := 572) (by decide +kernel)⟩
theorem lw_p33 : lw_okq (⟨"SkittleMen$Search", "fewestForAll", "()I"⟩, 11) := ⟨⟨by decide +kernel, by decide +kernel⟩, List.mem_of_getElem? (i := 122) (by decide +kernel), List.mem_of_getElem? (i := 580) (by decide +kernel), List.mem_of_getElem? (i := 581) (by decide +kernel)⟩
theorem lw_p34 : lw_okq (⟨"SkittleMen$Alley", "becomeAs", "(LSkittleMen$Alley;)V"⟩, 10) := ⟨⟨by decide +kernel, by decide +kernel⟩, List.mem_of_getElem? (i := 29) (by decide +kernel), List.mem_of_getElem? (i := 593) (by decide +kernel), List.mem_of_getElem? (i := 594) (by decide +kernel)⟩
theorem lw_p35 : lw_okq (⟨"SkittleMen$Man", "becomeAs", "(LSkittleMen$Man;)V"⟩, 6) := ⟨⟨by decide +kernel, by decide +kernel⟩, List.mem_of_getElem? (i := 38) (by decide +kernel), List.mem_of_getElem? (i := 597) (by decide +kernel), List.mem_of_getElem? (i := 598) (by decide +kernel)⟩
theorem lw_p36 : lw_okq (⟨"SkittleMen$Sheet", "isMissing", "()Z"⟩, 3) := ⟨⟨by decide +kernel, by decide +kernel⟩, List.mem_of_getElem? (i := 235) (by decide +kernel), List.mem_of_getElem? (i := 620) (by decide +kernel), List.mem_of_getElem? (i := 621) (by decide +kernel)⟩
theorem lw_p37 : lw_okq (⟨"SkittleMen", "addDifferences", "(LSkittleMen$Sheet;)V"⟩, 12) := ⟨⟨by decide +kernel, by decide +kernel⟩, List.mem_of_getElem? (i := 21) (by decide +kernel), List.mem_of_getElem? (i := 625) (by decide +kernel), List.mem_of_getElem? (i := 626) (by decide +kernel)⟩
theorem lw_p38 : lw_okq (⟨"SkittleMen$Sheet", "isNumber", "(I)Z"⟩, 3) := ⟨⟨by decide +kernel, by decide +kernel⟩, List.mem_of_getElem? (i := 235) (by decide +kernel), List.mem_of_getElem? (i := 630) (by decide +kernel), List.mem_of_getElem? (i := 631) (by decide +kernel)⟩
theorem lw_p39 : lw_okq (⟨"SkittleMen$Sheet", "has", "(I)Z"⟩, 3) := ⟨⟨by decide +kernel, by decide +kernel⟩, List.mem_of_getElem? (i := 235) (by decide +kernel), List.mem_of_getElem? (i := 634) (by decide +kernel), List.mem_of_getElem? (i := 635) (by decide +kernel)⟩
theorem lw_p40 : lw_okq (⟨"SkittleMen$Tape", "put", "(I)V"⟩, 2) := ⟨⟨by decide +kernel, by decide +kernel⟩, List.mem_of_getElem? (i := 166) (by decide +kernel), List.mem_of_getElem? (i := 656) (by decide +kernel), List.mem_of_getElem? (i := 657) (by decide +kernel)⟩
theorem lw_p41 : lw_okq (⟨"SkittleMen$TextReader", "faultFound", "()I"⟩, 14) := ⟨⟨by decide +kernel, by decide +kernel⟩, List.mem_of_getElem? (i := 183) (by decide +kernel), List.mem_of_getElem? (i := 668) (by decide +kernel), List.mem_of_getElem? (i := 669) (by decide +kernel)⟩
theorem lw_p42 : lw_okq (⟨"SkittleMen$TextReader", "startAgain", "()V"⟩, 14) := ⟨⟨by decide +kernel, by decide +kernel⟩, List.mem_of_getElem? (i := 183) (by decide +kernel), List.mem_of_getElem? (i := 672) (by decide +kernel), List.mem_of_getElem? (i := 673) (by decide +kernel)⟩
theorem lw_p43 : lw_okq (⟨"SkittleMen$TextReader", "nextWord", "()V"⟩, 14) := ⟨⟨by decide +kernel, by decide +kernel⟩, List.mem_of_getElem? (i := 183) (by decide +kernel), List.mem_of_getElem? (i := 676) (by decide +kernel), List.mem_of_getElem? (i := 677) (by decide +kernel)⟩
theorem lw_p44 : lw_okq (⟨"SkittleMen$TextReader", "isWord", "()Z"⟩, 14) := ⟨⟨by decide +kernel, by decide +kernel⟩, List.mem_of_getElem? (i := 183) (by decide +kernel), List.mem_of_getElem? (i := 680) (by decide +kernel), List.mem_of_getElem? (i := 681) (by decide +kernel)⟩
theorem lw_p45 : lw_okq (⟨"SkittleMen$TextReader", "byteAt", "(I)I"⟩, 14) := ⟨⟨by decide +kernel, by decide +kernel⟩, List.mem_of_getElem? (i := 183) (by decide +kernel), List.mem_of_getElem? (i := 684) (by decide +kernel), List.mem_of_getElem? (i := 685) (by decide +kernel)⟩
theorem lw_p46 : lw_okq (⟨"SkittleMen$TextReader", "sortAt", "(I)I"⟩, 14) := ⟨⟨by decide +kernel, by decide +kernel⟩, List.mem_of_getElem? (i := 183) (by decide +kernel), List.mem_of_getElem? (i := 689) (by decide +kernel), List.mem_of_getElem? (i := 690) (by decide +kernel)⟩
theorem lw_p47 : lw_okq (⟨"SkittleMen$TextReader", "keyRead", "()I"⟩, 14) := ⟨⟨by decide +kernel, by decide +kernel⟩, List.mem_of_getElem? (i := 183) (by decide +kernel), List.mem_of_getElem? (i := 693) (by decide +kernel), List.mem_of_getElem? (i := 694) (by decide +kernel)⟩
def lw_privs_3 : List (MethodName × Nat) := [(⟨"SkittleMen$Search", "enqueue", "(II)V"⟩, 11), (⟨"SkittleMen$Search", "fewestForAll", "()I"⟩, 11), (⟨"SkittleMen$Alley", "becomeAs", "(LSkittleMen$Alley;)V"⟩, 10), (⟨"SkittleMen$Man", "becomeAs", "(LSkittleMen$Man;)V"⟩, 6), (⟨"SkittleMen$Sheet", "isMissing", "()Z"⟩, 3), (⟨"SkittleMen", "addDifferences", "(LSkittleMen$Sheet;)V"⟩, 12), (⟨"SkittleMen$Sheet", "isNumber", "(I)Z"⟩, 3), (⟨"SkittleMen$Sheet", "has", "(I)Z"⟩, 3), (⟨"SkittleMen$Tape", "put", "(I)V"⟩, 2), (⟨"SkittleMen$TextReader", "faultFound", "()I"⟩, 14), (⟨"SkittleMen$TextReader", "startAgain", "()V"⟩, 14), (⟨"SkittleMen$TextReader", "nextWord", "()V"⟩, 14), (⟨"SkittleMen$TextReader", "isWord", "()Z"⟩, 14), (⟨"SkittleMen$TextReader", "byteAt", "(I)I"⟩, 14), (⟨"SkittleMen$TextReader", "sortAt", "(I)I"⟩, 14), (⟨"SkittleMen$TextReader", "keyRead", "()I"⟩, 14)]
theorem lw_r3 : ∀ q ∈ lw_privs_3, lw_okq q := List.forall_mem_cons.mpr ⟨lw_p32, List.forall_mem_cons.mpr ⟨lw_p33, List.forall_mem_cons.mpr ⟨lw_p34, List.forall_mem_cons.mpr ⟨lw_p35, List.forall_mem_cons.mpr ⟨lw_p36, List.forall_mem_cons.mpr ⟨lw_p37, List.forall_mem_cons.mpr ⟨lw_p38, List.forall_mem_cons.mpr ⟨lw_p39, List.forall_mem_cons.mpr ⟨lw_p40, List.forall_mem_cons.mpr ⟨lw_p41, List.forall_mem_cons.mpr ⟨lw_p42, List.forall_mem_cons.mpr ⟨lw_p43, List.forall_mem_cons.mpr ⟨lw_p44, List.forall_mem_cons.mpr ⟨lw_p45, List.forall_mem_cons.mpr ⟨lw_p46, List.forall_mem_cons.mpr ⟨lw_p47, fun _ h => absurd h List.not_mem_nil⟩⟩⟩⟩⟩⟩⟩⟩⟩⟩⟩⟩⟩⟩⟩⟩
theorem lw_p48 : lw_okq (⟨"SkittleMen$TextReader", "isRead", "(Ljava/lang/String;)Z"⟩, 14) := ⟨⟨by decide +kernel, by decide +kernel⟩, List.mem_of_getElem? (i := 183) (by decide +kernel), List.mem_of_getElem? (i := 703) (by decide +kernel), List.mem_of_getElem? (i := 704) (by decide +kernel)⟩
theorem lw_p49 : lw_okq (⟨"SkittleMen$TextReader", "takesPiece", "()Z"⟩, 14) := ⟨⟨by decide +kernel, by decide +kernel⟩, List.mem_of_getElem? (i := 183) (by decide +kernel), List.mem_of_getElem? (i := 755) (by decide +kernel), List.mem_of_getElem? (i := 756) (by decide +kernel)⟩
theorem lw_p50 : lw_okq (⟨"SkittleMen$TextReader", "numberRead", "()I"⟩, 14) := ⟨⟨by decide +kernel, by decide +kernel⟩, List.mem_of_getElem? (i := 183) (by decide +kernel), List.mem_of_getElem? (i := 759) (by decide +kernel), List.mem_of_getElem? (i := 760) (by decide +kernel)⟩
theorem lw_p51 : lw_okq (⟨"SkittleMen$TextReader", "takesValue", "(I)Z"⟩, 14) := ⟨⟨by decide +kernel, by decide +kernel⟩, List.mem_of_getElem? (i := 183) (by decide +kernel), List.mem_of_getElem? (i := 763) (by decide +kernel), List.mem_of_getElem? (i := 764) (by decide +kernel)⟩
theorem lw_p52 : lw_okq (⟨"SkittleMen$TextReader", "emit", "(I)V"⟩, 14) := ⟨⟨by decide +kernel, by decide +kernel⟩, List.mem_of_getElem? (i := 183) (by decide +kernel), List.mem_of_getElem? (i := 767) (by decide +kernel), List.mem_of_getElem? (i := 768) (by decide +kernel)⟩
theorem lw_p53 : lw_okq (⟨"SkittleMen$TextReader", "endPiece", "()V"⟩, 14) := ⟨⟨by decide +kernel, by decide +kernel⟩, List.mem_of_getElem? (i := 183) (by decide +kernel), List.mem_of_getElem? (i := 771) (by decide +kernel), List.mem_of_getElem? (i := 772) (by decide +kernel)⟩
theorem lw_p54 : lw_okq (⟨"SkittleMen$TextReader", "popSign", "()V"⟩, 14) := ⟨⟨by decide +kernel, by decide +kernel⟩, List.mem_of_getElem? (i := 183) (by decide +kernel), List.mem_of_getElem? (i := 775) (by decide +kernel), List.mem_of_getElem? (i := 776) (by decide +kernel)⟩
theorem lw_p55 : lw_okq (⟨"SkittleMen$TextReader", "pushes", "(I)Z"⟩, 14) := ⟨⟨by decide +kernel, by decide +kernel⟩, List.mem_of_getElem? (i := 183) (by decide +kernel), List.mem_of_getElem? (i := 840) (by decide +kernel), List.mem_of_getElem? (i := 841) (by decide +kernel)⟩
theorem lw_p56 : lw_okq (⟨"SkittleMen$TextReader", "takesJoining", "()Z"⟩, 14) := ⟨⟨by decide +kernel, by decide +kernel⟩, List.mem_of_getElem? (i := 183) (by decide +kernel), List.mem_of_getElem? (i := 844) (by decide +kernel), List.mem_of_getElem? (i := 845) (by decide +kernel)⟩
theorem lw_p57 : lw_okq (⟨"SkittleMen$TextReader", "closeParen", "()V"⟩, 14) := ⟨⟨by decide +kernel, by decide +kernel⟩, List.mem_of_getElem? (i := 183) (by decide +kernel), List.mem_of_getElem? (i := 848) (by decide +kernel), List.mem_of_getElem? (i := 849) (by decide +kernel)⟩
theorem lw_p58 : lw_okq (⟨"SkittleMen$TextReader", "popSignsFrom", "(I)V"⟩, 14) := ⟨⟨by decide +kernel, by decide +kernel⟩, List.mem_of_getElem? (i := 183) (by decide +kernel), List.mem_of_getElem? (i := 852) (by decide +kernel), List.mem_of_getElem? (i := 853) (by decide +kernel)⟩
theorem lw_p59 : lw_okq (⟨"SkittleMen$TextReader", "made", "()LSkittleMen$Text;"⟩, 14) := ⟨⟨by decide +kernel, by decide +kernel⟩, List.mem_of_getElem? (i := 183) (by decide +kernel), List.mem_of_getElem? (i := 859) (by decide +kernel), List.mem_of_getElem? (i := 860) (by decide +kernel)⟩
theorem lw_p60 : lw_okq (⟨"SkittleMen$Alley", "takeText", "(LSkittleMen$Text;)I"⟩, 10) := ⟨⟨by decide +kernel, by decide +kernel⟩, List.mem_of_getElem? (i := 29) (by decide +kernel), List.mem_of_getElem? (i := 897) (by decide +kernel), List.mem_of_getElem? (i := 898) (by decide +kernel)⟩
theorem lw_p61 : lw_okq (⟨"SkittleMen$Sheet", "becomeRow", "(II)V"⟩, 3) := ⟨⟨by decide +kernel, by decide +kernel⟩, List.mem_of_getElem? (i := 235) (by decide +kernel), List.mem_of_getElem? (i := 913) (by decide +kernel), List.mem_of_getElem? (i := 914) (by decide +kernel)⟩
theorem lw_p62 : lw_okq (⟨"SkittleMen$Sheet", "hasRun", "(II)Z"⟩, 3) := ⟨⟨by decide +kernel, by decide +kernel⟩, List.mem_of_getElem? (i := 235) (by decide +kernel), List.mem_of_getElem? (i := 941) (by decide +kernel), List.mem_of_getElem? (i := 942) (by decide +kernel)⟩
theorem lw_p63 : lw_okq (⟨"SkittleMen$Sheet", "becomeAs", "(LSkittleMen$Sheet;)V"⟩, 3) := ⟨⟨by decide +kernel, by decide +kernel⟩, List.mem_of_getElem? (i := 235) (by decide +kernel), List.mem_of_getElem? (i := 954) (by decide +kernel), List.mem_of_getElem? (i := 955) (by decide +kernel)⟩
def lw_privs_4 : List (MethodName × Nat) := [(⟨"SkittleMen$TextReader", "isRead", "(Ljava/lang/String;)Z"⟩, 14), (⟨"SkittleMen$TextReader", "takesPiece", "()Z"⟩, 14), (⟨"SkittleMen$TextReader", "numberRead", "()I"⟩, 14), (⟨"SkittleMen$TextReader", "takesValue", "(I)Z"⟩, 14), (⟨"SkittleMen$TextReader", "emit", "(I)V"⟩, 14), (⟨"SkittleMen$TextReader", "endPiece", "()V"⟩, 14), (⟨"SkittleMen$TextReader", "popSign", "()V"⟩, 14), (⟨"SkittleMen$TextReader", "pushes", "(I)Z"⟩, 14), (⟨"SkittleMen$TextReader", "takesJoining", "()Z"⟩, 14), (⟨"SkittleMen$TextReader", "closeParen", "()V"⟩, 14), (⟨"SkittleMen$TextReader", "popSignsFrom", "(I)V"⟩, 14), (⟨"SkittleMen$TextReader", "made", "()LSkittleMen$Text;"⟩, 14), (⟨"SkittleMen$Alley", "takeText", "(LSkittleMen$Text;)I"⟩, 10), (⟨"SkittleMen$Sheet", "becomeRow", "(II)V"⟩, 3), (⟨"SkittleMen$Sheet", "hasRun", "(II)Z"⟩, 3), (⟨"SkittleMen$Sheet", "becomeAs", "(LSkittleMen$Sheet;)V"⟩, 3)]
theorem lw_r4 : ∀ q ∈ lw_privs_4, lw_okq q := List.forall_mem_cons.mpr ⟨lw_p48, List.forall_mem_cons.mpr ⟨lw_p49, List.forall_mem_cons.mpr ⟨lw_p50, List.forall_mem_cons.mpr ⟨lw_p51, List.forall_mem_cons.mpr ⟨lw_p52, List.forall_mem_cons.mpr ⟨lw_p53, List.forall_mem_cons.mpr ⟨lw_p54, List.forall_mem_cons.mpr ⟨lw_p55, List.forall_mem_cons.mpr ⟨lw_p56, List.forall_mem_cons.mpr ⟨lw_p57, List.forall_mem_cons.mpr ⟨lw_p58, List.forall_mem_cons.mpr ⟨lw_p59, List.forall_mem_cons.mpr ⟨lw_p60, List.forall_mem_cons.mpr ⟨lw_p61, List.forall_mem_cons.mpr ⟨lw_p62, List.forall_mem_cons.mpr ⟨lw_p63, fun _ h => absurd h List.not_mem_nil⟩⟩⟩⟩⟩⟩⟩⟩⟩⟩⟩⟩⟩⟩⟩⟩
theorem lw_p64 : lw_okq (⟨"SkittleMen", "isTold", "(III)Z"⟩, 12) := ⟨⟨by decide +kernel, by decide +kernel⟩, List.mem_of_getElem? (i := 21) (by decide +kernel), List.mem_of_getElem? (i := 979) (by decide +kernel), List.mem_of_getElem? (i := 980) (by decide +kernel)⟩
theorem lw_p65 : lw_okq (⟨"SkittleMenModel", "comes", "(IIII)I"⟩, 36) := ⟨⟨by decide +kernel, by decide +kernel⟩, List.mem_of_getElem? (i := 995) (by decide +kernel), List.mem_of_getElem? (i := 1124) (by decide +kernel), List.mem_of_getElem? (i := 1125) (by decide +kernel)⟩
theorem lw_p66 : lw_okq (⟨"SkittleMenModel", "put", "(III)V"⟩, 36) := ⟨⟨by decide +kernel, by decide +kernel⟩, List.mem_of_getElem? (i := 995) (by decide +kernel), List.mem_of_getElem? (i := 1128) (by decide +kernel), List.mem_of_getElem? (i := 1129) (by decide +kernel)⟩
theorem lw_p67 : lw_okq (⟨"SkittleMenModel", "isMan", "(I)Z"⟩, 36) := ⟨⟨by decide +kernel, by decide +kernel⟩, List.mem_of_getElem? (i := 995) (by decide +kernel), List.mem_of_getElem? (i := 1136) (by decide +kernel), List.mem_of_getElem? (i := 1137) (by decide +kernel)⟩
theorem lw_p68 : lw_okq (⟨"SkittleMenModel", "of", "(II)I"⟩, 36) := ⟨⟨by decide +kernel, by decide +kernel⟩, List.mem_of_getElem? (i := 995) (by decide +kernel), List.mem_of_getElem? (i := 1140) (by decide +kernel), List.mem_of_getElem? (i := 1141) (by decide +kernel)⟩
theorem lw_p69 : lw_okq (⟨"SkittleMenModel", "pushesOf", "(I)I"⟩, 36) := ⟨⟨by decide +kernel, by decide +kernel⟩, List.mem_of_getElem? (i := 995) (by decide +kernel), List.mem_of_getElem? (i := 1144) (by decide +kernel), List.mem_of_getElem? (i := 1145) (by decide +kernel)⟩
theorem lw_p70 : lw_okq (⟨"SkittleMenModel", "worthOf", "(I)I"⟩, 36) := ⟨⟨by decide +kernel, by decide +kernel⟩, List.mem_of_getElem? (i := 995) (by decide +kernel), List.mem_of_getElem? (i := 1148) (by decide +kernel), List.mem_of_getElem? (i := 1149) (by decide +kernel)⟩
theorem lw_p71 : lw_okq (⟨"SkittleMenModel", "bearsOf", "(II)I"⟩, 36) := ⟨⟨by decide +kernel, by decide +kernel⟩, List.mem_of_getElem? (i := 995) (by decide +kernel), List.mem_of_getElem? (i := 1156) (by decide +kernel), List.mem_of_getElem? (i := 1157) (by decide +kernel)⟩
theorem lw_p72 : lw_okq (⟨"SkittleMenModel", "plainBears", "(I)I"⟩, 36) := ⟨⟨by decide +kernel, by decide +kernel⟩, List.mem_of_getElem? (i := 995) (by decide +kernel), List.mem_of_getElem? (i := 1160) (by decide +kernel), List.mem_of_getElem? (i := 1161) (by decide +kernel)⟩
theorem lw_p73 : lw_okq (⟨"SkittleMenModel", "counts", "(I)I"⟩, 36) := ⟨⟨by decide +kernel, by decide +kernel⟩, List.mem_of_getElem? (i := 995) (by decide +kernel), List.mem_of_getElem? (i := 1164) (by decide +kernel), List.mem_of_getElem? (i := 1165) (by decide +kernel)⟩
theorem lw_p74 : lw_okq (⟨"SkittleMenModel", "standing", "()I"⟩, 36) := ⟨⟨by decide +kernel, by decide +kernel⟩, List.mem_of_getElem? (i := 995) (by decide +kernel), List.mem_of_getElem? (i := 1168) (by decide +kernel), List.mem_of_getElem? (i := 1169) (by decide +kernel)⟩
theorem lw_p75 : lw_okq (⟨"SkittleMenModel", "worksOut", "(I)I"⟩, 36) := ⟨⟨by decide +kernel, by decide +kernel⟩, List.mem_of_getElem? (i := 995) (by decide +kernel), List.mem_of_getElem? (i := 1175) (by decide +kernel), List.mem_of_getElem? (i := 1176) (by decide +kernel)⟩
theorem lw_p76 : lw_okq (⟨"SkittleMenModel", "swaps", "(II)I"⟩, 36) := ⟨⟨by decide +kernel, by decide +kernel⟩, List.mem_of_getElem? (i := 995) (by decide +kernel), List.mem_of_getElem? (i := 1197) (by decide +kernel), List.mem_of_getElem? (i := 1198) (by decide +kernel)⟩
theorem lw_p77 : lw_okq (⟨"SkittleMenModel", "doesStand", "(I)Z"⟩, 36) := ⟨⟨by decide +kernel, by decide +kernel⟩, List.mem_of_getElem? (i := 995) (by decide +kernel), List.mem_of_getElem? (i := 1212) (by decide +kernel), List.mem_of_getElem? (i := 1213) (by decide +kernel)⟩
theorem lw_p78 : lw_okq (⟨"SkittleMenModel", "said", "(IIII)I"⟩, 36) := ⟨⟨by decide +kernel, by decide +kernel⟩, List.mem_of_getElem? (i := 995) (by decide +kernel), List.mem_of_getElem? (i := 1216) (by decide +kernel), List.mem_of_getElem? (i := 1217) (by decide +kernel)⟩
theorem lw_p79 : lw_okq (⟨"SkittleMenModel", "drops", "(III)V"⟩, 36) := ⟨⟨by decide +kernel, by decide +kernel⟩, List.mem_of_getElem? (i := 995) (by decide +kernel), List.mem_of_getElem? (i := 1220) (by decide +kernel), List.mem_of_getElem? (i := 1221) (by decide +kernel)⟩
def lw_privs_5 : List (MethodName × Nat) := [(⟨"SkittleMen", "isTold", "(III)Z"⟩, 12), (⟨"SkittleMenModel", "comes", "(IIII)I"⟩, 36), (⟨"SkittleMenModel", "put", "(III)V"⟩, 36), (⟨"SkittleMenModel", "isMan", "(I)Z"⟩, 36), (⟨"SkittleMenModel", "of", "(II)I"⟩, 36), (⟨"SkittleMenModel", "pushesOf", "(I)I"⟩, 36), (⟨"SkittleMenModel", "worthOf", "(I)I"⟩, 36), (⟨"SkittleMenModel", "bearsOf", "(II)I"⟩, 36), (⟨"SkittleMenModel", "plainBears", "(I)I"⟩, 36), (⟨"SkittleMenModel", "counts", "(I)I"⟩, 36), (⟨"SkittleMenModel", "standing", "()I"⟩, 36), (⟨"SkittleMenModel", "worksOut", "(I)I"⟩, 36), (⟨"SkittleMenModel", "swaps", "(II)I"⟩, 36), (⟨"SkittleMenModel", "doesStand", "(I)Z"⟩, 36), (⟨"SkittleMenModel", "said", "(IIII)I"⟩, 36), (⟨"SkittleMenModel", "drops", "(III)V"⟩, 36)]
theorem lw_r5 : ∀ q ∈ lw_privs_5, lw_okq q := List.forall_mem_cons.mpr ⟨lw_p64, List.forall_mem_cons.mpr ⟨lw_p65, List.forall_mem_cons.mpr ⟨lw_p66, List.forall_mem_cons.mpr ⟨lw_p67, List.forall_mem_cons.mpr ⟨lw_p68, List.forall_mem_cons.mpr ⟨lw_p69, List.forall_mem_cons.mpr ⟨lw_p70, List.forall_mem_cons.mpr ⟨lw_p71, List.forall_mem_cons.mpr ⟨lw_p72, List.forall_mem_cons.mpr ⟨lw_p73, List.forall_mem_cons.mpr ⟨lw_p74, List.forall_mem_cons.mpr ⟨lw_p75, List.forall_mem_cons.mpr ⟨lw_p76, List.forall_mem_cons.mpr ⟨lw_p77, List.forall_mem_cons.mpr ⟨lw_p78, List.forall_mem_cons.mpr ⟨lw_p79, fun _ h => absurd h List.not_mem_nil⟩⟩⟩⟩⟩⟩⟩⟩⟩⟩⟩⟩⟩⟩⟩⟩
theorem lw_p80 : lw_okq (⟨"SkittleMenModel", "setsUp", "()V"⟩, 36) := ⟨⟨by decide +kernel, by decide +kernel⟩, List.mem_of_getElem? (i := 995) (by decide +kernel), List.mem_of_getElem? (i := 1233) (by decide +kernel), List.mem_of_getElem? (i := 1234) (by decide +kernel)⟩
theorem lw_p81 : lw_okq (⟨"SkittleMenModel", "draw", "()I"⟩, 36) := ⟨⟨by decide +kernel, by decide +kernel⟩, List.mem_of_getElem? (i := 995) (by decide +kernel), List.mem_of_getElem? (i := 1241) (by decide +kernel), List.mem_of_getElem? (i := 1242) (by decide +kernel)⟩
theorem lw_p82 : lw_okq (⟨"SkittleMenModel", "goesOn", "(I)V"⟩, 36) := ⟨⟨by decide +kernel, by decide +kernel⟩, List.mem_of_getElem? (i := 995) (by decide +kernel), List.mem_of_getElem? (i := 1254) (by decide +kernel), List.mem_of_getElem? (i := 1255) (by decide +kernel)⟩
theorem lw_p83 : lw_okq (⟨"SkittleMenModel", "aGo", "()V"⟩, 36) := ⟨⟨by decide +kernel, by decide +kernel⟩, List.mem_of_getElem? (i := 995) (by decide +kernel), List.mem_of_getElem? (i := 1258) (by decide +kernel), List.mem_of_getElem? (i := 1259) (by decide +kernel)⟩
theorem lw_p84 : lw_okq (⟨"SkittleMenModel", "nerves", "()I"⟩, 36) := ⟨⟨by decide +kernel, by decide +kernel⟩, List.mem_of_getElem? (i := 995) (by decide +kernel), List.mem_of_getElem? (i := 1266) (by decide +kernel), List.mem_of_getElem? (i := 1267) (by decide +kernel)⟩
theorem lw_p85 : lw_okq (⟨"SkittleMenModel", "mostFelled", "()I"⟩, 36) := ⟨⟨by decide +kernel, by decide +kernel⟩, List.mem_of_getElem? (i := 995) (by decide +kernel), List.mem_of_getElem? (i := 1271) (by decide +kernel), List.mem_of_getElem? (i := 1272) (by decide +kernel)⟩
theorem lw_p86 : lw_okq (⟨"SkittleMenModel", "thinks", "()V"⟩, 36) := ⟨⟨by decide +kernel, by decide +kernel⟩, List.mem_of_getElem? (i := 995) (by decide +kernel), List.mem_of_getElem? (i := 1279) (by decide +kernel), List.mem_of_getElem? (i := 1280) (by decide +kernel)⟩
theorem lw_p87 : lw_okq (⟨"SkittleMenModel", "fellBy", "(III)I"⟩, 36) := ⟨⟨by decide +kernel, by decide +kernel⟩, List.mem_of_getElem? (i := 995) (by decide +kernel), List.mem_of_getElem? (i := 1286) (by decide +kernel), List.mem_of_getElem? (i := 1287) (by decide +kernel)⟩
theorem lw_p88 : lw_okq (⟨"SkittleMenModel", "letsStand", "(I)V"⟩, 36) := ⟨⟨by decide +kernel, by decide +kernel⟩, List.mem_of_getElem? (i := 995) (by decide +kernel), List.mem_of_getElem? (i := 1290) (by decide +kernel), List.mem_of_getElem? (i := 1291) (by decide +kernel)⟩
theorem lw_p89 : lw_okq (⟨"SkittleMenModel", "putsBack", "()V"⟩, 36) := ⟨⟨by decide +kernel, by decide +kernel⟩, List.mem_of_getElem? (i := 995) (by decide +kernel), List.mem_of_getElem? (i := 1294) (by decide +kernel), List.mem_of_getElem? (i := 1295) (by decide +kernel)⟩
theorem lw_p90 : lw_okq (⟨"SkittleMenModel", "mostFrom", "(II)I"⟩, 36) := ⟨⟨by decide +kernel, by decide +kernel⟩, List.mem_of_getElem? (i := 995) (by decide +kernel), List.mem_of_getElem? (i := 1302) (by decide +kernel), List.mem_of_getElem? (i := 1303) (by decide +kernel)⟩
theorem lw_p91 : lw_okq (⟨"SkittleMenModel", "goesFrom", "(II)V"⟩, 36) := ⟨⟨by decide +kernel, by decide +kernel⟩, List.mem_of_getElem? (i := 995) (by decide +kernel), List.mem_of_getElem? (i := 1310) (by decide +kernel), List.mem_of_getElem? (i := 1311) (by decide +kernel)⟩
theorem lw_p92 : lw_okq (⟨"SkittleMenModel", "go", "()V"⟩, 36) := ⟨⟨by decide +kernel, by decide +kernel⟩, List.mem_of_getElem? (i := 995) (by decide +kernel), List.mem_of_getElem? (i := 1361) (by decide +kernel), List.mem_of_getElem? (i := 1362) (by decide +kernel)⟩
theorem lw_p93 : lw_okq (⟨"SkittleMenModel", "isLetter", "(I)Z"⟩, 36) := ⟨⟨by decide +kernel, by decide +kernel⟩, List.mem_of_getElem? (i := 995) (by decide +kernel), List.mem_of_getElem? (i := 1365) (by decide +kernel), List.mem_of_getElem? (i := 1366) (by decide +kernel)⟩
theorem lw_p94 : lw_okq (⟨"SkittleMenModel", "isFigure", "(I)Z"⟩, 36) := ⟨⟨by decide +kernel, by decide +kernel⟩, List.mem_of_getElem? (i := 995) (by decide +kernel), List.mem_of_getElem? (i := 1369) (by decide +kernel), List.mem_of_getElem? (i := 1370) (by decide +kernel)⟩
theorem lw_p95 : lw_okq (⟨"SkittleMenModel", "takesKey", "()Z"⟩, 36) := ⟨⟨by decide +kernel, by decide +kernel⟩, List.mem_of_getElem? (i := 995) (by decide +kernel), List.mem_of_getElem? (i := 1373) (by decide +kernel), List.mem_of_getElem? (i := 1374) (by decide +kernel)⟩
def lw_privs_6 : List (MethodName × Nat) := [(⟨"SkittleMenModel", "setsUp", "()V"⟩, 36), (⟨"SkittleMenModel", "draw", "()I"⟩, 36), (⟨"SkittleMenModel", "goesOn", "(I)V"⟩, 36), (⟨"SkittleMenModel", "aGo", "()V"⟩, 36), (⟨"SkittleMenModel", "nerves", "()I"⟩, 36), (⟨"SkittleMenModel", "mostFelled", "()I"⟩, 36), (⟨"SkittleMenModel", "thinks", "()V"⟩, 36), (⟨"SkittleMenModel", "fellBy", "(III)I"⟩, 36), (⟨"SkittleMenModel", "letsStand", "(I)V"⟩, 36), (⟨"SkittleMenModel", "putsBack", "()V"⟩, 36), (⟨"SkittleMenModel", "mostFrom", "(II)I"⟩, 36), (⟨"SkittleMenModel", "goesFrom", "(II)V"⟩, 36), (⟨"SkittleMenModel", "go", "()V"⟩, 36), (⟨"SkittleMenModel", "isLetter", "(I)Z"⟩, 36), (⟨"SkittleMenModel", "isFigure", "(I)Z"⟩, 36), (⟨"SkittleMenModel", "takesKey", "()Z"⟩, 36)]
theorem lw_r6 : ∀ q ∈ lw_privs_6, lw_okq q := List.forall_mem_cons.mpr ⟨lw_p80, List.forall_mem_cons.mpr ⟨lw_p81, List.forall_mem_cons.mpr ⟨lw_p82, List.forall_mem_cons.mpr ⟨lw_p83, List.forall_mem_cons.mpr ⟨lw_p84, List.forall_mem_cons.mpr ⟨lw_p85, List.forall_mem_cons.mpr ⟨lw_p86, List.forall_mem_cons.mpr ⟨lw_p87, List.forall_mem_cons.mpr ⟨lw_p88, List.forall_mem_cons.mpr ⟨lw_p89, List.forall_mem_cons.mpr ⟨lw_p90, List.forall_mem_cons.mpr ⟨lw_p91, List.forall_mem_cons.mpr ⟨lw_p92, List.forall_mem_cons.mpr ⟨lw_p93, List.forall_mem_cons.mpr ⟨lw_p94, List.forall_mem_cons.mpr ⟨lw_p95, fun _ h => absurd h List.not_mem_nil⟩⟩⟩⟩⟩⟩⟩⟩⟩⟩⟩⟩⟩⟩⟩⟩
theorem lw_p96 : lw_okq (⟨"SkittleMenModel", "takesE", "()Z"⟩, 36) := ⟨⟨by decide +kernel, by decide +kernel⟩, List.mem_of_getElem? (i := 995) (by decide +kernel), List.mem_of_getElem? (i := 1377) (by decide +kernel), List.mem_of_getElem? (i := 1378) (by decide +kernel)⟩
theorem lw_p97 : lw_okq (⟨"SkittleMenModel", "takesPart", "()Z"⟩, 36) := ⟨⟨by decide +kernel, by decide +kernel⟩, List.mem_of_getElem? (i := 995) (by decide +kernel), List.mem_of_getElem? (i := 1381) (by decide +kernel), List.mem_of_getElem? (i := 1382) (by decide +kernel)⟩
theorem lw_p98 : lw_okq (⟨"SkittleMenModel", "nameOf", "(I)I"⟩, 36) := ⟨⟨by decide +kernel, by decide +kernel⟩, List.mem_of_getElem? (i := 995) (by decide +kernel), List.mem_of_getElem? (i := 1385) (by decide +kernel), List.mem_of_getElem? (i := 1386) (by decide +kernel)⟩
theorem lw_p99 : lw_okq (⟨"SkittleMenModel", "settle", "(I)V"⟩, 36) := ⟨⟨by decide +kernel, by decide +kernel⟩, List.mem_of_getElem? (i := 995) (by decide +kernel), List.mem_of_getElem? (i := 1389) (by decide +kernel), List.mem_of_getElem? (i := 1390) (by decide +kernel)⟩
theorem lw_p100 : lw_okq (⟨"SkittleMenModel", "notsOpen", "()I"⟩, 36) := ⟨⟨by decide +kernel, by decide +kernel⟩, List.mem_of_getElem? (i := 995) (by decide +kernel), List.mem_of_getElem? (i := 1396) (by decide +kernel), List.mem_of_getElem? (i := 1397) (by decide +kernel)⟩
theorem lw_p101 : lw_okq (⟨"SkittleMenModel", "signHere", "()I"⟩, 36) := ⟨⟨by decide +kernel, by decide +kernel⟩, List.mem_of_getElem? (i := 995) (by decide +kernel), List.mem_of_getElem? (i := 1400) (by decide +kernel), List.mem_of_getElem? (i := 1401) (by decide +kernel)⟩
def lw_privs_7 : List (MethodName × Nat) := [(⟨"SkittleMenModel", "takesE", "()Z"⟩, 36), (⟨"SkittleMenModel", "takesPart", "()Z"⟩, 36), (⟨"SkittleMenModel", "nameOf", "(I)I"⟩, 36), (⟨"SkittleMenModel", "settle", "(I)V"⟩, 36), (⟨"SkittleMenModel", "notsOpen", "()I"⟩, 36), (⟨"SkittleMenModel", "signHere", "()I"⟩, 36)]
theorem lw_r7 : ∀ q ∈ lw_privs_7, lw_okq q := List.forall_mem_cons.mpr ⟨lw_p96, List.forall_mem_cons.mpr ⟨lw_p97, List.forall_mem_cons.mpr ⟨lw_p98, List.forall_mem_cons.mpr ⟨lw_p99, List.forall_mem_cons.mpr ⟨lw_p100, List.forall_mem_cons.mpr ⟨lw_p101, fun _ h => absurd h List.not_mem_nil⟩⟩⟩⟩⟩⟩
def lw_privs : List (MethodName × Nat) := lw_privs_1 ++ (lw_privs_2 ++ (lw_privs_3 ++ (lw_privs_4 ++ (lw_privs_5 ++ (lw_privs_6 ++ (lw_privs_7))))))
def lw_tbl : List Cond := k2_sels lw_privs ++ tables_1
theorem lw_privs_ok : ∀ q ∈ lw_privs, lw_okq q := by
  show ∀ q ∈ lw_privs_1 ++ (lw_privs_2 ++ (lw_privs_3 ++ (lw_privs_4 ++ (lw_privs_5 ++ (lw_privs_6 ++ (lw_privs_7)))))), lw_okq q
  exact List.forall_mem_append.mpr ⟨lw_r1, List.forall_mem_append.mpr ⟨lw_r2, List.forall_mem_append.mpr ⟨lw_r3, List.forall_mem_append.mpr ⟨lw_r4, List.forall_mem_append.mpr ⟨lw_r5, List.forall_mem_append.mpr ⟨lw_r6, lw_r7⟩⟩⟩⟩⟩⟩
end
section
theorem goodIn_r {big : List Cond} (ws : List Cond) (ps : List Nat) (hp : ws = ps.filterMap (fun i => big[i]?)) (h : ws.all goodWord = true) : GoodIn big ws := by
  intro w hw
  have h1 := List.all_eq_true.mp h w hw
  rw [hp] at hw
  obtain ⟨i, -, hi⟩ := List.mem_filterMap.mp hw
  have hm : w ∈ big := by first | exact List.mem_of_getElem? hi | exact List.getElem?_mem hi
  exact ⟨hm, good_of_word h1⟩
theorem goodIn_app {big a b : List Cond} (ha : GoodIn big a) (hb : GoodIn big b) : GoodIn big (a ++ b) := fun w h => (List.mem_append.mp h).elim (ha w) (hb w)
theorem goodIn_ca {big a b : List Cond} {c : Cond} (ha : GoodIn big (c :: a)) (hb : GoodIn big b) : GoodIn big (c :: (a ++ b)) := fun w h => (List.mem_cons.mp h).elim (fun e => ha w (List.mem_cons.mpr (Or.inl e))) (fun h => (List.mem_append.mp h).elim (fun h => ha w (List.mem_cons.mpr (Or.inr h))) (hb w))
theorem goodIn_sub {big ws : List Cond} (hm : ∀ w ∈ ws, w ∈ big) (h : ws.all goodWord = true) : GoodIn big ws := fun w hw => ⟨hm w hw, good_of_word (List.all_eq_true.mp h w hw)⟩
def RX0 : String := "SkittleMen$Alley"
def TX0 : u_T := fun k => match k with
  | 0 => ("SkittleMen$Alley", "men", "[LSkittleMen$Man;", true)
  | 1 => ("SkittleMen$Alley", "size", "I", false)
  | 2 => ("SkittleMen$Alley", "fell", "I", false)
  | 3 => ("SkittleMen$Alley", "setUps", "I", false)
  | 4 => ("SkittleMen$Alley", "goesSince", "I", false)
  | 5 => ("SkittleMen$Alley", "theGo", "I", false)
  | 6 => ("SkittleMen$Alley", "z", "I", false)
  | 7 => ("SkittleMen$Alley", "texts", "[LSkittleMen$Text;", true)
  | 8 => ("SkittleMen$Alley", "textSize", "I", false)
  | _ => ("SkittleMen$Alley", "counting", "[I", true)
def tyX0 : Nat → FieldType := fun k => match k with
  | 0 => .array (.object "SkittleMen$Man")
  | 1 => .int
  | 2 => .int
  | 3 => .int
  | 4 => .int
  | 5 => .int
  | 6 => .int
  | 7 => .array (.object "SkittleMen$Text")
  | 8 => .int
  | _ => .array .int
abbrev wsX00 : List Cond := u_ws RX0 TX0 10
theorem nmX0 : ∀ a, a < 10 → ∀ b, b < 10 → a ≠ b → (TX0 a).2.1 ≠ (TX0 b).2.1 := by decide +kernel
theorem tyX0_ok : ∀ k, k < 10 → parseFieldDescriptor (TX0 k).2.2.1 = some (tyX0 k) := by decide +kernel
abbrev cX0_init : ByteArray := prog_2_method_1_code
def yX0_init : MethodName := ⟨RX0, "<init>", "()V"⟩
abbrev cX0_becomeAs : ByteArray := prog_2_method_2_code
def yX0_becomeAs : MethodName := ⟨RX0, "becomeAs", "(LSkittleMen$Alley;)V"⟩
abbrev cX0_has : ByteArray := prog_2_method_3_code
def yX0_has : MethodName := ⟨RX0, "has", "(I)Z"⟩
abbrev cX0_stands : ByteArray := prog_2_method_4_code
def yX0_stands : MethodName := ⟨RX0, "stands", "(I)Z"⟩
abbrev cX0_standing : ByteArray := prog_2_method_5_code
def yX0_standing : MethodName := ⟨RX0, "standing", "()I"⟩
abbrev cX0_standingSet : ByteArray := prog_2_method_6_code
def yX0_standingSet : MethodName := ⟨RX0, "standingSet", "()I"⟩
abbrev cX0_nerveOfAll : ByteArray := prog_2_method_7_code
def yX0_nerveOfAll : MethodName := ⟨RX0, "nerveOfAll", "()I"⟩
abbrev cX0_mostFelled : ByteArray := prog_2_method_8_code
def yX0_mostFelled : MethodName := ⟨RX0, "mostFelled", "()I"⟩
abbrev cX0_draw : ByteArray := prog_2_method_9_code
def yX0_draw : MethodName := ⟨RX0, "draw", "()I"⟩
abbrev cX0_takeByLot : ByteArray := prog_2_method_10_code
def yX0_takeByLot : MethodName := ⟨RX0, "takeByLot", "()V"⟩
abbrev cX0_take : ByteArray := prog_2_method_11_code
def yX0_take : MethodName := ⟨RX0, "take", "(IIII)I"⟩
abbrev cX0_takeText : ByteArray := prog_2_method_12_code
def yX0_takeText : MethodName := ⟨RX0, "takeText", "(LSkittleMen$Text;)I"⟩
abbrev cX0_counted : ByteArray := prog_2_method_13_code
def yX0_counted : MethodName := ⟨RX0, "counted", "(I)LSkittleMen$Text;"⟩
abbrev cX0_plainBearing : ByteArray := prog_2_method_14_code
def yX0_plainBearing : MethodName := ⟨RX0, "plainBearing", "(II)I"⟩
abbrev cX0_bearing : ByteArray := prog_2_method_15_code
def yX0_bearing : MethodName := ⟨RX0, "bearing", "(II)I"⟩
abbrev cX0_hit : ByteArray := prog_2_method_16_code
def yX0_hit : MethodName := ⟨RX0, "hit", "(IIIII)V"⟩
abbrev cX0_setUp : ByteArray := prog_2_method_17_code
def yX0_setUp : MethodName := ⟨RX0, "setUp", "()V"⟩
abbrev cX0_goOn : ByteArray := prog_2_method_18_code
def yX0_goOn : MethodName := ⟨RX0, "goOn", "(I)V"⟩
abbrev cX0_goOnce : ByteArray := prog_2_method_19_code
def yX0_goOnce : MethodName := ⟨RX0, "goOnce", "()V"⟩
abbrev cX0_firstStandingFrom : ByteArray := prog_2_method_20_code
def yX0_firstStandingFrom : MethodName := ⟨RX0, "firstStandingFrom", "(I)I"⟩
abbrev cX0_moveNerves : ByteArray := prog_2_method_21_code
def yX0_moveNerves : MethodName := ⟨RX0, "moveNerves", "()V"⟩
def RX1 : String := "SkittleMen$Man"
def TX1 : u_T := fun k => match k with
  | 0 => ("SkittleMen$Man", "kind", "I", false)
  | 1 => ("SkittleMen$Man", "nerve", "I", false)
  | 2 => ("SkittleMen$Man", "weight", "I", false)
  | 3 => ("SkittleMen$Man", "sore", "I", false)
  | 4 => ("SkittleMen$Man", "felled", "I", false)
  | _ => ("SkittleMen$Man", "down", "Z", false)
def tyX1 : Nat → FieldType := fun k => match k with
  | 0 => .int
  | 1 => .int
  | 2 => .int
  | 3 => .int
  | 4 => .int
  | _ => .boolean
abbrev wsX10 : List Cond := u_ws RX1 TX1 6
theorem nmX1 : ∀ a, a < 6 → ∀ b, b < 6 → a ≠ b → (TX1 a).2.1 ≠ (TX1 b).2.1 := by decide +kernel
theorem tyX1_ok : ∀ k, k < 6 → parseFieldDescriptor (TX1 k).2.2.1 = some (tyX1 k) := by decide +kernel
abbrev cX1_init : ByteArray := prog_3_method_1_code
def yX1_init : MethodName := ⟨RX1, "<init>", "()V"⟩
abbrev cX1_becomeAs : ByteArray := prog_3_method_2_code
def yX1_becomeAs : MethodName := ⟨RX1, "becomeAs", "(LSkittleMen$Man;)V"⟩
abbrev cX1_isOf : ByteArray := prog_3_method_3_code
def yX1_isOf : MethodName := ⟨RX1, "isOf", "(I)Z"⟩
abbrev cX1_bearing : ByteArray := prog_3_method_4_code
def yX1_bearing : MethodName := ⟨RX1, "bearing", "(III)I"⟩
abbrev cX1_pushing : ByteArray := prog_3_method_5_code
def yX1_pushing : MethodName := ⟨RX1, "pushing", "()I"⟩
abbrev cX1_worth : ByteArray := prog_3_method_6_code
def yX1_worth : MethodName := ⟨RX1, "worth", "()I"⟩
def RX2 : String := "SkittleMen$Search"
def TX2 : u_T := fun k => match k with
  | 0 => ("SkittleMen$Search", "bearings", "[I", true)
  | 1 => ("SkittleMen$Search", "pushings", "[I", true)
  | 2 => ("SkittleMen$Search", "steps", "[I", true)
  | 3 => ("SkittleMen$Search", "queue", "[I", true)
  | 4 => ("SkittleMen$Search", "queued", "I", false)
  | 5 => ("SkittleMen$Search", "start", "I", false)
  | 6 => ("SkittleMen$Search", "force", "I", false)
  | 7 => ("SkittleMen$Search", "bestFallen", "I", false)
  | 8 => ("SkittleMen$Search", "bestMan", "I", false)
  | 9 => ("SkittleMen$Search", "bestTopic", "I", false)
  | _ => ("SkittleMen$Search", "bestTurn", "I", false)
def tyX2 : Nat → FieldType := fun k => match k with
  | 0 => .array .int
  | 1 => .array .int
  | 2 => .array .int
  | 3 => .array .int
  | 4 => .int
  | 5 => .int
  | 6 => .int
  | 7 => .int
  | 8 => .int
  | 9 => .int
  | _ => .int
abbrev wsX20 : List Cond := u_ws RX2 TX2 11
theorem nmX2 : ∀ a, a < 11 → ∀ b, b < 11 → a ≠ b → (TX2 a).2.1 ≠ (TX2 b).2.1 := by decide +kernel
theorem tyX2_ok : ∀ k, k < 11 → parseFieldDescriptor (TX2 k).2.2.1 = some (tyX2 k) := by decide +kernel
abbrev cX2_init : ByteArray := prog_4_method_1_code
def yX2_init : MethodName := ⟨RX2, "<init>", "()V"⟩
abbrev cX2_lookAt : ByteArray := prog_4_method_2_code
def yX2_lookAt : MethodName := ⟨RX2, "lookAt", "(LSkittleMen$Alley;I)V"⟩
abbrev cX2_writeBearings : ByteArray := prog_4_method_3_code
def yX2_writeBearings : MethodName := ⟨RX2, "writeBearings", "(LSkittleMen$Alley;II)V"⟩
abbrev cX2_bearingPlace : ByteArray := prog_4_method_4_code
def yX2_bearingPlace : MethodName := ⟨RX2, "bearingPlace", "(III)I"⟩
abbrev cX2_isIn : ByteArray := prog_4_method_5_code
def yX2_isIn : MethodName := ⟨RX2, "isIn", "(II)Z"⟩
abbrev cX2_fallsBy : ByteArray := prog_4_method_6_code
def yX2_fallsBy : MethodName := ⟨RX2, "fallsBy", "(IIII)Z"⟩
abbrev cX2_leftBehind : ByteArray := prog_4_method_7_code
def yX2_leftBehind : MethodName := ⟨RX2, "leftBehind", "(IIIII)I"⟩
abbrev cX2_findBest : ByteArray := prog_4_method_8_code
def yX2_findBest : MethodName := ⟨RX2, "findBest", "()V"⟩
abbrev cX2_offer : ByteArray := prog_4_method_9_code
def yX2_offer : MethodName := ⟨RX2, "offer", "(IIII)V"⟩
abbrev cX2_mostByTwo : ByteArray := prog_4_method_10_code
def yX2_mostByTwo : MethodName := ⟨RX2, "mostByTwo", "()I"⟩
abbrev cX2_fewestForAll : ByteArray := prog_4_method_11_code
def yX2_fewestForAll : MethodName := ⟨RX2, "fewestForAll", "()I"⟩
abbrev cX2_startQueue : ByteArray := prog_4_method_12_code
def yX2_startQueue : MethodName := ⟨RX2, "startQueue", "()V"⟩
abbrev cX2_queueAllBehind : ByteArray := prog_4_method_13_code
def yX2_queueAllBehind : MethodName := ⟨RX2, "queueAllBehind", "(I)V"⟩
abbrev cX2_enqueue : ByteArray := prog_4_method_14_code
def yX2_enqueue : MethodName := ⟨RX2, "enqueue", "(II)V"⟩
def RX3 : String := "SkittleMen$Sheet"
def TX3 : u_T := fun k => match k with
  | 0 => ("SkittleMen$Sheet", "sort", "I", false)
  | 1 => ("SkittleMen$Sheet", "size", "I", false)
  | _ => ("SkittleMen$Sheet", "places", "[I", true)
def tyX3 : Nat → FieldType := fun k => match k with
  | 0 => .int
  | 1 => .int
  | _ => .array .int
abbrev wsX30 : List Cond := u_ws RX3 TX3 3
theorem nmX3 : ∀ a, a < 3 → ∀ b, b < 3 → a ≠ b → (TX3 a).2.1 ≠ (TX3 b).2.1 := by decide +kernel
theorem tyX3_ok : ∀ k, k < 3 → parseFieldDescriptor (TX3 k).2.2.1 = some (tyX3 k) := by decide +kernel
abbrev cX3_init : ByteArray := prog_5_method_1_code
def yX3_init : MethodName := ⟨RX3, "<init>", "()V"⟩
abbrev cX3_becomeRow : ByteArray := prog_5_method_2_code
def yX3_becomeRow : MethodName := ⟨RX3, "becomeRow", "(II)V"⟩
abbrev cX3_becomeAs : ByteArray := prog_5_method_3_code
def yX3_becomeAs : MethodName := ⟨RX3, "becomeAs", "(LSkittleMen$Sheet;)V"⟩
abbrev cX3_isMissing : ByteArray := prog_5_method_4_code
def yX3_isMissing : MethodName := ⟨RX3, "isMissing", "()Z"⟩
abbrev cX3_has : ByteArray := prog_5_method_5_code
def yX3_has : MethodName := ⟨RX3, "has", "(I)Z"⟩
abbrev cX3_hasRun : ByteArray := prog_5_method_6_code
def yX3_hasRun : MethodName := ⟨RX3, "hasRun", "(II)Z"⟩
abbrev cX3_isNumber : ByteArray := prog_5_method_7_code
def yX3_isNumber : MethodName := ⟨RX3, "isNumber", "(I)Z"⟩
def RX4 : String := "SkittleMen$Slot"
def TX4 : u_T := fun k => match k with
  | 0 => ("SkittleMen$Slot", "thing", "I", false)
  | 1 => ("SkittleMen$Slot", "man", "LSkittleMen$Man;", true)
  | 2 => ("SkittleMen$Slot", "row", "LSkittleMen$Sheet;", true)
  | _ => ("SkittleMen$Slot", "number", "I", false)
def tyX4 : Nat → FieldType := fun k => match k with
  | 0 => .int
  | 1 => .object "SkittleMen$Man"
  | 2 => .object "SkittleMen$Sheet"
  | _ => .int
abbrev wsX40 : List Cond := u_ws RX4 TX4 4
theorem nmX4 : ∀ a, a < 4 → ∀ b, b < 4 → a ≠ b → (TX4 a).2.1 ≠ (TX4 b).2.1 := by decide +kernel
theorem tyX4_ok : ∀ k, k < 4 → parseFieldDescriptor (TX4 k).2.2.1 = some (tyX4 k) := by decide +kernel
abbrev cX4_init : ByteArray := prog_6_method_1_code
def yX4_init : MethodName := ⟨RX4, "<init>", "()V"⟩
def RX5 : String := "SkittleMen$Tape"
def TX5 : u_T := fun k => match k with
  | 0 => ("SkittleMen$Tape", "bytes", "[B", true)
  | _ => ("SkittleMen$Tape", "size", "I", false)
def tyX5 : Nat → FieldType := fun k => match k with
  | 0 => .array .byte
  | _ => .int
abbrev wsX50 : List Cond := u_ws RX5 TX5 2
theorem nmX5 : ∀ a, a < 2 → ∀ b, b < 2 → a ≠ b → (TX5 a).2.1 ≠ (TX5 b).2.1 := by decide +kernel
theorem tyX5_ok : ∀ k, k < 2 → parseFieldDescriptor (TX5 k).2.2.1 = some (tyX5 k) := by decide +kernel
abbrev cX5_init : ByteArray := prog_7_method_1_code
def yX5_init : MethodName := ⟨RX5, "<init>", "()V"⟩
abbrev cX5_put : ByteArray := prog_7_method_2_code
def yX5_put : MethodName := ⟨RX5, "put", "(I)V"⟩
def RX6 : String := "SkittleMen$Text"
def TX6 : u_T := fun k => match k with
  | 0 => ("SkittleMen$Text", "key", "I", true)
  | 1 => ("SkittleMen$Text", "pieces", "I", true)
  | 2 => ("SkittleMen$Text", "code", "[I", true)
  | _ => ("SkittleMen$Text", "stack", "[I", true)
def tyX6 : Nat → FieldType := fun k => match k with
  | 0 => .int
  | 1 => .int
  | 2 => .array .int
  | _ => .array .int
abbrev wsX60 : List Cond := u_ws RX6 TX6 4
theorem nmX6 : ∀ a, a < 4 → ∀ b, b < 4 → a ≠ b → (TX6 a).2.1 ≠ (TX6 b).2.1 := by decide +kernel
theorem tyX6_ok : ∀ k, k < 4 → parseFieldDescriptor (TX6 k).2.2.1 = some (tyX6 k) := by decide +kernel
abbrev cX6_init : ByteArray := prog_8_method_1_code
def yX6_init : MethodName := ⟨RX6, "<init>", "(II[I)V"⟩
abbrev cX6_gives : ByteArray := prog_8_method_2_code
def yX6_gives : MethodName := ⟨RX6, "gives", "(IIII)I"⟩
abbrev cX6_chosen : ByteArray := prog_8_method_3_code
def yX6_chosen : MethodName := ⟨RX6, "chosen", "(IIIII)I"⟩
abbrev cX6_joined : ByteArray := prog_8_method_4_code
def yX6_joined : MethodName := ⟨RX6, "joined", "(III)I"⟩
def RX7 : String := "SkittleMen$TextReader"
def TX7 : u_T := fun k => match k with
  | 0 => ("SkittleMen$TextReader", "tape", "LSkittleMen$Tape;", true)
  | 1 => ("SkittleMen$TextReader", "sort", "I", false)
  | 2 => ("SkittleMen$TextReader", "start", "I", false)
  | 3 => ("SkittleMen$TextReader", "end", "I", false)
  | 4 => ("SkittleMen$TextReader", "glued", "Z", false)
  | 5 => ("SkittleMen$TextReader", "wantsPiece", "Z", false)
  | 6 => ("SkittleMen$TextReader", "key", "I", false)
  | 7 => ("SkittleMen$TextReader", "pieces", "I", false)
  | 8 => ("SkittleMen$TextReader", "parens", "I", false)
  | 9 => ("SkittleMen$TextReader", "bangs", "I", false)
  | 10 => ("SkittleMen$TextReader", "signs", "[I", true)
  | 11 => ("SkittleMen$TextReader", "signSize", "I", false)
  | 12 => ("SkittleMen$TextReader", "code", "[I", true)
  | _ => ("SkittleMen$TextReader", "codeSize", "I", false)
def tyX7 : Nat → FieldType := fun k => match k with
  | 0 => .object "SkittleMen$Tape"
  | 1 => .int
  | 2 => .int
  | 3 => .int
  | 4 => .boolean
  | 5 => .boolean
  | 6 => .int
  | 7 => .int
  | 8 => .int
  | 9 => .int
  | 10 => .array .int
  | 11 => .int
  | 12 => .array .int
  | _ => .int
abbrev wsX70 : List Cond := u_ws RX7 TX7 14
theorem nmX7 : ∀ a, a < 14 → ∀ b, b < 14 → a ≠ b → (TX7 a).2.1 ≠ (TX7 b).2.1 := by decide +kernel
theorem tyX7_ok : ∀ k, k < 14 → parseFieldDescriptor (TX7 k).2.2.1 = some (tyX7 k) := by decide +kernel
abbrev cX7_init : ByteArray := prog_9_method_1_code
def yX7_init : MethodName := ⟨RX7, "<init>", "(LSkittleMen$Tape;)V"⟩
abbrev cX7_faultFound : ByteArray := prog_9_method_2_code
def yX7_faultFound : MethodName := ⟨RX7, "faultFound", "()I"⟩
abbrev cX7_startAgain : ByteArray := prog_9_method_3_code
def yX7_startAgain : MethodName := ⟨RX7, "startAgain", "()V"⟩
abbrev cX7_made : ByteArray := prog_9_method_4_code
def yX7_made : MethodName := ⟨RX7, "made", "()LSkittleMen$Text;"⟩
abbrev cX7_nextWord : ByteArray := prog_9_method_5_code
def yX7_nextWord : MethodName := ⟨RX7, "nextWord", "()V"⟩
abbrev cX7_isWord : ByteArray := prog_9_method_6_code
def yX7_isWord : MethodName := ⟨RX7, "isWord", "()Z"⟩
abbrev cX7_byteAt : ByteArray := prog_9_method_7_code
def yX7_byteAt : MethodName := ⟨RX7, "byteAt", "(I)I"⟩
abbrev cX7_sortAt : ByteArray := prog_9_method_8_code
def yX7_sortAt : MethodName := ⟨RX7, "sortAt", "(I)I"⟩
abbrev cX7_keyRead : ByteArray := prog_9_method_9_code
def yX7_keyRead : MethodName := ⟨RX7, "keyRead", "()I"⟩
abbrev cX7_wordOf : ByteArray := prog_9_method_10_code
def yX7_wordOf : MethodName := ⟨RX7, "wordOf", "(I)Ljava/lang/String;"⟩
abbrev cX7_namesOf : ByteArray := prog_9_method_11_code
def yX7_namesOf : MethodName := ⟨RX7, "namesOf", "(I)Ljava/lang/String;"⟩
abbrev cX7_isRead : ByteArray := prog_9_method_12_code
def yX7_isRead : MethodName := ⟨RX7, "isRead", "(Ljava/lang/String;)Z"⟩
abbrev cX7_takesPiece : ByteArray := prog_9_method_13_code
def yX7_takesPiece : MethodName := ⟨RX7, "takesPiece", "()Z"⟩
abbrev cX7_numberRead : ByteArray := prog_9_method_14_code
def yX7_numberRead : MethodName := ⟨RX7, "numberRead", "()I"⟩
abbrev cX7_takesValue : ByteArray := prog_9_method_15_code
def yX7_takesValue : MethodName := ⟨RX7, "takesValue", "(I)Z"⟩
abbrev cX7_endPiece : ByteArray := prog_9_method_16_code
def yX7_endPiece : MethodName := ⟨RX7, "endPiece", "()V"⟩
abbrev cX7_takesJoining : ByteArray := prog_9_method_17_code
def yX7_takesJoining : MethodName := ⟨RX7, "takesJoining", "()Z"⟩
abbrev cX7_closeParen : ByteArray := prog_9_method_18_code
def yX7_closeParen : MethodName := ⟨RX7, "closeParen", "()V"⟩
abbrev cX7_tightnessOf : ByteArray := prog_9_method_19_code
def yX7_tightnessOf : MethodName := ⟨RX7, "tightnessOf", "(I)I"⟩
abbrev cX7_pushes : ByteArray := prog_9_method_20_code
def yX7_pushes : MethodName := ⟨RX7, "pushes", "(I)Z"⟩
abbrev cX7_popSignsFrom : ByteArray := prog_9_method_21_code
def yX7_popSignsFrom : MethodName := ⟨RX7, "popSignsFrom", "(I)V"⟩
abbrev cX7_popSign : ByteArray := prog_9_method_22_code
def yX7_popSign : MethodName := ⟨RX7, "popSign", "()V"⟩
abbrev cX7_emit : ByteArray := prog_9_method_23_code
def yX7_emit : MethodName := ⟨RX7, "emit", "(I)V"⟩
def RX8 : String := "SkittleMen"
def TX8 : u_T := fun k => match k with
  | 0 => ("SkittleMen", "now", "LSkittleMen$Alley;", true)
  | 1 => ("SkittleMen", "image", "LSkittleMen$Alley;", true)
  | 2 => ("SkittleMen", "thought", "LSkittleMen$Alley;", true)
  | 3 => ("SkittleMen", "kept", "Z", false)
  | 4 => ("SkittleMen", "search", "LSkittleMen$Search;", true)
  | 5 => ("SkittleMen", "tape", "LSkittleMen$Tape;", true)
  | 6 => ("SkittleMen", "reader", "LSkittleMen$TextReader;", true)
  | 7 => ("SkittleMen", "sheets", "[LSkittleMen$Sheet;", true)
  | 8 => ("SkittleMen", "slots", "[LSkittleMen$Slot;", true)
  | 9 => ("SkittleMen", "waiting", "[I", true)
  | 10 => ("SkittleMen", "waits", "I", false)
  | _ => ("SkittleMen", "differences", "[I", true)
def tyX8 : Nat → FieldType := fun k => match k with
  | 0 => .object "SkittleMen$Alley"
  | 1 => .object "SkittleMen$Alley"
  | 2 => .object "SkittleMen$Alley"
  | 3 => .boolean
  | 4 => .object "SkittleMen$Search"
  | 5 => .object "SkittleMen$Tape"
  | 6 => .object "SkittleMen$TextReader"
  | 7 => .array (.object "SkittleMen$Sheet")
  | 8 => .array (.object "SkittleMen$Slot")
  | 9 => .array .int
  | 10 => .int
  | _ => .array .int
abbrev wsX80 : List Cond := u_ws RX8 TX8 12
theorem nmX8 : ∀ a, a < 12 → ∀ b, b < 12 → a ≠ b → (TX8 a).2.1 ≠ (TX8 b).2.1 := by decide +kernel
theorem tyX8_ok : ∀ k, k < 12 → parseFieldDescriptor (TX8 k).2.2.1 = some (tyX8 k) := by decide +kernel
abbrev cX8_init : ByteArray := prog_1_method_1_code
def yX8_init : MethodName := ⟨RX8, "<init>", "()V"⟩
abbrev cX8_man : ByteArray := prog_1_method_2_code
def yX8_man : MethodName := ⟨RX8, "man", "(IIII)I"⟩
abbrev cX8_told : ByteArray := prog_1_method_3_code
def yX8_told : MethodName := ⟨RX8, "told", "(II)I"⟩
abbrev cX8_bears : ByteArray := prog_1_method_4_code
def yX8_bears : MethodName := ⟨RX8, "bears", "(II)I"⟩
abbrev cX8_as : ByteArray := prog_1_method_5_code
def yX8_as : MethodName := ⟨RX8, "as", "(II)I"⟩
abbrev cX8_turns : ByteArray := prog_1_method_6_code
def yX8_turns : MethodName := ⟨RX8, "turns", "(II)I"⟩
abbrev cX8_set : ByteArray := prog_1_method_7_code
def yX8_set : MethodName := ⟨RX8, "set", "(III)I"⟩
abbrev cX8_mostOf : ByteArray := prog_1_method_8_code
def yX8_mostOf : MethodName := ⟨RX8, "mostOf", "(I)I"⟩
abbrev cX8_says : ByteArray := prog_1_method_9_code
def yX8_says : MethodName := ⟨RX8, "says", "(IIII)I"⟩
abbrev cX8_sets : ByteArray := prog_1_method_10_code
def yX8_sets : MethodName := ⟨RX8, "sets", "()I"⟩
abbrev cX8_deal : ByteArray := prog_1_method_11_code
def yX8_deal : MethodName := ⟨RX8, "deal", "(I)I"⟩
abbrev cX8_seed : ByteArray := prog_1_method_12_code
def yX8_seed : MethodName := ⟨RX8, "seed", "(I)I"⟩
abbrev cX8_goes : ByteArray := prog_1_method_13_code
def yX8_goes : MethodName := ⟨RX8, "goes", "(I)I"⟩
abbrev cX8_alley : ByteArray := prog_1_method_14_code
def yX8_alley : MethodName := ⟨RX8, "alley", "(I)I"⟩
abbrev cX8_best : ByteArray := prog_1_method_15_code
def yX8_best : MethodName := ⟨RX8, "best", "(II)I"⟩
abbrev cX8_pair : ByteArray := prog_1_method_16_code
def yX8_pair : MethodName := ⟨RX8, "pair", "(I)I"⟩
abbrev cX8_clear : ByteArray := prog_1_method_17_code
def yX8_clear : MethodName := ⟨RX8, "clear", "(I)I"⟩
abbrev cX8_force : ByteArray := prog_1_method_18_code
def yX8_force : MethodName := ⟨RX8, "force", "(II)I"⟩
abbrev cX8_behind : ByteArray := prog_1_method_19_code
def yX8_behind : MethodName := ⟨RX8, "behind", "(II)I"⟩
abbrev cX8_falls : ByteArray := prog_1_method_20_code
def yX8_falls : MethodName := ⟨RX8, "falls", "(I)I"⟩
abbrev cX8_becomes : ByteArray := prog_1_method_21_code
def yX8_becomes : MethodName := ⟨RX8, "becomes", "(III)I"⟩
abbrev cX8_like : ByteArray := prog_1_method_22_code
def yX8_like : MethodName := ⟨RX8, "like", "(II)I"⟩
abbrev cX8_addDifferences : ByteArray := prog_1_method_23_code
def yX8_addDifferences : MethodName := ⟨RX8, "addDifferences", "(LSkittleMen$Sheet;)V"⟩
abbrev cX8_fee : ByteArray := prog_1_method_24_code
def yX8_fee : MethodName := ⟨RX8, "fee", "()I"⟩
abbrev cX8_fine : ByteArray := prog_1_method_25_code
def yX8_fine : MethodName := ⟨RX8, "fine", "(I)I"⟩
abbrev cX8_feed : ByteArray := prog_1_method_26_code
def yX8_feed : MethodName := ⟨RX8, "feed", "(III)I"⟩
abbrev cX8_trim : ByteArray := prog_1_method_27_code
def yX8_trim : MethodName := ⟨RX8, "trim", "(I)I"⟩
abbrev cX8_text : ByteArray := prog_1_method_28_code
def yX8_text : MethodName := ⟨RX8, "text", "()I"⟩
abbrev cX8_textTold : ByteArray := prog_1_method_29_code
def yX8_textTold : MethodName := ⟨RX8, "textTold", "(II)I"⟩
abbrev cX8_why : ByteArray := prog_1_method_30_code
def yX8_why : MethodName := ⟨RX8, "why", "(I)I"⟩
abbrev cX8_sheet : ByteArray := prog_1_method_31_code
def yX8_sheet : MethodName := ⟨RX8, "sheet", "(III)I"⟩
abbrev cX8_mark : ByteArray := prog_1_method_32_code
def yX8_mark : MethodName := ⟨RX8, "mark", "(III)I"⟩
abbrev cX8_pour : ByteArray := prog_1_method_33_code
def yX8_pour : MethodName := ⟨RX8, "pour", "(I)I"⟩
abbrev cX8_reads : ByteArray := prog_1_method_34_code
def yX8_reads : MethodName := ⟨RX8, "reads", "(I)I"⟩
abbrev cX8_copy : ByteArray := prog_1_method_35_code
def yX8_copy : MethodName := ⟨RX8, "copy", "(IIIII)I"⟩
abbrev cX8_lay : ByteArray := prog_1_method_36_code
def yX8_lay : MethodName := ⟨RX8, "lay", "(III)I"⟩
abbrev cX8_ask : ByteArray := prog_1_method_37_code
def yX8_ask : MethodName := ⟨RX8, "ask", "(II)I"⟩
abbrev cX8_item : ByteArray := prog_1_method_38_code
def yX8_item : MethodName := ⟨RX8, "item", "(II)I"⟩
abbrev cX8_rest : ByteArray := prog_1_method_39_code
def yX8_rest : MethodName := ⟨RX8, "rest", "(II)I"⟩
abbrev cX8_tell : ByteArray := prog_1_method_40_code
def yX8_tell : MethodName := ⟨RX8, "tell", "(I)I"⟩
abbrev cX8_check : ByteArray := prog_1_method_41_code
def yX8_check : MethodName := ⟨RX8, "check", "(I)I"⟩
abbrev cX8_isTold : ByteArray := prog_1_method_42_code
def yX8_isTold : MethodName := ⟨RX8, "isTold", "(III)Z"⟩
abbrev cX8_keep : ByteArray := prog_1_method_43_code
def yX8_keep : MethodName := ⟨RX8, "keep", "()I"⟩
abbrev cX8_back : ByteArray := prog_1_method_44_code
def yX8_back : MethodName := ⟨RX8, "back", "()I"⟩
abbrev cX8_count : ByteArray := prog_1_method_45_code
def yX8_count : MethodName := ⟨RX8, "count", "(I)I"⟩
abbrev cX8_isWithin : ByteArray := prog_1_method_46_code
def yX8_isWithin : MethodName := ⟨RX8, "isWithin", "(III)Z"⟩
abbrev cX8_isSheet : ByteArray := prog_1_method_47_code
def yX8_isSheet : MethodName := ⟨RX8, "isSheet", "(I)Z"⟩
abbrev cX8_isSlot : ByteArray := prog_1_method_48_code
def yX8_isSlot : MethodName := ⟨RX8, "isSlot", "(I)Z"⟩
abbrev cX8_held : ByteArray := prog_1_method_49_code
def yX8_held : MethodName := ⟨RX8, "held", "(II)I"⟩
def RX9 : String := "SkittleMenModel"
def TX9 : u_T := fun k => match k with
  | 0 => ("SkittleMenModel", "now", "[I", true)
  | 1 => ("SkittleMenModel", "image", "[I", true)
  | 2 => ("SkittleMenModel", "aside", "[I", true)
  | 3 => ("SkittleMenModel", "hasImage", "Z", false)
  | 4 => ("SkittleMenModel", "leftBehind", "I", false)
  | 5 => ("SkittleMenModel", "mostBy", "[I", true)
  | 6 => ("SkittleMenModel", "taken", "[I", true)
  | 7 => ("SkittleMenModel", "unlike", "[I", true)
  | 8 => ("SkittleMenModel", "tape", "[I", true)
  | 9 => ("SkittleMenModel", "taped", "I", false)
  | 10 => ("SkittleMenModel", "next", "I", false)
  | 11 => ("SkittleMenModel", "from", "I", false)
  | 12 => ("SkittleMenModel", "token", "I", false)
  | 13 => ("SkittleMenModel", "value", "I", false)
  | 14 => ("SkittleMenModel", "ended", "I", false)
  | 15 => ("SkittleMenModel", "key", "I", false)
  | 16 => ("SkittleMenModel", "keys", "[C", true)
  | 17 => ("SkittleMenModel", "keyAt", "[I", true)
  | 18 => ("SkittleMenModel", "code", "[I", true)
  | 19 => ("SkittleMenModel", "codes", "I", false)
  | 20 => ("SkittleMenModel", "atoms", "I", false)
  | 21 => ("SkittleMenModel", "waits", "[I", true)
  | 22 => ("SkittleMenModel", "held", "I", false)
  | 23 => ("SkittleMenModel", "tested", "[Z", true)
  | 24 => ("SkittleMenModel", "stack", "[I", true)
  | 25 => ("SkittleMenModel", "facts", "[I", true)
  | 26 => ("SkittleMenModel", "sorts", "[I", true)
  | 27 => ("SkittleMenModel", "sizes", "[I", true)
  | 28 => ("SkittleMenModel", "cells", "[I", true)
  | 29 => ("SkittleMenModel", "holds", "[I", true)
  | 30 => ("SkittleMenModel", "holdsA", "[I", true)
  | 31 => ("SkittleMenModel", "holdsB", "[I", true)
  | 32 => ("SkittleMenModel", "heldCells", "[I", true)
  | 33 => ("SkittleMenModel", "moved", "[I", true)
  | 34 => ("SkittleMenModel", "tells", "[I", true)
  | _ => ("SkittleMenModel", "waiting", "I", false)
def tyX9 : Nat → FieldType := fun k => match k with
  | 0 => .array .int
  | 1 => .array .int
  | 2 => .array .int
  | 3 => .boolean
  | 4 => .int
  | 5 => .array .int
  | 6 => .array .int
  | 7 => .array .int
  | 8 => .array .int
  | 9 => .int
  | 10 => .int
  | 11 => .int
  | 12 => .int
  | 13 => .int
  | 14 => .int
  | 15 => .int
  | 16 => .array .char
  | 17 => .array .int
  | 18 => .array .int
  | 19 => .int
  | 20 => .int
  | 21 => .array .int
  | 22 => .int
  | 23 => .array .boolean
  | 24 => .array .int
  | 25 => .array .int
  | 26 => .array .int
  | 27 => .array .int
  | 28 => .array .int
  | 29 => .array .int
  | 30 => .array .int
  | 31 => .array .int
  | 32 => .array .int
  | 33 => .array .int
  | 34 => .array .int
  | _ => .int
abbrev wsX90 : List Cond := u_ws RX9 TX9 36
theorem nmX9 : ∀ a, a < 36 → ∀ b, b < 36 → a ≠ b → (TX9 a).2.1 ≠ (TX9 b).2.1 := by decide +kernel
theorem tyX9_ok : ∀ k, k < 36 → parseFieldDescriptor (TX9 k).2.2.1 = some (tyX9 k) := by decide +kernel
abbrev cX9_init : ByteArray := prog_11_method_1_code
def yX9_init : MethodName := ⟨RX9, "<init>", "()V"⟩
abbrev cX9_in : ByteArray := prog_11_method_2_code
def yX9_in : MethodName := ⟨RX9, "in", "(III)Z"⟩
abbrev cX9_within : ByteArray := prog_11_method_3_code
def yX9_within : MethodName := ⟨RX9, "within", "(III)I"⟩
abbrev cX9_copyAll : ByteArray := prog_11_method_4_code
def yX9_copyAll : MethodName := ⟨RX9, "copyAll", "([I[I)V"⟩
abbrev cX9_bits : ByteArray := prog_11_method_5_code
def yX9_bits : MethodName := ⟨RX9, "bits", "(I)I"⟩
abbrev cX9_isMan : ByteArray := prog_11_method_6_code
def yX9_isMan : MethodName := ⟨RX9, "isMan", "(I)Z"⟩
abbrev cX9_isTopic : ByteArray := prog_11_method_7_code
def yX9_isTopic : MethodName := ⟨RX9, "isTopic", "(I)Z"⟩
abbrev cX9_of : ByteArray := prog_11_method_8_code
def yX9_of : MethodName := ⟨RX9, "of", "(II)I"⟩
abbrev cX9_put : ByteArray := prog_11_method_9_code
def yX9_put : MethodName := ⟨RX9, "put", "(III)V"⟩
abbrev cX9_swaps : ByteArray := prog_11_method_10_code
def yX9_swaps : MethodName := ⟨RX9, "swaps", "(II)I"⟩
abbrev cX9_off : ByteArray := prog_11_method_11_code
def yX9_off : MethodName := ⟨RX9, "off", "(I)I"⟩
abbrev cX9_doesStand : ByteArray := prog_11_method_12_code
def yX9_doesStand : MethodName := ⟨RX9, "doesStand", "(I)Z"⟩
abbrev cX9_standing : ByteArray := prog_11_method_13_code
def yX9_standing : MethodName := ⟨RX9, "standing", "()I"⟩
abbrev cX9_plainBears : ByteArray := prog_11_method_14_code
def yX9_plainBears : MethodName := ⟨RX9, "plainBears", "(I)I"⟩
abbrev cX9_bearsOf : ByteArray := prog_11_method_15_code
def yX9_bearsOf : MethodName := ⟨RX9, "bearsOf", "(II)I"⟩
abbrev cX9_pushesOf : ByteArray := prog_11_method_16_code
def yX9_pushesOf : MethodName := ⟨RX9, "pushesOf", "(I)I"⟩
abbrev cX9_worthOf : ByteArray := prog_11_method_17_code
def yX9_worthOf : MethodName := ⟨RX9, "worthOf", "(I)I"⟩
abbrev cX9_comes : ByteArray := prog_11_method_18_code
def yX9_comes : MethodName := ⟨RX9, "comes", "(IIII)I"⟩
abbrev cX9_man : ByteArray := prog_11_method_19_code
def yX9_man : MethodName := ⟨RX9, "man", "(IIII)I"⟩
abbrev cX9_told : ByteArray := prog_11_method_20_code
def yX9_told : MethodName := ⟨RX9, "told", "(II)I"⟩
abbrev cX9_bears : ByteArray := prog_11_method_21_code
def yX9_bears : MethodName := ⟨RX9, "bears", "(II)I"⟩
abbrev cX9_isUnder : ByteArray := prog_11_method_22_code
def yX9_isUnder : MethodName := ⟨RX9, "isUnder", "(II)Z"⟩
abbrev cX9_as : ByteArray := prog_11_method_23_code
def yX9_as : MethodName := ⟨RX9, "as", "(II)I"⟩
abbrev cX9_turns : ByteArray := prog_11_method_24_code
def yX9_turns : MethodName := ⟨RX9, "turns", "(II)I"⟩
abbrev cX9_mostOf : ByteArray := prog_11_method_25_code
def yX9_mostOf : MethodName := ⟨RX9, "mostOf", "(I)I"⟩
abbrev cX9_set : ByteArray := prog_11_method_26_code
def yX9_set : MethodName := ⟨RX9, "set", "(III)I"⟩
abbrev cX9_drops : ByteArray := prog_11_method_27_code
def yX9_drops : MethodName := ⟨RX9, "drops", "(III)V"⟩
abbrev cX9_said : ByteArray := prog_11_method_28_code
def yX9_said : MethodName := ⟨RX9, "said", "(IIII)I"⟩
abbrev cX9_says : ByteArray := prog_11_method_29_code
def yX9_says : MethodName := ⟨RX9, "says", "(IIII)I"⟩
abbrev cX9_setsUp : ByteArray := prog_11_method_30_code
def yX9_setsUp : MethodName := ⟨RX9, "setsUp", "()V"⟩
abbrev cX9_sets : ByteArray := prog_11_method_31_code
def yX9_sets : MethodName := ⟨RX9, "sets", "()I"⟩
abbrev cX9_draw : ByteArray := prog_11_method_32_code
def yX9_draw : MethodName := ⟨RX9, "draw", "()I"⟩
abbrev cX9_deal : ByteArray := prog_11_method_33_code
def yX9_deal : MethodName := ⟨RX9, "deal", "(I)I"⟩
abbrev cX9_seed : ByteArray := prog_11_method_34_code
def yX9_seed : MethodName := ⟨RX9, "seed", "(I)I"⟩
abbrev cX9_aGo : ByteArray := prog_11_method_35_code
def yX9_aGo : MethodName := ⟨RX9, "aGo", "()V"⟩
abbrev cX9_goesOn : ByteArray := prog_11_method_36_code
def yX9_goesOn : MethodName := ⟨RX9, "goesOn", "(I)V"⟩
abbrev cX9_goes : ByteArray := prog_11_method_37_code
def yX9_goes : MethodName := ⟨RX9, "goes", "(I)I"⟩
abbrev cX9_nerves : ByteArray := prog_11_method_38_code
def yX9_nerves : MethodName := ⟨RX9, "nerves", "()I"⟩
abbrev cX9_mostFelled : ByteArray := prog_11_method_39_code
def yX9_mostFelled : MethodName := ⟨RX9, "mostFelled", "()I"⟩
abbrev cX9_alley : ByteArray := prog_11_method_40_code
def yX9_alley : MethodName := ⟨RX9, "alley", "(I)I"⟩
abbrev cX9_thinks : ByteArray := prog_11_method_41_code
def yX9_thinks : MethodName := ⟨RX9, "thinks", "()V"⟩
abbrev cX9_putsBack : ByteArray := prog_11_method_42_code
def yX9_putsBack : MethodName := ⟨RX9, "putsBack", "()V"⟩
abbrev cX9_letsStand : ByteArray := prog_11_method_43_code
def yX9_letsStand : MethodName := ⟨RX9, "letsStand", "(I)V"⟩
abbrev cX9_fellBy : ByteArray := prog_11_method_44_code
def yX9_fellBy : MethodName := ⟨RX9, "fellBy", "(III)I"⟩
abbrev cX9_best : ByteArray := prog_11_method_45_code
def yX9_best : MethodName := ⟨RX9, "best", "(II)I"⟩
abbrev cX9_mostFrom : ByteArray := prog_11_method_46_code
def yX9_mostFrom : MethodName := ⟨RX9, "mostFrom", "(II)I"⟩
abbrev cX9_pair : ByteArray := prog_11_method_47_code
def yX9_pair : MethodName := ⟨RX9, "pair", "(I)I"⟩
abbrev cX9_goesFrom : ByteArray := prog_11_method_48_code
def yX9_goesFrom : MethodName := ⟨RX9, "goesFrom", "(II)V"⟩
abbrev cX9_clear : ByteArray := prog_11_method_49_code
def yX9_clear : MethodName := ⟨RX9, "clear", "(I)I"⟩
abbrev cX9_force : ByteArray := prog_11_method_50_code
def yX9_force : MethodName := ⟨RX9, "force", "(II)I"⟩
abbrev cX9_behind : ByteArray := prog_11_method_51_code
def yX9_behind : MethodName := ⟨RX9, "behind", "(II)I"⟩
abbrev cX9_falls : ByteArray := prog_11_method_52_code
def yX9_falls : MethodName := ⟨RX9, "falls", "(I)I"⟩
abbrev cX9_becomes : ByteArray := prog_11_method_53_code
def yX9_becomes : MethodName := ⟨RX9, "becomes", "(III)I"⟩
abbrev cX9_like : ByteArray := prog_11_method_54_code
def yX9_like : MethodName := ⟨RX9, "like", "(II)I"⟩
abbrev cX9_fee : ByteArray := prog_11_method_55_code
def yX9_fee : MethodName := ⟨RX9, "fee", "()I"⟩
abbrev cX9_fine : ByteArray := prog_11_method_56_code
def yX9_fine : MethodName := ⟨RX9, "fine", "(I)I"⟩
abbrev cX9_feed : ByteArray := prog_11_method_57_code
def yX9_feed : MethodName := ⟨RX9, "feed", "(III)I"⟩
abbrev cX9_trim : ByteArray := prog_11_method_58_code
def yX9_trim : MethodName := ⟨RX9, "trim", "(I)I"⟩
abbrev cX9_isLetter : ByteArray := prog_11_method_59_code
def yX9_isLetter : MethodName := ⟨RX9, "isLetter", "(I)Z"⟩
abbrev cX9_isFigure : ByteArray := prog_11_method_60_code
def yX9_isFigure : MethodName := ⟨RX9, "isFigure", "(I)Z"⟩
abbrev cX9_go : ByteArray := prog_11_method_61_code
def yX9_go : MethodName := ⟨RX9, "go", "()V"⟩
abbrev cX9_takesKey : ByteArray := prog_11_method_62_code
def yX9_takesKey : MethodName := ⟨RX9, "takesKey", "()Z"⟩
abbrev cX9_nameOf : ByteArray := prog_11_method_63_code
def yX9_nameOf : MethodName := ⟨RX9, "nameOf", "(I)I"⟩
abbrev cX9_rank : ByteArray := prog_11_method_64_code
def yX9_rank : MethodName := ⟨RX9, "rank", "(I)I"⟩
abbrev cX9_settle : ByteArray := prog_11_method_65_code
def yX9_settle : MethodName := ⟨RX9, "settle", "(I)V"⟩
abbrev cX9_signHere : ByteArray := prog_11_method_66_code
def yX9_signHere : MethodName := ⟨RX9, "signHere", "()I"⟩
abbrev cX9_takesPart : ByteArray := prog_11_method_67_code
def yX9_takesPart : MethodName := ⟨RX9, "takesPart", "()Z"⟩
abbrev cX9_takesE : ByteArray := prog_11_method_68_code
def yX9_takesE : MethodName := ⟨RX9, "takesE", "()Z"⟩
abbrev cX9_notsOpen : ByteArray := prog_11_method_69_code
def yX9_notsOpen : MethodName := ⟨RX9, "notsOpen", "()I"⟩
abbrev cX9_text : ByteArray := prog_11_method_70_code
def yX9_text : MethodName := ⟨RX9, "text", "()I"⟩
abbrev cX9_textTold : ByteArray := prog_11_method_71_code
def yX9_textTold : MethodName := ⟨RX9, "textTold", "(II)I"⟩
abbrev cX9_counts : ByteArray := prog_11_method_72_code
def yX9_counts : MethodName := ⟨RX9, "counts", "(I)I"⟩
abbrev cX9_why : ByteArray := prog_11_method_73_code
def yX9_why : MethodName := ⟨RX9, "why", "(I)I"⟩
abbrev cX9_two : ByteArray := prog_11_method_74_code
def yX9_two : MethodName := ⟨RX9, "two", "(III)I"⟩
abbrev cX9_worksOut : ByteArray := prog_11_method_75_code
def yX9_worksOut : MethodName := ⟨RX9, "worksOut", "(I)I"⟩
abbrev cX9_isSheet : ByteArray := prog_11_method_76_code
def yX9_isSheet : MethodName := ⟨RX9, "isSheet", "(I)Z"⟩
abbrev cX9_isSlot : ByteArray := prog_11_method_77_code
def yX9_isSlot : MethodName := ⟨RX9, "isSlot", "(I)Z"⟩
abbrev cX9_sheet : ByteArray := prog_11_method_78_code
def yX9_sheet : MethodName := ⟨RX9, "sheet", "(III)I"⟩
abbrev cX9_mark : ByteArray := prog_11_method_79_code
def yX9_mark : MethodName := ⟨RX9, "mark", "(III)I"⟩
abbrev cX9_pour : ByteArray := prog_11_method_80_code
def yX9_pour : MethodName := ⟨RX9, "pour", "(I)I"⟩
abbrev cX9_reads : ByteArray := prog_11_method_81_code
def yX9_reads : MethodName := ⟨RX9, "reads", "(I)I"⟩
abbrev cX9_copy : ByteArray := prog_11_method_82_code
def yX9_copy : MethodName := ⟨RX9, "copy", "(IIIII)I"⟩
abbrev cX9_lay : ByteArray := prog_11_method_83_code
def yX9_lay : MethodName := ⟨RX9, "lay", "(III)I"⟩
abbrev cX9_ask : ByteArray := prog_11_method_84_code
def yX9_ask : MethodName := ⟨RX9, "ask", "(II)I"⟩
abbrev cX9_item : ByteArray := prog_11_method_85_code
def yX9_item : MethodName := ⟨RX9, "item", "(II)I"⟩
abbrev cX9_rest : ByteArray := prog_11_method_86_code
def yX9_rest : MethodName := ⟨RX9, "rest", "(II)I"⟩
abbrev cX9_tell : ByteArray := prog_11_method_87_code
def yX9_tell : MethodName := ⟨RX9, "tell", "(I)I"⟩
abbrev cX9_check : ByteArray := prog_11_method_88_code
def yX9_check : MethodName := ⟨RX9, "check", "(I)I"⟩
abbrev cX9_keep : ByteArray := prog_11_method_89_code
def yX9_keep : MethodName := ⟨RX9, "keep", "()I"⟩
abbrev cX9_back : ByteArray := prog_11_method_90_code
def yX9_back : MethodName := ⟨RX9, "back", "()I"⟩
abbrev cX9_count : ByteArray := prog_11_method_91_code
def yX9_count : MethodName := ⟨RX9, "count", "(I)I"⟩
def RJx145de : String := "java/io/Serializable"
def TJx145de : u_T := fun k => match k with
  | _ => ("", "", "", false)
def tyJx145de : Nat → FieldType := fun k => match k with
  | _ => .int
abbrev wsJx145de0 : List Cond := u_ws RJx145de TJx145de 0
theorem nmJx145de : ∀ a, a < 0 → ∀ b, b < 0 → a ≠ b → (TJx145de a).2.1 ≠ (TJx145de b).2.1 := by decide +kernel
theorem tyJx145de_ok : ∀ k, k < 0 → parseFieldDescriptor (TJx145de k).2.2.1 = some (tyJx145de k) := by decide +kernel
def RJx9f9b0 : String := "java/lang/CharSequence"
def TJx9f9b0 : u_T := fun k => match k with
  | _ => ("", "", "", false)
def tyJx9f9b0 : Nat → FieldType := fun k => match k with
  | _ => .int
abbrev wsJx9f9b00 : List Cond := u_ws RJx9f9b0 TJx9f9b0 0
theorem nmJx9f9b0 : ∀ a, a < 0 → ∀ b, b < 0 → a ≠ b → (TJx9f9b0 a).2.1 ≠ (TJx9f9b0 b).2.1 := by decide +kernel
theorem tyJx9f9b0_ok : ∀ k, k < 0 → parseFieldDescriptor (TJx9f9b0 k).2.2.1 = some (tyJx9f9b0 k) := by decide +kernel
def RJ11 : String := "java/lang/Character"
def TJ11 : u_T := fun k => match k with
  | _ => ("", "", "", false)
def tyJ11 : Nat → FieldType := fun k => match k with
  | _ => .int
abbrev wsJ110 : List Cond := u_ws RJ11 TJ11 0
theorem nmJ11 : ∀ a, a < 0 → ∀ b, b < 0 → a ≠ b → (TJ11 a).2.1 ≠ (TJ11 b).2.1 := by decide +kernel
theorem tyJ11_ok : ∀ k, k < 0 → parseFieldDescriptor (TJ11 k).2.2.1 = some (tyJ11 k) := by decide +kernel
abbrev cJ11_isValidCodePoint_9a6ad : ByteArray := prog_12_method_11_code
def yJ11_isValidCodePoint_9a6ad : MethodName := ⟨RJ11, "isValidCodePoint", "(I)Z"⟩
abbrev cJ11_highSurrogate_5068e : ByteArray := prog_12_method_28_code
def yJ11_highSurrogate_5068e : MethodName := ⟨RJ11, "highSurrogate", "(I)C"⟩
abbrev cJ11_lowSurrogate_5068e : ByteArray := prog_12_method_29_code
def yJ11_lowSurrogate_5068e : MethodName := ⟨RJ11, "lowSurrogate", "(I)C"⟩
def RJx8e188 : String := "java/lang/Cloneable"
def TJx8e188 : u_T := fun k => match k with
  | _ => ("", "", "", false)
def tyJx8e188 : Nat → FieldType := fun k => match k with
  | _ => .int
abbrev wsJx8e1880 : List Cond := u_ws RJx8e188 TJx8e188 0
theorem nmJx8e188 : ∀ a, a < 0 → ∀ b, b < 0 → a ≠ b → (TJx8e188 a).2.1 ≠ (TJx8e188 b).2.1 := by decide +kernel
theorem tyJx8e188_ok : ∀ k, k < 0 → parseFieldDescriptor (TJx8e188 k).2.2.1 = some (tyJx8e188 k) := by decide +kernel
def RJxb160c : String := "java/lang/Comparable"
def TJxb160c : u_T := fun k => match k with
  | _ => ("", "", "", false)
def tyJxb160c : Nat → FieldType := fun k => match k with
  | _ => .int
abbrev wsJxb160c0 : List Cond := u_ws RJxb160c TJxb160c 0
theorem nmJxb160c : ∀ a, a < 0 → ∀ b, b < 0 → a ≠ b → (TJxb160c a).2.1 ≠ (TJxb160c b).2.1 := by decide +kernel
theorem tyJxb160c_ok : ∀ k, k < 0 → parseFieldDescriptor (TJxb160c k).2.2.1 = some (tyJxb160c k) := by decide +kernel
def RJ6 : String := "java/lang/Integer"
def TJ6 : u_T := fun k => match k with
  | _ => ("", "", "", false)
def tyJ6 : Nat → FieldType := fun k => match k with
  | _ => .int
abbrev wsJ60 : List Cond := u_ws RJ6 TJ6 0
theorem nmJ6 : ∀ a, a < 0 → ∀ b, b < 0 → a ≠ b → (TJ6 a).2.1 ≠ (TJ6 b).2.1 := by decide +kernel
theorem tyJ6_ok : ∀ k, k < 0 → parseFieldDescriptor (TJ6 k).2.2.1 = some (tyJ6 k) := by decide +kernel
abbrev cJ6_bitCount_0f7a4 : ByteArray := prog_14_method_49_code
def yJ6_bitCount_0f7a4 : MethodName := ⟨RJ6, "bitCount", "(I)I"⟩
def RJ9 : String := "java/lang/Math"
def TJ9 : u_T := fun k => match k with
  | _ => ("", "", "", false)
def tyJ9 : Nat → FieldType := fun k => match k with
  | _ => .int
abbrev wsJ90 : List Cond := u_ws RJ9 TJ9 0
theorem nmJ9 : ∀ a, a < 0 → ∀ b, b < 0 → a ≠ b → (TJ9 a).2.1 ≠ (TJ9 b).2.1 := by decide +kernel
theorem tyJ9_ok : ∀ k, k < 0 → parseFieldDescriptor (TJ9 k).2.2.1 = some (tyJ9 k) := by decide +kernel
abbrev cJ9_abs_0f7a4 : ByteArray := prog_15_method_59_code
def yJ9_abs_0f7a4 : MethodName := ⟨RJ9, "abs", "(I)I"⟩
abbrev cJ9_max_7cf53 : ByteArray := prog_15_method_65_code
def yJ9_max_7cf53 : MethodName := ⟨RJ9, "max", "(II)I"⟩
abbrev cJ9_min_7cf53 : ByteArray := prog_15_method_69_code
def yJ9_min_7cf53 : MethodName := ⟨RJ9, "min", "(II)I"⟩
def RJ0 : String := "java/lang/String"
def TJ0 : u_T := fun k => match k with
  | _ => ("", "", "", false)
def tyJ0 : Nat → FieldType := fun k => match k with
  | _ => .int
abbrev wsJ00 : List Cond := u_ws RJ0 TJ0 0
theorem nmJ0 : ∀ a, a < 0 → ∀ b, b < 0 → a ≠ b → (TJ0 a).2.1 ≠ (TJ0 b).2.1 := by decide +kernel
theorem tyJ0_ok : ∀ k, k < 0 → parseFieldDescriptor (TJ0 k).2.2.1 = some (tyJ0 k) := by decide +kernel
abbrev cJ0_length_8abf5 : ByteArray := prog_16_method_54_code
def yJ0_length_8abf5 : MethodName := ⟨RJ0, "length", "()I"⟩
abbrev cJ0_charAt_5068e : ByteArray := prog_16_method_56_code
def yJ0_charAt_5068e : MethodName := ⟨RJ0, "charAt", "(I)C"⟩
abbrev cJ0_indexOf_0f7a4 : ByteArray := prog_16_method_79_code
def yJ0_indexOf_0f7a4 : MethodName := ⟨RJ0, "indexOf", "(I)I"⟩
abbrev cJ0_indexOf_7cf53 : ByteArray := prog_16_method_80_code
def yJ0_indexOf_7cf53 : MethodName := ⟨RJ0, "indexOf", "(II)I"⟩
abbrev cJ0_coder_7d493 : ByteArray := prog_16_method_152_code
def yJ0_coder_7d493 : MethodName := ⟨RJ0, "coder", "()B"⟩
abbrev cJ0_isLatin1_aae02 : ByteArray := prog_16_method_154_code
def yJ0_isLatin1_aae02 : MethodName := ⟨RJ0, "isLatin1", "()Z"⟩
abbrev cJ0_checkIndex_df160 : ByteArray := prog_16_method_155_code
def yJ0_checkIndex_df160 : MethodName := ⟨RJ0, "checkIndex", "(II)V"⟩
abbrev cJ0_checkBoundsBeginEnd_23922 : ByteArray := prog_16_method_158_code
def yJ0_checkBoundsBeginEnd_23922 : MethodName := ⟨RJ0, "checkBoundsBeginEnd", "(III)V"⟩
def RJ1 : String := "java/lang/StringLatin1"
def TJ1 : u_T := fun k => match k with
  | _ => ("", "", "", false)
def tyJ1 : Nat → FieldType := fun k => match k with
  | _ => .int
abbrev wsJ10 : List Cond := u_ws RJ1 TJ1 0
theorem nmJ1 : ∀ a, a < 0 → ∀ b, b < 0 → a ≠ b → (TJ1 a).2.1 ≠ (TJ1 b).2.1 := by decide +kernel
theorem tyJ1_ok : ∀ k, k < 0 → parseFieldDescriptor (TJ1 k).2.2.1 = some (tyJ1 k) := by decide +kernel
abbrev cJ1_charAt_3b067 : ByteArray := prog_17_method_2_code
def yJ1_charAt_3b067 : MethodName := ⟨RJ1, "charAt", "([BI)C"⟩
abbrev cJ1_canEncode_9a6ad : ByteArray := prog_17_method_4_code
def yJ1_canEncode_9a6ad : MethodName := ⟨RJ1, "canEncode", "(I)Z"⟩
abbrev cJ1_indexOf_4cfef : ByteArray := prog_17_method_22_code
def yJ1_indexOf_4cfef : MethodName := ⟨RJ1, "indexOf", "([BIII)I"⟩
abbrev cJ1_indexOfChar_4cfef : ByteArray := prog_17_method_23_code
def yJ1_indexOfChar_4cfef : MethodName := ⟨RJ1, "indexOfChar", "([BIII)I"⟩
def RJ2 : String := "java/lang/StringUTF16"
def TJ2 : u_T := fun k => match k with
  | _ => ("", "", "", false)
def tyJ2 : Nat → FieldType := fun k => match k with
  | _ => .int
abbrev wsJ20 : List Cond := u_ws RJ2 TJ2 0
theorem nmJ2 : ∀ a, a < 0 → ∀ b, b < 0 → a ≠ b → (TJ2 a).2.1 ≠ (TJ2 b).2.1 := by decide +kernel
theorem tyJ2_ok : ∀ k, k < 0 → parseFieldDescriptor (TJ2 k).2.2.1 = some (tyJ2 k) := by decide +kernel
abbrev cJ2_getChar_3b067 : ByteArray := prog_18_method_5_code
def yJ2_getChar_3b067 : MethodName := ⟨RJ2, "getChar", "([BI)C"⟩
abbrev cJ2_length_9d52b : ByteArray := prog_18_method_6_code
def yJ2_length_9d52b : MethodName := ⟨RJ2, "length", "([B)I"⟩
abbrev cJ2_indexOf_4cfef : ByteArray := prog_18_method_40_code
def yJ2_indexOf_4cfef : MethodName := ⟨RJ2, "indexOf", "([BIII)I"⟩
abbrev cJ2_indexOfChar_4cfef : ByteArray := prog_18_method_47_code
def yJ2_indexOfChar_4cfef : MethodName := ⟨RJ2, "indexOfChar", "([BIII)I"⟩
abbrev cJ2_indexOfCharUnsafe_4cfef : ByteArray := prog_18_method_48_code
def yJ2_indexOfCharUnsafe_4cfef : MethodName := ⟨RJ2, "indexOfCharUnsafe", "([BIII)I"⟩
abbrev cJ2_indexOfSupplementary_4cfef : ByteArray := prog_18_method_49_code
def yJ2_indexOfSupplementary_4cfef : MethodName := ⟨RJ2, "indexOfSupplementary", "([BIII)I"⟩
abbrev cJ2_charAt_3b067 : ByteArray := prog_18_method_83_code
def yJ2_charAt_3b067 : MethodName := ⟨RJ2, "charAt", "([BI)C"⟩
abbrev cJ2_checkIndex_2214a : ByteArray := prog_18_method_91_code
def yJ2_checkIndex_2214a : MethodName := ⟨RJ2, "checkIndex", "(I[B)V"⟩
abbrev cJ2_checkBoundsBeginEnd_d044e : ByteArray := prog_18_method_93_code
def yJ2_checkBoundsBeginEnd_d044e : MethodName := ⟨RJ2, "checkBoundsBeginEnd", "(II[B)V"⟩
def RJ10 : String := "java/lang/System"
def TJ10 : u_T := fun k => match k with
  | _ => ("", "", "", false)
def tyJ10 : Nat → FieldType := fun k => match k with
  | _ => .int
abbrev wsJ100 : List Cond := u_ws RJ10 TJ10 0
theorem nmJ10 : ∀ a, a < 0 → ∀ b, b < 0 → a ≠ b → (TJ10 a).2.1 ≠ (TJ10 b).2.1 := by decide +kernel
theorem tyJ10_ok : ∀ k, k < 0 → parseFieldDescriptor (TJ10 k).2.2.1 = some (tyJ10 k) := by decide +kernel
def RJxfd54e : String := "java/lang/constant/Constable"
def TJxfd54e : u_T := fun k => match k with
  | _ => ("", "", "", false)
def tyJxfd54e : Nat → FieldType := fun k => match k with
  | _ => .int
abbrev wsJxfd54e0 : List Cond := u_ws RJxfd54e TJxfd54e 0
theorem nmJxfd54e : ∀ a, a < 0 → ∀ b, b < 0 → a ≠ b → (TJxfd54e a).2.1 ≠ (TJxfd54e b).2.1 := by decide +kernel
theorem tyJxfd54e_ok : ∀ k, k < 0 → parseFieldDescriptor (TJxfd54e k).2.2.1 = some (tyJxfd54e k) := by decide +kernel
def RJx3cf43 : String := "java/lang/constant/ConstantDesc"
def TJx3cf43 : u_T := fun k => match k with
  | _ => ("", "", "", false)
def tyJx3cf43 : Nat → FieldType := fun k => match k with
  | _ => .int
abbrev wsJx3cf430 : List Cond := u_ws RJx3cf43 TJx3cf43 0
theorem nmJx3cf43 : ∀ a, a < 0 → ∀ b, b < 0 → a ≠ b → (TJx3cf43 a).2.1 ≠ (TJx3cf43 b).2.1 := by decide +kernel
theorem tyJx3cf43_ok : ∀ k, k < 0 → parseFieldDescriptor (TJx3cf43 k).2.2.1 = some (tyJx3cf43 k) := by decide +kernel
def RJ7 : String := "java/util/Arrays"
def TJ7 : u_T := fun k => match k with
  | _ => ("", "", "", false)
def tyJ7 : Nat → FieldType := fun k => match k with
  | _ => .int
abbrev wsJ70 : List Cond := u_ws RJ7 TJ7 0
theorem nmJ7 : ∀ a, a < 0 → ∀ b, b < 0 → a ≠ b → (TJ7 a).2.1 ≠ (TJ7 b).2.1 := by decide +kernel
theorem tyJ7_ok : ∀ k, k < 0 → parseFieldDescriptor (TJ7 k).2.2.1 = some (tyJ7 k) := by decide +kernel
abbrev cJ7_fill_53178 : ByteArray := prog_20_method_103_code
def yJ7_fill_53178 : MethodName := ⟨RJ7, "fill", "([II)V"⟩
abbrev cJ7_copyOf_59c91 : ByteArray := prog_20_method_123_code
def yJ7_copyOf_59c91 : MethodName := ⟨RJ7, "copyOf", "([II)[I"⟩
def RJ3 : String := "jdk/internal/util/Preconditions"
def TJ3 : u_T := fun k => match k with
  | _ => ("", "", "", false)
def tyJ3 : Nat → FieldType := fun k => match k with
  | _ => .int
abbrev wsJ30 : List Cond := u_ws RJ3 TJ3 0
theorem nmJ3 : ∀ a, a < 0 → ∀ b, b < 0 → a ≠ b → (TJ3 a).2.1 ≠ (TJ3 b).2.1 := by decide +kernel
theorem tyJ3_ok : ∀ k, k < 0 → parseFieldDescriptor (TJ3 k).2.2.1 = some (tyJ3 k) := by decide +kernel
abbrev cJ3_checkIndex_8e157 : ByteArray := prog_21_method_11_code
def yJ3_checkIndex_8e157 : MethodName := ⟨RJ3, "checkIndex", "(IILjava/util/function/BiFunction;)I"⟩
abbrev cJ3_checkFromToIndex_8c36e : ByteArray := prog_21_method_12_code
def yJ3_checkFromToIndex_8c36e : MethodName := ⟨RJ3, "checkFromToIndex", "(IIILjava/util/function/BiFunction;)I"⟩
def RL : String := "SkittleMenLaw"
abbrev cL_law : ByteArray := code
def yL_law : MethodName := ⟨RL, "law", "([I)Z"⟩
theorem inX0 : ∀ w ∈ wsX00, w ∈ lw_tbl := fun w h => (goodIn_r (big := lw_tbl) wsX00 [202, 204, 206, 208, 210, 212, 214, 216, 218, 220] (by decide +kernel) (by decide +kernel) w h).1
theorem inX1 : ∀ w ∈ wsX10, w ∈ lw_tbl := fun w h => (goodIn_r (big := lw_tbl) wsX10 [163, 165, 167, 169, 171, 173] (by decide +kernel) (by decide +kernel) w h).1
theorem inX2 : ∀ w ∈ wsX20, w ∈ lw_tbl := fun w h => (goodIn_r (big := lw_tbl) wsX20 [244, 246, 248, 250, 252, 254, 256, 258, 260, 262, 264] (by decide +kernel) (by decide +kernel) w h).1
theorem inX3 : ∀ w ∈ wsX30, w ∈ lw_tbl := fun w h => (goodIn_r (big := lw_tbl) wsX30 [348, 350, 352] (by decide +kernel) (by decide +kernel) w h).1
theorem inX4 : ∀ w ∈ wsX40, w ∈ lw_tbl := fun w h => (goodIn_r (big := lw_tbl) wsX40 [372, 374, 376, 378] (by decide +kernel) (by decide +kernel) w h).1
theorem inX5 : ∀ w ∈ wsX50, w ∈ lw_tbl := fun w h => (goodIn_r (big := lw_tbl) wsX50 [278, 280] (by decide +kernel) (by decide +kernel) w h).1
theorem inX6 : ∀ w ∈ wsX60, w ∈ lw_tbl := fun w h => (goodIn_r (big := lw_tbl) wsX60 [989, 991, 993, 995] (by decide +kernel) (by decide +kernel) w h).1
theorem inX7 : ∀ w ∈ wsX70, w ∈ lw_tbl := fun w h => (goodIn_r (big := lw_tbl) wsX70 [304, 306, 308, 310, 312, 314, 316, 318, 320, 322, 324, 326, 328, 330] (by decide +kernel) (by decide +kernel) w h).1
theorem inX8 : ∀ w ∈ wsX80, w ∈ lw_tbl := fun w h => (goodIn_r (big := lw_tbl) wsX80 [393, 395, 397, 399, 401, 403, 405, 407, 409, 411, 413, 415] (by decide +kernel) (by decide +kernel) w h).1
theorem inX9 : ∀ w ∈ wsX90, w ∈ lw_tbl := fun w h => (goodIn_r (big := lw_tbl) wsX90 [1138, 1140, 1142, 1144, 1146, 1148, 1150, 1152, 1154, 1156, 1158, 1160, 1162, 1164, 1166, 1168, 1170, 1172, 1174, 1176, 1178, 1180, 1182, 1184, 1186, 1188, 1190, 1192, 1194, 1196, 1198, 1200, 1202, 1204, 1206, 1208] (by decide +kernel) (by decide +kernel) w h).1
abbrev vwCl : List vw_C := [(RX0, TX0, 10), (RX1, TX1, 6), (RX2, TX2, 11), (RX3, TX3, 3), (RX4, TX4, 4), (RX5, TX5, 2), (RX6, TX6, 4), (RX7, TX7, 14), (RX8, TX8, 12), (RX9, TX9, 36)]
end
section
theorem dX0_init_0 : decode cX0_init 0 = .ok (.aload_n 0, 1) := by decide +kernel
theorem dX0_init_1 : decode cX0_init 1 = .ok (.invokespecial 3, 3) := by decide +kernel
theorem dX0_init_4 : decode cX0_init 4 = .ok (.aload_n 0, 1) := by decide +kernel
theorem dX0_init_5 : decode cX0_init 5 = .ok (.bipush 9, 2) := by decide +kernel
theorem dX0_init_7 : decode cX0_init 7 = .ok (.anewarray 9, 3) := by decide +kernel
theorem dX0_init_10 : decode cX0_init 10 = .ok (.putfield 11, 3) := by decide +kernel
theorem dX0_init_13 : decode cX0_init 13 = .ok (.aload_n 0, 1) := by decide +kernel
theorem dX0_init_14 : decode cX0_init 14 = .ok (.iconst 0, 1) := by decide +kernel
theorem dX0_init_15 : decode cX0_init 15 = .ok (.putfield 17, 3) := by decide +kernel
theorem dX0_init_18 : decode cX0_init 18 = .ok (.aload_n 0, 1) := by decide +kernel
theorem dX0_init_19 : decode cX0_init 19 = .ok (.iconst 0, 1) := by decide +kernel
theorem dX0_init_20 : decode cX0_init 20 = .ok (.putfield 21, 3) := by decide +kernel
theorem dX0_init_23 : decode cX0_init 23 = .ok (.aload_n 0, 1) := by decide +kernel
theorem dX0_init_24 : decode cX0_init 24 = .ok (.iconst 0, 1) := by decide +kernel
theorem dX0_init_25 : decode cX0_init 25 = .ok (.putfield 24, 3) := by decide +kernel
theorem dX0_init_28 : decode cX0_init 28 = .ok (.aload_n 0, 1) := by decide +kernel
theorem dX0_init_29 : decode cX0_init 29 = .ok (.iconst 0, 1) := by decide +kernel
theorem dX0_init_30 : decode cX0_init 30 = .ok (.putfield 27, 3) := by decide +kernel
theorem dX0_init_33 : decode cX0_init 33 = .ok (.aload_n 0, 1) := by decide +kernel
theorem dX0_init_34 : decode cX0_init 34 = .ok (.iconst 0, 1) := by decide +kernel
theorem dX0_init_35 : decode cX0_init 35 = .ok (.putfield 30, 3) := by decide +kernel
theorem dX0_init_38 : decode cX0_init 38 = .ok (.aload_n 0, 1) := by decide +kernel
theorem dX0_init_39 : decode cX0_init 39 = .ok (.iconst 1, 1) := by decide +kernel
theorem dX0_init_40 : decode cX0_init 40 = .ok (.putfield 33, 3) := by decide +kernel
theorem dX0_init_43 : decode cX0_init 43 = .ok (.aload_n 0, 1) := by decide +kernel
theorem dX0_init_44 : decode cX0_init 44 = .ok (.bipush 14, 2) := by decide +kernel
theorem dX0_init_46 : decode cX0_init 46 = .ok (.anewarray 36, 3) := by decide +kernel
theorem dX0_init_49 : decode cX0_init 49 = .ok (.putfield 38, 3) := by decide +kernel
theorem dX0_init_52 : decode cX0_init 52 = .ok (.aload_n 0, 1) := by decide +kernel
theorem dX0_init_53 : decode cX0_init 53 = .ok (.iconst 0, 1) := by decide +kernel
theorem dX0_init_54 : decode cX0_init 54 = .ok (.putfield 42, 3) := by decide +kernel
theorem dX0_init_57 : decode cX0_init 57 = .ok (.aload_n 0, 1) := by decide +kernel
theorem dX0_init_58 : decode cX0_init 58 = .ok (.iconst 3, 1) := by decide +kernel
theorem dX0_init_59 : decode cX0_init 59 = .ok (.newarray .int, 2) := by decide +kernel
theorem dX0_init_61 : decode cX0_init 61 = .ok (.putfield 45, 3) := by decide +kernel
theorem dX0_init_64 : decode cX0_init 64 = .ok (.iconst 0, 1) := by decide +kernel
theorem dX0_init_65 : decode cX0_init 65 = .ok (.istore_n 1, 1) := by decide +kernel
theorem dX0_init_66 : decode cX0_init 66 = .ok (.iload_n 1, 1) := by decide +kernel
theorem dX0_init_67 : decode cX0_init 67 = .ok (.bipush 9, 2) := by decide +kernel
theorem dX0_init_69 : decode cX0_init 69 = .ok (.if_icmp .ge 22, 3) := by decide +kernel
theorem dX0_init_72 : decode cX0_init 72 = .ok (.aload_n 0, 1) := by decide +kernel
theorem dX0_init_73 : decode cX0_init 73 = .ok (.getfield 11, 3) := by decide +kernel
theorem dX0_init_76 : decode cX0_init 76 = .ok (.iload_n 1, 1) := by decide +kernel
theorem dX0_init_77 : decode cX0_init 77 = .ok (.new 9, 3) := by decide +kernel
theorem dX0_init_80 : decode cX0_init 80 = .ok (.dup, 1) := by decide +kernel
theorem dX0_init_81 : decode cX0_init 81 = .ok (.invokespecial 49, 3) := by decide +kernel
theorem dX0_init_84 : decode cX0_init 84 = .ok (.aastore, 1) := by decide +kernel
theorem dX0_init_85 : decode cX0_init 85 = .ok (.iinc 1 1, 3) := by decide +kernel
theorem dX0_init_88 : decode cX0_init 88 = .ok (.goto (-22), 3) := by decide +kernel
theorem dX0_init_91 : decode cX0_init 91 = .ok (.aload_n 0, 1) := by decide +kernel
theorem dX0_init_92 : decode cX0_init 92 = .ok (.getfield 45, 3) := by decide +kernel
theorem dX0_init_95 : decode cX0_init 95 = .ok (.ldc 50, 2) := by decide +kernel
theorem dX0_init_97 : decode cX0_init 97 = .ok (.invokestatic 51, 3) := by decide +kernel
theorem dX0_init_100 : decode cX0_init 100 = .ok (.return_, 1) := by decide +kernel
theorem dX0_becomeAs_0 : decode cX0_becomeAs 0 = .ok (.iconst 0, 1) := by decide +kernel
theorem dX0_becomeAs_1 : decode cX0_becomeAs 1 = .ok (.istore_n 2, 1) := by decide +kernel
theorem dX0_becomeAs_2 : decode cX0_becomeAs 2 = .ok (.iload_n 2, 1) := by decide +kernel
theorem dX0_becomeAs_3 : decode cX0_becomeAs 3 = .ok (.aload_n 1, 1) := by decide +kernel
theorem dX0_becomeAs_4 : decode cX0_becomeAs 4 = .ok (.getfield 17, 3) := by decide +kernel
theorem dX0_becomeAs_7 : decode cX0_becomeAs 7 = .ok (.if_icmp .ge 24, 3) := by decide +kernel
theorem dX0_becomeAs_10 : decode cX0_becomeAs 10 = .ok (.aload_n 0, 1) := by decide +kernel
theorem dX0_becomeAs_11 : decode cX0_becomeAs 11 = .ok (.getfield 11, 3) := by decide +kernel
theorem dX0_becomeAs_14 : decode cX0_becomeAs 14 = .ok (.iload_n 2, 1) := by decide +kernel
theorem dX0_becomeAs_15 : decode cX0_becomeAs 15 = .ok (.aaload, 1) := by decide +kernel
theorem dX0_becomeAs_16 : decode cX0_becomeAs 16 = .ok (.aload_n 1, 1) := by decide +kernel
theorem dX0_becomeAs_17 : decode cX0_becomeAs 17 = .ok (.getfield 11, 3) := by decide +kernel
theorem dX0_becomeAs_20 : decode cX0_becomeAs 20 = .ok (.iload_n 2, 1) := by decide +kernel
theorem dX0_becomeAs_21 : decode cX0_becomeAs 21 = .ok (.aaload, 1) := by decide +kernel
theorem dX0_becomeAs_22 : decode cX0_becomeAs 22 = .ok (.invokevirtual 57, 3) := by decide +kernel
theorem dX0_becomeAs_25 : decode cX0_becomeAs 25 = .ok (.iinc 2 1, 3) := by decide +kernel
theorem dX0_becomeAs_28 : decode cX0_becomeAs 28 = .ok (.goto (-26), 3) := by decide +kernel
theorem dX0_becomeAs_31 : decode cX0_becomeAs 31 = .ok (.aload_n 0, 1) := by decide +kernel
theorem dX0_becomeAs_32 : decode cX0_becomeAs 32 = .ok (.aload_n 1, 1) := by decide +kernel
theorem dX0_becomeAs_33 : decode cX0_becomeAs 33 = .ok (.getfield 17, 3) := by decide +kernel
theorem dX0_becomeAs_36 : decode cX0_becomeAs 36 = .ok (.putfield 17, 3) := by decide +kernel
theorem dX0_becomeAs_39 : decode cX0_becomeAs 39 = .ok (.aload_n 0, 1) := by decide +kernel
theorem dX0_becomeAs_40 : decode cX0_becomeAs 40 = .ok (.aload_n 1, 1) := by decide +kernel
theorem dX0_becomeAs_41 : decode cX0_becomeAs 41 = .ok (.getfield 21, 3) := by decide +kernel
theorem dX0_becomeAs_44 : decode cX0_becomeAs 44 = .ok (.putfield 21, 3) := by decide +kernel
theorem dX0_becomeAs_47 : decode cX0_becomeAs 47 = .ok (.aload_n 0, 1) := by decide +kernel
theorem dX0_becomeAs_48 : decode cX0_becomeAs 48 = .ok (.aload_n 1, 1) := by decide +kernel
theorem dX0_becomeAs_49 : decode cX0_becomeAs 49 = .ok (.getfield 24, 3) := by decide +kernel
theorem dX0_becomeAs_52 : decode cX0_becomeAs 52 = .ok (.putfield 24, 3) := by decide +kernel
theorem dX0_becomeAs_55 : decode cX0_becomeAs 55 = .ok (.aload_n 0, 1) := by decide +kernel
theorem dX0_becomeAs_56 : decode cX0_becomeAs 56 = .ok (.aload_n 1, 1) := by decide +kernel
theorem dX0_becomeAs_57 : decode cX0_becomeAs 57 = .ok (.getfield 27, 3) := by decide +kernel
theorem dX0_becomeAs_60 : decode cX0_becomeAs 60 = .ok (.putfield 27, 3) := by decide +kernel
theorem dX0_becomeAs_63 : decode cX0_becomeAs 63 = .ok (.aload_n 0, 1) := by decide +kernel
theorem dX0_becomeAs_64 : decode cX0_becomeAs 64 = .ok (.aload_n 1, 1) := by decide +kernel
theorem dX0_becomeAs_65 : decode cX0_becomeAs 65 = .ok (.getfield 30, 3) := by decide +kernel
theorem dX0_becomeAs_68 : decode cX0_becomeAs 68 = .ok (.putfield 30, 3) := by decide +kernel
theorem dX0_becomeAs_71 : decode cX0_becomeAs 71 = .ok (.aload_n 0, 1) := by decide +kernel
theorem dX0_becomeAs_72 : decode cX0_becomeAs 72 = .ok (.aload_n 1, 1) := by decide +kernel
theorem dX0_becomeAs_73 : decode cX0_becomeAs 73 = .ok (.getfield 33, 3) := by decide +kernel
theorem dX0_becomeAs_76 : decode cX0_becomeAs 76 = .ok (.putfield 33, 3) := by decide +kernel
theorem dX0_becomeAs_79 : decode cX0_becomeAs 79 = .ok (.iconst 0, 1) := by decide +kernel
theorem dX0_becomeAs_80 : decode cX0_becomeAs 80 = .ok (.istore_n 2, 1) := by decide +kernel
theorem dX0_becomeAs_81 : decode cX0_becomeAs 81 = .ok (.iload_n 2, 1) := by decide +kernel
theorem dX0_becomeAs_82 : decode cX0_becomeAs 82 = .ok (.aload_n 1, 1) := by decide +kernel
theorem dX0_becomeAs_83 : decode cX0_becomeAs 83 = .ok (.getfield 42, 3) := by decide +kernel
theorem dX0_becomeAs_86 : decode cX0_becomeAs 86 = .ok (.if_icmp .ge 21, 3) := by decide +kernel
theorem dX0_becomeAs_89 : decode cX0_becomeAs 89 = .ok (.aload_n 0, 1) := by decide +kernel
theorem dX0_becomeAs_90 : decode cX0_becomeAs 90 = .ok (.getfield 38, 3) := by decide +kernel
theorem dX0_becomeAs_93 : decode cX0_becomeAs 93 = .ok (.iload_n 2, 1) := by decide +kernel
theorem dX0_becomeAs_94 : decode cX0_becomeAs 94 = .ok (.aload_n 1, 1) := by decide +kernel
theorem dX0_becomeAs_95 : decode cX0_becomeAs 95 = .ok (.getfield 38, 3) := by decide +kernel
theorem dX0_becomeAs_98 : decode cX0_becomeAs 98 = .ok (.iload_n 2, 1) := by decide +kernel
theorem dX0_becomeAs_99 : decode cX0_becomeAs 99 = .ok (.aaload, 1) := by decide +kernel
theorem dX0_becomeAs_100 : decode cX0_becomeAs 100 = .ok (.aastore, 1) := by decide +kernel
theorem dX0_becomeAs_101 : decode cX0_becomeAs 101 = .ok (.iinc 2 1, 3) := by decide +kernel
theorem dX0_becomeAs_104 : decode cX0_becomeAs 104 = .ok (.goto (-23), 3) := by decide +kernel
theorem dX0_becomeAs_107 : decode cX0_becomeAs 107 = .ok (.aload_n 0, 1) := by decide +kernel
theorem dX0_becomeAs_108 : decode cX0_becomeAs 108 = .ok (.aload_n 1, 1) := by decide +kernel
theorem dX0_becomeAs_109 : decode cX0_becomeAs 109 = .ok (.getfield 42, 3) := by decide +kernel
theorem dX0_becomeAs_112 : decode cX0_becomeAs 112 = .ok (.putfield 42, 3) := by decide +kernel
theorem dX0_becomeAs_115 : decode cX0_becomeAs 115 = .ok (.aload_n 1, 1) := by decide +kernel
theorem dX0_becomeAs_116 : decode cX0_becomeAs 116 = .ok (.getfield 45, 3) := by decide +kernel
theorem dX0_becomeAs_119 : decode cX0_becomeAs 119 = .ok (.iconst 0, 1) := by decide +kernel
theorem dX0_becomeAs_120 : decode cX0_becomeAs 120 = .ok (.aload_n 0, 1) := by decide +kernel
theorem dX0_becomeAs_121 : decode cX0_becomeAs 121 = .ok (.getfield 45, 3) := by decide +kernel
theorem dX0_becomeAs_124 : decode cX0_becomeAs 124 = .ok (.iconst 0, 1) := by decide +kernel
theorem dX0_becomeAs_125 : decode cX0_becomeAs 125 = .ok (.iconst 3, 1) := by decide +kernel
theorem dX0_becomeAs_126 : decode cX0_becomeAs 126 = .ok (.invokestatic 61, 3) := by decide +kernel
theorem dX0_becomeAs_129 : decode cX0_becomeAs 129 = .ok (.return_, 1) := by decide +kernel
theorem dX0_has_0 : decode cX0_has 0 = .ok (.iload_n 1, 1) := by decide +kernel
theorem dX0_has_1 : decode cX0_has 1 = .ok (.ifCond .lt 15, 3) := by decide +kernel
theorem dX0_has_4 : decode cX0_has 4 = .ok (.iload_n 1, 1) := by decide +kernel
theorem dX0_has_5 : decode cX0_has 5 = .ok (.aload_n 0, 1) := by decide +kernel
theorem dX0_has_6 : decode cX0_has 6 = .ok (.getfield 17, 3) := by decide +kernel
theorem dX0_has_9 : decode cX0_has 9 = .ok (.if_icmp .ge 7, 3) := by decide +kernel
theorem dX0_has_12 : decode cX0_has 12 = .ok (.iconst 1, 1) := by decide +kernel
theorem dX0_has_13 : decode cX0_has 13 = .ok (.goto 4, 3) := by decide +kernel
theorem dX0_has_16 : decode cX0_has 16 = .ok (.iconst 0, 1) := by decide +kernel
theorem dX0_has_17 : decode cX0_has 17 = .ok (.ireturn, 1) := by decide +kernel
theorem dX0_stands_0 : decode cX0_stands 0 = .ok (.aload_n 0, 1) := by decide +kernel
theorem dX0_stands_1 : decode cX0_stands 1 = .ok (.iload_n 1, 1) := by decide +kernel
theorem dX0_stands_2 : decode cX0_stands 2 = .ok (.invokevirtual 67, 3) := by decide +kernel
theorem dX0_stands_5 : decode cX0_stands 5 = .ok (.ifCond .eq 19, 3) := by decide +kernel
theorem dX0_stands_8 : decode cX0_stands 8 = .ok (.aload_n 0, 1) := by decide +kernel
theorem dX0_stands_9 : decode cX0_stands 9 = .ok (.getfield 11, 3) := by decide +kernel
theorem dX0_stands_12 : decode cX0_stands 12 = .ok (.iload_n 1, 1) := by decide +kernel
theorem dX0_stands_13 : decode cX0_stands 13 = .ok (.aaload, 1) := by decide +kernel
theorem dX0_stands_14 : decode cX0_stands 14 = .ok (.getfield 71, 3) := by decide +kernel
theorem dX0_stands_17 : decode cX0_stands 17 = .ok (.ifCond .ne 7, 3) := by decide +kernel
theorem dX0_stands_20 : decode cX0_stands 20 = .ok (.iconst 1, 1) := by decide +kernel
theorem dX0_stands_21 : decode cX0_stands 21 = .ok (.goto 4, 3) := by decide +kernel
theorem dX0_stands_24 : decode cX0_stands 24 = .ok (.iconst 0, 1) := by decide +kernel
theorem dX0_stands_25 : decode cX0_stands 25 = .ok (.ireturn, 1) := by decide +kernel
theorem dX0_standing_0 : decode cX0_standing 0 = .ok (.aload_n 0, 1) := by decide +kernel
theorem dX0_standing_1 : decode cX0_standing 1 = .ok (.invokevirtual 75, 3) := by decide +kernel
theorem dX0_standing_4 : decode cX0_standing 4 = .ok (.invokestatic 79, 3) := by decide +kernel
theorem dX0_standing_7 : decode cX0_standing 7 = .ok (.ireturn, 1) := by decide +kernel
theorem dX0_standingSet_0 : decode cX0_standingSet 0 = .ok (.iconst 0, 1) := by decide +kernel
theorem dX0_standingSet_1 : decode cX0_standingSet 1 = .ok (.istore_n 1, 1) := by decide +kernel
theorem dX0_standingSet_2 : decode cX0_standingSet 2 = .ok (.iconst 0, 1) := by decide +kernel
theorem dX0_standingSet_3 : decode cX0_standingSet 3 = .ok (.istore_n 2, 1) := by decide +kernel
theorem dX0_standingSet_4 : decode cX0_standingSet 4 = .ok (.iload_n 2, 1) := by decide +kernel
theorem dX0_standingSet_5 : decode cX0_standingSet 5 = .ok (.aload_n 0, 1) := by decide +kernel
theorem dX0_standingSet_6 : decode cX0_standingSet 6 = .ok (.getfield 17, 3) := by decide +kernel
theorem dX0_standingSet_9 : decode cX0_standingSet 9 = .ok (.if_icmp .ge 27, 3) := by decide +kernel
theorem dX0_standingSet_12 : decode cX0_standingSet 12 = .ok (.aload_n 0, 1) := by decide +kernel
theorem dX0_standingSet_13 : decode cX0_standingSet 13 = .ok (.getfield 11, 3) := by decide +kernel
theorem dX0_standingSet_16 : decode cX0_standingSet 16 = .ok (.iload_n 2, 1) := by decide +kernel
theorem dX0_standingSet_17 : decode cX0_standingSet 17 = .ok (.aaload, 1) := by decide +kernel
theorem dX0_standingSet_18 : decode cX0_standingSet 18 = .ok (.getfield 71, 3) := by decide +kernel
theorem dX0_standingSet_21 : decode cX0_standingSet 21 = .ok (.ifCond .ne 9, 3) := by decide +kernel
theorem dX0_standingSet_24 : decode cX0_standingSet 24 = .ok (.iload_n 1, 1) := by decide +kernel
theorem dX0_standingSet_25 : decode cX0_standingSet 25 = .ok (.iconst 1, 1) := by decide +kernel
theorem dX0_standingSet_26 : decode cX0_standingSet 26 = .ok (.iload_n 2, 1) := by decide +kernel
theorem dX0_standingSet_27 : decode cX0_standingSet 27 = .ok (.ishl, 1) := by decide +kernel
theorem dX0_standingSet_28 : decode cX0_standingSet 28 = .ok (.ior, 1) := by decide +kernel
theorem dX0_standingSet_29 : decode cX0_standingSet 29 = .ok (.istore_n 1, 1) := by decide +kernel
theorem dX0_standingSet_30 : decode cX0_standingSet 30 = .ok (.iinc 2 1, 3) := by decide +kernel
theorem dX0_standingSet_33 : decode cX0_standingSet 33 = .ok (.goto (-29), 3) := by decide +kernel
theorem dX0_standingSet_36 : decode cX0_standingSet 36 = .ok (.iload_n 1, 1) := by decide +kernel
theorem dX0_standingSet_37 : decode cX0_standingSet 37 = .ok (.ireturn, 1) := by decide +kernel
theorem dX0_nerveOfAll_0 : decode cX0_nerveOfAll 0 = .ok (.iconst 0, 1) := by decide +kernel
theorem dX0_nerveOfAll_1 : decode cX0_nerveOfAll 1 = .ok (.istore_n 1, 1) := by decide +kernel
theorem dX0_nerveOfAll_2 : decode cX0_nerveOfAll 2 = .ok (.iconst 0, 1) := by decide +kernel
theorem dX0_nerveOfAll_3 : decode cX0_nerveOfAll 3 = .ok (.istore_n 2, 1) := by decide +kernel
theorem dX0_nerveOfAll_4 : decode cX0_nerveOfAll 4 = .ok (.iload_n 2, 1) := by decide +kernel
theorem dX0_nerveOfAll_5 : decode cX0_nerveOfAll 5 = .ok (.aload_n 0, 1) := by decide +kernel
theorem dX0_nerveOfAll_6 : decode cX0_nerveOfAll 6 = .ok (.getfield 17, 3) := by decide +kernel
theorem dX0_nerveOfAll_9 : decode cX0_nerveOfAll 9 = .ok (.if_icmp .ge 21, 3) := by decide +kernel
theorem dX0_nerveOfAll_12 : decode cX0_nerveOfAll 12 = .ok (.iload_n 1, 1) := by decide +kernel
theorem dX0_nerveOfAll_13 : decode cX0_nerveOfAll 13 = .ok (.aload_n 0, 1) := by decide +kernel
theorem dX0_nerveOfAll_14 : decode cX0_nerveOfAll 14 = .ok (.getfield 11, 3) := by decide +kernel
theorem dX0_nerveOfAll_17 : decode cX0_nerveOfAll 17 = .ok (.iload_n 2, 1) := by decide +kernel
theorem dX0_nerveOfAll_18 : decode cX0_nerveOfAll 18 = .ok (.aaload, 1) := by decide +kernel
theorem dX0_nerveOfAll_19 : decode cX0_nerveOfAll 19 = .ok (.getfield 85, 3) := by decide +kernel
theorem dX0_nerveOfAll_22 : decode cX0_nerveOfAll 22 = .ok (.iadd, 1) := by decide +kernel
theorem dX0_nerveOfAll_23 : decode cX0_nerveOfAll 23 = .ok (.istore_n 1, 1) := by decide +kernel
theorem dX0_nerveOfAll_24 : decode cX0_nerveOfAll 24 = .ok (.iinc 2 1, 3) := by decide +kernel
theorem dX0_nerveOfAll_27 : decode cX0_nerveOfAll 27 = .ok (.goto (-23), 3) := by decide +kernel
theorem dX0_nerveOfAll_30 : decode cX0_nerveOfAll 30 = .ok (.iload_n 1, 1) := by decide +kernel
theorem dX0_nerveOfAll_31 : decode cX0_nerveOfAll 31 = .ok (.ireturn, 1) := by decide +kernel
theorem dX0_mostFelled_0 : decode cX0_mostFelled 0 = .ok (.aload_n 0, 1) := by decide +kernel
theorem dX0_mostFelled_1 : decode cX0_mostFelled 1 = .ok (.getfield 17, 3) := by decide +kernel
theorem dX0_mostFelled_4 : decode cX0_mostFelled 4 = .ok (.ifCond .ne 6, 3) := by decide +kernel
theorem dX0_mostFelled_7 : decode cX0_mostFelled 7 = .ok (.ldc 50, 2) := by decide +kernel
theorem dX0_mostFelled_9 : decode cX0_mostFelled 9 = .ok (.ireturn, 1) := by decide +kernel
theorem dX0_mostFelled_10 : decode cX0_mostFelled 10 = .ok (.iconst 0, 1) := by decide +kernel
theorem dX0_mostFelled_11 : decode cX0_mostFelled 11 = .ok (.istore_n 1, 1) := by decide +kernel
theorem dX0_mostFelled_12 : decode cX0_mostFelled 12 = .ok (.iconst 1, 1) := by decide +kernel
theorem dX0_mostFelled_13 : decode cX0_mostFelled 13 = .ok (.istore_n 2, 1) := by decide +kernel
theorem dX0_mostFelled_14 : decode cX0_mostFelled 14 = .ok (.iload_n 2, 1) := by decide +kernel
theorem dX0_mostFelled_15 : decode cX0_mostFelled 15 = .ok (.aload_n 0, 1) := by decide +kernel
theorem dX0_mostFelled_16 : decode cX0_mostFelled 16 = .ok (.getfield 17, 3) := by decide +kernel
theorem dX0_mostFelled_19 : decode cX0_mostFelled 19 = .ok (.if_icmp .ge 32, 3) := by decide +kernel
theorem dX0_mostFelled_22 : decode cX0_mostFelled 22 = .ok (.aload_n 0, 1) := by decide +kernel
theorem dX0_mostFelled_23 : decode cX0_mostFelled 23 = .ok (.getfield 11, 3) := by decide +kernel
theorem dX0_mostFelled_26 : decode cX0_mostFelled 26 = .ok (.iload_n 2, 1) := by decide +kernel
theorem dX0_mostFelled_27 : decode cX0_mostFelled 27 = .ok (.aaload, 1) := by decide +kernel
theorem dX0_mostFelled_28 : decode cX0_mostFelled 28 = .ok (.getfield 88, 3) := by decide +kernel
theorem dX0_mostFelled_31 : decode cX0_mostFelled 31 = .ok (.aload_n 0, 1) := by decide +kernel
theorem dX0_mostFelled_32 : decode cX0_mostFelled 32 = .ok (.getfield 11, 3) := by decide +kernel
theorem dX0_mostFelled_35 : decode cX0_mostFelled 35 = .ok (.iload_n 1, 1) := by decide +kernel
theorem dX0_mostFelled_36 : decode cX0_mostFelled 36 = .ok (.aaload, 1) := by decide +kernel
theorem dX0_mostFelled_37 : decode cX0_mostFelled 37 = .ok (.getfield 88, 3) := by decide +kernel
theorem dX0_mostFelled_40 : decode cX0_mostFelled 40 = .ok (.if_icmp .le 5, 3) := by decide +kernel
theorem dX0_mostFelled_43 : decode cX0_mostFelled 43 = .ok (.iload_n 2, 1) := by decide +kernel
theorem dX0_mostFelled_44 : decode cX0_mostFelled 44 = .ok (.istore_n 1, 1) := by decide +kernel
theorem dX0_mostFelled_45 : decode cX0_mostFelled 45 = .ok (.iinc 2 1, 3) := by decide +kernel
theorem dX0_mostFelled_48 : decode cX0_mostFelled 48 = .ok (.goto (-34), 3) := by decide +kernel
theorem dX0_mostFelled_51 : decode cX0_mostFelled 51 = .ok (.iload_n 1, 1) := by decide +kernel
theorem dX0_mostFelled_52 : decode cX0_mostFelled 52 = .ok (.ireturn, 1) := by decide +kernel
theorem dX0_draw_0 : decode cX0_draw 0 = .ok (.aload_n 0, 1) := by decide +kernel
theorem dX0_draw_1 : decode cX0_draw 1 = .ok (.aload_n 0, 1) := by decide +kernel
theorem dX0_draw_2 : decode cX0_draw 2 = .ok (.getfield 33, 3) := by decide +kernel
theorem dX0_draw_5 : decode cX0_draw 5 = .ok (.ldc 91, 2) := by decide +kernel
theorem dX0_draw_7 : decode cX0_draw 7 = .ok (.imul, 1) := by decide +kernel
theorem dX0_draw_8 : decode cX0_draw 8 = .ok (.sipush 12345, 3) := by decide +kernel
theorem dX0_draw_11 : decode cX0_draw 11 = .ok (.iadd, 1) := by decide +kernel
theorem dX0_draw_12 : decode cX0_draw 12 = .ok (.putfield 33, 3) := by decide +kernel
theorem dX0_draw_15 : decode cX0_draw 15 = .ok (.aload_n 0, 1) := by decide +kernel
theorem dX0_draw_16 : decode cX0_draw 16 = .ok (.getfield 33, 3) := by decide +kernel
theorem dX0_draw_19 : decode cX0_draw 19 = .ok (.bipush 8, 2) := by decide +kernel
theorem dX0_draw_21 : decode cX0_draw 21 = .ok (.iushr, 1) := by decide +kernel
theorem dX0_draw_22 : decode cX0_draw 22 = .ok (.ireturn, 1) := by decide +kernel
theorem dX0_takeByLot_0 : decode cX0_takeByLot 0 = .ok (.aload_n 0, 1) := by decide +kernel
theorem dX0_takeByLot_1 : decode cX0_takeByLot 1 = .ok (.invokevirtual 92, 3) := by decide +kernel
theorem dX0_takeByLot_4 : decode cX0_takeByLot 4 = .ok (.bipush 6, 2) := by decide +kernel
theorem dX0_takeByLot_6 : decode cX0_takeByLot 6 = .ok (.irem, 1) := by decide +kernel
theorem dX0_takeByLot_7 : decode cX0_takeByLot 7 = .ok (.istore_n 1, 1) := by decide +kernel
theorem dX0_takeByLot_8 : decode cX0_takeByLot 8 = .ok (.aload_n 0, 1) := by decide +kernel
theorem dX0_takeByLot_9 : decode cX0_takeByLot 9 = .ok (.invokevirtual 92, 3) := by decide +kernel
theorem dX0_takeByLot_12 : decode cX0_takeByLot 12 = .ok (.bipush 100, 2) := by decide +kernel
theorem dX0_takeByLot_14 : decode cX0_takeByLot 14 = .ok (.irem, 1) := by decide +kernel
theorem dX0_takeByLot_15 : decode cX0_takeByLot 15 = .ok (.istore_n 2, 1) := by decide +kernel
theorem dX0_takeByLot_16 : decode cX0_takeByLot 16 = .ok (.aload_n 0, 1) := by decide +kernel
theorem dX0_takeByLot_17 : decode cX0_takeByLot 17 = .ok (.invokevirtual 92, 3) := by decide +kernel
theorem dX0_takeByLot_20 : decode cX0_takeByLot 20 = .ok (.bipush 100, 2) := by decide +kernel
theorem dX0_takeByLot_22 : decode cX0_takeByLot 22 = .ok (.irem, 1) := by decide +kernel
theorem dX0_takeByLot_23 : decode cX0_takeByLot 23 = .ok (.istore_n 3, 1) := by decide +kernel
theorem dX0_takeByLot_24 : decode cX0_takeByLot 24 = .ok (.aload_n 0, 1) := by decide +kernel
theorem dX0_takeByLot_25 : decode cX0_takeByLot 25 = .ok (.iload_n 1, 1) := by decide +kernel
theorem dX0_takeByLot_26 : decode cX0_takeByLot 26 = .ok (.iload_n 2, 1) := by decide +kernel
theorem dX0_takeByLot_27 : decode cX0_takeByLot 27 = .ok (.iload_n 3, 1) := by decide +kernel
theorem dX0_takeByLot_28 : decode cX0_takeByLot 28 = .ok (.aload_n 0, 1) := by decide +kernel
theorem dX0_takeByLot_29 : decode cX0_takeByLot 29 = .ok (.invokevirtual 92, 3) := by decide +kernel
theorem dX0_takeByLot_32 : decode cX0_takeByLot 32 = .ok (.bipush 8, 2) := by decide +kernel
theorem dX0_takeByLot_34 : decode cX0_takeByLot 34 = .ok (.irem, 1) := by decide +kernel
theorem dX0_takeByLot_35 : decode cX0_takeByLot 35 = .ok (.invokevirtual 95, 3) := by decide +kernel
theorem dX0_takeByLot_38 : decode cX0_takeByLot 38 = .ok (.pop, 1) := by decide +kernel
theorem dX0_takeByLot_39 : decode cX0_takeByLot 39 = .ok (.return_, 1) := by decide +kernel
theorem dX0_take_0 : decode cX0_take 0 = .ok (.aload_n 0, 1) := by decide +kernel
theorem dX0_take_1 : decode cX0_take 1 = .ok (.getfield 17, 3) := by decide +kernel
theorem dX0_take_4 : decode cX0_take 4 = .ok (.bipush 9, 2) := by decide +kernel
theorem dX0_take_6 : decode cX0_take 6 = .ok (.if_icmp .lt 6, 3) := by decide +kernel
theorem dX0_take_9 : decode cX0_take 9 = .ok (.ldc 99, 2) := by decide +kernel
theorem dX0_take_11 : decode cX0_take 11 = .ok (.ireturn, 1) := by decide +kernel
theorem dX0_take_12 : decode cX0_take 12 = .ok (.aload_n 0, 1) := by decide +kernel
theorem dX0_take_13 : decode cX0_take 13 = .ok (.getfield 11, 3) := by decide +kernel
theorem dX0_take_16 : decode cX0_take 16 = .ok (.aload_n 0, 1) := by decide +kernel
theorem dX0_take_17 : decode cX0_take 17 = .ok (.getfield 17, 3) := by decide +kernel
theorem dX0_take_20 : decode cX0_take 20 = .ok (.aaload, 1) := by decide +kernel
theorem dX0_take_21 : decode cX0_take 21 = .ok (.astore 5, 2) := by decide +kernel
theorem dX0_take_23 : decode cX0_take 23 = .ok (.aload 5, 2) := by decide +kernel
theorem dX0_take_25 : decode cX0_take 25 = .ok (.iload_n 1, 1) := by decide +kernel
theorem dX0_take_26 : decode cX0_take 26 = .ok (.putfield 100, 3) := by decide +kernel
theorem dX0_take_29 : decode cX0_take 29 = .ok (.aload 5, 2) := by decide +kernel
theorem dX0_take_31 : decode cX0_take 31 = .ok (.iload_n 2, 1) := by decide +kernel
theorem dX0_take_32 : decode cX0_take 32 = .ok (.putfield 85, 3) := by decide +kernel
theorem dX0_take_35 : decode cX0_take 35 = .ok (.aload 5, 2) := by decide +kernel
theorem dX0_take_37 : decode cX0_take 37 = .ok (.iload_n 3, 1) := by decide +kernel
theorem dX0_take_38 : decode cX0_take 38 = .ok (.putfield 103, 3) := by decide +kernel
theorem dX0_take_41 : decode cX0_take 41 = .ok (.aload 5, 2) := by decide +kernel
theorem dX0_take_43 : decode cX0_take 43 = .ok (.iload 4, 2) := by decide +kernel
theorem dX0_take_45 : decode cX0_take 45 = .ok (.putfield 106, 3) := by decide +kernel
theorem dX0_take_48 : decode cX0_take 48 = .ok (.aload 5, 2) := by decide +kernel
theorem dX0_take_50 : decode cX0_take 50 = .ok (.iconst 0, 1) := by decide +kernel
theorem dX0_take_51 : decode cX0_take 51 = .ok (.putfield 88, 3) := by decide +kernel
theorem dX0_take_54 : decode cX0_take 54 = .ok (.aload 5, 2) := by decide +kernel
theorem dX0_take_56 : decode cX0_take 56 = .ok (.iconst 0, 1) := by decide +kernel
theorem dX0_take_57 : decode cX0_take 57 = .ok (.putfield 71, 3) := by decide +kernel
theorem dX0_take_60 : decode cX0_take 60 = .ok (.aload_n 0, 1) := by decide +kernel
theorem dX0_take_61 : decode cX0_take 61 = .ok (.dup, 1) := by decide +kernel
theorem dX0_take_62 : decode cX0_take 62 = .ok (.getfield 17, 3) := by decide +kernel
theorem dX0_take_65 : decode cX0_take 65 = .ok (.iconst 1, 1) := by decide +kernel
theorem dX0_take_66 : decode cX0_take 66 = .ok (.iadd, 1) := by decide +kernel
theorem dX0_take_67 : decode cX0_take 67 = .ok (.putfield 17, 3) := by decide +kernel
theorem dX0_take_70 : decode cX0_take 70 = .ok (.aload_n 0, 1) := by decide +kernel
theorem dX0_take_71 : decode cX0_take 71 = .ok (.getfield 17, 3) := by decide +kernel
theorem dX0_take_74 : decode cX0_take 74 = .ok (.iconst 1, 1) := by decide +kernel
theorem dX0_take_75 : decode cX0_take 75 = .ok (.isub, 1) := by decide +kernel
theorem dX0_take_76 : decode cX0_take 76 = .ok (.ireturn, 1) := by decide +kernel
theorem dX0_takeText_0 : decode cX0_takeText 0 = .ok (.aload_n 0, 1) := by decide +kernel
theorem dX0_takeText_1 : decode cX0_takeText 1 = .ok (.getfield 42, 3) := by decide +kernel
theorem dX0_takeText_4 : decode cX0_takeText 4 = .ok (.bipush 14, 2) := by decide +kernel
theorem dX0_takeText_6 : decode cX0_takeText 6 = .ok (.if_icmp .ge 15, 3) := by decide +kernel
theorem dX0_takeText_9 : decode cX0_takeText 9 = .ok (.aload_n 1, 1) := by decide +kernel
theorem dX0_takeText_10 : decode cX0_takeText 10 = .ok (.getfield 109, 3) := by decide +kernel
theorem dX0_takeText_13 : decode cX0_takeText 13 = .ok (.iconst 0, 1) := by decide +kernel
theorem dX0_takeText_14 : decode cX0_takeText 14 = .ok (.iconst 2, 1) := by decide +kernel
theorem dX0_takeText_15 : decode cX0_takeText 15 = .ok (.invokestatic 112, 3) := by decide +kernel
theorem dX0_takeText_18 : decode cX0_takeText 18 = .ok (.ifCond .ne 6, 3) := by decide +kernel
theorem dX0_takeText_21 : decode cX0_takeText 21 = .ok (.ldc 99, 2) := by decide +kernel
theorem dX0_takeText_23 : decode cX0_takeText 23 = .ok (.ireturn, 1) := by decide +kernel
theorem dX0_takeText_24 : decode cX0_takeText 24 = .ok (.aload_n 0, 1) := by decide +kernel
theorem dX0_takeText_25 : decode cX0_takeText 25 = .ok (.getfield 38, 3) := by decide +kernel
theorem dX0_takeText_28 : decode cX0_takeText 28 = .ok (.aload_n 0, 1) := by decide +kernel
theorem dX0_takeText_29 : decode cX0_takeText 29 = .ok (.getfield 42, 3) := by decide +kernel
theorem dX0_takeText_32 : decode cX0_takeText 32 = .ok (.aload_n 1, 1) := by decide +kernel
theorem dX0_takeText_33 : decode cX0_takeText 33 = .ok (.aastore, 1) := by decide +kernel
theorem dX0_takeText_34 : decode cX0_takeText 34 = .ok (.aload_n 0, 1) := by decide +kernel
theorem dX0_takeText_35 : decode cX0_takeText 35 = .ok (.getfield 45, 3) := by decide +kernel
theorem dX0_takeText_38 : decode cX0_takeText 38 = .ok (.aload_n 1, 1) := by decide +kernel
theorem dX0_takeText_39 : decode cX0_takeText 39 = .ok (.getfield 109, 3) := by decide +kernel
theorem dX0_takeText_42 : decode cX0_takeText 42 = .ok (.aload_n 0, 1) := by decide +kernel
theorem dX0_takeText_43 : decode cX0_takeText 43 = .ok (.getfield 42, 3) := by decide +kernel
theorem dX0_takeText_46 : decode cX0_takeText 46 = .ok (.iastore, 1) := by decide +kernel
theorem dX0_takeText_47 : decode cX0_takeText 47 = .ok (.aload_n 0, 1) := by decide +kernel
theorem dX0_takeText_48 : decode cX0_takeText 48 = .ok (.dup, 1) := by decide +kernel
theorem dX0_takeText_49 : decode cX0_takeText 49 = .ok (.getfield 42, 3) := by decide +kernel
theorem dX0_takeText_52 : decode cX0_takeText 52 = .ok (.iconst 1, 1) := by decide +kernel
theorem dX0_takeText_53 : decode cX0_takeText 53 = .ok (.iadd, 1) := by decide +kernel
theorem dX0_takeText_54 : decode cX0_takeText 54 = .ok (.putfield 42, 3) := by decide +kernel
theorem dX0_takeText_57 : decode cX0_takeText 57 = .ok (.aload_n 0, 1) := by decide +kernel
theorem dX0_takeText_58 : decode cX0_takeText 58 = .ok (.getfield 42, 3) := by decide +kernel
theorem dX0_takeText_61 : decode cX0_takeText 61 = .ok (.iconst 1, 1) := by decide +kernel
theorem dX0_takeText_62 : decode cX0_takeText 62 = .ok (.isub, 1) := by decide +kernel
theorem dX0_takeText_63 : decode cX0_takeText 63 = .ok (.ireturn, 1) := by decide +kernel
theorem dX0_counted_0 : decode cX0_counted 0 = .ok (.aload_n 0, 1) := by decide +kernel
theorem dX0_counted_1 : decode cX0_counted 1 = .ok (.getfield 45, 3) := by decide +kernel
theorem dX0_counted_4 : decode cX0_counted 4 = .ok (.iload_n 1, 1) := by decide +kernel
theorem dX0_counted_5 : decode cX0_counted 5 = .ok (.iaload, 1) := by decide +kernel
theorem dX0_counted_6 : decode cX0_counted 6 = .ok (.istore_n 2, 1) := by decide +kernel
theorem dX0_counted_7 : decode cX0_counted 7 = .ok (.iload_n 2, 1) := by decide +kernel
theorem dX0_counted_8 : decode cX0_counted 8 = .ok (.iconst 0, 1) := by decide +kernel
theorem dX0_counted_9 : decode cX0_counted 9 = .ok (.aload_n 0, 1) := by decide +kernel
theorem dX0_counted_10 : decode cX0_counted 10 = .ok (.getfield 42, 3) := by decide +kernel
theorem dX0_counted_13 : decode cX0_counted 13 = .ok (.iconst 1, 1) := by decide +kernel
theorem dX0_counted_14 : decode cX0_counted 14 = .ok (.isub, 1) := by decide +kernel
theorem dX0_counted_15 : decode cX0_counted 15 = .ok (.invokestatic 112, 3) := by decide +kernel
theorem dX0_counted_18 : decode cX0_counted 18 = .ok (.ifCond .eq 12, 3) := by decide +kernel
theorem dX0_counted_21 : decode cX0_counted 21 = .ok (.aload_n 0, 1) := by decide +kernel
theorem dX0_counted_22 : decode cX0_counted 22 = .ok (.getfield 38, 3) := by decide +kernel
theorem dX0_counted_25 : decode cX0_counted 25 = .ok (.iload_n 2, 1) := by decide +kernel
theorem dX0_counted_26 : decode cX0_counted 26 = .ok (.aaload, 1) := by decide +kernel
theorem dX0_counted_27 : decode cX0_counted 27 = .ok (.goto 4, 3) := by decide +kernel
theorem dX0_counted_30 : decode cX0_counted 30 = .ok (.aconst_null, 1) := by decide +kernel
theorem dX0_counted_31 : decode cX0_counted 31 = .ok (.areturn, 1) := by decide +kernel
theorem dX0_plainBearing_0 : decode cX0_plainBearing 0 = .ok (.aload_n 0, 1) := by decide +kernel
theorem dX0_plainBearing_1 : decode cX0_plainBearing 1 = .ok (.getfield 11, 3) := by decide +kernel
theorem dX0_plainBearing_4 : decode cX0_plainBearing 4 = .ok (.iload_n 1, 1) := by decide +kernel
theorem dX0_plainBearing_5 : decode cX0_plainBearing 5 = .ok (.aaload, 1) := by decide +kernel
theorem dX0_plainBearing_6 : decode cX0_plainBearing 6 = .ok (.astore_n 3, 1) := by decide +kernel
theorem dX0_plainBearing_7 : decode cX0_plainBearing 7 = .ok (.aload_n 0, 1) := by decide +kernel
theorem dX0_plainBearing_8 : decode cX0_plainBearing 8 = .ok (.iconst 0, 1) := by decide +kernel
theorem dX0_plainBearing_9 : decode cX0_plainBearing 9 = .ok (.invokevirtual 116, 3) := by decide +kernel
theorem dX0_plainBearing_12 : decode cX0_plainBearing 12 = .ok (.astore 4, 2) := by decide +kernel
theorem dX0_plainBearing_14 : decode cX0_plainBearing 14 = .ok (.aload 4, 2) := by decide +kernel
theorem dX0_plainBearing_16 : decode cX0_plainBearing 16 = .ok (.ifnonnull 10, 3) := by decide +kernel
theorem dX0_plainBearing_19 : decode cX0_plainBearing 19 = .ok (.aload_n 3, 1) := by decide +kernel
theorem dX0_plainBearing_20 : decode cX0_plainBearing 20 = .ok (.getfield 85, 3) := by decide +kernel
theorem dX0_plainBearing_23 : decode cX0_plainBearing 23 = .ok (.goto 26, 3) := by decide +kernel
theorem dX0_plainBearing_26 : decode cX0_plainBearing 26 = .ok (.aload 4, 2) := by decide +kernel
theorem dX0_plainBearing_28 : decode cX0_plainBearing 28 = .ok (.aload_n 3, 1) := by decide +kernel
theorem dX0_plainBearing_29 : decode cX0_plainBearing 29 = .ok (.getfield 85, 3) := by decide +kernel
theorem dX0_plainBearing_32 : decode cX0_plainBearing 32 = .ok (.aload_n 3, 1) := by decide +kernel
theorem dX0_plainBearing_33 : decode cX0_plainBearing 33 = .ok (.getfield 103, 3) := by decide +kernel
theorem dX0_plainBearing_36 : decode cX0_plainBearing 36 = .ok (.aload_n 3, 1) := by decide +kernel
theorem dX0_plainBearing_37 : decode cX0_plainBearing 37 = .ok (.getfield 88, 3) := by decide +kernel
theorem dX0_plainBearing_40 : decode cX0_plainBearing 40 = .ok (.iload_n 2, 1) := by decide +kernel
theorem dX0_plainBearing_41 : decode cX0_plainBearing 41 = .ok (.invokevirtual 120, 3) := by decide +kernel
theorem dX0_plainBearing_44 : decode cX0_plainBearing 44 = .ok (.bipush 99, 2) := by decide +kernel
theorem dX0_plainBearing_46 : decode cX0_plainBearing 46 = .ok (.invokestatic 123, 3) := by decide +kernel
theorem dX0_plainBearing_49 : decode cX0_plainBearing 49 = .ok (.ireturn, 1) := by decide +kernel
theorem dX0_bearing_0 : decode cX0_bearing 0 = .ok (.aload_n 0, 1) := by decide +kernel
theorem dX0_bearing_1 : decode cX0_bearing 1 = .ok (.invokevirtual 127, 3) := by decide +kernel
theorem dX0_bearing_4 : decode cX0_bearing 4 = .ok (.istore_n 3, 1) := by decide +kernel
theorem dX0_bearing_5 : decode cX0_bearing 5 = .ok (.aload_n 0, 1) := by decide +kernel
theorem dX0_bearing_6 : decode cX0_bearing 6 = .ok (.getfield 11, 3) := by decide +kernel
theorem dX0_bearing_9 : decode cX0_bearing 9 = .ok (.iload_n 1, 1) := by decide +kernel
theorem dX0_bearing_10 : decode cX0_bearing 10 = .ok (.aaload, 1) := by decide +kernel
theorem dX0_bearing_11 : decode cX0_bearing 11 = .ok (.getfield 71, 3) := by decide +kernel
theorem dX0_bearing_14 : decode cX0_bearing 14 = .ok (.ifCond .eq 7, 3) := by decide +kernel
theorem dX0_bearing_17 : decode cX0_bearing 17 = .ok (.iload_n 3, 1) := by decide +kernel
theorem dX0_bearing_18 : decode cX0_bearing 18 = .ok (.goto 6, 3) := by decide +kernel
theorem dX0_bearing_21 : decode cX0_bearing 21 = .ok (.iload_n 3, 1) := by decide +kernel
theorem dX0_bearing_22 : decode cX0_bearing 22 = .ok (.iconst 1, 1) := by decide +kernel
theorem dX0_bearing_23 : decode cX0_bearing 23 = .ok (.isub, 1) := by decide +kernel
theorem dX0_bearing_24 : decode cX0_bearing 24 = .ok (.istore 4, 2) := by decide +kernel
theorem dX0_bearing_26 : decode cX0_bearing 26 = .ok (.aload_n 0, 1) := by decide +kernel
theorem dX0_bearing_27 : decode cX0_bearing 27 = .ok (.getfield 11, 3) := by decide +kernel
theorem dX0_bearing_30 : decode cX0_bearing 30 = .ok (.iload_n 1, 1) := by decide +kernel
theorem dX0_bearing_31 : decode cX0_bearing 31 = .ok (.aaload, 1) := by decide +kernel
theorem dX0_bearing_32 : decode cX0_bearing 32 = .ok (.aload_n 0, 1) := by decide +kernel
theorem dX0_bearing_33 : decode cX0_bearing 33 = .ok (.iload_n 1, 1) := by decide +kernel
theorem dX0_bearing_34 : decode cX0_bearing 34 = .ok (.iload_n 3, 1) := by decide +kernel
theorem dX0_bearing_35 : decode cX0_bearing 35 = .ok (.invokevirtual 130, 3) := by decide +kernel
theorem dX0_bearing_38 : decode cX0_bearing 38 = .ok (.iload_n 2, 1) := by decide +kernel
theorem dX0_bearing_39 : decode cX0_bearing 39 = .ok (.iload 4, 2) := by decide +kernel
theorem dX0_bearing_41 : decode cX0_bearing 41 = .ok (.invokevirtual 133, 3) := by decide +kernel
theorem dX0_bearing_44 : decode cX0_bearing 44 = .ok (.ireturn, 1) := by decide +kernel
theorem dX0_hit_0 : decode cX0_hit 0 = .ok (.iload 5, 2) := by decide +kernel
theorem dX0_hit_2 : decode cX0_hit 2 = .ok (.bipush 9, 2) := by decide +kernel
theorem dX0_hit_4 : decode cX0_hit 4 = .ok (.if_icmp .gt 21, 3) := by decide +kernel
theorem dX0_hit_7 : decode cX0_hit 7 = .ok (.aload_n 0, 1) := by decide +kernel
theorem dX0_hit_8 : decode cX0_hit 8 = .ok (.iload_n 1, 1) := by decide +kernel
theorem dX0_hit_9 : decode cX0_hit 9 = .ok (.invokevirtual 137, 3) := by decide +kernel
theorem dX0_hit_12 : decode cX0_hit 12 = .ok (.ifCond .eq 13, 3) := by decide +kernel
theorem dX0_hit_15 : decode cX0_hit 15 = .ok (.aload_n 0, 1) := by decide +kernel
theorem dX0_hit_16 : decode cX0_hit 16 = .ok (.iload_n 1, 1) := by decide +kernel
theorem dX0_hit_17 : decode cX0_hit 17 = .ok (.iload_n 2, 1) := by decide +kernel
theorem dX0_hit_18 : decode cX0_hit 18 = .ok (.invokevirtual 140, 3) := by decide +kernel
theorem dX0_hit_21 : decode cX0_hit 21 = .ok (.iload_n 3, 1) := by decide +kernel
theorem dX0_hit_22 : decode cX0_hit 22 = .ok (.if_icmp .lt 4, 3) := by decide +kernel
theorem dX0_hit_25 : decode cX0_hit 25 = .ok (.return_, 1) := by decide +kernel
theorem dX0_hit_26 : decode cX0_hit 26 = .ok (.aload_n 0, 1) := by decide +kernel
theorem dX0_hit_27 : decode cX0_hit 27 = .ok (.getfield 11, 3) := by decide +kernel
theorem dX0_hit_30 : decode cX0_hit 30 = .ok (.iload_n 1, 1) := by decide +kernel
theorem dX0_hit_31 : decode cX0_hit 31 = .ok (.aaload, 1) := by decide +kernel
theorem dX0_hit_32 : decode cX0_hit 32 = .ok (.astore 6, 2) := by decide +kernel
theorem dX0_hit_34 : decode cX0_hit 34 = .ok (.aload 6, 2) := by decide +kernel
theorem dX0_hit_36 : decode cX0_hit 36 = .ok (.iconst 1, 1) := by decide +kernel
theorem dX0_hit_37 : decode cX0_hit 37 = .ok (.putfield 71, 3) := by decide +kernel
theorem dX0_hit_40 : decode cX0_hit 40 = .ok (.aload 6, 2) := by decide +kernel
theorem dX0_hit_42 : decode cX0_hit 42 = .ok (.aload 6, 2) := by decide +kernel
theorem dX0_hit_44 : decode cX0_hit 44 = .ok (.getfield 88, 3) := by decide +kernel
theorem dX0_hit_47 : decode cX0_hit 47 = .ok (.iconst 1, 1) := by decide +kernel
theorem dX0_hit_48 : decode cX0_hit 48 = .ok (.iadd, 1) := by decide +kernel
theorem dX0_hit_49 : decode cX0_hit 49 = .ok (.sipush 9999, 3) := by decide +kernel
theorem dX0_hit_52 : decode cX0_hit 52 = .ok (.invokestatic 142, 3) := by decide +kernel
theorem dX0_hit_55 : decode cX0_hit 55 = .ok (.putfield 88, 3) := by decide +kernel
theorem dX0_hit_58 : decode cX0_hit 58 = .ok (.aload_n 0, 1) := by decide +kernel
theorem dX0_hit_59 : decode cX0_hit 59 = .ok (.dup, 1) := by decide +kernel
theorem dX0_hit_60 : decode cX0_hit 60 = .ok (.getfield 21, 3) := by decide +kernel
theorem dX0_hit_63 : decode cX0_hit 63 = .ok (.iconst 1, 1) := by decide +kernel
theorem dX0_hit_64 : decode cX0_hit 64 = .ok (.iadd, 1) := by decide +kernel
theorem dX0_hit_65 : decode cX0_hit 65 = .ok (.putfield 21, 3) := by decide +kernel
theorem dX0_hit_68 : decode cX0_hit 68 = .ok (.iload 4, 2) := by decide +kernel
theorem dX0_hit_70 : decode cX0_hit 70 = .ok (.iconst 1, 1) := by decide +kernel
theorem dX0_hit_71 : decode cX0_hit 71 = .ok (.if_icmp .eq 24, 3) := by decide +kernel
theorem dX0_hit_74 : decode cX0_hit 74 = .ok (.aload_n 0, 1) := by decide +kernel
theorem dX0_hit_75 : decode cX0_hit 75 = .ok (.getstatic 147, 3) := by decide +kernel
theorem dX0_hit_78 : decode cX0_hit 78 = .ok (.iload_n 1, 1) := by decide +kernel
theorem dX0_hit_79 : decode cX0_hit 79 = .ok (.iaload, 1) := by decide +kernel
theorem dX0_hit_80 : decode cX0_hit 80 = .ok (.iload_n 2, 1) := by decide +kernel
theorem dX0_hit_81 : decode cX0_hit 81 = .ok (.aload 6, 2) := by decide +kernel
theorem dX0_hit_83 : decode cX0_hit 83 = .ok (.invokevirtual 150, 3) := by decide +kernel
theorem dX0_hit_86 : decode cX0_hit 86 = .ok (.iload 4, 2) := by decide +kernel
theorem dX0_hit_88 : decode cX0_hit 88 = .ok (.iload 5, 2) := by decide +kernel
theorem dX0_hit_90 : decode cX0_hit 90 = .ok (.iconst 1, 1) := by decide +kernel
theorem dX0_hit_91 : decode cX0_hit 91 = .ok (.iadd, 1) := by decide +kernel
theorem dX0_hit_92 : decode cX0_hit 92 = .ok (.invokevirtual 153, 3) := by decide +kernel
theorem dX0_hit_95 : decode cX0_hit 95 = .ok (.iload 4, 2) := by decide +kernel
theorem dX0_hit_97 : decode cX0_hit 97 = .ok (.iconst (-1), 1) := by decide +kernel
theorem dX0_hit_98 : decode cX0_hit 98 = .ok (.if_icmp .eq 24, 3) := by decide +kernel
theorem dX0_hit_101 : decode cX0_hit 101 = .ok (.aload_n 0, 1) := by decide +kernel
theorem dX0_hit_102 : decode cX0_hit 102 = .ok (.getstatic 157, 3) := by decide +kernel
theorem dX0_hit_105 : decode cX0_hit 105 = .ok (.iload_n 1, 1) := by decide +kernel
theorem dX0_hit_106 : decode cX0_hit 106 = .ok (.iaload, 1) := by decide +kernel
theorem dX0_hit_107 : decode cX0_hit 107 = .ok (.iload_n 2, 1) := by decide +kernel
theorem dX0_hit_108 : decode cX0_hit 108 = .ok (.aload 6, 2) := by decide +kernel
theorem dX0_hit_110 : decode cX0_hit 110 = .ok (.invokevirtual 150, 3) := by decide +kernel
theorem dX0_hit_113 : decode cX0_hit 113 = .ok (.iload 4, 2) := by decide +kernel
theorem dX0_hit_115 : decode cX0_hit 115 = .ok (.iload 5, 2) := by decide +kernel
theorem dX0_hit_117 : decode cX0_hit 117 = .ok (.iconst 1, 1) := by decide +kernel
theorem dX0_hit_118 : decode cX0_hit 118 = .ok (.iadd, 1) := by decide +kernel
theorem dX0_hit_119 : decode cX0_hit 119 = .ok (.invokevirtual 153, 3) := by decide +kernel
theorem dX0_hit_122 : decode cX0_hit 122 = .ok (.return_, 1) := by decide +kernel
theorem dX0_setUp_0 : decode cX0_setUp 0 = .ok (.iconst 0, 1) := by decide +kernel
theorem dX0_setUp_1 : decode cX0_setUp 1 = .ok (.istore_n 1, 1) := by decide +kernel
theorem dX0_setUp_2 : decode cX0_setUp 2 = .ok (.iload_n 1, 1) := by decide +kernel
theorem dX0_setUp_3 : decode cX0_setUp 3 = .ok (.aload_n 0, 1) := by decide +kernel
theorem dX0_setUp_4 : decode cX0_setUp 4 = .ok (.getfield 17, 3) := by decide +kernel
theorem dX0_setUp_7 : decode cX0_setUp 7 = .ok (.if_icmp .ge 19, 3) := by decide +kernel
theorem dX0_setUp_10 : decode cX0_setUp 10 = .ok (.aload_n 0, 1) := by decide +kernel
theorem dX0_setUp_11 : decode cX0_setUp 11 = .ok (.getfield 11, 3) := by decide +kernel
theorem dX0_setUp_14 : decode cX0_setUp 14 = .ok (.iload_n 1, 1) := by decide +kernel
theorem dX0_setUp_15 : decode cX0_setUp 15 = .ok (.aaload, 1) := by decide +kernel
theorem dX0_setUp_16 : decode cX0_setUp 16 = .ok (.iconst 0, 1) := by decide +kernel
theorem dX0_setUp_17 : decode cX0_setUp 17 = .ok (.putfield 71, 3) := by decide +kernel
theorem dX0_setUp_20 : decode cX0_setUp 20 = .ok (.iinc 1 1, 3) := by decide +kernel
theorem dX0_setUp_23 : decode cX0_setUp 23 = .ok (.goto (-21), 3) := by decide +kernel
theorem dX0_setUp_26 : decode cX0_setUp 26 = .ok (.aload_n 0, 1) := by decide +kernel
theorem dX0_setUp_27 : decode cX0_setUp 27 = .ok (.iconst 0, 1) := by decide +kernel
theorem dX0_setUp_28 : decode cX0_setUp 28 = .ok (.putfield 27, 3) := by decide +kernel
theorem dX0_setUp_31 : decode cX0_setUp 31 = .ok (.aload_n 0, 1) := by decide +kernel
theorem dX0_setUp_32 : decode cX0_setUp 32 = .ok (.dup, 1) := by decide +kernel
theorem dX0_setUp_33 : decode cX0_setUp 33 = .ok (.getfield 24, 3) := by decide +kernel
theorem dX0_setUp_36 : decode cX0_setUp 36 = .ok (.iconst 1, 1) := by decide +kernel
theorem dX0_setUp_37 : decode cX0_setUp 37 = .ok (.iadd, 1) := by decide +kernel
theorem dX0_setUp_38 : decode cX0_setUp 38 = .ok (.putfield 24, 3) := by decide +kernel
theorem dX0_setUp_41 : decode cX0_setUp 41 = .ok (.return_, 1) := by decide +kernel
theorem dX0_goOn_0 : decode cX0_goOn 0 = .ok (.iconst 0, 1) := by decide +kernel
theorem dX0_goOn_1 : decode cX0_goOn 1 = .ok (.istore_n 2, 1) := by decide +kernel
theorem dX0_goOn_2 : decode cX0_goOn 2 = .ok (.iload_n 2, 1) := by decide +kernel
theorem dX0_goOn_3 : decode cX0_goOn 3 = .ok (.iload_n 1, 1) := by decide +kernel
theorem dX0_goOn_4 : decode cX0_goOn 4 = .ok (.if_icmp .ge 13, 3) := by decide +kernel
theorem dX0_goOn_7 : decode cX0_goOn 7 = .ok (.aload_n 0, 1) := by decide +kernel
theorem dX0_goOn_8 : decode cX0_goOn 8 = .ok (.invokevirtual 160, 3) := by decide +kernel
theorem dX0_goOn_11 : decode cX0_goOn 11 = .ok (.iinc 2 1, 3) := by decide +kernel
theorem dX0_goOn_14 : decode cX0_goOn 14 = .ok (.goto (-12), 3) := by decide +kernel
theorem dX0_goOn_17 : decode cX0_goOn 17 = .ok (.return_, 1) := by decide +kernel
theorem dX0_goOnce_0 : decode cX0_goOnce 0 = .ok (.aload_n 0, 1) := by decide +kernel
theorem dX0_goOnce_1 : decode cX0_goOnce 1 = .ok (.getfield 27, 3) := by decide +kernel
theorem dX0_goOnce_4 : decode cX0_goOnce 4 = .ok (.iconst 3, 1) := by decide +kernel
theorem dX0_goOnce_5 : decode cX0_goOnce 5 = .ok (.if_icmp .eq 10, 3) := by decide +kernel
theorem dX0_goOnce_8 : decode cX0_goOnce 8 = .ok (.aload_n 0, 1) := by decide +kernel
theorem dX0_goOnce_9 : decode cX0_goOnce 9 = .ok (.invokevirtual 127, 3) := by decide +kernel
theorem dX0_goOnce_12 : decode cX0_goOnce 12 = .ok (.ifCond .ne 7, 3) := by decide +kernel
theorem dX0_goOnce_15 : decode cX0_goOnce 15 = .ok (.aload_n 0, 1) := by decide +kernel
theorem dX0_goOnce_16 : decode cX0_goOnce 16 = .ok (.invokevirtual 163, 3) := by decide +kernel
theorem dX0_goOnce_19 : decode cX0_goOnce 19 = .ok (.aload_n 0, 1) := by decide +kernel
theorem dX0_goOnce_20 : decode cX0_goOnce 20 = .ok (.invokevirtual 92, 3) := by decide +kernel
theorem dX0_goOnce_23 : decode cX0_goOnce 23 = .ok (.bipush 8, 2) := by decide +kernel
theorem dX0_goOnce_25 : decode cX0_goOnce 25 = .ok (.irem, 1) := by decide +kernel
theorem dX0_goOnce_26 : decode cX0_goOnce 26 = .ok (.istore_n 1, 1) := by decide +kernel
theorem dX0_goOnce_27 : decode cX0_goOnce 27 = .ok (.aload_n 0, 1) := by decide +kernel
theorem dX0_goOnce_28 : decode cX0_goOnce 28 = .ok (.invokevirtual 92, 3) := by decide +kernel
theorem dX0_goOnce_31 : decode cX0_goOnce 31 = .ok (.bipush 100, 2) := by decide +kernel
theorem dX0_goOnce_33 : decode cX0_goOnce 33 = .ok (.irem, 1) := by decide +kernel
theorem dX0_goOnce_34 : decode cX0_goOnce 34 = .ok (.istore_n 2, 1) := by decide +kernel
theorem dX0_goOnce_35 : decode cX0_goOnce 35 = .ok (.aload_n 0, 1) := by decide +kernel
theorem dX0_goOnce_36 : decode cX0_goOnce 36 = .ok (.invokevirtual 92, 3) := by decide +kernel
theorem dX0_goOnce_39 : decode cX0_goOnce 39 = .ok (.iconst 3, 1) := by decide +kernel
theorem dX0_goOnce_40 : decode cX0_goOnce 40 = .ok (.irem, 1) := by decide +kernel
theorem dX0_goOnce_41 : decode cX0_goOnce 41 = .ok (.iconst 1, 1) := by decide +kernel
theorem dX0_goOnce_42 : decode cX0_goOnce 42 = .ok (.isub, 1) := by decide +kernel
theorem dX0_goOnce_43 : decode cX0_goOnce 43 = .ok (.istore_n 3, 1) := by decide +kernel
theorem dX0_goOnce_44 : decode cX0_goOnce 44 = .ok (.aload_n 0, 1) := by decide +kernel
theorem dX0_goOnce_45 : decode cX0_goOnce 45 = .ok (.invokevirtual 92, 3) := by decide +kernel
theorem dX0_goOnce_48 : decode cX0_goOnce 48 = .ok (.istore 4, 2) := by decide +kernel
theorem dX0_goOnce_50 : decode cX0_goOnce 50 = .ok (.aload_n 0, 1) := by decide +kernel
theorem dX0_goOnce_51 : decode cX0_goOnce 51 = .ok (.getfield 17, 3) := by decide +kernel
theorem dX0_goOnce_54 : decode cX0_goOnce 54 = .ok (.ifCond .le 22, 3) := by decide +kernel
theorem dX0_goOnce_57 : decode cX0_goOnce 57 = .ok (.aload_n 0, 1) := by decide +kernel
theorem dX0_goOnce_58 : decode cX0_goOnce 58 = .ok (.aload_n 0, 1) := by decide +kernel
theorem dX0_goOnce_59 : decode cX0_goOnce 59 = .ok (.iload 4, 2) := by decide +kernel
theorem dX0_goOnce_61 : decode cX0_goOnce 61 = .ok (.aload_n 0, 1) := by decide +kernel
theorem dX0_goOnce_62 : decode cX0_goOnce 62 = .ok (.getfield 17, 3) := by decide +kernel
theorem dX0_goOnce_65 : decode cX0_goOnce 65 = .ok (.irem, 1) := by decide +kernel
theorem dX0_goOnce_66 : decode cX0_goOnce 66 = .ok (.invokevirtual 166, 3) := by decide +kernel
theorem dX0_goOnce_69 : decode cX0_goOnce 69 = .ok (.iload_n 1, 1) := by decide +kernel
theorem dX0_goOnce_70 : decode cX0_goOnce 70 = .ok (.iload_n 2, 1) := by decide +kernel
theorem dX0_goOnce_71 : decode cX0_goOnce 71 = .ok (.iload_n 3, 1) := by decide +kernel
theorem dX0_goOnce_72 : decode cX0_goOnce 72 = .ok (.iconst 0, 1) := by decide +kernel
theorem dX0_goOnce_73 : decode cX0_goOnce 73 = .ok (.invokevirtual 153, 3) := by decide +kernel
theorem dX0_goOnce_76 : decode cX0_goOnce 76 = .ok (.aload_n 0, 1) := by decide +kernel
theorem dX0_goOnce_77 : decode cX0_goOnce 77 = .ok (.invokevirtual 169, 3) := by decide +kernel
theorem dX0_goOnce_80 : decode cX0_goOnce 80 = .ok (.aload_n 0, 1) := by decide +kernel
theorem dX0_goOnce_81 : decode cX0_goOnce 81 = .ok (.dup, 1) := by decide +kernel
theorem dX0_goOnce_82 : decode cX0_goOnce 82 = .ok (.getfield 27, 3) := by decide +kernel
theorem dX0_goOnce_85 : decode cX0_goOnce 85 = .ok (.iconst 1, 1) := by decide +kernel
theorem dX0_goOnce_86 : decode cX0_goOnce 86 = .ok (.iadd, 1) := by decide +kernel
theorem dX0_goOnce_87 : decode cX0_goOnce 87 = .ok (.putfield 27, 3) := by decide +kernel
theorem dX0_goOnce_90 : decode cX0_goOnce 90 = .ok (.aload_n 0, 1) := by decide +kernel
theorem dX0_goOnce_91 : decode cX0_goOnce 91 = .ok (.dup, 1) := by decide +kernel
theorem dX0_goOnce_92 : decode cX0_goOnce 92 = .ok (.getfield 30, 3) := by decide +kernel
theorem dX0_goOnce_95 : decode cX0_goOnce 95 = .ok (.iconst 1, 1) := by decide +kernel
theorem dX0_goOnce_96 : decode cX0_goOnce 96 = .ok (.iadd, 1) := by decide +kernel
theorem dX0_goOnce_97 : decode cX0_goOnce 97 = .ok (.putfield 30, 3) := by decide +kernel
theorem dX0_goOnce_100 : decode cX0_goOnce 100 = .ok (.return_, 1) := by decide +kernel
theorem dX0_firstStandingFrom_0 : decode cX0_firstStandingFrom 0 = .ok (.iconst 0, 1) := by decide +kernel
theorem dX0_firstStandingFrom_1 : decode cX0_firstStandingFrom 1 = .ok (.istore_n 2, 1) := by decide +kernel
theorem dX0_firstStandingFrom_2 : decode cX0_firstStandingFrom 2 = .ok (.iload_n 2, 1) := by decide +kernel
theorem dX0_firstStandingFrom_3 : decode cX0_firstStandingFrom 3 = .ok (.aload_n 0, 1) := by decide +kernel
theorem dX0_firstStandingFrom_4 : decode cX0_firstStandingFrom 4 = .ok (.getfield 17, 3) := by decide +kernel
theorem dX0_firstStandingFrom_7 : decode cX0_firstStandingFrom 7 = .ok (.if_icmp .ge 28, 3) := by decide +kernel
theorem dX0_firstStandingFrom_10 : decode cX0_firstStandingFrom 10 = .ok (.iload_n 1, 1) := by decide +kernel
theorem dX0_firstStandingFrom_11 : decode cX0_firstStandingFrom 11 = .ok (.iload_n 2, 1) := by decide +kernel
theorem dX0_firstStandingFrom_12 : decode cX0_firstStandingFrom 12 = .ok (.iadd, 1) := by decide +kernel
theorem dX0_firstStandingFrom_13 : decode cX0_firstStandingFrom 13 = .ok (.aload_n 0, 1) := by decide +kernel
theorem dX0_firstStandingFrom_14 : decode cX0_firstStandingFrom 14 = .ok (.getfield 17, 3) := by decide +kernel
theorem dX0_firstStandingFrom_17 : decode cX0_firstStandingFrom 17 = .ok (.irem, 1) := by decide +kernel
theorem dX0_firstStandingFrom_18 : decode cX0_firstStandingFrom 18 = .ok (.istore_n 3, 1) := by decide +kernel
theorem dX0_firstStandingFrom_19 : decode cX0_firstStandingFrom 19 = .ok (.aload_n 0, 1) := by decide +kernel
theorem dX0_firstStandingFrom_20 : decode cX0_firstStandingFrom 20 = .ok (.iload_n 3, 1) := by decide +kernel
theorem dX0_firstStandingFrom_21 : decode cX0_firstStandingFrom 21 = .ok (.invokevirtual 137, 3) := by decide +kernel
theorem dX0_firstStandingFrom_24 : decode cX0_firstStandingFrom 24 = .ok (.ifCond .eq 5, 3) := by decide +kernel
theorem dX0_firstStandingFrom_27 : decode cX0_firstStandingFrom 27 = .ok (.iload_n 3, 1) := by decide +kernel
theorem dX0_firstStandingFrom_28 : decode cX0_firstStandingFrom 28 = .ok (.ireturn, 1) := by decide +kernel
theorem dX0_firstStandingFrom_29 : decode cX0_firstStandingFrom 29 = .ok (.iinc 2 1, 3) := by decide +kernel
theorem dX0_firstStandingFrom_32 : decode cX0_firstStandingFrom 32 = .ok (.goto (-30), 3) := by decide +kernel
theorem dX0_firstStandingFrom_35 : decode cX0_firstStandingFrom 35 = .ok (.iconst (-1), 1) := by decide +kernel
theorem dX0_firstStandingFrom_36 : decode cX0_firstStandingFrom 36 = .ok (.ireturn, 1) := by decide +kernel
theorem dX0_moveNerves_0 : decode cX0_moveNerves 0 = .ok (.iconst 0, 1) := by decide +kernel
theorem dX0_moveNerves_1 : decode cX0_moveNerves 1 = .ok (.istore_n 1, 1) := by decide +kernel
theorem dX0_moveNerves_2 : decode cX0_moveNerves 2 = .ok (.iload_n 1, 1) := by decide +kernel
theorem dX0_moveNerves_3 : decode cX0_moveNerves 3 = .ok (.aload_n 0, 1) := by decide +kernel
theorem dX0_moveNerves_4 : decode cX0_moveNerves 4 = .ok (.getfield 17, 3) := by decide +kernel
theorem dX0_moveNerves_7 : decode cX0_moveNerves 7 = .ok (.if_icmp .ge 47, 3) := by decide +kernel
theorem dX0_moveNerves_10 : decode cX0_moveNerves 10 = .ok (.aload_n 0, 1) := by decide +kernel
theorem dX0_moveNerves_11 : decode cX0_moveNerves 11 = .ok (.getfield 11, 3) := by decide +kernel
theorem dX0_moveNerves_14 : decode cX0_moveNerves 14 = .ok (.iload_n 1, 1) := by decide +kernel
theorem dX0_moveNerves_15 : decode cX0_moveNerves 15 = .ok (.aaload, 1) := by decide +kernel
theorem dX0_moveNerves_16 : decode cX0_moveNerves 16 = .ok (.astore_n 2, 1) := by decide +kernel
theorem dX0_moveNerves_17 : decode cX0_moveNerves 17 = .ok (.aload_n 2, 1) := by decide +kernel
theorem dX0_moveNerves_18 : decode cX0_moveNerves 18 = .ok (.aload_n 2, 1) := by decide +kernel
theorem dX0_moveNerves_19 : decode cX0_moveNerves 19 = .ok (.getfield 71, 3) := by decide +kernel
theorem dX0_moveNerves_22 : decode cX0_moveNerves 22 = .ok (.ifCond .eq 12, 3) := by decide +kernel
theorem dX0_moveNerves_25 : decode cX0_moveNerves 25 = .ok (.aload_n 2, 1) := by decide +kernel
theorem dX0_moveNerves_26 : decode cX0_moveNerves 26 = .ok (.getfield 85, 3) := by decide +kernel
theorem dX0_moveNerves_29 : decode cX0_moveNerves 29 = .ok (.iconst 1, 1) := by decide +kernel
theorem dX0_moveNerves_30 : decode cX0_moveNerves 30 = .ok (.isub, 1) := by decide +kernel
theorem dX0_moveNerves_31 : decode cX0_moveNerves 31 = .ok (.goto 9, 3) := by decide +kernel
theorem dX0_moveNerves_34 : decode cX0_moveNerves 34 = .ok (.aload_n 2, 1) := by decide +kernel
theorem dX0_moveNerves_35 : decode cX0_moveNerves 35 = .ok (.getfield 85, 3) := by decide +kernel
theorem dX0_moveNerves_38 : decode cX0_moveNerves 38 = .ok (.iconst 1, 1) := by decide +kernel
theorem dX0_moveNerves_39 : decode cX0_moveNerves 39 = .ok (.iadd, 1) := by decide +kernel
theorem dX0_moveNerves_40 : decode cX0_moveNerves 40 = .ok (.bipush 99, 2) := by decide +kernel
theorem dX0_moveNerves_42 : decode cX0_moveNerves 42 = .ok (.invokestatic 123, 3) := by decide +kernel
theorem dX0_moveNerves_45 : decode cX0_moveNerves 45 = .ok (.putfield 85, 3) := by decide +kernel
theorem dX0_moveNerves_48 : decode cX0_moveNerves 48 = .ok (.iinc 1 1, 3) := by decide +kernel
theorem dX0_moveNerves_51 : decode cX0_moveNerves 51 = .ok (.goto (-49), 3) := by decide +kernel
theorem dX0_moveNerves_54 : decode cX0_moveNerves 54 = .ok (.return_, 1) := by decide +kernel
theorem dX1_init_0 : decode cX1_init 0 = .ok (.aload_n 0, 1) := by decide +kernel
theorem dX1_init_1 : decode cX1_init 1 = .ok (.invokespecial 3, 3) := by decide +kernel
theorem dX1_init_4 : decode cX1_init 4 = .ok (.aload_n 0, 1) := by decide +kernel
theorem dX1_init_5 : decode cX1_init 5 = .ok (.iconst 0, 1) := by decide +kernel
theorem dX1_init_6 : decode cX1_init 6 = .ok (.putfield 9, 3) := by decide +kernel
theorem dX1_init_9 : decode cX1_init 9 = .ok (.aload_n 0, 1) := by decide +kernel
theorem dX1_init_10 : decode cX1_init 10 = .ok (.iconst 0, 1) := by decide +kernel
theorem dX1_init_11 : decode cX1_init 11 = .ok (.putfield 15, 3) := by decide +kernel
theorem dX1_init_14 : decode cX1_init 14 = .ok (.aload_n 0, 1) := by decide +kernel
theorem dX1_init_15 : decode cX1_init 15 = .ok (.iconst 0, 1) := by decide +kernel
theorem dX1_init_16 : decode cX1_init 16 = .ok (.putfield 18, 3) := by decide +kernel
theorem dX1_init_19 : decode cX1_init 19 = .ok (.aload_n 0, 1) := by decide +kernel
theorem dX1_init_20 : decode cX1_init 20 = .ok (.iconst 0, 1) := by decide +kernel
theorem dX1_init_21 : decode cX1_init 21 = .ok (.putfield 21, 3) := by decide +kernel
theorem dX1_init_24 : decode cX1_init 24 = .ok (.aload_n 0, 1) := by decide +kernel
theorem dX1_init_25 : decode cX1_init 25 = .ok (.iconst 0, 1) := by decide +kernel
theorem dX1_init_26 : decode cX1_init 26 = .ok (.putfield 24, 3) := by decide +kernel
theorem dX1_init_29 : decode cX1_init 29 = .ok (.aload_n 0, 1) := by decide +kernel
theorem dX1_init_30 : decode cX1_init 30 = .ok (.iconst 0, 1) := by decide +kernel
theorem dX1_init_31 : decode cX1_init 31 = .ok (.putfield 27, 3) := by decide +kernel
theorem dX1_init_34 : decode cX1_init 34 = .ok (.return_, 1) := by decide +kernel
theorem dX1_becomeAs_0 : decode cX1_becomeAs 0 = .ok (.aload_n 0, 1) := by decide +kernel
theorem dX1_becomeAs_1 : decode cX1_becomeAs 1 = .ok (.aload_n 1, 1) := by decide +kernel
theorem dX1_becomeAs_2 : decode cX1_becomeAs 2 = .ok (.getfield 9, 3) := by decide +kernel
theorem dX1_becomeAs_5 : decode cX1_becomeAs 5 = .ok (.putfield 9, 3) := by decide +kernel
theorem dX1_becomeAs_8 : decode cX1_becomeAs 8 = .ok (.aload_n 0, 1) := by decide +kernel
theorem dX1_becomeAs_9 : decode cX1_becomeAs 9 = .ok (.aload_n 1, 1) := by decide +kernel
theorem dX1_becomeAs_10 : decode cX1_becomeAs 10 = .ok (.getfield 15, 3) := by decide +kernel
theorem dX1_becomeAs_13 : decode cX1_becomeAs 13 = .ok (.putfield 15, 3) := by decide +kernel
theorem dX1_becomeAs_16 : decode cX1_becomeAs 16 = .ok (.aload_n 0, 1) := by decide +kernel
theorem dX1_becomeAs_17 : decode cX1_becomeAs 17 = .ok (.aload_n 1, 1) := by decide +kernel
theorem dX1_becomeAs_18 : decode cX1_becomeAs 18 = .ok (.getfield 18, 3) := by decide +kernel
theorem dX1_becomeAs_21 : decode cX1_becomeAs 21 = .ok (.putfield 18, 3) := by decide +kernel
theorem dX1_becomeAs_24 : decode cX1_becomeAs 24 = .ok (.aload_n 0, 1) := by decide +kernel
theorem dX1_becomeAs_25 : decode cX1_becomeAs 25 = .ok (.aload_n 1, 1) := by decide +kernel
theorem dX1_becomeAs_26 : decode cX1_becomeAs 26 = .ok (.getfield 21, 3) := by decide +kernel
theorem dX1_becomeAs_29 : decode cX1_becomeAs 29 = .ok (.putfield 21, 3) := by decide +kernel
theorem dX1_becomeAs_32 : decode cX1_becomeAs 32 = .ok (.aload_n 0, 1) := by decide +kernel
theorem dX1_becomeAs_33 : decode cX1_becomeAs 33 = .ok (.aload_n 1, 1) := by decide +kernel
theorem dX1_becomeAs_34 : decode cX1_becomeAs 34 = .ok (.getfield 24, 3) := by decide +kernel
theorem dX1_becomeAs_37 : decode cX1_becomeAs 37 = .ok (.putfield 24, 3) := by decide +kernel
theorem dX1_becomeAs_40 : decode cX1_becomeAs 40 = .ok (.aload_n 0, 1) := by decide +kernel
theorem dX1_becomeAs_41 : decode cX1_becomeAs 41 = .ok (.aload_n 1, 1) := by decide +kernel
theorem dX1_becomeAs_42 : decode cX1_becomeAs 42 = .ok (.getfield 27, 3) := by decide +kernel
theorem dX1_becomeAs_45 : decode cX1_becomeAs 45 = .ok (.putfield 27, 3) := by decide +kernel
theorem dX1_becomeAs_48 : decode cX1_becomeAs 48 = .ok (.return_, 1) := by decide +kernel
theorem dX1_isOf_0 : decode cX1_isOf 0 = .ok (.aload_n 0, 1) := by decide +kernel
theorem dX1_isOf_1 : decode cX1_isOf 1 = .ok (.getfield 9, 3) := by decide +kernel
theorem dX1_isOf_4 : decode cX1_isOf 4 = .ok (.istore_n 2, 1) := by decide +kernel
theorem dX1_isOf_5 : decode cX1_isOf 5 = .ok (.iconst 0, 1) := by decide +kernel
theorem dX1_isOf_6 : decode cX1_isOf 6 = .ok (.istore_n 3, 1) := by decide +kernel
theorem dX1_isOf_7 : decode cX1_isOf 7 = .ok (.iload_n 3, 1) := by decide +kernel
theorem dX1_isOf_8 : decode cX1_isOf 8 = .ok (.bipush 6, 2) := by decide +kernel
theorem dX1_isOf_10 : decode cX1_isOf 10 = .ok (.if_icmp .ge 31, 3) := by decide +kernel
theorem dX1_isOf_13 : decode cX1_isOf 13 = .ok (.iload_n 2, 1) := by decide +kernel
theorem dX1_isOf_14 : decode cX1_isOf 14 = .ok (.iconst 0, 1) := by decide +kernel
theorem dX1_isOf_15 : decode cX1_isOf 15 = .ok (.iconst 5, 1) := by decide +kernel
theorem dX1_isOf_16 : decode cX1_isOf 16 = .ok (.invokestatic 31, 3) := by decide +kernel
theorem dX1_isOf_19 : decode cX1_isOf 19 = .ok (.ifCond .eq 22, 3) := by decide +kernel
theorem dX1_isOf_22 : decode cX1_isOf 22 = .ok (.iload_n 2, 1) := by decide +kernel
theorem dX1_isOf_23 : decode cX1_isOf 23 = .ok (.iload_n 1, 1) := by decide +kernel
theorem dX1_isOf_24 : decode cX1_isOf 24 = .ok (.if_icmp .ne 5, 3) := by decide +kernel
theorem dX1_isOf_27 : decode cX1_isOf 27 = .ok (.iconst 1, 1) := by decide +kernel
theorem dX1_isOf_28 : decode cX1_isOf 28 = .ok (.ireturn, 1) := by decide +kernel
theorem dX1_isOf_29 : decode cX1_isOf 29 = .ok (.getstatic 35, 3) := by decide +kernel
theorem dX1_isOf_32 : decode cX1_isOf 32 = .ok (.iload_n 2, 1) := by decide +kernel
theorem dX1_isOf_33 : decode cX1_isOf 33 = .ok (.iaload, 1) := by decide +kernel
theorem dX1_isOf_34 : decode cX1_isOf 34 = .ok (.istore_n 2, 1) := by decide +kernel
theorem dX1_isOf_35 : decode cX1_isOf 35 = .ok (.iinc 3 1, 3) := by decide +kernel
theorem dX1_isOf_38 : decode cX1_isOf 38 = .ok (.goto (-31), 3) := by decide +kernel
theorem dX1_isOf_41 : decode cX1_isOf 41 = .ok (.iconst 0, 1) := by decide +kernel
theorem dX1_isOf_42 : decode cX1_isOf 42 = .ok (.ireturn, 1) := by decide +kernel
theorem dX1_bearing_0 : decode cX1_bearing 0 = .ok (.iload_n 2, 1) := by decide +kernel
theorem dX1_bearing_1 : decode cX1_bearing 1 = .ok (.aload_n 0, 1) := by decide +kernel
theorem dX1_bearing_2 : decode cX1_bearing 2 = .ok (.getfield 21, 3) := by decide +kernel
theorem dX1_bearing_5 : decode cX1_bearing 5 = .ok (.if_icmp .ne 14, 3) := by decide +kernel
theorem dX1_bearing_8 : decode cX1_bearing 8 = .ok (.iconst 0, 1) := by decide +kernel
theorem dX1_bearing_9 : decode cX1_bearing 9 = .ok (.iload_n 1, 1) := by decide +kernel
theorem dX1_bearing_10 : decode cX1_bearing 10 = .ok (.bipush 20, 2) := by decide +kernel
theorem dX1_bearing_12 : decode cX1_bearing 12 = .ok (.isub, 1) := by decide +kernel
theorem dX1_bearing_13 : decode cX1_bearing 13 = .ok (.invokestatic 39, 3) := by decide +kernel
theorem dX1_bearing_16 : decode cX1_bearing 16 = .ok (.goto 4, 3) := by decide +kernel
theorem dX1_bearing_19 : decode cX1_bearing 19 = .ok (.iload_n 1, 1) := by decide +kernel
theorem dX1_bearing_20 : decode cX1_bearing 20 = .ok (.istore 4, 2) := by decide +kernel
theorem dX1_bearing_22 : decode cX1_bearing 22 = .ok (.iload 4, 2) := by decide +kernel
theorem dX1_bearing_24 : decode cX1_bearing 24 = .ok (.aload_n 0, 1) := by decide +kernel
theorem dX1_bearing_25 : decode cX1_bearing 25 = .ok (.getfield 18, 3) := by decide +kernel
theorem dX1_bearing_28 : decode cX1_bearing 28 = .ok (.bipush 10, 2) := by decide +kernel
theorem dX1_bearing_30 : decode cX1_bearing 30 = .ok (.idiv, 1) := by decide +kernel
theorem dX1_bearing_31 : decode cX1_bearing 31 = .ok (.iadd, 1) := by decide +kernel
theorem dX1_bearing_32 : decode cX1_bearing 32 = .ok (.istore 5, 2) := by decide +kernel
theorem dX1_bearing_34 : decode cX1_bearing 34 = .ok (.iload_n 2, 1) := by decide +kernel
theorem dX1_bearing_35 : decode cX1_bearing 35 = .ok (.ifCond .ne 8, 3) := by decide +kernel
theorem dX1_bearing_38 : decode cX1_bearing 38 = .ok (.bipush 99, 2) := by decide +kernel
theorem dX1_bearing_40 : decode cX1_bearing 40 = .ok (.goto 5, 3) := by decide +kernel
theorem dX1_bearing_43 : decode cX1_bearing 43 = .ok (.iload 4, 2) := by decide +kernel
theorem dX1_bearing_45 : decode cX1_bearing 45 = .ok (.istore 6, 2) := by decide +kernel
theorem dX1_bearing_47 : decode cX1_bearing 47 = .ok (.aload_n 0, 1) := by decide +kernel
theorem dX1_bearing_48 : decode cX1_bearing 48 = .ok (.getfield 9, 3) := by decide +kernel
theorem dX1_bearing_51 : decode cX1_bearing 51 = .ok (.tableswitch 59 1 5 #[33, 43, 36, 46, 56], 33) := by decide +kernel
theorem dX1_bearing_84 : decode cX1_bearing 84 = .ok (.iload 5, 2) := by decide +kernel
theorem dX1_bearing_86 : decode cX1_bearing 86 = .ok (.ireturn, 1) := by decide +kernel
theorem dX1_bearing_87 : decode cX1_bearing 87 = .ok (.iload 5, 2) := by decide +kernel
theorem dX1_bearing_89 : decode cX1_bearing 89 = .ok (.iconst 5, 1) := by decide +kernel
theorem dX1_bearing_90 : decode cX1_bearing 90 = .ok (.iload_n 3, 1) := by decide +kernel
theorem dX1_bearing_91 : decode cX1_bearing 91 = .ok (.imul, 1) := by decide +kernel
theorem dX1_bearing_92 : decode cX1_bearing 92 = .ok (.iadd, 1) := by decide +kernel
theorem dX1_bearing_93 : decode cX1_bearing 93 = .ok (.ireturn, 1) := by decide +kernel
theorem dX1_bearing_94 : decode cX1_bearing 94 = .ok (.iload 6, 2) := by decide +kernel
theorem dX1_bearing_96 : decode cX1_bearing 96 = .ok (.ireturn, 1) := by decide +kernel
theorem dX1_bearing_97 : decode cX1_bearing 97 = .ok (.iconst 0, 1) := by decide +kernel
theorem dX1_bearing_98 : decode cX1_bearing 98 = .ok (.iload 6, 2) := by decide +kernel
theorem dX1_bearing_100 : decode cX1_bearing 100 = .ok (.bipush 10, 2) := by decide +kernel
theorem dX1_bearing_102 : decode cX1_bearing 102 = .ok (.isub, 1) := by decide +kernel
theorem dX1_bearing_103 : decode cX1_bearing 103 = .ok (.invokestatic 39, 3) := by decide +kernel
theorem dX1_bearing_106 : decode cX1_bearing 106 = .ok (.ireturn, 1) := by decide +kernel
theorem dX1_bearing_107 : decode cX1_bearing 107 = .ok (.bipush 99, 2) := by decide +kernel
theorem dX1_bearing_109 : decode cX1_bearing 109 = .ok (.ireturn, 1) := by decide +kernel
theorem dX1_bearing_110 : decode cX1_bearing 110 = .ok (.iload 4, 2) := by decide +kernel
theorem dX1_bearing_112 : decode cX1_bearing 112 = .ok (.ireturn, 1) := by decide +kernel
theorem dX1_pushing_0 : decode cX1_pushing 0 = .ok (.aload_n 0, 1) := by decide +kernel
theorem dX1_pushing_1 : decode cX1_pushing 1 = .ok (.getfield 9, 3) := by decide +kernel
theorem dX1_pushing_4 : decode cX1_pushing 4 = .ok (.tableswitch 74 1 5 #[36, 54, 44, 62, 72], 36) := by decide +kernel
theorem dX1_pushing_40 : decode cX1_pushing 40 = .ok (.aload_n 0, 1) := by decide +kernel
theorem dX1_pushing_41 : decode cX1_pushing 41 = .ok (.getfield 18, 3) := by decide +kernel
theorem dX1_pushing_44 : decode cX1_pushing 44 = .ok (.bipush 15, 2) := by decide +kernel
theorem dX1_pushing_46 : decode cX1_pushing 46 = .ok (.iadd, 1) := by decide +kernel
theorem dX1_pushing_47 : decode cX1_pushing 47 = .ok (.ireturn, 1) := by decide +kernel
theorem dX1_pushing_48 : decode cX1_pushing 48 = .ok (.aload_n 0, 1) := by decide +kernel
theorem dX1_pushing_49 : decode cX1_pushing 49 = .ok (.getfield 18, 3) := by decide +kernel
theorem dX1_pushing_52 : decode cX1_pushing 52 = .ok (.bipush 15, 2) := by decide +kernel
theorem dX1_pushing_54 : decode cX1_pushing 54 = .ok (.iadd, 1) := by decide +kernel
theorem dX1_pushing_55 : decode cX1_pushing 55 = .ok (.iconst 2, 1) := by decide +kernel
theorem dX1_pushing_56 : decode cX1_pushing 56 = .ok (.idiv, 1) := by decide +kernel
theorem dX1_pushing_57 : decode cX1_pushing 57 = .ok (.ireturn, 1) := by decide +kernel
theorem dX1_pushing_58 : decode cX1_pushing 58 = .ok (.aload_n 0, 1) := by decide +kernel
theorem dX1_pushing_59 : decode cX1_pushing 59 = .ok (.getfield 18, 3) := by decide +kernel
theorem dX1_pushing_62 : decode cX1_pushing 62 = .ok (.bipush 10, 2) := by decide +kernel
theorem dX1_pushing_64 : decode cX1_pushing 64 = .ok (.isub, 1) := by decide +kernel
theorem dX1_pushing_65 : decode cX1_pushing 65 = .ok (.ireturn, 1) := by decide +kernel
theorem dX1_pushing_66 : decode cX1_pushing 66 = .ok (.iconst 2, 1) := by decide +kernel
theorem dX1_pushing_67 : decode cX1_pushing 67 = .ok (.aload_n 0, 1) := by decide +kernel
theorem dX1_pushing_68 : decode cX1_pushing 68 = .ok (.getfield 18, 3) := by decide +kernel
theorem dX1_pushing_71 : decode cX1_pushing 71 = .ok (.bipush 10, 2) := by decide +kernel
theorem dX1_pushing_73 : decode cX1_pushing 73 = .ok (.isub, 1) := by decide +kernel
theorem dX1_pushing_74 : decode cX1_pushing 74 = .ok (.imul, 1) := by decide +kernel
theorem dX1_pushing_75 : decode cX1_pushing 75 = .ok (.ireturn, 1) := by decide +kernel
theorem dX1_pushing_76 : decode cX1_pushing 76 = .ok (.iconst 0, 1) := by decide +kernel
theorem dX1_pushing_77 : decode cX1_pushing 77 = .ok (.ireturn, 1) := by decide +kernel
theorem dX1_pushing_78 : decode cX1_pushing 78 = .ok (.aload_n 0, 1) := by decide +kernel
theorem dX1_pushing_79 : decode cX1_pushing 79 = .ok (.getfield 18, 3) := by decide +kernel
theorem dX1_pushing_82 : decode cX1_pushing 82 = .ok (.ireturn, 1) := by decide +kernel
theorem dX1_worth_0 : decode cX1_worth 0 = .ok (.aload_n 0, 1) := by decide +kernel
theorem dX1_worth_1 : decode cX1_worth 1 = .ok (.getfield 9, 3) := by decide +kernel
theorem dX1_worth_4 : decode cX1_worth 4 = .ok (.tableswitch 80 1 5 #[36, 58, 46, 66, 76], 36) := by decide +kernel
theorem dX1_worth_40 : decode cX1_worth 40 = .ok (.aload_n 0, 1) := by decide +kernel
theorem dX1_worth_41 : decode cX1_worth 41 = .ok (.getfield 24, 3) := by decide +kernel
theorem dX1_worth_44 : decode cX1_worth 44 = .ok (.aload_n 0, 1) := by decide +kernel
theorem dX1_worth_45 : decode cX1_worth 45 = .ok (.getfield 18, 3) := by decide +kernel
theorem dX1_worth_48 : decode cX1_worth 48 = .ok (.iadd, 1) := by decide +kernel
theorem dX1_worth_49 : decode cX1_worth 49 = .ok (.ireturn, 1) := by decide +kernel
theorem dX1_worth_50 : decode cX1_worth 50 = .ok (.iconst 5, 1) := by decide +kernel
theorem dX1_worth_51 : decode cX1_worth 51 = .ok (.aload_n 0, 1) := by decide +kernel
theorem dX1_worth_52 : decode cX1_worth 52 = .ok (.getfield 24, 3) := by decide +kernel
theorem dX1_worth_55 : decode cX1_worth 55 = .ok (.aload_n 0, 1) := by decide +kernel
theorem dX1_worth_56 : decode cX1_worth 56 = .ok (.getfield 18, 3) := by decide +kernel
theorem dX1_worth_59 : decode cX1_worth 59 = .ok (.iadd, 1) := by decide +kernel
theorem dX1_worth_60 : decode cX1_worth 60 = .ok (.imul, 1) := by decide +kernel
theorem dX1_worth_61 : decode cX1_worth 61 = .ok (.ireturn, 1) := by decide +kernel
theorem dX1_worth_62 : decode cX1_worth 62 = .ok (.bipush 99, 2) := by decide +kernel
theorem dX1_worth_64 : decode cX1_worth 64 = .ok (.aload_n 0, 1) := by decide +kernel
theorem dX1_worth_65 : decode cX1_worth 65 = .ok (.getfield 15, 3) := by decide +kernel
theorem dX1_worth_68 : decode cX1_worth 68 = .ok (.isub, 1) := by decide +kernel
theorem dX1_worth_69 : decode cX1_worth 69 = .ok (.ireturn, 1) := by decide +kernel
theorem dX1_worth_70 : decode cX1_worth 70 = .ok (.bipush 99, 2) := by decide +kernel
theorem dX1_worth_72 : decode cX1_worth 72 = .ok (.aload_n 0, 1) := by decide +kernel
theorem dX1_worth_73 : decode cX1_worth 73 = .ok (.getfield 15, 3) := by decide +kernel
theorem dX1_worth_76 : decode cX1_worth 76 = .ok (.isub, 1) := by decide +kernel
theorem dX1_worth_77 : decode cX1_worth 77 = .ok (.iconst 2, 1) := by decide +kernel
theorem dX1_worth_78 : decode cX1_worth 78 = .ok (.idiv, 1) := by decide +kernel
theorem dX1_worth_79 : decode cX1_worth 79 = .ok (.ireturn, 1) := by decide +kernel
theorem dX1_worth_80 : decode cX1_worth 80 = .ok (.sipush 500, 3) := by decide +kernel
theorem dX1_worth_83 : decode cX1_worth 83 = .ok (.ireturn, 1) := by decide +kernel
theorem dX1_worth_84 : decode cX1_worth 84 = .ok (.aload_n 0, 1) := by decide +kernel
theorem dX1_worth_85 : decode cX1_worth 85 = .ok (.getfield 24, 3) := by decide +kernel
theorem dX1_worth_88 : decode cX1_worth 88 = .ok (.ireturn, 1) := by decide +kernel
theorem dX2_init_0 : decode cX2_init 0 = .ok (.aload_n 0, 1) := by decide +kernel
theorem dX2_init_1 : decode cX2_init 1 = .ok (.invokespecial 3, 3) := by decide +kernel
theorem dX2_init_4 : decode cX2_init 4 = .ok (.aload_n 0, 1) := by decide +kernel
theorem dX2_init_5 : decode cX2_init 5 = .ok (.sipush 720, 3) := by decide +kernel
theorem dX2_init_8 : decode cX2_init 8 = .ok (.newarray .int, 2) := by decide +kernel
theorem dX2_init_10 : decode cX2_init 10 = .ok (.putfield 11, 3) := by decide +kernel
theorem dX2_init_13 : decode cX2_init 13 = .ok (.aload_n 0, 1) := by decide +kernel
theorem dX2_init_14 : decode cX2_init 14 = .ok (.bipush 9, 2) := by decide +kernel
theorem dX2_init_16 : decode cX2_init 16 = .ok (.newarray .int, 2) := by decide +kernel
theorem dX2_init_18 : decode cX2_init 18 = .ok (.putfield 15, 3) := by decide +kernel
theorem dX2_init_21 : decode cX2_init 21 = .ok (.aload_n 0, 1) := by decide +kernel
theorem dX2_init_22 : decode cX2_init 22 = .ok (.sipush 512, 3) := by decide +kernel
theorem dX2_init_25 : decode cX2_init 25 = .ok (.newarray .int, 2) := by decide +kernel
theorem dX2_init_27 : decode cX2_init 27 = .ok (.putfield 18, 3) := by decide +kernel
theorem dX2_init_30 : decode cX2_init 30 = .ok (.aload_n 0, 1) := by decide +kernel
theorem dX2_init_31 : decode cX2_init 31 = .ok (.sipush 512, 3) := by decide +kernel
theorem dX2_init_34 : decode cX2_init 34 = .ok (.newarray .int, 2) := by decide +kernel
theorem dX2_init_36 : decode cX2_init 36 = .ok (.putfield 21, 3) := by decide +kernel
theorem dX2_init_39 : decode cX2_init 39 = .ok (.aload_n 0, 1) := by decide +kernel
theorem dX2_init_40 : decode cX2_init 40 = .ok (.iconst 0, 1) := by decide +kernel
theorem dX2_init_41 : decode cX2_init 41 = .ok (.putfield 24, 3) := by decide +kernel
theorem dX2_init_44 : decode cX2_init 44 = .ok (.aload_n 0, 1) := by decide +kernel
theorem dX2_init_45 : decode cX2_init 45 = .ok (.iconst 0, 1) := by decide +kernel
theorem dX2_init_46 : decode cX2_init 46 = .ok (.putfield 28, 3) := by decide +kernel
theorem dX2_init_49 : decode cX2_init 49 = .ok (.aload_n 0, 1) := by decide +kernel
theorem dX2_init_50 : decode cX2_init 50 = .ok (.iconst 0, 1) := by decide +kernel
theorem dX2_init_51 : decode cX2_init 51 = .ok (.putfield 31, 3) := by decide +kernel
theorem dX2_init_54 : decode cX2_init 54 = .ok (.aload_n 0, 1) := by decide +kernel
theorem dX2_init_55 : decode cX2_init 55 = .ok (.iconst 0, 1) := by decide +kernel
theorem dX2_init_56 : decode cX2_init 56 = .ok (.putfield 34, 3) := by decide +kernel
theorem dX2_init_59 : decode cX2_init 59 = .ok (.aload_n 0, 1) := by decide +kernel
theorem dX2_init_60 : decode cX2_init 60 = .ok (.iconst 0, 1) := by decide +kernel
theorem dX2_init_61 : decode cX2_init 61 = .ok (.putfield 37, 3) := by decide +kernel
theorem dX2_init_64 : decode cX2_init 64 = .ok (.aload_n 0, 1) := by decide +kernel
theorem dX2_init_65 : decode cX2_init 65 = .ok (.iconst 0, 1) := by decide +kernel
theorem dX2_init_66 : decode cX2_init 66 = .ok (.putfield 40, 3) := by decide +kernel
theorem dX2_init_69 : decode cX2_init 69 = .ok (.aload_n 0, 1) := by decide +kernel
theorem dX2_init_70 : decode cX2_init 70 = .ok (.iconst 0, 1) := by decide +kernel
theorem dX2_init_71 : decode cX2_init 71 = .ok (.putfield 43, 3) := by decide +kernel
theorem dX2_init_74 : decode cX2_init 74 = .ok (.return_, 1) := by decide +kernel
theorem dX2_lookAt_0 : decode cX2_lookAt 0 = .ok (.aload_n 0, 1) := by decide +kernel
theorem dX2_lookAt_1 : decode cX2_lookAt 1 = .ok (.iload_n 2, 1) := by decide +kernel
theorem dX2_lookAt_2 : decode cX2_lookAt 2 = .ok (.putfield 31, 3) := by decide +kernel
theorem dX2_lookAt_5 : decode cX2_lookAt 5 = .ok (.aload_n 0, 1) := by decide +kernel
theorem dX2_lookAt_6 : decode cX2_lookAt 6 = .ok (.aload_n 1, 1) := by decide +kernel
theorem dX2_lookAt_7 : decode cX2_lookAt 7 = .ok (.invokevirtual 46, 3) := by decide +kernel
theorem dX2_lookAt_10 : decode cX2_lookAt 10 = .ok (.putfield 28, 3) := by decide +kernel
theorem dX2_lookAt_13 : decode cX2_lookAt 13 = .ok (.aload_n 0, 1) := by decide +kernel
theorem dX2_lookAt_14 : decode cX2_lookAt 14 = .ok (.getfield 28, 3) := by decide +kernel
theorem dX2_lookAt_17 : decode cX2_lookAt 17 = .ok (.invokestatic 52, 3) := by decide +kernel
theorem dX2_lookAt_20 : decode cX2_lookAt 20 = .ok (.istore_n 3, 1) := by decide +kernel
theorem dX2_lookAt_21 : decode cX2_lookAt 21 = .ok (.iconst 0, 1) := by decide +kernel
theorem dX2_lookAt_22 : decode cX2_lookAt 22 = .ok (.istore 4, 2) := by decide +kernel
theorem dX2_lookAt_24 : decode cX2_lookAt 24 = .ok (.iload 4, 2) := by decide +kernel
theorem dX2_lookAt_26 : decode cX2_lookAt 26 = .ok (.bipush 9, 2) := by decide +kernel
theorem dX2_lookAt_28 : decode cX2_lookAt 28 = .ok (.if_icmp .ge 59, 3) := by decide +kernel
theorem dX2_lookAt_31 : decode cX2_lookAt 31 = .ok (.aload_n 1, 1) := by decide +kernel
theorem dX2_lookAt_32 : decode cX2_lookAt 32 = .ok (.iload 4, 2) := by decide +kernel
theorem dX2_lookAt_34 : decode cX2_lookAt 34 = .ok (.invokevirtual 58, 3) := by decide +kernel
theorem dX2_lookAt_37 : decode cX2_lookAt 37 = .ok (.ifCond .eq 44, 3) := by decide +kernel
theorem dX2_lookAt_40 : decode cX2_lookAt 40 = .ok (.aload_n 0, 1) := by decide +kernel
theorem dX2_lookAt_41 : decode cX2_lookAt 41 = .ok (.getfield 15, 3) := by decide +kernel
theorem dX2_lookAt_44 : decode cX2_lookAt 44 = .ok (.iload 4, 2) := by decide +kernel
theorem dX2_lookAt_46 : decode cX2_lookAt 46 = .ok (.aload_n 1, 1) := by decide +kernel
theorem dX2_lookAt_47 : decode cX2_lookAt 47 = .ok (.getfield 62, 3) := by decide +kernel
theorem dX2_lookAt_50 : decode cX2_lookAt 50 = .ok (.iload 4, 2) := by decide +kernel
theorem dX2_lookAt_52 : decode cX2_lookAt 52 = .ok (.aaload, 1) := by decide +kernel
theorem dX2_lookAt_53 : decode cX2_lookAt 53 = .ok (.invokevirtual 66, 3) := by decide +kernel
theorem dX2_lookAt_56 : decode cX2_lookAt 56 = .ok (.iastore, 1) := by decide +kernel
theorem dX2_lookAt_57 : decode cX2_lookAt 57 = .ok (.iconst 1, 1) := by decide +kernel
theorem dX2_lookAt_58 : decode cX2_lookAt 58 = .ok (.istore 5, 2) := by decide +kernel
theorem dX2_lookAt_60 : decode cX2_lookAt 60 = .ok (.iload 5, 2) := by decide +kernel
theorem dX2_lookAt_62 : decode cX2_lookAt 62 = .ok (.iload_n 3, 1) := by decide +kernel
theorem dX2_lookAt_63 : decode cX2_lookAt 63 = .ok (.if_icmp .gt 18, 3) := by decide +kernel
theorem dX2_lookAt_66 : decode cX2_lookAt 66 = .ok (.aload_n 0, 1) := by decide +kernel
theorem dX2_lookAt_67 : decode cX2_lookAt 67 = .ok (.aload_n 1, 1) := by decide +kernel
theorem dX2_lookAt_68 : decode cX2_lookAt 68 = .ok (.iload 4, 2) := by decide +kernel
theorem dX2_lookAt_70 : decode cX2_lookAt 70 = .ok (.iload 5, 2) := by decide +kernel
theorem dX2_lookAt_72 : decode cX2_lookAt 72 = .ok (.invokevirtual 71, 3) := by decide +kernel
theorem dX2_lookAt_75 : decode cX2_lookAt 75 = .ok (.iinc 5 1, 3) := by decide +kernel
theorem dX2_lookAt_78 : decode cX2_lookAt 78 = .ok (.goto (-18), 3) := by decide +kernel
theorem dX2_lookAt_81 : decode cX2_lookAt 81 = .ok (.iinc 4 1, 3) := by decide +kernel
theorem dX2_lookAt_84 : decode cX2_lookAt 84 = .ok (.goto (-60), 3) := by decide +kernel
theorem dX2_lookAt_87 : decode cX2_lookAt 87 = .ok (.return_, 1) := by decide +kernel
theorem dX2_writeBearings_0 : decode cX2_writeBearings 0 = .ok (.aload_n 1, 1) := by decide +kernel
theorem dX2_writeBearings_1 : decode cX2_writeBearings 1 = .ok (.iload_n 2, 1) := by decide +kernel
theorem dX2_writeBearings_2 : decode cX2_writeBearings 2 = .ok (.iload_n 3, 1) := by decide +kernel
theorem dX2_writeBearings_3 : decode cX2_writeBearings 3 = .ok (.invokevirtual 75, 3) := by decide +kernel
theorem dX2_writeBearings_6 : decode cX2_writeBearings 6 = .ok (.istore 4, 2) := by decide +kernel
theorem dX2_writeBearings_8 : decode cX2_writeBearings 8 = .ok (.iconst 0, 1) := by decide +kernel
theorem dX2_writeBearings_9 : decode cX2_writeBearings 9 = .ok (.istore 5, 2) := by decide +kernel
theorem dX2_writeBearings_11 : decode cX2_writeBearings 11 = .ok (.iload 5, 2) := by decide +kernel
theorem dX2_writeBearings_13 : decode cX2_writeBearings 13 = .ok (.bipush 8, 2) := by decide +kernel
theorem dX2_writeBearings_15 : decode cX2_writeBearings 15 = .ok (.if_icmp .ge 37, 3) := by decide +kernel
theorem dX2_writeBearings_18 : decode cX2_writeBearings 18 = .ok (.aload_n 0, 1) := by decide +kernel
theorem dX2_writeBearings_19 : decode cX2_writeBearings 19 = .ok (.getfield 11, 3) := by decide +kernel
theorem dX2_writeBearings_22 : decode cX2_writeBearings 22 = .ok (.iload_n 2, 1) := by decide +kernel
theorem dX2_writeBearings_23 : decode cX2_writeBearings 23 = .ok (.iload 5, 2) := by decide +kernel
theorem dX2_writeBearings_25 : decode cX2_writeBearings 25 = .ok (.iload_n 3, 1) := by decide +kernel
theorem dX2_writeBearings_26 : decode cX2_writeBearings 26 = .ok (.invokestatic 79, 3) := by decide +kernel
theorem dX2_writeBearings_29 : decode cX2_writeBearings 29 = .ok (.aload_n 1, 1) := by decide +kernel
theorem dX2_writeBearings_30 : decode cX2_writeBearings 30 = .ok (.getfield 62, 3) := by decide +kernel
theorem dX2_writeBearings_33 : decode cX2_writeBearings 33 = .ok (.iload_n 2, 1) := by decide +kernel
theorem dX2_writeBearings_34 : decode cX2_writeBearings 34 = .ok (.aaload, 1) := by decide +kernel
theorem dX2_writeBearings_35 : decode cX2_writeBearings 35 = .ok (.iload 4, 2) := by decide +kernel
theorem dX2_writeBearings_37 : decode cX2_writeBearings 37 = .ok (.iload 5, 2) := by decide +kernel
theorem dX2_writeBearings_39 : decode cX2_writeBearings 39 = .ok (.iload_n 3, 1) := by decide +kernel
theorem dX2_writeBearings_40 : decode cX2_writeBearings 40 = .ok (.iconst 1, 1) := by decide +kernel
theorem dX2_writeBearings_41 : decode cX2_writeBearings 41 = .ok (.isub, 1) := by decide +kernel
theorem dX2_writeBearings_42 : decode cX2_writeBearings 42 = .ok (.invokevirtual 83, 3) := by decide +kernel
theorem dX2_writeBearings_45 : decode cX2_writeBearings 45 = .ok (.iastore, 1) := by decide +kernel
theorem dX2_writeBearings_46 : decode cX2_writeBearings 46 = .ok (.iinc 5 1, 3) := by decide +kernel
theorem dX2_writeBearings_49 : decode cX2_writeBearings 49 = .ok (.goto (-38), 3) := by decide +kernel
theorem dX2_writeBearings_52 : decode cX2_writeBearings 52 = .ok (.return_, 1) := by decide +kernel
theorem dX2_bearingPlace_0 : decode cX2_bearingPlace 0 = .ok (.iload_n 0, 1) := by decide +kernel
theorem dX2_bearingPlace_1 : decode cX2_bearingPlace 1 = .ok (.bipush 8, 2) := by decide +kernel
theorem dX2_bearingPlace_3 : decode cX2_bearingPlace 3 = .ok (.imul, 1) := by decide +kernel
theorem dX2_bearingPlace_4 : decode cX2_bearingPlace 4 = .ok (.iload_n 1, 1) := by decide +kernel
theorem dX2_bearingPlace_5 : decode cX2_bearingPlace 5 = .ok (.iadd, 1) := by decide +kernel
theorem dX2_bearingPlace_6 : decode cX2_bearingPlace 6 = .ok (.bipush 10, 2) := by decide +kernel
theorem dX2_bearingPlace_8 : decode cX2_bearingPlace 8 = .ok (.imul, 1) := by decide +kernel
theorem dX2_bearingPlace_9 : decode cX2_bearingPlace 9 = .ok (.iload_n 2, 1) := by decide +kernel
theorem dX2_bearingPlace_10 : decode cX2_bearingPlace 10 = .ok (.iadd, 1) := by decide +kernel
theorem dX2_bearingPlace_11 : decode cX2_bearingPlace 11 = .ok (.ireturn, 1) := by decide +kernel
theorem dX2_isIn_0 : decode cX2_isIn 0 = .ok (.iload_n 0, 1) := by decide +kernel
theorem dX2_isIn_1 : decode cX2_isIn 1 = .ok (.ifCond .lt 15, 3) := by decide +kernel
theorem dX2_isIn_4 : decode cX2_isIn 4 = .ok (.iload_n 1, 1) := by decide +kernel
theorem dX2_isIn_5 : decode cX2_isIn 5 = .ok (.iload_n 0, 1) := by decide +kernel
theorem dX2_isIn_6 : decode cX2_isIn 6 = .ok (.ishr, 1) := by decide +kernel
theorem dX2_isIn_7 : decode cX2_isIn 7 = .ok (.iconst 1, 1) := by decide +kernel
theorem dX2_isIn_8 : decode cX2_isIn 8 = .ok (.iand, 1) := by decide +kernel
theorem dX2_isIn_9 : decode cX2_isIn 9 = .ok (.ifCond .eq 7, 3) := by decide +kernel
theorem dX2_isIn_12 : decode cX2_isIn 12 = .ok (.iconst 1, 1) := by decide +kernel
theorem dX2_isIn_13 : decode cX2_isIn 13 = .ok (.goto 4, 3) := by decide +kernel
theorem dX2_isIn_16 : decode cX2_isIn 16 = .ok (.iconst 0, 1) := by decide +kernel
theorem dX2_isIn_17 : decode cX2_isIn 17 = .ok (.ireturn, 1) := by decide +kernel
theorem dX2_fallsBy_0 : decode cX2_fallsBy 0 = .ok (.iload_n 2, 1) := by decide +kernel
theorem dX2_fallsBy_1 : decode cX2_fallsBy 1 = .ok (.iload 4, 2) := by decide +kernel
theorem dX2_fallsBy_3 : decode cX2_fallsBy 3 = .ok (.invokestatic 86, 3) := by decide +kernel
theorem dX2_fallsBy_6 : decode cX2_fallsBy 6 = .ok (.ifCond .eq 26, 3) := by decide +kernel
theorem dX2_fallsBy_9 : decode cX2_fallsBy 9 = .ok (.aload_n 0, 1) := by decide +kernel
theorem dX2_fallsBy_10 : decode cX2_fallsBy 10 = .ok (.getfield 11, 3) := by decide +kernel
theorem dX2_fallsBy_13 : decode cX2_fallsBy 13 = .ok (.iload_n 2, 1) := by decide +kernel
theorem dX2_fallsBy_14 : decode cX2_fallsBy 14 = .ok (.iload_n 3, 1) := by decide +kernel
theorem dX2_fallsBy_15 : decode cX2_fallsBy 15 = .ok (.iload 4, 2) := by decide +kernel
theorem dX2_fallsBy_17 : decode cX2_fallsBy 17 = .ok (.invokestatic 52, 3) := by decide +kernel
theorem dX2_fallsBy_20 : decode cX2_fallsBy 20 = .ok (.invokestatic 79, 3) := by decide +kernel
theorem dX2_fallsBy_23 : decode cX2_fallsBy 23 = .ok (.iaload, 1) := by decide +kernel
theorem dX2_fallsBy_24 : decode cX2_fallsBy 24 = .ok (.iload_n 1, 1) := by decide +kernel
theorem dX2_fallsBy_25 : decode cX2_fallsBy 25 = .ok (.if_icmp .ge 7, 3) := by decide +kernel
theorem dX2_fallsBy_28 : decode cX2_fallsBy 28 = .ok (.iconst 1, 1) := by decide +kernel
theorem dX2_fallsBy_29 : decode cX2_fallsBy 29 = .ok (.goto 4, 3) := by decide +kernel
theorem dX2_fallsBy_32 : decode cX2_fallsBy 32 = .ok (.iconst 0, 1) := by decide +kernel
theorem dX2_fallsBy_33 : decode cX2_fallsBy 33 = .ok (.ireturn, 1) := by decide +kernel
theorem dX2_leftBehind_0 : decode cX2_leftBehind 0 = .ok (.iload_n 1, 1) := by decide +kernel
theorem dX2_leftBehind_1 : decode cX2_leftBehind 1 = .ok (.iconst 1, 1) := by decide +kernel
theorem dX2_leftBehind_2 : decode cX2_leftBehind 2 = .ok (.iload_n 2, 1) := by decide +kernel
theorem dX2_leftBehind_3 : decode cX2_leftBehind 3 = .ok (.ishl, 1) := by decide +kernel
theorem dX2_leftBehind_4 : decode cX2_leftBehind 4 = .ok (.iconst (-1), 1) := by decide +kernel
theorem dX2_leftBehind_5 : decode cX2_leftBehind 5 = .ok (.ixor, 1) := by decide +kernel
theorem dX2_leftBehind_6 : decode cX2_leftBehind 6 = .ok (.iand, 1) := by decide +kernel
theorem dX2_leftBehind_7 : decode cX2_leftBehind 7 = .ok (.istore 6, 2) := by decide +kernel
theorem dX2_leftBehind_9 : decode cX2_leftBehind 9 = .ok (.iload 5, 2) := by decide +kernel
theorem dX2_leftBehind_11 : decode cX2_leftBehind 11 = .ok (.bipush 9, 2) := by decide +kernel
theorem dX2_leftBehind_13 : decode cX2_leftBehind 13 = .ok (.if_icmp .lt 6, 3) := by decide +kernel
theorem dX2_leftBehind_16 : decode cX2_leftBehind 16 = .ok (.iload 6, 2) := by decide +kernel
theorem dX2_leftBehind_18 : decode cX2_leftBehind 18 = .ok (.ireturn, 1) := by decide +kernel
theorem dX2_leftBehind_19 : decode cX2_leftBehind 19 = .ok (.getstatic 90, 3) := by decide +kernel
theorem dX2_leftBehind_22 : decode cX2_leftBehind 22 = .ok (.iload_n 2, 1) := by decide +kernel
theorem dX2_leftBehind_23 : decode cX2_leftBehind 23 = .ok (.iaload, 1) := by decide +kernel
theorem dX2_leftBehind_24 : decode cX2_leftBehind 24 = .ok (.istore 7, 2) := by decide +kernel
theorem dX2_leftBehind_26 : decode cX2_leftBehind 26 = .ok (.iload 4, 2) := by decide +kernel
theorem dX2_leftBehind_28 : decode cX2_leftBehind 28 = .ok (.iconst 1, 1) := by decide +kernel
theorem dX2_leftBehind_29 : decode cX2_leftBehind 29 = .ok (.if_icmp .eq 38, 3) := by decide +kernel
theorem dX2_leftBehind_32 : decode cX2_leftBehind 32 = .ok (.aload_n 0, 1) := by decide +kernel
theorem dX2_leftBehind_33 : decode cX2_leftBehind 33 = .ok (.aload_n 0, 1) := by decide +kernel
theorem dX2_leftBehind_34 : decode cX2_leftBehind 34 = .ok (.getfield 15, 3) := by decide +kernel
theorem dX2_leftBehind_37 : decode cX2_leftBehind 37 = .ok (.iload_n 2, 1) := by decide +kernel
theorem dX2_leftBehind_38 : decode cX2_leftBehind 38 = .ok (.iaload, 1) := by decide +kernel
theorem dX2_leftBehind_39 : decode cX2_leftBehind 39 = .ok (.iload 7, 2) := by decide +kernel
theorem dX2_leftBehind_41 : decode cX2_leftBehind 41 = .ok (.iload_n 3, 1) := by decide +kernel
theorem dX2_leftBehind_42 : decode cX2_leftBehind 42 = .ok (.iload 6, 2) := by decide +kernel
theorem dX2_leftBehind_44 : decode cX2_leftBehind 44 = .ok (.invokevirtual 93, 3) := by decide +kernel
theorem dX2_leftBehind_47 : decode cX2_leftBehind 47 = .ok (.ifCond .eq 20, 3) := by decide +kernel
theorem dX2_leftBehind_50 : decode cX2_leftBehind 50 = .ok (.aload_n 0, 1) := by decide +kernel
theorem dX2_leftBehind_51 : decode cX2_leftBehind 51 = .ok (.iload 6, 2) := by decide +kernel
theorem dX2_leftBehind_53 : decode cX2_leftBehind 53 = .ok (.iload 7, 2) := by decide +kernel
theorem dX2_leftBehind_55 : decode cX2_leftBehind 55 = .ok (.iload_n 3, 1) := by decide +kernel
theorem dX2_leftBehind_56 : decode cX2_leftBehind 56 = .ok (.iload 4, 2) := by decide +kernel
theorem dX2_leftBehind_58 : decode cX2_leftBehind 58 = .ok (.iload 5, 2) := by decide +kernel
theorem dX2_leftBehind_60 : decode cX2_leftBehind 60 = .ok (.iconst 1, 1) := by decide +kernel
theorem dX2_leftBehind_61 : decode cX2_leftBehind 61 = .ok (.iadd, 1) := by decide +kernel
theorem dX2_leftBehind_62 : decode cX2_leftBehind 62 = .ok (.invokevirtual 97, 3) := by decide +kernel
theorem dX2_leftBehind_65 : decode cX2_leftBehind 65 = .ok (.istore 6, 2) := by decide +kernel
theorem dX2_leftBehind_67 : decode cX2_leftBehind 67 = .ok (.getstatic 101, 3) := by decide +kernel
theorem dX2_leftBehind_70 : decode cX2_leftBehind 70 = .ok (.iload_n 2, 1) := by decide +kernel
theorem dX2_leftBehind_71 : decode cX2_leftBehind 71 = .ok (.iaload, 1) := by decide +kernel
theorem dX2_leftBehind_72 : decode cX2_leftBehind 72 = .ok (.istore 7, 2) := by decide +kernel
theorem dX2_leftBehind_74 : decode cX2_leftBehind 74 = .ok (.iload 4, 2) := by decide +kernel
theorem dX2_leftBehind_76 : decode cX2_leftBehind 76 = .ok (.iconst (-1), 1) := by decide +kernel
theorem dX2_leftBehind_77 : decode cX2_leftBehind 77 = .ok (.if_icmp .eq 38, 3) := by decide +kernel
theorem dX2_leftBehind_80 : decode cX2_leftBehind 80 = .ok (.aload_n 0, 1) := by decide +kernel
theorem dX2_leftBehind_81 : decode cX2_leftBehind 81 = .ok (.aload_n 0, 1) := by decide +kernel
theorem dX2_leftBehind_82 : decode cX2_leftBehind 82 = .ok (.getfield 15, 3) := by decide +kernel
theorem dX2_leftBehind_85 : decode cX2_leftBehind 85 = .ok (.iload_n 2, 1) := by decide +kernel
theorem dX2_leftBehind_86 : decode cX2_leftBehind 86 = .ok (.iaload, 1) := by decide +kernel
theorem dX2_leftBehind_87 : decode cX2_leftBehind 87 = .ok (.iload 7, 2) := by decide +kernel
theorem dX2_leftBehind_89 : decode cX2_leftBehind 89 = .ok (.iload_n 3, 1) := by decide +kernel
theorem dX2_leftBehind_90 : decode cX2_leftBehind 90 = .ok (.iload 6, 2) := by decide +kernel
theorem dX2_leftBehind_92 : decode cX2_leftBehind 92 = .ok (.invokevirtual 93, 3) := by decide +kernel
theorem dX2_leftBehind_95 : decode cX2_leftBehind 95 = .ok (.ifCond .eq 20, 3) := by decide +kernel
theorem dX2_leftBehind_98 : decode cX2_leftBehind 98 = .ok (.aload_n 0, 1) := by decide +kernel
theorem dX2_leftBehind_99 : decode cX2_leftBehind 99 = .ok (.iload 6, 2) := by decide +kernel
theorem dX2_leftBehind_101 : decode cX2_leftBehind 101 = .ok (.iload 7, 2) := by decide +kernel
theorem dX2_leftBehind_103 : decode cX2_leftBehind 103 = .ok (.iload_n 3, 1) := by decide +kernel
theorem dX2_leftBehind_104 : decode cX2_leftBehind 104 = .ok (.iload 4, 2) := by decide +kernel
theorem dX2_leftBehind_106 : decode cX2_leftBehind 106 = .ok (.iload 5, 2) := by decide +kernel
theorem dX2_leftBehind_108 : decode cX2_leftBehind 108 = .ok (.iconst 1, 1) := by decide +kernel
theorem dX2_leftBehind_109 : decode cX2_leftBehind 109 = .ok (.iadd, 1) := by decide +kernel
theorem dX2_leftBehind_110 : decode cX2_leftBehind 110 = .ok (.invokevirtual 97, 3) := by decide +kernel
theorem dX2_leftBehind_113 : decode cX2_leftBehind 113 = .ok (.istore 6, 2) := by decide +kernel
theorem dX2_leftBehind_115 : decode cX2_leftBehind 115 = .ok (.iload 6, 2) := by decide +kernel
theorem dX2_leftBehind_117 : decode cX2_leftBehind 117 = .ok (.ireturn, 1) := by decide +kernel
theorem dX2_findBest_0 : decode cX2_findBest 0 = .ok (.aload_n 0, 1) := by decide +kernel
theorem dX2_findBest_1 : decode cX2_findBest 1 = .ok (.iconst (-1), 1) := by decide +kernel
theorem dX2_findBest_2 : decode cX2_findBest 2 = .ok (.putfield 34, 3) := by decide +kernel
theorem dX2_findBest_5 : decode cX2_findBest 5 = .ok (.iconst 0, 1) := by decide +kernel
theorem dX2_findBest_6 : decode cX2_findBest 6 = .ok (.istore_n 1, 1) := by decide +kernel
theorem dX2_findBest_7 : decode cX2_findBest 7 = .ok (.iload_n 1, 1) := by decide +kernel
theorem dX2_findBest_8 : decode cX2_findBest 8 = .ok (.bipush 9, 2) := by decide +kernel
theorem dX2_findBest_10 : decode cX2_findBest 10 = .ok (.if_icmp .ge 111, 3) := by decide +kernel
theorem dX2_findBest_13 : decode cX2_findBest 13 = .ok (.iconst 0, 1) := by decide +kernel
theorem dX2_findBest_14 : decode cX2_findBest 14 = .ok (.istore_n 2, 1) := by decide +kernel
theorem dX2_findBest_15 : decode cX2_findBest 15 = .ok (.iload_n 2, 1) := by decide +kernel
theorem dX2_findBest_16 : decode cX2_findBest 16 = .ok (.bipush 8, 2) := by decide +kernel
theorem dX2_findBest_18 : decode cX2_findBest 18 = .ok (.if_icmp .ge 97, 3) := by decide +kernel
theorem dX2_findBest_21 : decode cX2_findBest 21 = .ok (.iload_n 1, 1) := by decide +kernel
theorem dX2_findBest_22 : decode cX2_findBest 22 = .ok (.aload_n 0, 1) := by decide +kernel
theorem dX2_findBest_23 : decode cX2_findBest 23 = .ok (.getfield 28, 3) := by decide +kernel
theorem dX2_findBest_26 : decode cX2_findBest 26 = .ok (.invokestatic 86, 3) := by decide +kernel
theorem dX2_findBest_29 : decode cX2_findBest 29 = .ok (.ifCond .eq 86, 3) := by decide +kernel
theorem dX2_findBest_32 : decode cX2_findBest 32 = .ok (.aload_n 0, 1) := by decide +kernel
theorem dX2_findBest_33 : decode cX2_findBest 33 = .ok (.aload_n 0, 1) := by decide +kernel
theorem dX2_findBest_34 : decode cX2_findBest 34 = .ok (.getfield 31, 3) := by decide +kernel
theorem dX2_findBest_37 : decode cX2_findBest 37 = .ok (.iload_n 1, 1) := by decide +kernel
theorem dX2_findBest_38 : decode cX2_findBest 38 = .ok (.iload_n 2, 1) := by decide +kernel
theorem dX2_findBest_39 : decode cX2_findBest 39 = .ok (.aload_n 0, 1) := by decide +kernel
theorem dX2_findBest_40 : decode cX2_findBest 40 = .ok (.getfield 28, 3) := by decide +kernel
theorem dX2_findBest_43 : decode cX2_findBest 43 = .ok (.invokevirtual 93, 3) := by decide +kernel
theorem dX2_findBest_46 : decode cX2_findBest 46 = .ok (.istore_n 3, 1) := by decide +kernel
theorem dX2_findBest_47 : decode cX2_findBest 47 = .ok (.iconst (-1), 1) := by decide +kernel
theorem dX2_findBest_48 : decode cX2_findBest 48 = .ok (.istore 4, 2) := by decide +kernel
theorem dX2_findBest_50 : decode cX2_findBest 50 = .ok (.iload 4, 2) := by decide +kernel
theorem dX2_findBest_52 : decode cX2_findBest 52 = .ok (.iconst 1, 1) := by decide +kernel
theorem dX2_findBest_53 : decode cX2_findBest 53 = .ok (.if_icmp .gt 56, 3) := by decide +kernel
theorem dX2_findBest_56 : decode cX2_findBest 56 = .ok (.iload_n 3, 1) := by decide +kernel
theorem dX2_findBest_57 : decode cX2_findBest 57 = .ok (.ifCond .eq 19, 3) := by decide +kernel
theorem dX2_findBest_60 : decode cX2_findBest 60 = .ok (.aload_n 0, 1) := by decide +kernel
theorem dX2_findBest_61 : decode cX2_findBest 61 = .ok (.aload_n 0, 1) := by decide +kernel
theorem dX2_findBest_62 : decode cX2_findBest 62 = .ok (.getfield 28, 3) := by decide +kernel
theorem dX2_findBest_65 : decode cX2_findBest 65 = .ok (.iload_n 1, 1) := by decide +kernel
theorem dX2_findBest_66 : decode cX2_findBest 66 = .ok (.iload_n 2, 1) := by decide +kernel
theorem dX2_findBest_67 : decode cX2_findBest 67 = .ok (.iload 4, 2) := by decide +kernel
theorem dX2_findBest_69 : decode cX2_findBest 69 = .ok (.iconst 0, 1) := by decide +kernel
theorem dX2_findBest_70 : decode cX2_findBest 70 = .ok (.invokevirtual 97, 3) := by decide +kernel
theorem dX2_findBest_73 : decode cX2_findBest 73 = .ok (.goto 7, 3) := by decide +kernel
theorem dX2_findBest_76 : decode cX2_findBest 76 = .ok (.aload_n 0, 1) := by decide +kernel
theorem dX2_findBest_77 : decode cX2_findBest 77 = .ok (.getfield 28, 3) := by decide +kernel
theorem dX2_findBest_80 : decode cX2_findBest 80 = .ok (.istore 5, 2) := by decide +kernel
theorem dX2_findBest_82 : decode cX2_findBest 82 = .ok (.aload_n 0, 1) := by decide +kernel
theorem dX2_findBest_83 : decode cX2_findBest 83 = .ok (.aload_n 0, 1) := by decide +kernel
theorem dX2_findBest_84 : decode cX2_findBest 84 = .ok (.getfield 28, 3) := by decide +kernel
theorem dX2_findBest_87 : decode cX2_findBest 87 = .ok (.invokestatic 52, 3) := by decide +kernel
theorem dX2_findBest_90 : decode cX2_findBest 90 = .ok (.iload 5, 2) := by decide +kernel
theorem dX2_findBest_92 : decode cX2_findBest 92 = .ok (.invokestatic 52, 3) := by decide +kernel
theorem dX2_findBest_95 : decode cX2_findBest 95 = .ok (.isub, 1) := by decide +kernel
theorem dX2_findBest_96 : decode cX2_findBest 96 = .ok (.iload_n 1, 1) := by decide +kernel
theorem dX2_findBest_97 : decode cX2_findBest 97 = .ok (.iload_n 2, 1) := by decide +kernel
theorem dX2_findBest_98 : decode cX2_findBest 98 = .ok (.iload 4, 2) := by decide +kernel
theorem dX2_findBest_100 : decode cX2_findBest 100 = .ok (.invokevirtual 104, 3) := by decide +kernel
theorem dX2_findBest_103 : decode cX2_findBest 103 = .ok (.iinc 4 1, 3) := by decide +kernel
theorem dX2_findBest_106 : decode cX2_findBest 106 = .ok (.goto (-56), 3) := by decide +kernel
theorem dX2_findBest_109 : decode cX2_findBest 109 = .ok (.iinc 2 1, 3) := by decide +kernel
theorem dX2_findBest_112 : decode cX2_findBest 112 = .ok (.goto (-97), 3) := by decide +kernel
theorem dX2_findBest_115 : decode cX2_findBest 115 = .ok (.iinc 1 1, 3) := by decide +kernel
theorem dX2_findBest_118 : decode cX2_findBest 118 = .ok (.goto (-111), 3) := by decide +kernel
theorem dX2_findBest_121 : decode cX2_findBest 121 = .ok (.return_, 1) := by decide +kernel
theorem dX2_offer_0 : decode cX2_offer 0 = .ok (.iload_n 1, 1) := by decide +kernel
theorem dX2_offer_1 : decode cX2_offer 1 = .ok (.aload_n 0, 1) := by decide +kernel
theorem dX2_offer_2 : decode cX2_offer 2 = .ok (.getfield 34, 3) := by decide +kernel
theorem dX2_offer_5 : decode cX2_offer 5 = .ok (.if_icmp .le 24, 3) := by decide +kernel
theorem dX2_offer_8 : decode cX2_offer 8 = .ok (.aload_n 0, 1) := by decide +kernel
theorem dX2_offer_9 : decode cX2_offer 9 = .ok (.iload_n 1, 1) := by decide +kernel
theorem dX2_offer_10 : decode cX2_offer 10 = .ok (.putfield 34, 3) := by decide +kernel
theorem dX2_offer_13 : decode cX2_offer 13 = .ok (.aload_n 0, 1) := by decide +kernel
theorem dX2_offer_14 : decode cX2_offer 14 = .ok (.iload_n 2, 1) := by decide +kernel
theorem dX2_offer_15 : decode cX2_offer 15 = .ok (.putfield 37, 3) := by decide +kernel
theorem dX2_offer_18 : decode cX2_offer 18 = .ok (.aload_n 0, 1) := by decide +kernel
theorem dX2_offer_19 : decode cX2_offer 19 = .ok (.iload_n 3, 1) := by decide +kernel
theorem dX2_offer_20 : decode cX2_offer 20 = .ok (.putfield 40, 3) := by decide +kernel
theorem dX2_offer_23 : decode cX2_offer 23 = .ok (.aload_n 0, 1) := by decide +kernel
theorem dX2_offer_24 : decode cX2_offer 24 = .ok (.iload 4, 2) := by decide +kernel
theorem dX2_offer_26 : decode cX2_offer 26 = .ok (.putfield 43, 3) := by decide +kernel
theorem dX2_offer_29 : decode cX2_offer 29 = .ok (.return_, 1) := by decide +kernel
theorem dX2_mostByTwo_0 : decode cX2_mostByTwo 0 = .ok (.aload_n 0, 1) := by decide +kernel
theorem dX2_mostByTwo_1 : decode cX2_mostByTwo 1 = .ok (.invokevirtual 108, 3) := by decide +kernel
theorem dX2_mostByTwo_4 : decode cX2_mostByTwo 4 = .ok (.aload_n 0, 1) := by decide +kernel
theorem dX2_mostByTwo_5 : decode cX2_mostByTwo 5 = .ok (.aload_n 0, 1) := by decide +kernel
theorem dX2_mostByTwo_6 : decode cX2_mostByTwo 6 = .ok (.getfield 28, 3) := by decide +kernel
theorem dX2_mostByTwo_9 : decode cX2_mostByTwo 9 = .ok (.invokevirtual 111, 3) := by decide +kernel
theorem dX2_mostByTwo_12 : decode cX2_mostByTwo 12 = .ok (.aload_n 0, 1) := by decide +kernel
theorem dX2_mostByTwo_13 : decode cX2_mostByTwo 13 = .ok (.getfield 24, 3) := by decide +kernel
theorem dX2_mostByTwo_16 : decode cX2_mostByTwo 16 = .ok (.istore_n 1, 1) := by decide +kernel
theorem dX2_mostByTwo_17 : decode cX2_mostByTwo 17 = .ok (.iconst 1, 1) := by decide +kernel
theorem dX2_mostByTwo_18 : decode cX2_mostByTwo 18 = .ok (.istore_n 2, 1) := by decide +kernel
theorem dX2_mostByTwo_19 : decode cX2_mostByTwo 19 = .ok (.iload_n 2, 1) := by decide +kernel
theorem dX2_mostByTwo_20 : decode cX2_mostByTwo 20 = .ok (.iload_n 1, 1) := by decide +kernel
theorem dX2_mostByTwo_21 : decode cX2_mostByTwo 21 = .ok (.if_icmp .ge 26, 3) := by decide +kernel
theorem dX2_mostByTwo_24 : decode cX2_mostByTwo 24 = .ok (.iload_n 2, 1) := by decide +kernel
theorem dX2_mostByTwo_25 : decode cX2_mostByTwo 25 = .ok (.sipush 512, 3) := by decide +kernel
theorem dX2_mostByTwo_28 : decode cX2_mostByTwo 28 = .ok (.if_icmp .ge 19, 3) := by decide +kernel
theorem dX2_mostByTwo_31 : decode cX2_mostByTwo 31 = .ok (.aload_n 0, 1) := by decide +kernel
theorem dX2_mostByTwo_32 : decode cX2_mostByTwo 32 = .ok (.aload_n 0, 1) := by decide +kernel
theorem dX2_mostByTwo_33 : decode cX2_mostByTwo 33 = .ok (.getfield 21, 3) := by decide +kernel
theorem dX2_mostByTwo_36 : decode cX2_mostByTwo 36 = .ok (.iload_n 2, 1) := by decide +kernel
theorem dX2_mostByTwo_37 : decode cX2_mostByTwo 37 = .ok (.iaload, 1) := by decide +kernel
theorem dX2_mostByTwo_38 : decode cX2_mostByTwo 38 = .ok (.invokevirtual 111, 3) := by decide +kernel
theorem dX2_mostByTwo_41 : decode cX2_mostByTwo 41 = .ok (.iinc 2 1, 3) := by decide +kernel
theorem dX2_mostByTwo_44 : decode cX2_mostByTwo 44 = .ok (.goto (-25), 3) := by decide +kernel
theorem dX2_mostByTwo_47 : decode cX2_mostByTwo 47 = .ok (.bipush 9, 2) := by decide +kernel
theorem dX2_mostByTwo_49 : decode cX2_mostByTwo 49 = .ok (.istore_n 2, 1) := by decide +kernel
theorem dX2_mostByTwo_50 : decode cX2_mostByTwo 50 = .ok (.iconst 0, 1) := by decide +kernel
theorem dX2_mostByTwo_51 : decode cX2_mostByTwo 51 = .ok (.istore_n 3, 1) := by decide +kernel
theorem dX2_mostByTwo_52 : decode cX2_mostByTwo 52 = .ok (.iload_n 3, 1) := by decide +kernel
theorem dX2_mostByTwo_53 : decode cX2_mostByTwo 53 = .ok (.aload_n 0, 1) := by decide +kernel
theorem dX2_mostByTwo_54 : decode cX2_mostByTwo 54 = .ok (.getfield 24, 3) := by decide +kernel
theorem dX2_mostByTwo_57 : decode cX2_mostByTwo 57 = .ok (.if_icmp .ge 23, 3) := by decide +kernel
theorem dX2_mostByTwo_60 : decode cX2_mostByTwo 60 = .ok (.iload_n 2, 1) := by decide +kernel
theorem dX2_mostByTwo_61 : decode cX2_mostByTwo 61 = .ok (.aload_n 0, 1) := by decide +kernel
theorem dX2_mostByTwo_62 : decode cX2_mostByTwo 62 = .ok (.getfield 21, 3) := by decide +kernel
theorem dX2_mostByTwo_65 : decode cX2_mostByTwo 65 = .ok (.iload_n 3, 1) := by decide +kernel
theorem dX2_mostByTwo_66 : decode cX2_mostByTwo 66 = .ok (.iaload, 1) := by decide +kernel
theorem dX2_mostByTwo_67 : decode cX2_mostByTwo 67 = .ok (.invokestatic 52, 3) := by decide +kernel
theorem dX2_mostByTwo_70 : decode cX2_mostByTwo 70 = .ok (.invokestatic 115, 3) := by decide +kernel
theorem dX2_mostByTwo_73 : decode cX2_mostByTwo 73 = .ok (.istore_n 2, 1) := by decide +kernel
theorem dX2_mostByTwo_74 : decode cX2_mostByTwo 74 = .ok (.iinc 3 1, 3) := by decide +kernel
theorem dX2_mostByTwo_77 : decode cX2_mostByTwo 77 = .ok (.goto (-25), 3) := by decide +kernel
theorem dX2_mostByTwo_80 : decode cX2_mostByTwo 80 = .ok (.aload_n 0, 1) := by decide +kernel
theorem dX2_mostByTwo_81 : decode cX2_mostByTwo 81 = .ok (.getfield 28, 3) := by decide +kernel
theorem dX2_mostByTwo_84 : decode cX2_mostByTwo 84 = .ok (.invokestatic 52, 3) := by decide +kernel
theorem dX2_mostByTwo_87 : decode cX2_mostByTwo 87 = .ok (.iload_n 2, 1) := by decide +kernel
theorem dX2_mostByTwo_88 : decode cX2_mostByTwo 88 = .ok (.isub, 1) := by decide +kernel
theorem dX2_mostByTwo_89 : decode cX2_mostByTwo 89 = .ok (.ireturn, 1) := by decide +kernel
theorem dX2_fewestForAll_0 : decode cX2_fewestForAll 0 = .ok (.aload_n 0, 1) := by decide +kernel
theorem dX2_fewestForAll_1 : decode cX2_fewestForAll 1 = .ok (.invokevirtual 108, 3) := by decide +kernel
theorem dX2_fewestForAll_4 : decode cX2_fewestForAll 4 = .ok (.iconst 0, 1) := by decide +kernel
theorem dX2_fewestForAll_5 : decode cX2_fewestForAll 5 = .ok (.istore_n 1, 1) := by decide +kernel
theorem dX2_fewestForAll_6 : decode cX2_fewestForAll 6 = .ok (.iload_n 1, 1) := by decide +kernel
theorem dX2_fewestForAll_7 : decode cX2_fewestForAll 7 = .ok (.aload_n 0, 1) := by decide +kernel
theorem dX2_fewestForAll_8 : decode cX2_fewestForAll 8 = .ok (.getfield 24, 3) := by decide +kernel
theorem dX2_fewestForAll_11 : decode cX2_fewestForAll 11 = .ok (.if_icmp .ge 36, 3) := by decide +kernel
theorem dX2_fewestForAll_14 : decode cX2_fewestForAll 14 = .ok (.iload_n 1, 1) := by decide +kernel
theorem dX2_fewestForAll_15 : decode cX2_fewestForAll 15 = .ok (.sipush 512, 3) := by decide +kernel
theorem dX2_fewestForAll_18 : decode cX2_fewestForAll 18 = .ok (.if_icmp .ge 29, 3) := by decide +kernel
theorem dX2_fewestForAll_21 : decode cX2_fewestForAll 21 = .ok (.aload_n 0, 1) := by decide +kernel
theorem dX2_fewestForAll_22 : decode cX2_fewestForAll 22 = .ok (.getfield 18, 3) := by decide +kernel
theorem dX2_fewestForAll_25 : decode cX2_fewestForAll 25 = .ok (.iconst 0, 1) := by decide +kernel
theorem dX2_fewestForAll_26 : decode cX2_fewestForAll 26 = .ok (.iaload, 1) := by decide +kernel
theorem dX2_fewestForAll_27 : decode cX2_fewestForAll 27 = .ok (.iconst (-1), 1) := by decide +kernel
theorem dX2_fewestForAll_28 : decode cX2_fewestForAll 28 = .ok (.if_icmp .ne 19, 3) := by decide +kernel
theorem dX2_fewestForAll_31 : decode cX2_fewestForAll 31 = .ok (.aload_n 0, 1) := by decide +kernel
theorem dX2_fewestForAll_32 : decode cX2_fewestForAll 32 = .ok (.aload_n 0, 1) := by decide +kernel
theorem dX2_fewestForAll_33 : decode cX2_fewestForAll 33 = .ok (.getfield 21, 3) := by decide +kernel
theorem dX2_fewestForAll_36 : decode cX2_fewestForAll 36 = .ok (.iload_n 1, 1) := by decide +kernel
theorem dX2_fewestForAll_37 : decode cX2_fewestForAll 37 = .ok (.iaload, 1) := by decide +kernel
theorem dX2_fewestForAll_38 : decode cX2_fewestForAll 38 = .ok (.invokevirtual 111, 3) := by decide +kernel
theorem dX2_fewestForAll_41 : decode cX2_fewestForAll 41 = .ok (.iinc 1 1, 3) := by decide +kernel
theorem dX2_fewestForAll_44 : decode cX2_fewestForAll 44 = .ok (.goto (-38), 3) := by decide +kernel
theorem dX2_fewestForAll_47 : decode cX2_fewestForAll 47 = .ok (.aload_n 0, 1) := by decide +kernel
theorem dX2_fewestForAll_48 : decode cX2_fewestForAll 48 = .ok (.getfield 18, 3) := by decide +kernel
theorem dX2_fewestForAll_51 : decode cX2_fewestForAll 51 = .ok (.iconst 0, 1) := by decide +kernel
theorem dX2_fewestForAll_52 : decode cX2_fewestForAll 52 = .ok (.iaload, 1) := by decide +kernel
theorem dX2_fewestForAll_53 : decode cX2_fewestForAll 53 = .ok (.iconst (-1), 1) := by decide +kernel
theorem dX2_fewestForAll_54 : decode cX2_fewestForAll 54 = .ok (.if_icmp .ne 8, 3) := by decide +kernel
theorem dX2_fewestForAll_57 : decode cX2_fewestForAll 57 = .ok (.ldc 120, 2) := by decide +kernel
theorem dX2_fewestForAll_59 : decode cX2_fewestForAll 59 = .ok (.goto 9, 3) := by decide +kernel
theorem dX2_fewestForAll_62 : decode cX2_fewestForAll 62 = .ok (.aload_n 0, 1) := by decide +kernel
theorem dX2_fewestForAll_63 : decode cX2_fewestForAll 63 = .ok (.getfield 18, 3) := by decide +kernel
theorem dX2_fewestForAll_66 : decode cX2_fewestForAll 66 = .ok (.iconst 0, 1) := by decide +kernel
theorem dX2_fewestForAll_67 : decode cX2_fewestForAll 67 = .ok (.iaload, 1) := by decide +kernel
theorem dX2_fewestForAll_68 : decode cX2_fewestForAll 68 = .ok (.ireturn, 1) := by decide +kernel
theorem dX2_startQueue_0 : decode cX2_startQueue 0 = .ok (.aload_n 0, 1) := by decide +kernel
theorem dX2_startQueue_1 : decode cX2_startQueue 1 = .ok (.getfield 18, 3) := by decide +kernel
theorem dX2_startQueue_4 : decode cX2_startQueue 4 = .ok (.iconst (-1), 1) := by decide +kernel
theorem dX2_startQueue_5 : decode cX2_startQueue 5 = .ok (.invokestatic 121, 3) := by decide +kernel
theorem dX2_startQueue_8 : decode cX2_startQueue 8 = .ok (.aload_n 0, 1) := by decide +kernel
theorem dX2_startQueue_9 : decode cX2_startQueue 9 = .ok (.getfield 18, 3) := by decide +kernel
theorem dX2_startQueue_12 : decode cX2_startQueue 12 = .ok (.aload_n 0, 1) := by decide +kernel
theorem dX2_startQueue_13 : decode cX2_startQueue 13 = .ok (.getfield 28, 3) := by decide +kernel
theorem dX2_startQueue_16 : decode cX2_startQueue 16 = .ok (.iconst 0, 1) := by decide +kernel
theorem dX2_startQueue_17 : decode cX2_startQueue 17 = .ok (.iastore, 1) := by decide +kernel
theorem dX2_startQueue_18 : decode cX2_startQueue 18 = .ok (.aload_n 0, 1) := by decide +kernel
theorem dX2_startQueue_19 : decode cX2_startQueue 19 = .ok (.getfield 21, 3) := by decide +kernel
theorem dX2_startQueue_22 : decode cX2_startQueue 22 = .ok (.iconst 0, 1) := by decide +kernel
theorem dX2_startQueue_23 : decode cX2_startQueue 23 = .ok (.aload_n 0, 1) := by decide +kernel
theorem dX2_startQueue_24 : decode cX2_startQueue 24 = .ok (.getfield 28, 3) := by decide +kernel
theorem dX2_startQueue_27 : decode cX2_startQueue 27 = .ok (.iastore, 1) := by decide +kernel
theorem dX2_startQueue_28 : decode cX2_startQueue 28 = .ok (.aload_n 0, 1) := by decide +kernel
theorem dX2_startQueue_29 : decode cX2_startQueue 29 = .ok (.iconst 1, 1) := by decide +kernel
theorem dX2_startQueue_30 : decode cX2_startQueue 30 = .ok (.putfield 24, 3) := by decide +kernel
theorem dX2_startQueue_33 : decode cX2_startQueue 33 = .ok (.return_, 1) := by decide +kernel
theorem dX2_queueAllBehind_0 : decode cX2_queueAllBehind 0 = .ok (.iconst 0, 1) := by decide +kernel
theorem dX2_queueAllBehind_1 : decode cX2_queueAllBehind 1 = .ok (.istore_n 2, 1) := by decide +kernel
theorem dX2_queueAllBehind_2 : decode cX2_queueAllBehind 2 = .ok (.iload_n 2, 1) := by decide +kernel
theorem dX2_queueAllBehind_3 : decode cX2_queueAllBehind 3 = .ok (.bipush 9, 2) := by decide +kernel
theorem dX2_queueAllBehind_5 : decode cX2_queueAllBehind 5 = .ok (.if_icmp .ge 82, 3) := by decide +kernel
theorem dX2_queueAllBehind_8 : decode cX2_queueAllBehind 8 = .ok (.iconst 0, 1) := by decide +kernel
theorem dX2_queueAllBehind_9 : decode cX2_queueAllBehind 9 = .ok (.istore_n 3, 1) := by decide +kernel
theorem dX2_queueAllBehind_10 : decode cX2_queueAllBehind 10 = .ok (.iload_n 3, 1) := by decide +kernel
theorem dX2_queueAllBehind_11 : decode cX2_queueAllBehind 11 = .ok (.bipush 8, 2) := by decide +kernel
theorem dX2_queueAllBehind_13 : decode cX2_queueAllBehind 13 = .ok (.if_icmp .ge 68, 3) := by decide +kernel
theorem dX2_queueAllBehind_16 : decode cX2_queueAllBehind 16 = .ok (.iload_n 2, 1) := by decide +kernel
theorem dX2_queueAllBehind_17 : decode cX2_queueAllBehind 17 = .ok (.iload_n 1, 1) := by decide +kernel
theorem dX2_queueAllBehind_18 : decode cX2_queueAllBehind 18 = .ok (.invokestatic 86, 3) := by decide +kernel
theorem dX2_queueAllBehind_21 : decode cX2_queueAllBehind 21 = .ok (.ifCond .eq 60, 3) := by decide +kernel
theorem dX2_queueAllBehind_24 : decode cX2_queueAllBehind 24 = .ok (.aload_n 0, 1) := by decide +kernel
theorem dX2_queueAllBehind_25 : decode cX2_queueAllBehind 25 = .ok (.aload_n 0, 1) := by decide +kernel
theorem dX2_queueAllBehind_26 : decode cX2_queueAllBehind 26 = .ok (.getfield 31, 3) := by decide +kernel
theorem dX2_queueAllBehind_29 : decode cX2_queueAllBehind 29 = .ok (.iload_n 2, 1) := by decide +kernel
theorem dX2_queueAllBehind_30 : decode cX2_queueAllBehind 30 = .ok (.iload_n 3, 1) := by decide +kernel
theorem dX2_queueAllBehind_31 : decode cX2_queueAllBehind 31 = .ok (.iload_n 1, 1) := by decide +kernel
theorem dX2_queueAllBehind_32 : decode cX2_queueAllBehind 32 = .ok (.invokevirtual 93, 3) := by decide +kernel
theorem dX2_queueAllBehind_35 : decode cX2_queueAllBehind 35 = .ok (.ifCond .eq 40, 3) := by decide +kernel
theorem dX2_queueAllBehind_38 : decode cX2_queueAllBehind 38 = .ok (.iconst (-1), 1) := by decide +kernel
theorem dX2_queueAllBehind_39 : decode cX2_queueAllBehind 39 = .ok (.istore 4, 2) := by decide +kernel
theorem dX2_queueAllBehind_41 : decode cX2_queueAllBehind 41 = .ok (.iload 4, 2) := by decide +kernel
theorem dX2_queueAllBehind_43 : decode cX2_queueAllBehind 43 = .ok (.iconst 1, 1) := by decide +kernel
theorem dX2_queueAllBehind_44 : decode cX2_queueAllBehind 44 = .ok (.if_icmp .gt 31, 3) := by decide +kernel
theorem dX2_queueAllBehind_47 : decode cX2_queueAllBehind 47 = .ok (.aload_n 0, 1) := by decide +kernel
theorem dX2_queueAllBehind_48 : decode cX2_queueAllBehind 48 = .ok (.aload_n 0, 1) := by decide +kernel
theorem dX2_queueAllBehind_49 : decode cX2_queueAllBehind 49 = .ok (.iload_n 1, 1) := by decide +kernel
theorem dX2_queueAllBehind_50 : decode cX2_queueAllBehind 50 = .ok (.iload_n 2, 1) := by decide +kernel
theorem dX2_queueAllBehind_51 : decode cX2_queueAllBehind 51 = .ok (.iload_n 3, 1) := by decide +kernel
theorem dX2_queueAllBehind_52 : decode cX2_queueAllBehind 52 = .ok (.iload 4, 2) := by decide +kernel
theorem dX2_queueAllBehind_54 : decode cX2_queueAllBehind 54 = .ok (.iconst 0, 1) := by decide +kernel
theorem dX2_queueAllBehind_55 : decode cX2_queueAllBehind 55 = .ok (.invokevirtual 97, 3) := by decide +kernel
theorem dX2_queueAllBehind_58 : decode cX2_queueAllBehind 58 = .ok (.aload_n 0, 1) := by decide +kernel
theorem dX2_queueAllBehind_59 : decode cX2_queueAllBehind 59 = .ok (.getfield 18, 3) := by decide +kernel
theorem dX2_queueAllBehind_62 : decode cX2_queueAllBehind 62 = .ok (.iload_n 1, 1) := by decide +kernel
theorem dX2_queueAllBehind_63 : decode cX2_queueAllBehind 63 = .ok (.iaload, 1) := by decide +kernel
theorem dX2_queueAllBehind_64 : decode cX2_queueAllBehind 64 = .ok (.iconst 1, 1) := by decide +kernel
theorem dX2_queueAllBehind_65 : decode cX2_queueAllBehind 65 = .ok (.iadd, 1) := by decide +kernel
theorem dX2_queueAllBehind_66 : decode cX2_queueAllBehind 66 = .ok (.invokevirtual 127, 3) := by decide +kernel
theorem dX2_queueAllBehind_69 : decode cX2_queueAllBehind 69 = .ok (.iinc 4 1, 3) := by decide +kernel
theorem dX2_queueAllBehind_72 : decode cX2_queueAllBehind 72 = .ok (.goto (-31), 3) := by decide +kernel
theorem dX2_queueAllBehind_75 : decode cX2_queueAllBehind 75 = .ok (.iinc 3 1, 3) := by decide +kernel
theorem dX2_queueAllBehind_78 : decode cX2_queueAllBehind 78 = .ok (.goto (-68), 3) := by decide +kernel
theorem dX2_queueAllBehind_81 : decode cX2_queueAllBehind 81 = .ok (.iinc 2 1, 3) := by decide +kernel
theorem dX2_queueAllBehind_84 : decode cX2_queueAllBehind 84 = .ok (.goto (-82), 3) := by decide +kernel
theorem dX2_queueAllBehind_87 : decode cX2_queueAllBehind 87 = .ok (.return_, 1) := by decide +kernel
theorem dX2_enqueue_0 : decode cX2_enqueue 0 = .ok (.aload_n 0, 1) := by decide +kernel
theorem dX2_enqueue_1 : decode cX2_enqueue 1 = .ok (.getfield 18, 3) := by decide +kernel
theorem dX2_enqueue_4 : decode cX2_enqueue 4 = .ok (.iload_n 1, 1) := by decide +kernel
theorem dX2_enqueue_5 : decode cX2_enqueue 5 = .ok (.iaload, 1) := by decide +kernel
theorem dX2_enqueue_6 : decode cX2_enqueue 6 = .ok (.iconst (-1), 1) := by decide +kernel
theorem dX2_enqueue_7 : decode cX2_enqueue 7 = .ok (.if_icmp .ne 40, 3) := by decide +kernel
theorem dX2_enqueue_10 : decode cX2_enqueue 10 = .ok (.aload_n 0, 1) := by decide +kernel
theorem dX2_enqueue_11 : decode cX2_enqueue 11 = .ok (.getfield 24, 3) := by decide +kernel
theorem dX2_enqueue_14 : decode cX2_enqueue 14 = .ok (.sipush 512, 3) := by decide +kernel
theorem dX2_enqueue_17 : decode cX2_enqueue 17 = .ok (.if_icmp .ge 30, 3) := by decide +kernel
theorem dX2_enqueue_20 : decode cX2_enqueue 20 = .ok (.aload_n 0, 1) := by decide +kernel
theorem dX2_enqueue_21 : decode cX2_enqueue 21 = .ok (.getfield 18, 3) := by decide +kernel
theorem dX2_enqueue_24 : decode cX2_enqueue 24 = .ok (.iload_n 1, 1) := by decide +kernel
theorem dX2_enqueue_25 : decode cX2_enqueue 25 = .ok (.iload_n 2, 1) := by decide +kernel
theorem dX2_enqueue_26 : decode cX2_enqueue 26 = .ok (.iastore, 1) := by decide +kernel
theorem dX2_enqueue_27 : decode cX2_enqueue 27 = .ok (.aload_n 0, 1) := by decide +kernel
theorem dX2_enqueue_28 : decode cX2_enqueue 28 = .ok (.getfield 21, 3) := by decide +kernel
theorem dX2_enqueue_31 : decode cX2_enqueue 31 = .ok (.aload_n 0, 1) := by decide +kernel
theorem dX2_enqueue_32 : decode cX2_enqueue 32 = .ok (.getfield 24, 3) := by decide +kernel
theorem dX2_enqueue_35 : decode cX2_enqueue 35 = .ok (.iload_n 1, 1) := by decide +kernel
theorem dX2_enqueue_36 : decode cX2_enqueue 36 = .ok (.iastore, 1) := by decide +kernel
theorem dX2_enqueue_37 : decode cX2_enqueue 37 = .ok (.aload_n 0, 1) := by decide +kernel
theorem dX2_enqueue_38 : decode cX2_enqueue 38 = .ok (.dup, 1) := by decide +kernel
theorem dX2_enqueue_39 : decode cX2_enqueue 39 = .ok (.getfield 24, 3) := by decide +kernel
theorem dX2_enqueue_42 : decode cX2_enqueue 42 = .ok (.iconst 1, 1) := by decide +kernel
theorem dX2_enqueue_43 : decode cX2_enqueue 43 = .ok (.iadd, 1) := by decide +kernel
theorem dX2_enqueue_44 : decode cX2_enqueue 44 = .ok (.putfield 24, 3) := by decide +kernel
theorem dX2_enqueue_47 : decode cX2_enqueue 47 = .ok (.return_, 1) := by decide +kernel
theorem dX3_init_0 : decode cX3_init 0 = .ok (.aload_n 0, 1) := by decide +kernel
theorem dX3_init_1 : decode cX3_init 1 = .ok (.invokespecial 5, 3) := by decide +kernel
theorem dX3_init_4 : decode cX3_init 4 = .ok (.aload_n 0, 1) := by decide +kernel
theorem dX3_init_5 : decode cX3_init 5 = .ok (.iconst (-1), 1) := by decide +kernel
theorem dX3_init_6 : decode cX3_init 6 = .ok (.putfield 13, 3) := by decide +kernel
theorem dX3_init_9 : decode cX3_init 9 = .ok (.aload_n 0, 1) := by decide +kernel
theorem dX3_init_10 : decode cX3_init 10 = .ok (.iconst 0, 1) := by decide +kernel
theorem dX3_init_11 : decode cX3_init 11 = .ok (.putfield 17, 3) := by decide +kernel
theorem dX3_init_14 : decode cX3_init 14 = .ok (.aload_n 0, 1) := by decide +kernel
theorem dX3_init_15 : decode cX3_init 15 = .ok (.bipush 24, 2) := by decide +kernel
theorem dX3_init_17 : decode cX3_init 17 = .ok (.newarray .int, 2) := by decide +kernel
theorem dX3_init_19 : decode cX3_init 19 = .ok (.putfield 20, 3) := by decide +kernel
theorem dX3_init_22 : decode cX3_init 22 = .ok (.return_, 1) := by decide +kernel
theorem dX3_becomeRow_0 : decode cX3_becomeRow 0 = .ok (.aload_n 0, 1) := by decide +kernel
theorem dX3_becomeRow_1 : decode cX3_becomeRow 1 = .ok (.iload_n 1, 1) := by decide +kernel
theorem dX3_becomeRow_2 : decode cX3_becomeRow 2 = .ok (.putfield 13, 3) := by decide +kernel
theorem dX3_becomeRow_5 : decode cX3_becomeRow 5 = .ok (.aload_n 0, 1) := by decide +kernel
theorem dX3_becomeRow_6 : decode cX3_becomeRow 6 = .ok (.iload_n 2, 1) := by decide +kernel
theorem dX3_becomeRow_7 : decode cX3_becomeRow 7 = .ok (.putfield 17, 3) := by decide +kernel
theorem dX3_becomeRow_10 : decode cX3_becomeRow 10 = .ok (.aload_n 0, 1) := by decide +kernel
theorem dX3_becomeRow_11 : decode cX3_becomeRow 11 = .ok (.getfield 20, 3) := by decide +kernel
theorem dX3_becomeRow_14 : decode cX3_becomeRow 14 = .ok (.iconst 0, 1) := by decide +kernel
theorem dX3_becomeRow_15 : decode cX3_becomeRow 15 = .ok (.invokestatic 24, 3) := by decide +kernel
theorem dX3_becomeRow_18 : decode cX3_becomeRow 18 = .ok (.return_, 1) := by decide +kernel
theorem dX3_becomeAs_0 : decode cX3_becomeAs 0 = .ok (.aload_n 0, 1) := by decide +kernel
theorem dX3_becomeAs_1 : decode cX3_becomeAs 1 = .ok (.aload_n 1, 1) := by decide +kernel
theorem dX3_becomeAs_2 : decode cX3_becomeAs 2 = .ok (.getfield 13, 3) := by decide +kernel
theorem dX3_becomeAs_5 : decode cX3_becomeAs 5 = .ok (.putfield 13, 3) := by decide +kernel
theorem dX3_becomeAs_8 : decode cX3_becomeAs 8 = .ok (.aload_n 0, 1) := by decide +kernel
theorem dX3_becomeAs_9 : decode cX3_becomeAs 9 = .ok (.aload_n 1, 1) := by decide +kernel
theorem dX3_becomeAs_10 : decode cX3_becomeAs 10 = .ok (.getfield 17, 3) := by decide +kernel
theorem dX3_becomeAs_13 : decode cX3_becomeAs 13 = .ok (.putfield 17, 3) := by decide +kernel
theorem dX3_becomeAs_16 : decode cX3_becomeAs 16 = .ok (.aload_n 1, 1) := by decide +kernel
theorem dX3_becomeAs_17 : decode cX3_becomeAs 17 = .ok (.getfield 20, 3) := by decide +kernel
theorem dX3_becomeAs_20 : decode cX3_becomeAs 20 = .ok (.iconst 0, 1) := by decide +kernel
theorem dX3_becomeAs_21 : decode cX3_becomeAs 21 = .ok (.aload_n 0, 1) := by decide +kernel
theorem dX3_becomeAs_22 : decode cX3_becomeAs 22 = .ok (.getfield 20, 3) := by decide +kernel
theorem dX3_becomeAs_25 : decode cX3_becomeAs 25 = .ok (.iconst 0, 1) := by decide +kernel
theorem dX3_becomeAs_26 : decode cX3_becomeAs 26 = .ok (.bipush 24, 2) := by decide +kernel
theorem dX3_becomeAs_28 : decode cX3_becomeAs 28 = .ok (.invokestatic 30, 3) := by decide +kernel
theorem dX3_becomeAs_31 : decode cX3_becomeAs 31 = .ok (.return_, 1) := by decide +kernel
theorem dX3_isMissing_0 : decode cX3_isMissing 0 = .ok (.aload_n 0, 1) := by decide +kernel
theorem dX3_isMissing_1 : decode cX3_isMissing 1 = .ok (.getfield 13, 3) := by decide +kernel
theorem dX3_isMissing_4 : decode cX3_isMissing 4 = .ok (.iconst (-1), 1) := by decide +kernel
theorem dX3_isMissing_5 : decode cX3_isMissing 5 = .ok (.if_icmp .ne 7, 3) := by decide +kernel
theorem dX3_isMissing_8 : decode cX3_isMissing 8 = .ok (.iconst 1, 1) := by decide +kernel
theorem dX3_isMissing_9 : decode cX3_isMissing 9 = .ok (.goto 4, 3) := by decide +kernel
theorem dX3_isMissing_12 : decode cX3_isMissing 12 = .ok (.iconst 0, 1) := by decide +kernel
theorem dX3_isMissing_13 : decode cX3_isMissing 13 = .ok (.ireturn, 1) := by decide +kernel
theorem dX3_has_0 : decode cX3_has 0 = .ok (.iload_n 1, 1) := by decide +kernel
theorem dX3_has_1 : decode cX3_has 1 = .ok (.ifCond .lt 15, 3) := by decide +kernel
theorem dX3_has_4 : decode cX3_has 4 = .ok (.iload_n 1, 1) := by decide +kernel
theorem dX3_has_5 : decode cX3_has 5 = .ok (.aload_n 0, 1) := by decide +kernel
theorem dX3_has_6 : decode cX3_has 6 = .ok (.getfield 17, 3) := by decide +kernel
theorem dX3_has_9 : decode cX3_has 9 = .ok (.if_icmp .ge 7, 3) := by decide +kernel
theorem dX3_has_12 : decode cX3_has 12 = .ok (.iconst 1, 1) := by decide +kernel
theorem dX3_has_13 : decode cX3_has 13 = .ok (.goto 4, 3) := by decide +kernel
theorem dX3_has_16 : decode cX3_has 16 = .ok (.iconst 0, 1) := by decide +kernel
theorem dX3_has_17 : decode cX3_has 17 = .ok (.ireturn, 1) := by decide +kernel
theorem dX3_hasRun_0 : decode cX3_hasRun 0 = .ok (.iload_n 1, 1) := by decide +kernel
theorem dX3_hasRun_1 : decode cX3_hasRun 1 = .ok (.ifCond .lt 21, 3) := by decide +kernel
theorem dX3_hasRun_4 : decode cX3_hasRun 4 = .ok (.iload_n 2, 1) := by decide +kernel
theorem dX3_hasRun_5 : decode cX3_hasRun 5 = .ok (.ifCond .lt 17, 3) := by decide +kernel
theorem dX3_hasRun_8 : decode cX3_hasRun 8 = .ok (.iload_n 2, 1) := by decide +kernel
theorem dX3_hasRun_9 : decode cX3_hasRun 9 = .ok (.aload_n 0, 1) := by decide +kernel
theorem dX3_hasRun_10 : decode cX3_hasRun 10 = .ok (.getfield 17, 3) := by decide +kernel
theorem dX3_hasRun_13 : decode cX3_hasRun 13 = .ok (.iload_n 1, 1) := by decide +kernel
theorem dX3_hasRun_14 : decode cX3_hasRun 14 = .ok (.isub, 1) := by decide +kernel
theorem dX3_hasRun_15 : decode cX3_hasRun 15 = .ok (.if_icmp .gt 7, 3) := by decide +kernel
theorem dX3_hasRun_18 : decode cX3_hasRun 18 = .ok (.iconst 1, 1) := by decide +kernel
theorem dX3_hasRun_19 : decode cX3_hasRun 19 = .ok (.goto 4, 3) := by decide +kernel
theorem dX3_hasRun_22 : decode cX3_hasRun 22 = .ok (.iconst 0, 1) := by decide +kernel
theorem dX3_hasRun_23 : decode cX3_hasRun 23 = .ok (.ireturn, 1) := by decide +kernel
theorem dX3_isNumber_0 : decode cX3_isNumber 0 = .ok (.aload_n 0, 1) := by decide +kernel
theorem dX3_isNumber_1 : decode cX3_isNumber 1 = .ok (.iload_n 1, 1) := by decide +kernel
theorem dX3_isNumber_2 : decode cX3_isNumber 2 = .ok (.invokevirtual 36, 3) := by decide +kernel
theorem dX3_isNumber_5 : decode cX3_isNumber 5 = .ok (.ifCond .eq 18, 3) := by decide +kernel
theorem dX3_isNumber_8 : decode cX3_isNumber 8 = .ok (.aload_n 0, 1) := by decide +kernel
theorem dX3_isNumber_9 : decode cX3_isNumber 9 = .ok (.getfield 20, 3) := by decide +kernel
theorem dX3_isNumber_12 : decode cX3_isNumber 12 = .ok (.iload_n 1, 1) := by decide +kernel
theorem dX3_isNumber_13 : decode cX3_isNumber 13 = .ok (.iaload, 1) := by decide +kernel
theorem dX3_isNumber_14 : decode cX3_isNumber 14 = .ok (.ldc 40, 2) := by decide +kernel
theorem dX3_isNumber_16 : decode cX3_isNumber 16 = .ok (.if_icmp .eq 7, 3) := by decide +kernel
theorem dX3_isNumber_19 : decode cX3_isNumber 19 = .ok (.iconst 1, 1) := by decide +kernel
theorem dX3_isNumber_20 : decode cX3_isNumber 20 = .ok (.goto 4, 3) := by decide +kernel
theorem dX3_isNumber_23 : decode cX3_isNumber 23 = .ok (.iconst 0, 1) := by decide +kernel
theorem dX3_isNumber_24 : decode cX3_isNumber 24 = .ok (.ireturn, 1) := by decide +kernel
theorem dX4_init_0 : decode cX4_init 0 = .ok (.aload_n 0, 1) := by decide +kernel
theorem dX4_init_1 : decode cX4_init 1 = .ok (.invokespecial 1, 3) := by decide +kernel
theorem dX4_init_4 : decode cX4_init 4 = .ok (.aload_n 0, 1) := by decide +kernel
theorem dX4_init_5 : decode cX4_init 5 = .ok (.iconst 0, 1) := by decide +kernel
theorem dX4_init_6 : decode cX4_init 6 = .ok (.putfield 9, 3) := by decide +kernel
theorem dX4_init_9 : decode cX4_init 9 = .ok (.aload_n 0, 1) := by decide +kernel
theorem dX4_init_10 : decode cX4_init 10 = .ok (.new 13, 3) := by decide +kernel
theorem dX4_init_13 : decode cX4_init 13 = .ok (.dup, 1) := by decide +kernel
theorem dX4_init_14 : decode cX4_init 14 = .ok (.invokespecial 15, 3) := by decide +kernel
theorem dX4_init_17 : decode cX4_init 17 = .ok (.putfield 16, 3) := by decide +kernel
theorem dX4_init_20 : decode cX4_init 20 = .ok (.aload_n 0, 1) := by decide +kernel
theorem dX4_init_21 : decode cX4_init 21 = .ok (.new 20, 3) := by decide +kernel
theorem dX4_init_24 : decode cX4_init 24 = .ok (.dup, 1) := by decide +kernel
theorem dX4_init_25 : decode cX4_init 25 = .ok (.invokespecial 22, 3) := by decide +kernel
theorem dX4_init_28 : decode cX4_init 28 = .ok (.putfield 23, 3) := by decide +kernel
theorem dX4_init_31 : decode cX4_init 31 = .ok (.aload_n 0, 1) := by decide +kernel
theorem dX4_init_32 : decode cX4_init 32 = .ok (.iconst 0, 1) := by decide +kernel
theorem dX4_init_33 : decode cX4_init 33 = .ok (.putfield 27, 3) := by decide +kernel
theorem dX4_init_36 : decode cX4_init 36 = .ok (.return_, 1) := by decide +kernel
theorem dX5_init_0 : decode cX5_init 0 = .ok (.aload_n 0, 1) := by decide +kernel
theorem dX5_init_1 : decode cX5_init 1 = .ok (.invokespecial 3, 3) := by decide +kernel
theorem dX5_init_4 : decode cX5_init 4 = .ok (.aload_n 0, 1) := by decide +kernel
theorem dX5_init_5 : decode cX5_init 5 = .ok (.bipush 96, 2) := by decide +kernel
theorem dX5_init_7 : decode cX5_init 7 = .ok (.newarray .byte, 2) := by decide +kernel
theorem dX5_init_9 : decode cX5_init 9 = .ok (.putfield 9, 3) := by decide +kernel
theorem dX5_init_12 : decode cX5_init 12 = .ok (.aload_n 0, 1) := by decide +kernel
theorem dX5_init_13 : decode cX5_init 13 = .ok (.iconst 0, 1) := by decide +kernel
theorem dX5_init_14 : decode cX5_init 14 = .ok (.putfield 15, 3) := by decide +kernel
theorem dX5_init_17 : decode cX5_init 17 = .ok (.return_, 1) := by decide +kernel
theorem dX5_put_0 : decode cX5_put 0 = .ok (.bipush 24, 2) := by decide +kernel
theorem dX5_put_2 : decode cX5_put 2 = .ok (.istore_n 2, 1) := by decide +kernel
theorem dX5_put_3 : decode cX5_put 3 = .ok (.iload_n 2, 1) := by decide +kernel
theorem dX5_put_4 : decode cX5_put 4 = .ok (.ifCond .lt 41, 3) := by decide +kernel
theorem dX5_put_7 : decode cX5_put 7 = .ok (.aload_n 0, 1) := by decide +kernel
theorem dX5_put_8 : decode cX5_put 8 = .ok (.getfield 15, 3) := by decide +kernel
theorem dX5_put_11 : decode cX5_put 11 = .ok (.bipush 96, 2) := by decide +kernel
theorem dX5_put_13 : decode cX5_put 13 = .ok (.if_icmp .ge 32, 3) := by decide +kernel
theorem dX5_put_16 : decode cX5_put 16 = .ok (.aload_n 0, 1) := by decide +kernel
theorem dX5_put_17 : decode cX5_put 17 = .ok (.getfield 9, 3) := by decide +kernel
theorem dX5_put_20 : decode cX5_put 20 = .ok (.aload_n 0, 1) := by decide +kernel
theorem dX5_put_21 : decode cX5_put 21 = .ok (.getfield 15, 3) := by decide +kernel
theorem dX5_put_24 : decode cX5_put 24 = .ok (.iload_n 1, 1) := by decide +kernel
theorem dX5_put_25 : decode cX5_put 25 = .ok (.iload_n 2, 1) := by decide +kernel
theorem dX5_put_26 : decode cX5_put 26 = .ok (.ishr, 1) := by decide +kernel
theorem dX5_put_27 : decode cX5_put 27 = .ok (.i2b, 1) := by decide +kernel
theorem dX5_put_28 : decode cX5_put 28 = .ok (.bastore, 1) := by decide +kernel
theorem dX5_put_29 : decode cX5_put 29 = .ok (.aload_n 0, 1) := by decide +kernel
theorem dX5_put_30 : decode cX5_put 30 = .ok (.dup, 1) := by decide +kernel
theorem dX5_put_31 : decode cX5_put 31 = .ok (.getfield 15, 3) := by decide +kernel
theorem dX5_put_34 : decode cX5_put 34 = .ok (.iconst 1, 1) := by decide +kernel
theorem dX5_put_35 : decode cX5_put 35 = .ok (.iadd, 1) := by decide +kernel
theorem dX5_put_36 : decode cX5_put 36 = .ok (.putfield 15, 3) := by decide +kernel
theorem dX5_put_39 : decode cX5_put 39 = .ok (.iinc 2 (-8), 3) := by decide +kernel
theorem dX5_put_42 : decode cX5_put 42 = .ok (.goto (-39), 3) := by decide +kernel
theorem dX5_put_45 : decode cX5_put 45 = .ok (.return_, 1) := by decide +kernel
theorem dX6_init_0 : decode cX6_init 0 = .ok (.aload_n 0, 1) := by decide +kernel
theorem dX6_init_1 : decode cX6_init 1 = .ok (.invokespecial 1, 3) := by decide +kernel
theorem dX6_init_4 : decode cX6_init 4 = .ok (.aload_n 0, 1) := by decide +kernel
theorem dX6_init_5 : decode cX6_init 5 = .ok (.iload_n 1, 1) := by decide +kernel
theorem dX6_init_6 : decode cX6_init 6 = .ok (.putfield 7, 3) := by decide +kernel
theorem dX6_init_9 : decode cX6_init 9 = .ok (.aload_n 0, 1) := by decide +kernel
theorem dX6_init_10 : decode cX6_init 10 = .ok (.iload_n 2, 1) := by decide +kernel
theorem dX6_init_11 : decode cX6_init 11 = .ok (.putfield 13, 3) := by decide +kernel
theorem dX6_init_14 : decode cX6_init 14 = .ok (.aload_n 0, 1) := by decide +kernel
theorem dX6_init_15 : decode cX6_init 15 = .ok (.aload_n 3, 1) := by decide +kernel
theorem dX6_init_16 : decode cX6_init 16 = .ok (.putfield 16, 3) := by decide +kernel
theorem dX6_init_19 : decode cX6_init 19 = .ok (.aload_n 0, 1) := by decide +kernel
theorem dX6_init_20 : decode cX6_init 20 = .ok (.iconst 1, 1) := by decide +kernel
theorem dX6_init_21 : decode cX6_init 21 = .ok (.iload_n 2, 1) := by decide +kernel
theorem dX6_init_22 : decode cX6_init 22 = .ok (.invokestatic 20, 3) := by decide +kernel
theorem dX6_init_25 : decode cX6_init 25 = .ok (.newarray .int, 2) := by decide +kernel
theorem dX6_init_27 : decode cX6_init 27 = .ok (.putfield 26, 3) := by decide +kernel
theorem dX6_init_30 : decode cX6_init 30 = .ok (.return_, 1) := by decide +kernel
theorem dX6_gives_0 : decode cX6_gives 0 = .ok (.iconst 0, 1) := by decide +kernel
theorem dX6_gives_1 : decode cX6_gives 1 = .ok (.istore 5, 2) := by decide +kernel
theorem dX6_gives_3 : decode cX6_gives 3 = .ok (.iconst 0, 1) := by decide +kernel
theorem dX6_gives_4 : decode cX6_gives 4 = .ok (.istore 6, 2) := by decide +kernel
theorem dX6_gives_6 : decode cX6_gives 6 = .ok (.iload 6, 2) := by decide +kernel
theorem dX6_gives_8 : decode cX6_gives 8 = .ok (.aload_n 0, 1) := by decide +kernel
theorem dX6_gives_9 : decode cX6_gives 9 = .ok (.getfield 16, 3) := by decide +kernel
theorem dX6_gives_12 : decode cX6_gives 12 = .ok (.arraylength, 1) := by decide +kernel
theorem dX6_gives_13 : decode cX6_gives 13 = .ok (.if_icmp .ge 155, 3) := by decide +kernel
theorem dX6_gives_16 : decode cX6_gives 16 = .ok (.aload_n 0, 1) := by decide +kernel
theorem dX6_gives_17 : decode cX6_gives 17 = .ok (.getfield 16, 3) := by decide +kernel
theorem dX6_gives_20 : decode cX6_gives 20 = .ok (.iload 6, 2) := by decide +kernel
theorem dX6_gives_22 : decode cX6_gives 22 = .ok (.iaload, 1) := by decide +kernel
theorem dX6_gives_23 : decode cX6_gives 23 = .ok (.istore 7, 2) := by decide +kernel
theorem dX6_gives_25 : decode cX6_gives 25 = .ok (.iload 7, 2) := by decide +kernel
theorem dX6_gives_27 : decode cX6_gives 27 = .ok (.ifCond .lt 53, 3) := by decide +kernel
theorem dX6_gives_30 : decode cX6_gives 30 = .ok (.iload 5, 2) := by decide +kernel
theorem dX6_gives_32 : decode cX6_gives 32 = .ok (.aload_n 0, 1) := by decide +kernel
theorem dX6_gives_33 : decode cX6_gives 33 = .ok (.getfield 26, 3) := by decide +kernel
theorem dX6_gives_36 : decode cX6_gives 36 = .ok (.arraylength, 1) := by decide +kernel
theorem dX6_gives_37 : decode cX6_gives 37 = .ok (.if_icmp .ge 43, 3) := by decide +kernel
theorem dX6_gives_40 : decode cX6_gives 40 = .ok (.aload_n 0, 1) := by decide +kernel
theorem dX6_gives_41 : decode cX6_gives 41 = .ok (.getfield 26, 3) := by decide +kernel
theorem dX6_gives_44 : decode cX6_gives 44 = .ok (.iload 5, 2) := by decide +kernel
theorem dX6_gives_46 : decode cX6_gives 46 = .ok (.iload 7, 2) := by decide +kernel
theorem dX6_gives_48 : decode cX6_gives 48 = .ok (.sipush 10000, 3) := by decide +kernel
theorem dX6_gives_51 : decode cX6_gives 51 = .ok (.if_icmp .ge 8, 3) := by decide +kernel
theorem dX6_gives_54 : decode cX6_gives 54 = .ok (.iload 7, 2) := by decide +kernel
theorem dX6_gives_56 : decode cX6_gives 56 = .ok (.goto 17, 3) := by decide +kernel
theorem dX6_gives_59 : decode cX6_gives 59 = .ok (.iload 7, 2) := by decide +kernel
theorem dX6_gives_61 : decode cX6_gives 61 = .ok (.sipush 10000, 3) := by decide +kernel
theorem dX6_gives_64 : decode cX6_gives 64 = .ok (.isub, 1) := by decide +kernel
theorem dX6_gives_65 : decode cX6_gives 65 = .ok (.iload_n 1, 1) := by decide +kernel
theorem dX6_gives_66 : decode cX6_gives 66 = .ok (.iload_n 2, 1) := by decide +kernel
theorem dX6_gives_67 : decode cX6_gives 67 = .ok (.iload_n 3, 1) := by decide +kernel
theorem dX6_gives_68 : decode cX6_gives 68 = .ok (.iload 4, 2) := by decide +kernel
theorem dX6_gives_70 : decode cX6_gives 70 = .ok (.invokestatic 29, 3) := by decide +kernel
theorem dX6_gives_73 : decode cX6_gives 73 = .ok (.iastore, 1) := by decide +kernel
theorem dX6_gives_74 : decode cX6_gives 74 = .ok (.iinc 5 1, 3) := by decide +kernel
theorem dX6_gives_77 : decode cX6_gives 77 = .ok (.goto 85, 3) := by decide +kernel
theorem dX6_gives_80 : decode cX6_gives 80 = .ok (.iload 7, 2) := by decide +kernel
theorem dX6_gives_82 : decode cX6_gives 82 = .ok (.bipush (-33), 2) := by decide +kernel
theorem dX6_gives_84 : decode cX6_gives 84 = .ok (.if_icmp .ne 38, 3) := by decide +kernel
theorem dX6_gives_87 : decode cX6_gives 87 = .ok (.iload 5, 2) := by decide +kernel
theorem dX6_gives_89 : decode cX6_gives 89 = .ok (.iconst 1, 1) := by decide +kernel
theorem dX6_gives_90 : decode cX6_gives 90 = .ok (.if_icmp .lt 32, 3) := by decide +kernel
theorem dX6_gives_93 : decode cX6_gives 93 = .ok (.aload_n 0, 1) := by decide +kernel
theorem dX6_gives_94 : decode cX6_gives 94 = .ok (.getfield 26, 3) := by decide +kernel
theorem dX6_gives_97 : decode cX6_gives 97 = .ok (.iload 5, 2) := by decide +kernel
theorem dX6_gives_99 : decode cX6_gives 99 = .ok (.iconst 1, 1) := by decide +kernel
theorem dX6_gives_100 : decode cX6_gives 100 = .ok (.isub, 1) := by decide +kernel
theorem dX6_gives_101 : decode cX6_gives 101 = .ok (.aload_n 0, 1) := by decide +kernel
theorem dX6_gives_102 : decode cX6_gives 102 = .ok (.getfield 26, 3) := by decide +kernel
theorem dX6_gives_105 : decode cX6_gives 105 = .ok (.iload 5, 2) := by decide +kernel
theorem dX6_gives_107 : decode cX6_gives 107 = .ok (.iconst 1, 1) := by decide +kernel
theorem dX6_gives_108 : decode cX6_gives 108 = .ok (.isub, 1) := by decide +kernel
theorem dX6_gives_109 : decode cX6_gives 109 = .ok (.iaload, 1) := by decide +kernel
theorem dX6_gives_110 : decode cX6_gives 110 = .ok (.ifCond .ne 7, 3) := by decide +kernel
theorem dX6_gives_113 : decode cX6_gives 113 = .ok (.iconst 1, 1) := by decide +kernel
theorem dX6_gives_114 : decode cX6_gives 114 = .ok (.goto 4, 3) := by decide +kernel
theorem dX6_gives_117 : decode cX6_gives 117 = .ok (.iconst 0, 1) := by decide +kernel
theorem dX6_gives_118 : decode cX6_gives 118 = .ok (.iastore, 1) := by decide +kernel
theorem dX6_gives_119 : decode cX6_gives 119 = .ok (.goto 43, 3) := by decide +kernel
theorem dX6_gives_122 : decode cX6_gives 122 = .ok (.iload 5, 2) := by decide +kernel
theorem dX6_gives_124 : decode cX6_gives 124 = .ok (.iconst 2, 1) := by decide +kernel
theorem dX6_gives_125 : decode cX6_gives 125 = .ok (.if_icmp .lt 37, 3) := by decide +kernel
theorem dX6_gives_128 : decode cX6_gives 128 = .ok (.iinc 5 (-1), 3) := by decide +kernel
theorem dX6_gives_131 : decode cX6_gives 131 = .ok (.aload_n 0, 1) := by decide +kernel
theorem dX6_gives_132 : decode cX6_gives 132 = .ok (.getfield 26, 3) := by decide +kernel
theorem dX6_gives_135 : decode cX6_gives 135 = .ok (.iload 5, 2) := by decide +kernel
theorem dX6_gives_137 : decode cX6_gives 137 = .ok (.iconst 1, 1) := by decide +kernel
theorem dX6_gives_138 : decode cX6_gives 138 = .ok (.isub, 1) := by decide +kernel
theorem dX6_gives_139 : decode cX6_gives 139 = .ok (.iload 7, 2) := by decide +kernel
theorem dX6_gives_141 : decode cX6_gives 141 = .ok (.ineg, 1) := by decide +kernel
theorem dX6_gives_142 : decode cX6_gives 142 = .ok (.aload_n 0, 1) := by decide +kernel
theorem dX6_gives_143 : decode cX6_gives 143 = .ok (.getfield 26, 3) := by decide +kernel
theorem dX6_gives_146 : decode cX6_gives 146 = .ok (.iload 5, 2) := by decide +kernel
theorem dX6_gives_148 : decode cX6_gives 148 = .ok (.iconst 1, 1) := by decide +kernel
theorem dX6_gives_149 : decode cX6_gives 149 = .ok (.isub, 1) := by decide +kernel
theorem dX6_gives_150 : decode cX6_gives 150 = .ok (.iaload, 1) := by decide +kernel
theorem dX6_gives_151 : decode cX6_gives 151 = .ok (.aload_n 0, 1) := by decide +kernel
theorem dX6_gives_152 : decode cX6_gives 152 = .ok (.getfield 26, 3) := by decide +kernel
theorem dX6_gives_155 : decode cX6_gives 155 = .ok (.iload 5, 2) := by decide +kernel
theorem dX6_gives_157 : decode cX6_gives 157 = .ok (.iaload, 1) := by decide +kernel
theorem dX6_gives_158 : decode cX6_gives 158 = .ok (.invokestatic 33, 3) := by decide +kernel
theorem dX6_gives_161 : decode cX6_gives 161 = .ok (.iastore, 1) := by decide +kernel
theorem dX6_gives_162 : decode cX6_gives 162 = .ok (.iinc 6 1, 3) := by decide +kernel
theorem dX6_gives_165 : decode cX6_gives 165 = .ok (.goto (-159), 3) := by decide +kernel
theorem dX6_gives_168 : decode cX6_gives 168 = .ok (.aload_n 0, 1) := by decide +kernel
theorem dX6_gives_169 : decode cX6_gives 169 = .ok (.getfield 26, 3) := by decide +kernel
theorem dX6_gives_172 : decode cX6_gives 172 = .ok (.iconst 0, 1) := by decide +kernel
theorem dX6_gives_173 : decode cX6_gives 173 = .ok (.iaload, 1) := by decide +kernel
theorem dX6_gives_174 : decode cX6_gives 174 = .ok (.ireturn, 1) := by decide +kernel
end
section
theorem dX6_chosen_0 : decode cX6_chosen 0 = .ok (.iload_n 0, 1) := by decide +kernel
theorem dX6_chosen_1 : decode cX6_chosen 1 = .ok (.tableswitch 33 0 2 #[27, 29, 31], 27) := by decide +kernel
theorem dX6_chosen_28 : decode cX6_chosen 28 = .ok (.iload_n 1, 1) := by decide +kernel
theorem dX6_chosen_29 : decode cX6_chosen 29 = .ok (.ireturn, 1) := by decide +kernel
theorem dX6_chosen_30 : decode cX6_chosen 30 = .ok (.iload_n 2, 1) := by decide +kernel
theorem dX6_chosen_31 : decode cX6_chosen 31 = .ok (.ireturn, 1) := by decide +kernel
theorem dX6_chosen_32 : decode cX6_chosen 32 = .ok (.iload_n 3, 1) := by decide +kernel
theorem dX6_chosen_33 : decode cX6_chosen 33 = .ok (.ireturn, 1) := by decide +kernel
theorem dX6_chosen_34 : decode cX6_chosen 34 = .ok (.iload 4, 2) := by decide +kernel
theorem dX6_chosen_36 : decode cX6_chosen 36 = .ok (.ireturn, 1) := by decide +kernel
theorem dX6_joined_0 : decode cX6_joined 0 = .ok (.iload_n 0, 1) := by decide +kernel
theorem dX6_joined_1 : decode cX6_joined 1 = .ok (.tableswitch 186 38 62 #[172, 186, 186, 186, 123, 115, 186, 119, 186, 127, 186, 186, 186, 186, 186, 186, 186, 186, 186, 186, 186, 186, 139, 150, 161], 115) := by decide +kernel
theorem dX6_joined_116 : decode cX6_joined 116 = .ok (.iload_n 1, 1) := by decide +kernel
theorem dX6_joined_117 : decode cX6_joined 117 = .ok (.iload_n 2, 1) := by decide +kernel
theorem dX6_joined_118 : decode cX6_joined 118 = .ok (.iadd, 1) := by decide +kernel
theorem dX6_joined_119 : decode cX6_joined 119 = .ok (.ireturn, 1) := by decide +kernel
theorem dX6_joined_120 : decode cX6_joined 120 = .ok (.iload_n 1, 1) := by decide +kernel
theorem dX6_joined_121 : decode cX6_joined 121 = .ok (.iload_n 2, 1) := by decide +kernel
theorem dX6_joined_122 : decode cX6_joined 122 = .ok (.isub, 1) := by decide +kernel
theorem dX6_joined_123 : decode cX6_joined 123 = .ok (.ireturn, 1) := by decide +kernel
theorem dX6_joined_124 : decode cX6_joined 124 = .ok (.iload_n 1, 1) := by decide +kernel
theorem dX6_joined_125 : decode cX6_joined 125 = .ok (.iload_n 2, 1) := by decide +kernel
theorem dX6_joined_126 : decode cX6_joined 126 = .ok (.imul, 1) := by decide +kernel
theorem dX6_joined_127 : decode cX6_joined 127 = .ok (.ireturn, 1) := by decide +kernel
theorem dX6_joined_128 : decode cX6_joined 128 = .ok (.iload_n 2, 1) := by decide +kernel
theorem dX6_joined_129 : decode cX6_joined 129 = .ok (.ifCond .ne 7, 3) := by decide +kernel
theorem dX6_joined_132 : decode cX6_joined 132 = .ok (.iconst 0, 1) := by decide +kernel
theorem dX6_joined_133 : decode cX6_joined 133 = .ok (.goto 6, 3) := by decide +kernel
theorem dX6_joined_136 : decode cX6_joined 136 = .ok (.iload_n 1, 1) := by decide +kernel
theorem dX6_joined_137 : decode cX6_joined 137 = .ok (.iload_n 2, 1) := by decide +kernel
theorem dX6_joined_138 : decode cX6_joined 138 = .ok (.idiv, 1) := by decide +kernel
theorem dX6_joined_139 : decode cX6_joined 139 = .ok (.ireturn, 1) := by decide +kernel
theorem dX6_joined_140 : decode cX6_joined 140 = .ok (.iload_n 1, 1) := by decide +kernel
theorem dX6_joined_141 : decode cX6_joined 141 = .ok (.iload_n 2, 1) := by decide +kernel
theorem dX6_joined_142 : decode cX6_joined 142 = .ok (.if_icmp .ge 7, 3) := by decide +kernel
theorem dX6_joined_145 : decode cX6_joined 145 = .ok (.iconst 1, 1) := by decide +kernel
theorem dX6_joined_146 : decode cX6_joined 146 = .ok (.goto 4, 3) := by decide +kernel
theorem dX6_joined_149 : decode cX6_joined 149 = .ok (.iconst 0, 1) := by decide +kernel
theorem dX6_joined_150 : decode cX6_joined 150 = .ok (.ireturn, 1) := by decide +kernel
theorem dX6_joined_151 : decode cX6_joined 151 = .ok (.iload_n 1, 1) := by decide +kernel
theorem dX6_joined_152 : decode cX6_joined 152 = .ok (.iload_n 2, 1) := by decide +kernel
theorem dX6_joined_153 : decode cX6_joined 153 = .ok (.if_icmp .ne 7, 3) := by decide +kernel
theorem dX6_joined_156 : decode cX6_joined 156 = .ok (.iconst 1, 1) := by decide +kernel
theorem dX6_joined_157 : decode cX6_joined 157 = .ok (.goto 4, 3) := by decide +kernel
theorem dX6_joined_160 : decode cX6_joined 160 = .ok (.iconst 0, 1) := by decide +kernel
theorem dX6_joined_161 : decode cX6_joined 161 = .ok (.ireturn, 1) := by decide +kernel
theorem dX6_joined_162 : decode cX6_joined 162 = .ok (.iload_n 1, 1) := by decide +kernel
theorem dX6_joined_163 : decode cX6_joined 163 = .ok (.iload_n 2, 1) := by decide +kernel
theorem dX6_joined_164 : decode cX6_joined 164 = .ok (.if_icmp .le 7, 3) := by decide +kernel
theorem dX6_joined_167 : decode cX6_joined 167 = .ok (.iconst 1, 1) := by decide +kernel
theorem dX6_joined_168 : decode cX6_joined 168 = .ok (.goto 4, 3) := by decide +kernel
theorem dX6_joined_171 : decode cX6_joined 171 = .ok (.iconst 0, 1) := by decide +kernel
theorem dX6_joined_172 : decode cX6_joined 172 = .ok (.ireturn, 1) := by decide +kernel
theorem dX6_joined_173 : decode cX6_joined 173 = .ok (.iload_n 1, 1) := by decide +kernel
theorem dX6_joined_174 : decode cX6_joined 174 = .ok (.ifCond .eq 11, 3) := by decide +kernel
theorem dX6_joined_177 : decode cX6_joined 177 = .ok (.iload_n 2, 1) := by decide +kernel
theorem dX6_joined_178 : decode cX6_joined 178 = .ok (.ifCond .eq 7, 3) := by decide +kernel
theorem dX6_joined_181 : decode cX6_joined 181 = .ok (.iconst 1, 1) := by decide +kernel
theorem dX6_joined_182 : decode cX6_joined 182 = .ok (.goto 4, 3) := by decide +kernel
theorem dX6_joined_185 : decode cX6_joined 185 = .ok (.iconst 0, 1) := by decide +kernel
theorem dX6_joined_186 : decode cX6_joined 186 = .ok (.ireturn, 1) := by decide +kernel
theorem dX6_joined_187 : decode cX6_joined 187 = .ok (.iload_n 1, 1) := by decide +kernel
theorem dX6_joined_188 : decode cX6_joined 188 = .ok (.ifCond .ne 7, 3) := by decide +kernel
theorem dX6_joined_191 : decode cX6_joined 191 = .ok (.iload_n 2, 1) := by decide +kernel
theorem dX6_joined_192 : decode cX6_joined 192 = .ok (.ifCond .eq 7, 3) := by decide +kernel
theorem dX6_joined_195 : decode cX6_joined 195 = .ok (.iconst 1, 1) := by decide +kernel
theorem dX6_joined_196 : decode cX6_joined 196 = .ok (.goto 4, 3) := by decide +kernel
theorem dX6_joined_199 : decode cX6_joined 199 = .ok (.iconst 0, 1) := by decide +kernel
theorem dX6_joined_200 : decode cX6_joined 200 = .ok (.ireturn, 1) := by decide +kernel
theorem dX7_init_0 : decode cX7_init 0 = .ok (.aload_n 0, 1) := by decide +kernel
theorem dX7_init_1 : decode cX7_init 1 = .ok (.invokespecial 3, 3) := by decide +kernel
theorem dX7_init_4 : decode cX7_init 4 = .ok (.aload_n 0, 1) := by decide +kernel
theorem dX7_init_5 : decode cX7_init 5 = .ok (.iconst 0, 1) := by decide +kernel
theorem dX7_init_6 : decode cX7_init 6 = .ok (.putfield 11, 3) := by decide +kernel
theorem dX7_init_9 : decode cX7_init 9 = .ok (.aload_n 0, 1) := by decide +kernel
theorem dX7_init_10 : decode cX7_init 10 = .ok (.iconst 0, 1) := by decide +kernel
theorem dX7_init_11 : decode cX7_init 11 = .ok (.putfield 15, 3) := by decide +kernel
theorem dX7_init_14 : decode cX7_init 14 = .ok (.aload_n 0, 1) := by decide +kernel
theorem dX7_init_15 : decode cX7_init 15 = .ok (.iconst 0, 1) := by decide +kernel
theorem dX7_init_16 : decode cX7_init 16 = .ok (.putfield 18, 3) := by decide +kernel
theorem dX7_init_19 : decode cX7_init 19 = .ok (.aload_n 0, 1) := by decide +kernel
theorem dX7_init_20 : decode cX7_init 20 = .ok (.iconst 0, 1) := by decide +kernel
theorem dX7_init_21 : decode cX7_init 21 = .ok (.putfield 21, 3) := by decide +kernel
theorem dX7_init_24 : decode cX7_init 24 = .ok (.aload_n 0, 1) := by decide +kernel
theorem dX7_init_25 : decode cX7_init 25 = .ok (.iconst 1, 1) := by decide +kernel
theorem dX7_init_26 : decode cX7_init 26 = .ok (.putfield 25, 3) := by decide +kernel
theorem dX7_init_29 : decode cX7_init 29 = .ok (.aload_n 0, 1) := by decide +kernel
theorem dX7_init_30 : decode cX7_init 30 = .ok (.iconst 0, 1) := by decide +kernel
theorem dX7_init_31 : decode cX7_init 31 = .ok (.putfield 28, 3) := by decide +kernel
theorem dX7_init_34 : decode cX7_init 34 = .ok (.aload_n 0, 1) := by decide +kernel
theorem dX7_init_35 : decode cX7_init 35 = .ok (.iconst 0, 1) := by decide +kernel
theorem dX7_init_36 : decode cX7_init 36 = .ok (.putfield 31, 3) := by decide +kernel
theorem dX7_init_39 : decode cX7_init 39 = .ok (.aload_n 0, 1) := by decide +kernel
theorem dX7_init_40 : decode cX7_init 40 = .ok (.iconst 0, 1) := by decide +kernel
theorem dX7_init_41 : decode cX7_init 41 = .ok (.putfield 34, 3) := by decide +kernel
theorem dX7_init_44 : decode cX7_init 44 = .ok (.aload_n 0, 1) := by decide +kernel
theorem dX7_init_45 : decode cX7_init 45 = .ok (.iconst 0, 1) := by decide +kernel
theorem dX7_init_46 : decode cX7_init 46 = .ok (.putfield 37, 3) := by decide +kernel
theorem dX7_init_49 : decode cX7_init 49 = .ok (.aload_n 0, 1) := by decide +kernel
theorem dX7_init_50 : decode cX7_init 50 = .ok (.bipush 96, 2) := by decide +kernel
theorem dX7_init_52 : decode cX7_init 52 = .ok (.newarray .int, 2) := by decide +kernel
theorem dX7_init_54 : decode cX7_init 54 = .ok (.putfield 40, 3) := by decide +kernel
theorem dX7_init_57 : decode cX7_init 57 = .ok (.aload_n 0, 1) := by decide +kernel
theorem dX7_init_58 : decode cX7_init 58 = .ok (.iconst 0, 1) := by decide +kernel
theorem dX7_init_59 : decode cX7_init 59 = .ok (.putfield 44, 3) := by decide +kernel
theorem dX7_init_62 : decode cX7_init 62 = .ok (.aload_n 0, 1) := by decide +kernel
theorem dX7_init_63 : decode cX7_init 63 = .ok (.bipush 96, 2) := by decide +kernel
theorem dX7_init_65 : decode cX7_init 65 = .ok (.newarray .int, 2) := by decide +kernel
theorem dX7_init_67 : decode cX7_init 67 = .ok (.putfield 47, 3) := by decide +kernel
theorem dX7_init_70 : decode cX7_init 70 = .ok (.aload_n 0, 1) := by decide +kernel
theorem dX7_init_71 : decode cX7_init 71 = .ok (.iconst 0, 1) := by decide +kernel
theorem dX7_init_72 : decode cX7_init 72 = .ok (.putfield 50, 3) := by decide +kernel
theorem dX7_init_75 : decode cX7_init 75 = .ok (.aload_n 0, 1) := by decide +kernel
theorem dX7_init_76 : decode cX7_init 76 = .ok (.aload_n 1, 1) := by decide +kernel
theorem dX7_init_77 : decode cX7_init 77 = .ok (.putfield 53, 3) := by decide +kernel
theorem dX7_init_80 : decode cX7_init 80 = .ok (.return_, 1) := by decide +kernel
theorem dX7_faultFound_0 : decode cX7_faultFound 0 = .ok (.aload_n 0, 1) := by decide +kernel
theorem dX7_faultFound_1 : decode cX7_faultFound 1 = .ok (.invokevirtual 57, 3) := by decide +kernel
theorem dX7_faultFound_4 : decode cX7_faultFound 4 = .ok (.aload_n 0, 1) := by decide +kernel
theorem dX7_faultFound_5 : decode cX7_faultFound 5 = .ok (.invokevirtual 60, 3) := by decide +kernel
theorem dX7_faultFound_8 : decode cX7_faultFound 8 = .ok (.aload_n 0, 1) := by decide +kernel
theorem dX7_faultFound_9 : decode cX7_faultFound 9 = .ok (.aload_n 0, 1) := by decide +kernel
theorem dX7_faultFound_10 : decode cX7_faultFound 10 = .ok (.invokevirtual 63, 3) := by decide +kernel
theorem dX7_faultFound_13 : decode cX7_faultFound 13 = .ok (.putfield 28, 3) := by decide +kernel
theorem dX7_faultFound_16 : decode cX7_faultFound 16 = .ok (.aload_n 0, 1) := by decide +kernel
theorem dX7_faultFound_17 : decode cX7_faultFound 17 = .ok (.getfield 28, 3) := by decide +kernel
theorem dX7_faultFound_20 : decode cX7_faultFound 20 = .ok (.iconst 3, 1) := by decide +kernel
theorem dX7_faultFound_21 : decode cX7_faultFound 21 = .ok (.if_icmp .lt 8, 3) := by decide +kernel
theorem dX7_faultFound_24 : decode cX7_faultFound 24 = .ok (.aload_n 0, 1) := by decide +kernel
theorem dX7_faultFound_25 : decode cX7_faultFound 25 = .ok (.getfield 15, 3) := by decide +kernel
theorem dX7_faultFound_28 : decode cX7_faultFound 28 = .ok (.ireturn, 1) := by decide +kernel
theorem dX7_faultFound_29 : decode cX7_faultFound 29 = .ok (.iconst 0, 1) := by decide +kernel
theorem dX7_faultFound_30 : decode cX7_faultFound 30 = .ok (.istore_n 1, 1) := by decide +kernel
theorem dX7_faultFound_31 : decode cX7_faultFound 31 = .ok (.iload_n 1, 1) := by decide +kernel
theorem dX7_faultFound_32 : decode cX7_faultFound 32 = .ok (.bipush 96, 2) := by decide +kernel
theorem dX7_faultFound_34 : decode cX7_faultFound 34 = .ok (.if_icmp .gt 79, 3) := by decide +kernel
theorem dX7_faultFound_37 : decode cX7_faultFound 37 = .ok (.aload_n 0, 1) := by decide +kernel
theorem dX7_faultFound_38 : decode cX7_faultFound 38 = .ok (.invokevirtual 60, 3) := by decide +kernel
theorem dX7_faultFound_41 : decode cX7_faultFound 41 = .ok (.aload_n 0, 1) := by decide +kernel
theorem dX7_faultFound_42 : decode cX7_faultFound 42 = .ok (.getfield 11, 3) := by decide +kernel
theorem dX7_faultFound_45 : decode cX7_faultFound 45 = .ok (.ifCond .ne 26, 3) := by decide +kernel
theorem dX7_faultFound_48 : decode cX7_faultFound 48 = .ok (.aload_n 0, 1) := by decide +kernel
theorem dX7_faultFound_49 : decode cX7_faultFound 49 = .ok (.getfield 25, 3) := by decide +kernel
theorem dX7_faultFound_52 : decode cX7_faultFound 52 = .ok (.ifCond .ne 10, 3) := by decide +kernel
theorem dX7_faultFound_55 : decode cX7_faultFound 55 = .ok (.aload_n 0, 1) := by decide +kernel
theorem dX7_faultFound_56 : decode cX7_faultFound 56 = .ok (.getfield 34, 3) := by decide +kernel
theorem dX7_faultFound_59 : decode cX7_faultFound 59 = .ok (.ifCond .le 10, 3) := by decide +kernel
theorem dX7_faultFound_62 : decode cX7_faultFound 62 = .ok (.aload_n 0, 1) := by decide +kernel
theorem dX7_faultFound_63 : decode cX7_faultFound 63 = .ok (.getfield 15, 3) := by decide +kernel
theorem dX7_faultFound_66 : decode cX7_faultFound 66 = .ok (.goto 4, 3) := by decide +kernel
theorem dX7_faultFound_69 : decode cX7_faultFound 69 = .ok (.iconst (-1), 1) := by decide +kernel
theorem dX7_faultFound_70 : decode cX7_faultFound 70 = .ok (.ireturn, 1) := by decide +kernel
theorem dX7_faultFound_71 : decode cX7_faultFound 71 = .ok (.aload_n 0, 1) := by decide +kernel
theorem dX7_faultFound_72 : decode cX7_faultFound 72 = .ok (.getfield 21, 3) := by decide +kernel
theorem dX7_faultFound_75 : decode cX7_faultFound 75 = .ok (.ifCond .ne 27, 3) := by decide +kernel
theorem dX7_faultFound_78 : decode cX7_faultFound 78 = .ok (.aload_n 0, 1) := by decide +kernel
theorem dX7_faultFound_79 : decode cX7_faultFound 79 = .ok (.getfield 25, 3) := by decide +kernel
theorem dX7_faultFound_82 : decode cX7_faultFound 82 = .ok (.ifCond .eq 13, 3) := by decide +kernel
theorem dX7_faultFound_85 : decode cX7_faultFound 85 = .ok (.aload_n 0, 1) := by decide +kernel
theorem dX7_faultFound_86 : decode cX7_faultFound 86 = .ok (.invokevirtual 67, 3) := by decide +kernel
theorem dX7_faultFound_89 : decode cX7_faultFound 89 = .ok (.ifCond .eq 13, 3) := by decide +kernel
theorem dX7_faultFound_92 : decode cX7_faultFound 92 = .ok (.goto 15, 3) := by decide +kernel
theorem dX7_faultFound_95 : decode cX7_faultFound 95 = .ok (.aload_n 0, 1) := by decide +kernel
theorem dX7_faultFound_96 : decode cX7_faultFound 96 = .ok (.invokevirtual 71, 3) := by decide +kernel
theorem dX7_faultFound_99 : decode cX7_faultFound 99 = .ok (.ifCond .ne 8, 3) := by decide +kernel
theorem dX7_faultFound_102 : decode cX7_faultFound 102 = .ok (.aload_n 0, 1) := by decide +kernel
theorem dX7_faultFound_103 : decode cX7_faultFound 103 = .ok (.getfield 15, 3) := by decide +kernel
theorem dX7_faultFound_106 : decode cX7_faultFound 106 = .ok (.ireturn, 1) := by decide +kernel
theorem dX7_faultFound_107 : decode cX7_faultFound 107 = .ok (.iinc 1 1, 3) := by decide +kernel
theorem dX7_faultFound_110 : decode cX7_faultFound 110 = .ok (.goto (-79), 3) := by decide +kernel
theorem dX7_faultFound_113 : decode cX7_faultFound 113 = .ok (.aload_n 0, 1) := by decide +kernel
theorem dX7_faultFound_114 : decode cX7_faultFound 114 = .ok (.getfield 15, 3) := by decide +kernel
theorem dX7_faultFound_117 : decode cX7_faultFound 117 = .ok (.ireturn, 1) := by decide +kernel
theorem dX7_startAgain_0 : decode cX7_startAgain 0 = .ok (.aload_n 0, 1) := by decide +kernel
theorem dX7_startAgain_1 : decode cX7_startAgain 1 = .ok (.iconst 0, 1) := by decide +kernel
theorem dX7_startAgain_2 : decode cX7_startAgain 2 = .ok (.putfield 11, 3) := by decide +kernel
theorem dX7_startAgain_5 : decode cX7_startAgain 5 = .ok (.aload_n 0, 1) := by decide +kernel
theorem dX7_startAgain_6 : decode cX7_startAgain 6 = .ok (.iconst 0, 1) := by decide +kernel
theorem dX7_startAgain_7 : decode cX7_startAgain 7 = .ok (.putfield 15, 3) := by decide +kernel
theorem dX7_startAgain_10 : decode cX7_startAgain 10 = .ok (.aload_n 0, 1) := by decide +kernel
theorem dX7_startAgain_11 : decode cX7_startAgain 11 = .ok (.iconst 0, 1) := by decide +kernel
theorem dX7_startAgain_12 : decode cX7_startAgain 12 = .ok (.putfield 18, 3) := by decide +kernel
theorem dX7_startAgain_15 : decode cX7_startAgain 15 = .ok (.aload_n 0, 1) := by decide +kernel
theorem dX7_startAgain_16 : decode cX7_startAgain 16 = .ok (.iconst 1, 1) := by decide +kernel
theorem dX7_startAgain_17 : decode cX7_startAgain 17 = .ok (.putfield 25, 3) := by decide +kernel
theorem dX7_startAgain_20 : decode cX7_startAgain 20 = .ok (.aload_n 0, 1) := by decide +kernel
theorem dX7_startAgain_21 : decode cX7_startAgain 21 = .ok (.iconst 0, 1) := by decide +kernel
theorem dX7_startAgain_22 : decode cX7_startAgain 22 = .ok (.putfield 31, 3) := by decide +kernel
theorem dX7_startAgain_25 : decode cX7_startAgain 25 = .ok (.aload_n 0, 1) := by decide +kernel
theorem dX7_startAgain_26 : decode cX7_startAgain 26 = .ok (.iconst 0, 1) := by decide +kernel
theorem dX7_startAgain_27 : decode cX7_startAgain 27 = .ok (.putfield 34, 3) := by decide +kernel
theorem dX7_startAgain_30 : decode cX7_startAgain 30 = .ok (.aload_n 0, 1) := by decide +kernel
theorem dX7_startAgain_31 : decode cX7_startAgain 31 = .ok (.iconst 0, 1) := by decide +kernel
theorem dX7_startAgain_32 : decode cX7_startAgain 32 = .ok (.putfield 37, 3) := by decide +kernel
theorem dX7_startAgain_35 : decode cX7_startAgain 35 = .ok (.aload_n 0, 1) := by decide +kernel
theorem dX7_startAgain_36 : decode cX7_startAgain 36 = .ok (.iconst 0, 1) := by decide +kernel
theorem dX7_startAgain_37 : decode cX7_startAgain 37 = .ok (.putfield 44, 3) := by decide +kernel
theorem dX7_startAgain_40 : decode cX7_startAgain 40 = .ok (.aload_n 0, 1) := by decide +kernel
theorem dX7_startAgain_41 : decode cX7_startAgain 41 = .ok (.iconst 0, 1) := by decide +kernel
theorem dX7_startAgain_42 : decode cX7_startAgain 42 = .ok (.putfield 50, 3) := by decide +kernel
theorem dX7_startAgain_45 : decode cX7_startAgain 45 = .ok (.return_, 1) := by decide +kernel
theorem dX7_made_0 : decode cX7_made 0 = .ok (.aload_n 0, 1) := by decide +kernel
theorem dX7_made_1 : decode cX7_made 1 = .ok (.iconst 1, 1) := by decide +kernel
theorem dX7_made_2 : decode cX7_made 2 = .ok (.invokevirtual 74, 3) := by decide +kernel
theorem dX7_made_5 : decode cX7_made 5 = .ok (.new 78, 3) := by decide +kernel
theorem dX7_made_8 : decode cX7_made 8 = .ok (.dup, 1) := by decide +kernel
theorem dX7_made_9 : decode cX7_made 9 = .ok (.aload_n 0, 1) := by decide +kernel
theorem dX7_made_10 : decode cX7_made 10 = .ok (.getfield 28, 3) := by decide +kernel
theorem dX7_made_13 : decode cX7_made 13 = .ok (.aload_n 0, 1) := by decide +kernel
theorem dX7_made_14 : decode cX7_made 14 = .ok (.getfield 31, 3) := by decide +kernel
theorem dX7_made_17 : decode cX7_made 17 = .ok (.aload_n 0, 1) := by decide +kernel
theorem dX7_made_18 : decode cX7_made 18 = .ok (.getfield 47, 3) := by decide +kernel
theorem dX7_made_21 : decode cX7_made 21 = .ok (.aload_n 0, 1) := by decide +kernel
theorem dX7_made_22 : decode cX7_made 22 = .ok (.getfield 50, 3) := by decide +kernel
theorem dX7_made_25 : decode cX7_made 25 = .ok (.invokestatic 80, 3) := by decide +kernel
theorem dX7_made_28 : decode cX7_made 28 = .ok (.invokespecial 86, 3) := by decide +kernel
theorem dX7_made_31 : decode cX7_made 31 = .ok (.areturn, 1) := by decide +kernel
theorem dX7_nextWord_0 : decode cX7_nextWord 0 = .ok (.aload_n 0, 1) := by decide +kernel
theorem dX7_nextWord_1 : decode cX7_nextWord 1 = .ok (.invokevirtual 89, 3) := by decide +kernel
theorem dX7_nextWord_4 : decode cX7_nextWord 4 = .ok (.istore_n 1, 1) := by decide +kernel
theorem dX7_nextWord_5 : decode cX7_nextWord 5 = .ok (.aload_n 0, 1) := by decide +kernel
theorem dX7_nextWord_6 : decode cX7_nextWord 6 = .ok (.getfield 18, 3) := by decide +kernel
theorem dX7_nextWord_9 : decode cX7_nextWord 9 = .ok (.istore_n 2, 1) := by decide +kernel
theorem dX7_nextWord_10 : decode cX7_nextWord 10 = .ok (.aload_n 0, 1) := by decide +kernel
theorem dX7_nextWord_11 : decode cX7_nextWord 11 = .ok (.aload_n 0, 1) := by decide +kernel
theorem dX7_nextWord_12 : decode cX7_nextWord 12 = .ok (.getfield 18, 3) := by decide +kernel
theorem dX7_nextWord_15 : decode cX7_nextWord 15 = .ok (.putfield 15, 3) := by decide +kernel
theorem dX7_nextWord_18 : decode cX7_nextWord 18 = .ok (.aload_n 0, 1) := by decide +kernel
theorem dX7_nextWord_19 : decode cX7_nextWord 19 = .ok (.getfield 15, 3) := by decide +kernel
theorem dX7_nextWord_22 : decode cX7_nextWord 22 = .ok (.aload_n 0, 1) := by decide +kernel
theorem dX7_nextWord_23 : decode cX7_nextWord 23 = .ok (.getfield 53, 3) := by decide +kernel
theorem dX7_nextWord_26 : decode cX7_nextWord 26 = .ok (.getfield 92, 3) := by decide +kernel
theorem dX7_nextWord_29 : decode cX7_nextWord 29 = .ok (.if_icmp .ge 29, 3) := by decide +kernel
theorem dX7_nextWord_32 : decode cX7_nextWord 32 = .ok (.aload_n 0, 1) := by decide +kernel
theorem dX7_nextWord_33 : decode cX7_nextWord 33 = .ok (.aload_n 0, 1) := by decide +kernel
theorem dX7_nextWord_34 : decode cX7_nextWord 34 = .ok (.getfield 15, 3) := by decide +kernel
theorem dX7_nextWord_37 : decode cX7_nextWord 37 = .ok (.invokevirtual 97, 3) := by decide +kernel
theorem dX7_nextWord_40 : decode cX7_nextWord 40 = .ok (.bipush 32, 2) := by decide +kernel
theorem dX7_nextWord_42 : decode cX7_nextWord 42 = .ok (.if_icmp .ne 16, 3) := by decide +kernel
theorem dX7_nextWord_45 : decode cX7_nextWord 45 = .ok (.aload_n 0, 1) := by decide +kernel
theorem dX7_nextWord_46 : decode cX7_nextWord 46 = .ok (.dup, 1) := by decide +kernel
theorem dX7_nextWord_47 : decode cX7_nextWord 47 = .ok (.getfield 15, 3) := by decide +kernel
theorem dX7_nextWord_50 : decode cX7_nextWord 50 = .ok (.iconst 1, 1) := by decide +kernel
theorem dX7_nextWord_51 : decode cX7_nextWord 51 = .ok (.iadd, 1) := by decide +kernel
theorem dX7_nextWord_52 : decode cX7_nextWord 52 = .ok (.putfield 15, 3) := by decide +kernel
theorem dX7_nextWord_55 : decode cX7_nextWord 55 = .ok (.goto (-37), 3) := by decide +kernel
theorem dX7_nextWord_58 : decode cX7_nextWord 58 = .ok (.aload_n 0, 1) := by decide +kernel
theorem dX7_nextWord_59 : decode cX7_nextWord 59 = .ok (.aload_n 0, 1) := by decide +kernel
theorem dX7_nextWord_60 : decode cX7_nextWord 60 = .ok (.aload_n 0, 1) := by decide +kernel
theorem dX7_nextWord_61 : decode cX7_nextWord 61 = .ok (.getfield 15, 3) := by decide +kernel
theorem dX7_nextWord_64 : decode cX7_nextWord 64 = .ok (.invokevirtual 101, 3) := by decide +kernel
theorem dX7_nextWord_67 : decode cX7_nextWord 67 = .ok (.putfield 11, 3) := by decide +kernel
theorem dX7_nextWord_70 : decode cX7_nextWord 70 = .ok (.aload_n 0, 1) := by decide +kernel
theorem dX7_nextWord_71 : decode cX7_nextWord 71 = .ok (.aload_n 0, 1) := by decide +kernel
theorem dX7_nextWord_72 : decode cX7_nextWord 72 = .ok (.getfield 15, 3) := by decide +kernel
theorem dX7_nextWord_75 : decode cX7_nextWord 75 = .ok (.aload_n 0, 1) := by decide +kernel
theorem dX7_nextWord_76 : decode cX7_nextWord 76 = .ok (.getfield 53, 3) := by decide +kernel
theorem dX7_nextWord_79 : decode cX7_nextWord 79 = .ok (.getfield 92, 3) := by decide +kernel
theorem dX7_nextWord_82 : decode cX7_nextWord 82 = .ok (.if_icmp .ge 12, 3) := by decide +kernel
theorem dX7_nextWord_85 : decode cX7_nextWord 85 = .ok (.aload_n 0, 1) := by decide +kernel
theorem dX7_nextWord_86 : decode cX7_nextWord 86 = .ok (.getfield 15, 3) := by decide +kernel
theorem dX7_nextWord_89 : decode cX7_nextWord 89 = .ok (.iconst 1, 1) := by decide +kernel
theorem dX7_nextWord_90 : decode cX7_nextWord 90 = .ok (.iadd, 1) := by decide +kernel
theorem dX7_nextWord_91 : decode cX7_nextWord 91 = .ok (.goto 7, 3) := by decide +kernel
theorem dX7_nextWord_94 : decode cX7_nextWord 94 = .ok (.aload_n 0, 1) := by decide +kernel
theorem dX7_nextWord_95 : decode cX7_nextWord 95 = .ok (.getfield 15, 3) := by decide +kernel
theorem dX7_nextWord_98 : decode cX7_nextWord 98 = .ok (.putfield 18, 3) := by decide +kernel
theorem dX7_nextWord_101 : decode cX7_nextWord 101 = .ok (.aload_n 0, 1) := by decide +kernel
theorem dX7_nextWord_102 : decode cX7_nextWord 102 = .ok (.invokevirtual 89, 3) := by decide +kernel
theorem dX7_nextWord_105 : decode cX7_nextWord 105 = .ok (.ifCond .eq 45, 3) := by decide +kernel
theorem dX7_nextWord_108 : decode cX7_nextWord 108 = .ok (.aload_n 0, 1) := by decide +kernel
theorem dX7_nextWord_109 : decode cX7_nextWord 109 = .ok (.getfield 18, 3) := by decide +kernel
theorem dX7_nextWord_112 : decode cX7_nextWord 112 = .ok (.aload_n 0, 1) := by decide +kernel
theorem dX7_nextWord_113 : decode cX7_nextWord 113 = .ok (.getfield 53, 3) := by decide +kernel
theorem dX7_nextWord_116 : decode cX7_nextWord 116 = .ok (.getfield 92, 3) := by decide +kernel
theorem dX7_nextWord_119 : decode cX7_nextWord 119 = .ok (.if_icmp .ge 31, 3) := by decide +kernel
theorem dX7_nextWord_122 : decode cX7_nextWord 122 = .ok (.aload_n 0, 1) := by decide +kernel
theorem dX7_nextWord_123 : decode cX7_nextWord 123 = .ok (.aload_n 0, 1) := by decide +kernel
theorem dX7_nextWord_124 : decode cX7_nextWord 124 = .ok (.getfield 18, 3) := by decide +kernel
theorem dX7_nextWord_127 : decode cX7_nextWord 127 = .ok (.invokevirtual 101, 3) := by decide +kernel
theorem dX7_nextWord_130 : decode cX7_nextWord 130 = .ok (.aload_n 0, 1) := by decide +kernel
theorem dX7_nextWord_131 : decode cX7_nextWord 131 = .ok (.getfield 11, 3) := by decide +kernel
theorem dX7_nextWord_134 : decode cX7_nextWord 134 = .ok (.if_icmp .ne 16, 3) := by decide +kernel
theorem dX7_nextWord_137 : decode cX7_nextWord 137 = .ok (.aload_n 0, 1) := by decide +kernel
theorem dX7_nextWord_138 : decode cX7_nextWord 138 = .ok (.dup, 1) := by decide +kernel
theorem dX7_nextWord_139 : decode cX7_nextWord 139 = .ok (.getfield 18, 3) := by decide +kernel
theorem dX7_nextWord_142 : decode cX7_nextWord 142 = .ok (.iconst 1, 1) := by decide +kernel
theorem dX7_nextWord_143 : decode cX7_nextWord 143 = .ok (.iadd, 1) := by decide +kernel
theorem dX7_nextWord_144 : decode cX7_nextWord 144 = .ok (.putfield 18, 3) := by decide +kernel
theorem dX7_nextWord_147 : decode cX7_nextWord 147 = .ok (.goto (-46), 3) := by decide +kernel
theorem dX7_nextWord_150 : decode cX7_nextWord 150 = .ok (.aload_n 0, 1) := by decide +kernel
theorem dX7_nextWord_151 : decode cX7_nextWord 151 = .ok (.iload_n 1, 1) := by decide +kernel
theorem dX7_nextWord_152 : decode cX7_nextWord 152 = .ok (.ifCond .eq 22, 3) := by decide +kernel
theorem dX7_nextWord_155 : decode cX7_nextWord 155 = .ok (.aload_n 0, 1) := by decide +kernel
theorem dX7_nextWord_156 : decode cX7_nextWord 156 = .ok (.invokevirtual 89, 3) := by decide +kernel
theorem dX7_nextWord_159 : decode cX7_nextWord 159 = .ok (.ifCond .eq 15, 3) := by decide +kernel
theorem dX7_nextWord_162 : decode cX7_nextWord 162 = .ok (.aload_n 0, 1) := by decide +kernel
theorem dX7_nextWord_163 : decode cX7_nextWord 163 = .ok (.getfield 15, 3) := by decide +kernel
theorem dX7_nextWord_166 : decode cX7_nextWord 166 = .ok (.iload_n 2, 1) := by decide +kernel
theorem dX7_nextWord_167 : decode cX7_nextWord 167 = .ok (.if_icmp .ne 7, 3) := by decide +kernel
theorem dX7_nextWord_170 : decode cX7_nextWord 170 = .ok (.iconst 1, 1) := by decide +kernel
theorem dX7_nextWord_171 : decode cX7_nextWord 171 = .ok (.goto 4, 3) := by decide +kernel
theorem dX7_nextWord_174 : decode cX7_nextWord 174 = .ok (.iconst 0, 1) := by decide +kernel
theorem dX7_nextWord_175 : decode cX7_nextWord 175 = .ok (.putfield 21, 3) := by decide +kernel
theorem dX7_nextWord_178 : decode cX7_nextWord 178 = .ok (.return_, 1) := by decide +kernel
theorem dX7_isWord_0 : decode cX7_isWord 0 = .ok (.aload_n 0, 1) := by decide +kernel
theorem dX7_isWord_1 : decode cX7_isWord 1 = .ok (.getfield 11, 3) := by decide +kernel
theorem dX7_isWord_4 : decode cX7_isWord 4 = .ok (.iconst 1, 1) := by decide +kernel
theorem dX7_isWord_5 : decode cX7_isWord 5 = .ok (.if_icmp .eq 11, 3) := by decide +kernel
theorem dX7_isWord_8 : decode cX7_isWord 8 = .ok (.aload_n 0, 1) := by decide +kernel
theorem dX7_isWord_9 : decode cX7_isWord 9 = .ok (.getfield 11, 3) := by decide +kernel
theorem dX7_isWord_12 : decode cX7_isWord 12 = .ok (.iconst 2, 1) := by decide +kernel
theorem dX7_isWord_13 : decode cX7_isWord 13 = .ok (.if_icmp .ne 7, 3) := by decide +kernel
theorem dX7_isWord_16 : decode cX7_isWord 16 = .ok (.iconst 1, 1) := by decide +kernel
theorem dX7_isWord_17 : decode cX7_isWord 17 = .ok (.goto 4, 3) := by decide +kernel
theorem dX7_isWord_20 : decode cX7_isWord 20 = .ok (.iconst 0, 1) := by decide +kernel
theorem dX7_isWord_21 : decode cX7_isWord 21 = .ok (.ireturn, 1) := by decide +kernel
theorem dX7_byteAt_0 : decode cX7_byteAt 0 = .ok (.iload_n 1, 1) := by decide +kernel
theorem dX7_byteAt_1 : decode cX7_byteAt 1 = .ok (.iconst 0, 1) := by decide +kernel
theorem dX7_byteAt_2 : decode cX7_byteAt 2 = .ok (.bipush 95, 2) := by decide +kernel
theorem dX7_byteAt_4 : decode cX7_byteAt 4 = .ok (.invokestatic 104, 3) := by decide +kernel
theorem dX7_byteAt_7 : decode cX7_byteAt 7 = .ok (.ifCond .eq 15, 3) := by decide +kernel
theorem dX7_byteAt_10 : decode cX7_byteAt 10 = .ok (.aload_n 0, 1) := by decide +kernel
theorem dX7_byteAt_11 : decode cX7_byteAt 11 = .ok (.getfield 53, 3) := by decide +kernel
theorem dX7_byteAt_14 : decode cX7_byteAt 14 = .ok (.getfield 108, 3) := by decide +kernel
theorem dX7_byteAt_17 : decode cX7_byteAt 17 = .ok (.iload_n 1, 1) := by decide +kernel
theorem dX7_byteAt_18 : decode cX7_byteAt 18 = .ok (.baload, 1) := by decide +kernel
theorem dX7_byteAt_19 : decode cX7_byteAt 19 = .ok (.goto 4, 3) := by decide +kernel
theorem dX7_byteAt_22 : decode cX7_byteAt 22 = .ok (.iconst 0, 1) := by decide +kernel
theorem dX7_byteAt_23 : decode cX7_byteAt 23 = .ok (.ireturn, 1) := by decide +kernel
theorem dX7_sortAt_0 : decode cX7_sortAt 0 = .ok (.iload_n 1, 1) := by decide +kernel
theorem dX7_sortAt_1 : decode cX7_sortAt 1 = .ok (.aload_n 0, 1) := by decide +kernel
theorem dX7_sortAt_2 : decode cX7_sortAt 2 = .ok (.getfield 53, 3) := by decide +kernel
theorem dX7_sortAt_5 : decode cX7_sortAt 5 = .ok (.getfield 92, 3) := by decide +kernel
theorem dX7_sortAt_8 : decode cX7_sortAt 8 = .ok (.if_icmp .lt 5, 3) := by decide +kernel
theorem dX7_sortAt_11 : decode cX7_sortAt 11 = .ok (.iconst 0, 1) := by decide +kernel
theorem dX7_sortAt_12 : decode cX7_sortAt 12 = .ok (.ireturn, 1) := by decide +kernel
theorem dX7_sortAt_13 : decode cX7_sortAt 13 = .ok (.aload_n 0, 1) := by decide +kernel
theorem dX7_sortAt_14 : decode cX7_sortAt 14 = .ok (.iload_n 1, 1) := by decide +kernel
theorem dX7_sortAt_15 : decode cX7_sortAt 15 = .ok (.invokevirtual 97, 3) := by decide +kernel
theorem dX7_sortAt_18 : decode cX7_sortAt 18 = .ok (.istore_n 2, 1) := by decide +kernel
theorem dX7_sortAt_19 : decode cX7_sortAt 19 = .ok (.iload_n 2, 1) := by decide +kernel
theorem dX7_sortAt_20 : decode cX7_sortAt 20 = .ok (.bipush 97, 2) := by decide +kernel
theorem dX7_sortAt_22 : decode cX7_sortAt 22 = .ok (.bipush 122, 2) := by decide +kernel
theorem dX7_sortAt_24 : decode cX7_sortAt 24 = .ok (.invokestatic 104, 3) := by decide +kernel
theorem dX7_sortAt_27 : decode cX7_sortAt 27 = .ok (.ifCond .eq 5, 3) := by decide +kernel
theorem dX7_sortAt_30 : decode cX7_sortAt 30 = .ok (.iconst 1, 1) := by decide +kernel
theorem dX7_sortAt_31 : decode cX7_sortAt 31 = .ok (.ireturn, 1) := by decide +kernel
theorem dX7_sortAt_32 : decode cX7_sortAt 32 = .ok (.iload_n 2, 1) := by decide +kernel
theorem dX7_sortAt_33 : decode cX7_sortAt 33 = .ok (.bipush 48, 2) := by decide +kernel
theorem dX7_sortAt_35 : decode cX7_sortAt 35 = .ok (.bipush 57, 2) := by decide +kernel
theorem dX7_sortAt_37 : decode cX7_sortAt 37 = .ok (.invokestatic 104, 3) := by decide +kernel
theorem dX7_sortAt_40 : decode cX7_sortAt 40 = .ok (.ifCond .eq 7, 3) := by decide +kernel
theorem dX7_sortAt_43 : decode cX7_sortAt 43 = .ok (.iconst 2, 1) := by decide +kernel
theorem dX7_sortAt_44 : decode cX7_sortAt 44 = .ok (.goto 4, 3) := by decide +kernel
theorem dX7_sortAt_47 : decode cX7_sortAt 47 = .ok (.iconst 3, 1) := by decide +kernel
theorem dX7_sortAt_48 : decode cX7_sortAt 48 = .ok (.ireturn, 1) := by decide +kernel
theorem dX7_keyRead_0 : decode cX7_keyRead 0 = .ok (.iconst 0, 1) := by decide +kernel
theorem dX7_keyRead_1 : decode cX7_keyRead 1 = .ok (.istore_n 1, 1) := by decide +kernel
theorem dX7_keyRead_2 : decode cX7_keyRead 2 = .ok (.iload_n 1, 1) := by decide +kernel
theorem dX7_keyRead_3 : decode cX7_keyRead 3 = .ok (.iconst 3, 1) := by decide +kernel
theorem dX7_keyRead_4 : decode cX7_keyRead 4 = .ok (.if_icmp .ge 22, 3) := by decide +kernel
theorem dX7_keyRead_7 : decode cX7_keyRead 7 = .ok (.aload_n 0, 1) := by decide +kernel
theorem dX7_keyRead_8 : decode cX7_keyRead 8 = .ok (.iload_n 1, 1) := by decide +kernel
theorem dX7_keyRead_9 : decode cX7_keyRead 9 = .ok (.invokestatic 112, 3) := by decide +kernel
theorem dX7_keyRead_12 : decode cX7_keyRead 12 = .ok (.invokevirtual 116, 3) := by decide +kernel
theorem dX7_keyRead_15 : decode cX7_keyRead 15 = .ok (.ifCond .eq 5, 3) := by decide +kernel
theorem dX7_keyRead_18 : decode cX7_keyRead 18 = .ok (.iload_n 1, 1) := by decide +kernel
theorem dX7_keyRead_19 : decode cX7_keyRead 19 = .ok (.ireturn, 1) := by decide +kernel
theorem dX7_keyRead_20 : decode cX7_keyRead 20 = .ok (.iinc 1 1, 3) := by decide +kernel
theorem dX7_keyRead_23 : decode cX7_keyRead 23 = .ok (.goto (-21), 3) := by decide +kernel
theorem dX7_keyRead_26 : decode cX7_keyRead 26 = .ok (.iconst 3, 1) := by decide +kernel
theorem dX7_keyRead_27 : decode cX7_keyRead 27 = .ok (.ireturn, 1) := by decide +kernel
theorem dX7_wordOf_0 : decode cX7_wordOf 0 = .ok (.iload_n 0, 1) := by decide +kernel
theorem dX7_wordOf_1 : decode cX7_wordOf 1 = .ok (.lookupswitch 33 #[(0, 27), (1, 30)], 27) := by decide +kernel
theorem dX7_wordOf_28 : decode cX7_wordOf 28 = .ok (.ldc 120, 2) := by decide +kernel
theorem dX7_wordOf_30 : decode cX7_wordOf 30 = .ok (.areturn, 1) := by decide +kernel
theorem dX7_wordOf_31 : decode cX7_wordOf 31 = .ok (.ldc 122, 2) := by decide +kernel
theorem dX7_wordOf_33 : decode cX7_wordOf 33 = .ok (.areturn, 1) := by decide +kernel
theorem dX7_wordOf_34 : decode cX7_wordOf 34 = .ok (.ldc 124, 2) := by decide +kernel
theorem dX7_wordOf_36 : decode cX7_wordOf 36 = .ok (.areturn, 1) := by decide +kernel
theorem dX7_namesOf_0 : decode cX7_namesOf 0 = .ok (.iload_n 0, 1) := by decide +kernel
theorem dX7_namesOf_1 : decode cX7_namesOf 1 = .ok (.lookupswitch 33 #[(0, 27), (1, 30)], 27) := by decide +kernel
theorem dX7_namesOf_28 : decode cX7_namesOf 28 = .ok (.ldc 126, 2) := by decide +kernel
theorem dX7_namesOf_30 : decode cX7_namesOf 30 = .ok (.areturn, 1) := by decide +kernel
theorem dX7_namesOf_31 : decode cX7_namesOf 31 = .ok (.ldc 128, 2) := by decide +kernel
theorem dX7_namesOf_33 : decode cX7_namesOf 33 = .ok (.areturn, 1) := by decide +kernel
theorem dX7_namesOf_34 : decode cX7_namesOf 34 = .ok (.ldc 130, 2) := by decide +kernel
theorem dX7_namesOf_36 : decode cX7_namesOf 36 = .ok (.areturn, 1) := by decide +kernel
theorem dX7_isRead_0 : decode cX7_isRead 0 = .ok (.aload_n 0, 1) := by decide +kernel
theorem dX7_isRead_1 : decode cX7_isRead 1 = .ok (.getfield 11, 3) := by decide +kernel
theorem dX7_isRead_4 : decode cX7_isRead 4 = .ok (.iconst 1, 1) := by decide +kernel
theorem dX7_isRead_5 : decode cX7_isRead 5 = .ok (.if_icmp .ne 19, 3) := by decide +kernel
theorem dX7_isRead_8 : decode cX7_isRead 8 = .ok (.aload_n 0, 1) := by decide +kernel
theorem dX7_isRead_9 : decode cX7_isRead 9 = .ok (.getfield 18, 3) := by decide +kernel
theorem dX7_isRead_12 : decode cX7_isRead 12 = .ok (.aload_n 0, 1) := by decide +kernel
theorem dX7_isRead_13 : decode cX7_isRead 13 = .ok (.getfield 15, 3) := by decide +kernel
theorem dX7_isRead_16 : decode cX7_isRead 16 = .ok (.isub, 1) := by decide +kernel
theorem dX7_isRead_17 : decode cX7_isRead 17 = .ok (.aload_n 1, 1) := by decide +kernel
theorem dX7_isRead_18 : decode cX7_isRead 18 = .ok (.invokevirtual 132, 3) := by decide +kernel
theorem dX7_isRead_21 : decode cX7_isRead 21 = .ok (.if_icmp .eq 5, 3) := by decide +kernel
theorem dX7_isRead_24 : decode cX7_isRead 24 = .ok (.iconst 0, 1) := by decide +kernel
theorem dX7_isRead_25 : decode cX7_isRead 25 = .ok (.ireturn, 1) := by decide +kernel
theorem dX7_isRead_26 : decode cX7_isRead 26 = .ok (.iconst 0, 1) := by decide +kernel
theorem dX7_isRead_27 : decode cX7_isRead 27 = .ok (.istore_n 2, 1) := by decide +kernel
theorem dX7_isRead_28 : decode cX7_isRead 28 = .ok (.iload_n 2, 1) := by decide +kernel
theorem dX7_isRead_29 : decode cX7_isRead 29 = .ok (.aload_n 1, 1) := by decide +kernel
theorem dX7_isRead_30 : decode cX7_isRead 30 = .ok (.invokevirtual 132, 3) := by decide +kernel
theorem dX7_isRead_33 : decode cX7_isRead 33 = .ok (.if_icmp .ge 29, 3) := by decide +kernel
theorem dX7_isRead_36 : decode cX7_isRead 36 = .ok (.aload_n 0, 1) := by decide +kernel
theorem dX7_isRead_37 : decode cX7_isRead 37 = .ok (.aload_n 0, 1) := by decide +kernel
theorem dX7_isRead_38 : decode cX7_isRead 38 = .ok (.getfield 15, 3) := by decide +kernel
theorem dX7_isRead_41 : decode cX7_isRead 41 = .ok (.iload_n 2, 1) := by decide +kernel
theorem dX7_isRead_42 : decode cX7_isRead 42 = .ok (.iadd, 1) := by decide +kernel
theorem dX7_isRead_43 : decode cX7_isRead 43 = .ok (.invokevirtual 97, 3) := by decide +kernel
theorem dX7_isRead_46 : decode cX7_isRead 46 = .ok (.aload_n 1, 1) := by decide +kernel
theorem dX7_isRead_47 : decode cX7_isRead 47 = .ok (.iload_n 2, 1) := by decide +kernel
theorem dX7_isRead_48 : decode cX7_isRead 48 = .ok (.invokevirtual 137, 3) := by decide +kernel
theorem dX7_isRead_51 : decode cX7_isRead 51 = .ok (.if_icmp .eq 5, 3) := by decide +kernel
theorem dX7_isRead_54 : decode cX7_isRead 54 = .ok (.iconst 0, 1) := by decide +kernel
theorem dX7_isRead_55 : decode cX7_isRead 55 = .ok (.ireturn, 1) := by decide +kernel
theorem dX7_isRead_56 : decode cX7_isRead 56 = .ok (.iinc 2 1, 3) := by decide +kernel
theorem dX7_isRead_59 : decode cX7_isRead 59 = .ok (.goto (-31), 3) := by decide +kernel
theorem dX7_isRead_62 : decode cX7_isRead 62 = .ok (.iconst 1, 1) := by decide +kernel
theorem dX7_isRead_63 : decode cX7_isRead 63 = .ok (.ireturn, 1) := by decide +kernel
theorem dX7_takesPiece_0 : decode cX7_takesPiece 0 = .ok (.aload_n 0, 1) := by decide +kernel
theorem dX7_takesPiece_1 : decode cX7_takesPiece 1 = .ok (.getfield 11, 3) := by decide +kernel
theorem dX7_takesPiece_4 : decode cX7_takesPiece 4 = .ok (.iconst 2, 1) := by decide +kernel
theorem dX7_takesPiece_5 : decode cX7_takesPiece 5 = .ok (.if_icmp .ne 33, 3) := by decide +kernel
theorem dX7_takesPiece_8 : decode cX7_takesPiece 8 = .ok (.aload_n 0, 1) := by decide +kernel
theorem dX7_takesPiece_9 : decode cX7_takesPiece 9 = .ok (.getfield 18, 3) := by decide +kernel
theorem dX7_takesPiece_12 : decode cX7_takesPiece 12 = .ok (.aload_n 0, 1) := by decide +kernel
theorem dX7_takesPiece_13 : decode cX7_takesPiece 13 = .ok (.getfield 15, 3) := by decide +kernel
theorem dX7_takesPiece_16 : decode cX7_takesPiece 16 = .ok (.isub, 1) := by decide +kernel
theorem dX7_takesPiece_17 : decode cX7_takesPiece 17 = .ok (.iconst 4, 1) := by decide +kernel
theorem dX7_takesPiece_18 : decode cX7_takesPiece 18 = .ok (.if_icmp .gt 18, 3) := by decide +kernel
theorem dX7_takesPiece_21 : decode cX7_takesPiece 21 = .ok (.aload_n 0, 1) := by decide +kernel
theorem dX7_takesPiece_22 : decode cX7_takesPiece 22 = .ok (.aload_n 0, 1) := by decide +kernel
theorem dX7_takesPiece_23 : decode cX7_takesPiece 23 = .ok (.invokevirtual 141, 3) := by decide +kernel
theorem dX7_takesPiece_26 : decode cX7_takesPiece 26 = .ok (.invokevirtual 144, 3) := by decide +kernel
theorem dX7_takesPiece_29 : decode cX7_takesPiece 29 = .ok (.ifCond .eq 7, 3) := by decide +kernel
theorem dX7_takesPiece_32 : decode cX7_takesPiece 32 = .ok (.iconst 1, 1) := by decide +kernel
theorem dX7_takesPiece_33 : decode cX7_takesPiece 33 = .ok (.goto 4, 3) := by decide +kernel
theorem dX7_takesPiece_36 : decode cX7_takesPiece 36 = .ok (.iconst 0, 1) := by decide +kernel
theorem dX7_takesPiece_37 : decode cX7_takesPiece 37 = .ok (.ireturn, 1) := by decide +kernel
theorem dX7_takesPiece_38 : decode cX7_takesPiece 38 = .ok (.aload_n 0, 1) := by decide +kernel
theorem dX7_takesPiece_39 : decode cX7_takesPiece 39 = .ok (.getfield 11, 3) := by decide +kernel
theorem dX7_takesPiece_42 : decode cX7_takesPiece 42 = .ok (.iconst 1, 1) := by decide +kernel
theorem dX7_takesPiece_43 : decode cX7_takesPiece 43 = .ok (.if_icmp .ne 62, 3) := by decide +kernel
theorem dX7_takesPiece_46 : decode cX7_takesPiece 46 = .ok (.aload_n 0, 1) := by decide +kernel
theorem dX7_takesPiece_47 : decode cX7_takesPiece 47 = .ok (.getfield 18, 3) := by decide +kernel
theorem dX7_takesPiece_50 : decode cX7_takesPiece 50 = .ok (.aload_n 0, 1) := by decide +kernel
theorem dX7_takesPiece_51 : decode cX7_takesPiece 51 = .ok (.getfield 15, 3) := by decide +kernel
theorem dX7_takesPiece_54 : decode cX7_takesPiece 54 = .ok (.isub, 1) := by decide +kernel
theorem dX7_takesPiece_55 : decode cX7_takesPiece 55 = .ok (.iconst 1, 1) := by decide +kernel
theorem dX7_takesPiece_56 : decode cX7_takesPiece 56 = .ok (.if_icmp .ne 25, 3) := by decide +kernel
theorem dX7_takesPiece_59 : decode cX7_takesPiece 59 = .ok (.aload_n 0, 1) := by decide +kernel
theorem dX7_takesPiece_60 : decode cX7_takesPiece 60 = .ok (.getfield 28, 3) := by decide +kernel
theorem dX7_takesPiece_63 : decode cX7_takesPiece 63 = .ok (.invokestatic 148, 3) := by decide +kernel
theorem dX7_takesPiece_66 : decode cX7_takesPiece 66 = .ok (.aload_n 0, 1) := by decide +kernel
theorem dX7_takesPiece_67 : decode cX7_takesPiece 67 = .ok (.aload_n 0, 1) := by decide +kernel
theorem dX7_takesPiece_68 : decode cX7_takesPiece 68 = .ok (.getfield 15, 3) := by decide +kernel
theorem dX7_takesPiece_71 : decode cX7_takesPiece 71 = .ok (.invokevirtual 97, 3) := by decide +kernel
theorem dX7_takesPiece_74 : decode cX7_takesPiece 74 = .ok (.i2c, 1) := by decide +kernel
theorem dX7_takesPiece_75 : decode cX7_takesPiece 75 = .ok (.invokevirtual 151, 3) := by decide +kernel
theorem dX7_takesPiece_78 : decode cX7_takesPiece 78 = .ok (.goto 4, 3) := by decide +kernel
theorem dX7_takesPiece_81 : decode cX7_takesPiece 81 = .ok (.iconst (-1), 1) := by decide +kernel
theorem dX7_takesPiece_82 : decode cX7_takesPiece 82 = .ok (.istore_n 1, 1) := by decide +kernel
theorem dX7_takesPiece_83 : decode cX7_takesPiece 83 = .ok (.iload_n 1, 1) := by decide +kernel
theorem dX7_takesPiece_84 : decode cX7_takesPiece 84 = .ok (.ifCond .lt 19, 3) := by decide +kernel
theorem dX7_takesPiece_87 : decode cX7_takesPiece 87 = .ok (.aload_n 0, 1) := by decide +kernel
theorem dX7_takesPiece_88 : decode cX7_takesPiece 88 = .ok (.sipush 10000, 3) := by decide +kernel
theorem dX7_takesPiece_91 : decode cX7_takesPiece 91 = .ok (.iload_n 1, 1) := by decide +kernel
theorem dX7_takesPiece_92 : decode cX7_takesPiece 92 = .ok (.iadd, 1) := by decide +kernel
theorem dX7_takesPiece_93 : decode cX7_takesPiece 93 = .ok (.invokevirtual 144, 3) := by decide +kernel
theorem dX7_takesPiece_96 : decode cX7_takesPiece 96 = .ok (.ifCond .eq 7, 3) := by decide +kernel
theorem dX7_takesPiece_99 : decode cX7_takesPiece 99 = .ok (.iconst 1, 1) := by decide +kernel
theorem dX7_takesPiece_100 : decode cX7_takesPiece 100 = .ok (.goto 4, 3) := by decide +kernel
theorem dX7_takesPiece_103 : decode cX7_takesPiece 103 = .ok (.iconst 0, 1) := by decide +kernel
theorem dX7_takesPiece_104 : decode cX7_takesPiece 104 = .ok (.ireturn, 1) := by decide +kernel
theorem dX7_takesPiece_105 : decode cX7_takesPiece 105 = .ok (.aload_n 0, 1) := by decide +kernel
theorem dX7_takesPiece_106 : decode cX7_takesPiece 106 = .ok (.aload_n 0, 1) := by decide +kernel
theorem dX7_takesPiece_107 : decode cX7_takesPiece 107 = .ok (.getfield 15, 3) := by decide +kernel
theorem dX7_takesPiece_110 : decode cX7_takesPiece 110 = .ok (.invokevirtual 97, 3) := by decide +kernel
theorem dX7_takesPiece_113 : decode cX7_takesPiece 113 = .ok (.bipush 40, 2) := by decide +kernel
theorem dX7_takesPiece_115 : decode cX7_takesPiece 115 = .ok (.if_icmp .ne 29, 3) := by decide +kernel
theorem dX7_takesPiece_118 : decode cX7_takesPiece 118 = .ok (.aload_n 0, 1) := by decide +kernel
theorem dX7_takesPiece_119 : decode cX7_takesPiece 119 = .ok (.getfield 34, 3) := by decide +kernel
theorem dX7_takesPiece_122 : decode cX7_takesPiece 122 = .ok (.bipush 8, 2) := by decide +kernel
theorem dX7_takesPiece_124 : decode cX7_takesPiece 124 = .ok (.if_icmp .ge 20, 3) := by decide +kernel
theorem dX7_takesPiece_127 : decode cX7_takesPiece 127 = .ok (.aload_n 0, 1) := by decide +kernel
theorem dX7_takesPiece_128 : decode cX7_takesPiece 128 = .ok (.dup, 1) := by decide +kernel
theorem dX7_takesPiece_129 : decode cX7_takesPiece 129 = .ok (.getfield 34, 3) := by decide +kernel
theorem dX7_takesPiece_132 : decode cX7_takesPiece 132 = .ok (.iconst 1, 1) := by decide +kernel
theorem dX7_takesPiece_133 : decode cX7_takesPiece 133 = .ok (.iadd, 1) := by decide +kernel
theorem dX7_takesPiece_134 : decode cX7_takesPiece 134 = .ok (.putfield 34, 3) := by decide +kernel
theorem dX7_takesPiece_137 : decode cX7_takesPiece 137 = .ok (.aload_n 0, 1) := by decide +kernel
theorem dX7_takesPiece_138 : decode cX7_takesPiece 138 = .ok (.bipush 40, 2) := by decide +kernel
theorem dX7_takesPiece_140 : decode cX7_takesPiece 140 = .ok (.invokevirtual 154, 3) := by decide +kernel
theorem dX7_takesPiece_143 : decode cX7_takesPiece 143 = .ok (.ireturn, 1) := by decide +kernel
theorem dX7_takesPiece_144 : decode cX7_takesPiece 144 = .ok (.aload_n 0, 1) := by decide +kernel
theorem dX7_takesPiece_145 : decode cX7_takesPiece 145 = .ok (.aload_n 0, 1) := by decide +kernel
theorem dX7_takesPiece_146 : decode cX7_takesPiece 146 = .ok (.getfield 15, 3) := by decide +kernel
theorem dX7_takesPiece_149 : decode cX7_takesPiece 149 = .ok (.invokevirtual 97, 3) := by decide +kernel
theorem dX7_takesPiece_152 : decode cX7_takesPiece 152 = .ok (.bipush 33, 2) := by decide +kernel
theorem dX7_takesPiece_154 : decode cX7_takesPiece 154 = .ok (.if_icmp .ne 29, 3) := by decide +kernel
theorem dX7_takesPiece_157 : decode cX7_takesPiece 157 = .ok (.aload_n 0, 1) := by decide +kernel
theorem dX7_takesPiece_158 : decode cX7_takesPiece 158 = .ok (.getfield 37, 3) := by decide +kernel
theorem dX7_takesPiece_161 : decode cX7_takesPiece 161 = .ok (.bipush 8, 2) := by decide +kernel
theorem dX7_takesPiece_163 : decode cX7_takesPiece 163 = .ok (.if_icmp .ge 20, 3) := by decide +kernel
theorem dX7_takesPiece_166 : decode cX7_takesPiece 166 = .ok (.aload_n 0, 1) := by decide +kernel
theorem dX7_takesPiece_167 : decode cX7_takesPiece 167 = .ok (.dup, 1) := by decide +kernel
theorem dX7_takesPiece_168 : decode cX7_takesPiece 168 = .ok (.getfield 37, 3) := by decide +kernel
theorem dX7_takesPiece_171 : decode cX7_takesPiece 171 = .ok (.iconst 1, 1) := by decide +kernel
theorem dX7_takesPiece_172 : decode cX7_takesPiece 172 = .ok (.iadd, 1) := by decide +kernel
theorem dX7_takesPiece_173 : decode cX7_takesPiece 173 = .ok (.putfield 37, 3) := by decide +kernel
theorem dX7_takesPiece_176 : decode cX7_takesPiece 176 = .ok (.aload_n 0, 1) := by decide +kernel
theorem dX7_takesPiece_177 : decode cX7_takesPiece 177 = .ok (.bipush 33, 2) := by decide +kernel
theorem dX7_takesPiece_179 : decode cX7_takesPiece 179 = .ok (.invokevirtual 154, 3) := by decide +kernel
theorem dX7_takesPiece_182 : decode cX7_takesPiece 182 = .ok (.ireturn, 1) := by decide +kernel
theorem dX7_takesPiece_183 : decode cX7_takesPiece 183 = .ok (.iconst 0, 1) := by decide +kernel
theorem dX7_takesPiece_184 : decode cX7_takesPiece 184 = .ok (.ireturn, 1) := by decide +kernel
theorem dX7_numberRead_0 : decode cX7_numberRead 0 = .ok (.iconst 0, 1) := by decide +kernel
theorem dX7_numberRead_1 : decode cX7_numberRead 1 = .ok (.istore_n 1, 1) := by decide +kernel
theorem dX7_numberRead_2 : decode cX7_numberRead 2 = .ok (.aload_n 0, 1) := by decide +kernel
theorem dX7_numberRead_3 : decode cX7_numberRead 3 = .ok (.getfield 15, 3) := by decide +kernel
theorem dX7_numberRead_6 : decode cX7_numberRead 6 = .ok (.istore_n 2, 1) := by decide +kernel
theorem dX7_numberRead_7 : decode cX7_numberRead 7 = .ok (.iload_n 2, 1) := by decide +kernel
theorem dX7_numberRead_8 : decode cX7_numberRead 8 = .ok (.aload_n 0, 1) := by decide +kernel
theorem dX7_numberRead_9 : decode cX7_numberRead 9 = .ok (.getfield 18, 3) := by decide +kernel
theorem dX7_numberRead_12 : decode cX7_numberRead 12 = .ok (.if_icmp .ge 23, 3) := by decide +kernel
theorem dX7_numberRead_15 : decode cX7_numberRead 15 = .ok (.iload_n 1, 1) := by decide +kernel
theorem dX7_numberRead_16 : decode cX7_numberRead 16 = .ok (.bipush 10, 2) := by decide +kernel
theorem dX7_numberRead_18 : decode cX7_numberRead 18 = .ok (.imul, 1) := by decide +kernel
theorem dX7_numberRead_19 : decode cX7_numberRead 19 = .ok (.aload_n 0, 1) := by decide +kernel
theorem dX7_numberRead_20 : decode cX7_numberRead 20 = .ok (.iload_n 2, 1) := by decide +kernel
theorem dX7_numberRead_21 : decode cX7_numberRead 21 = .ok (.invokevirtual 97, 3) := by decide +kernel
theorem dX7_numberRead_24 : decode cX7_numberRead 24 = .ok (.iadd, 1) := by decide +kernel
theorem dX7_numberRead_25 : decode cX7_numberRead 25 = .ok (.bipush 48, 2) := by decide +kernel
theorem dX7_numberRead_27 : decode cX7_numberRead 27 = .ok (.isub, 1) := by decide +kernel
theorem dX7_numberRead_28 : decode cX7_numberRead 28 = .ok (.istore_n 1, 1) := by decide +kernel
theorem dX7_numberRead_29 : decode cX7_numberRead 29 = .ok (.iinc 2 1, 3) := by decide +kernel
theorem dX7_numberRead_32 : decode cX7_numberRead 32 = .ok (.goto (-25), 3) := by decide +kernel
theorem dX7_numberRead_35 : decode cX7_numberRead 35 = .ok (.iload_n 1, 1) := by decide +kernel
theorem dX7_numberRead_36 : decode cX7_numberRead 36 = .ok (.ireturn, 1) := by decide +kernel
theorem dX7_takesValue_0 : decode cX7_takesValue 0 = .ok (.aload_n 0, 1) := by decide +kernel
theorem dX7_takesValue_1 : decode cX7_takesValue 1 = .ok (.dup, 1) := by decide +kernel
theorem dX7_takesValue_2 : decode cX7_takesValue 2 = .ok (.getfield 31, 3) := by decide +kernel
theorem dX7_takesValue_5 : decode cX7_takesValue 5 = .ok (.iconst 1, 1) := by decide +kernel
theorem dX7_takesValue_6 : decode cX7_takesValue 6 = .ok (.iadd, 1) := by decide +kernel
theorem dX7_takesValue_7 : decode cX7_takesValue 7 = .ok (.putfield 31, 3) := by decide +kernel
theorem dX7_takesValue_10 : decode cX7_takesValue 10 = .ok (.aload_n 0, 1) := by decide +kernel
theorem dX7_takesValue_11 : decode cX7_takesValue 11 = .ok (.iload_n 1, 1) := by decide +kernel
theorem dX7_takesValue_12 : decode cX7_takesValue 12 = .ok (.invokevirtual 157, 3) := by decide +kernel
theorem dX7_takesValue_15 : decode cX7_takesValue 15 = .ok (.aload_n 0, 1) := by decide +kernel
theorem dX7_takesValue_16 : decode cX7_takesValue 16 = .ok (.invokevirtual 160, 3) := by decide +kernel
theorem dX7_takesValue_19 : decode cX7_takesValue 19 = .ok (.iconst 1, 1) := by decide +kernel
theorem dX7_takesValue_20 : decode cX7_takesValue 20 = .ok (.ireturn, 1) := by decide +kernel
theorem dX7_endPiece_0 : decode cX7_endPiece 0 = .ok (.aload_n 0, 1) := by decide +kernel
theorem dX7_endPiece_1 : decode cX7_endPiece 1 = .ok (.iconst 0, 1) := by decide +kernel
theorem dX7_endPiece_2 : decode cX7_endPiece 2 = .ok (.putfield 25, 3) := by decide +kernel
theorem dX7_endPiece_5 : decode cX7_endPiece 5 = .ok (.aload_n 0, 1) := by decide +kernel
theorem dX7_endPiece_6 : decode cX7_endPiece 6 = .ok (.getfield 44, 3) := by decide +kernel
theorem dX7_endPiece_9 : decode cX7_endPiece 9 = .ok (.istore_n 1, 1) := by decide +kernel
theorem dX7_endPiece_10 : decode cX7_endPiece 10 = .ok (.iload_n 1, 1) := by decide +kernel
theorem dX7_endPiece_11 : decode cX7_endPiece 11 = .ok (.ifCond .le 36, 3) := by decide +kernel
theorem dX7_endPiece_14 : decode cX7_endPiece 14 = .ok (.aload_n 0, 1) := by decide +kernel
theorem dX7_endPiece_15 : decode cX7_endPiece 15 = .ok (.getfield 40, 3) := by decide +kernel
theorem dX7_endPiece_18 : decode cX7_endPiece 18 = .ok (.iload_n 1, 1) := by decide +kernel
theorem dX7_endPiece_19 : decode cX7_endPiece 19 = .ok (.iconst 1, 1) := by decide +kernel
theorem dX7_endPiece_20 : decode cX7_endPiece 20 = .ok (.isub, 1) := by decide +kernel
theorem dX7_endPiece_21 : decode cX7_endPiece 21 = .ok (.iaload, 1) := by decide +kernel
theorem dX7_endPiece_22 : decode cX7_endPiece 22 = .ok (.bipush 33, 2) := by decide +kernel
theorem dX7_endPiece_24 : decode cX7_endPiece 24 = .ok (.if_icmp .ne 23, 3) := by decide +kernel
theorem dX7_endPiece_27 : decode cX7_endPiece 27 = .ok (.aload_n 0, 1) := by decide +kernel
theorem dX7_endPiece_28 : decode cX7_endPiece 28 = .ok (.invokevirtual 163, 3) := by decide +kernel
theorem dX7_endPiece_31 : decode cX7_endPiece 31 = .ok (.aload_n 0, 1) := by decide +kernel
theorem dX7_endPiece_32 : decode cX7_endPiece 32 = .ok (.dup, 1) := by decide +kernel
theorem dX7_endPiece_33 : decode cX7_endPiece 33 = .ok (.getfield 37, 3) := by decide +kernel
theorem dX7_endPiece_36 : decode cX7_endPiece 36 = .ok (.iconst 1, 1) := by decide +kernel
theorem dX7_endPiece_37 : decode cX7_endPiece 37 = .ok (.isub, 1) := by decide +kernel
theorem dX7_endPiece_38 : decode cX7_endPiece 38 = .ok (.putfield 37, 3) := by decide +kernel
theorem dX7_endPiece_41 : decode cX7_endPiece 41 = .ok (.iinc 1 (-1), 3) := by decide +kernel
theorem dX7_endPiece_44 : decode cX7_endPiece 44 = .ok (.goto (-34), 3) := by decide +kernel
theorem dX7_endPiece_47 : decode cX7_endPiece 47 = .ok (.return_, 1) := by decide +kernel
theorem dX7_takesJoining_0 : decode cX7_takesJoining 0 = .ok (.aload_n 0, 1) := by decide +kernel
theorem dX7_takesJoining_1 : decode cX7_takesJoining 1 = .ok (.aload_n 0, 1) := by decide +kernel
theorem dX7_takesJoining_2 : decode cX7_takesJoining 2 = .ok (.getfield 15, 3) := by decide +kernel
theorem dX7_takesJoining_5 : decode cX7_takesJoining 5 = .ok (.invokevirtual 97, 3) := by decide +kernel
theorem dX7_takesJoining_8 : decode cX7_takesJoining 8 = .ok (.istore_n 1, 1) := by decide +kernel
theorem dX7_takesJoining_9 : decode cX7_takesJoining 9 = .ok (.iload_n 1, 1) := by decide +kernel
theorem dX7_takesJoining_10 : decode cX7_takesJoining 10 = .ok (.bipush 41, 2) := by decide +kernel
theorem dX7_takesJoining_12 : decode cX7_takesJoining 12 = .ok (.if_icmp .ne 16, 3) := by decide +kernel
theorem dX7_takesJoining_15 : decode cX7_takesJoining 15 = .ok (.aload_n 0, 1) := by decide +kernel
theorem dX7_takesJoining_16 : decode cX7_takesJoining 16 = .ok (.getfield 34, 3) := by decide +kernel
theorem dX7_takesJoining_19 : decode cX7_takesJoining 19 = .ok (.ifCond .le 9, 3) := by decide +kernel
theorem dX7_takesJoining_22 : decode cX7_takesJoining 22 = .ok (.aload_n 0, 1) := by decide +kernel
theorem dX7_takesJoining_23 : decode cX7_takesJoining 23 = .ok (.invokevirtual 166, 3) := by decide +kernel
theorem dX7_takesJoining_26 : decode cX7_takesJoining 26 = .ok (.iconst 1, 1) := by decide +kernel
theorem dX7_takesJoining_27 : decode cX7_takesJoining 27 = .ok (.ireturn, 1) := by decide +kernel
theorem dX7_takesJoining_28 : decode cX7_takesJoining 28 = .ok (.aload_n 0, 1) := by decide +kernel
theorem dX7_takesJoining_29 : decode cX7_takesJoining 29 = .ok (.getfield 11, 3) := by decide +kernel
theorem dX7_takesJoining_32 : decode cX7_takesJoining 32 = .ok (.iconst 3, 1) := by decide +kernel
theorem dX7_takesJoining_33 : decode cX7_takesJoining 33 = .ok (.if_icmp .ne 10, 3) := by decide +kernel
theorem dX7_takesJoining_36 : decode cX7_takesJoining 36 = .ok (.iload_n 1, 1) := by decide +kernel
theorem dX7_takesJoining_37 : decode cX7_takesJoining 37 = .ok (.invokestatic 169, 3) := by decide +kernel
theorem dX7_takesJoining_40 : decode cX7_takesJoining 40 = .ok (.goto 4, 3) := by decide +kernel
theorem dX7_takesJoining_43 : decode cX7_takesJoining 43 = .ok (.iconst 0, 1) := by decide +kernel
theorem dX7_takesJoining_44 : decode cX7_takesJoining 44 = .ok (.istore_n 2, 1) := by decide +kernel
theorem dX7_takesJoining_45 : decode cX7_takesJoining 45 = .ok (.iload_n 2, 1) := by decide +kernel
theorem dX7_takesJoining_46 : decode cX7_takesJoining 46 = .ok (.ifCond .ne 5, 3) := by decide +kernel
theorem dX7_takesJoining_49 : decode cX7_takesJoining 49 = .ok (.iconst 0, 1) := by decide +kernel
theorem dX7_takesJoining_50 : decode cX7_takesJoining 50 = .ok (.ireturn, 1) := by decide +kernel
theorem dX7_takesJoining_51 : decode cX7_takesJoining 51 = .ok (.aload_n 0, 1) := by decide +kernel
theorem dX7_takesJoining_52 : decode cX7_takesJoining 52 = .ok (.iload_n 2, 1) := by decide +kernel
theorem dX7_takesJoining_53 : decode cX7_takesJoining 53 = .ok (.iconst 3, 1) := by decide +kernel
theorem dX7_takesJoining_54 : decode cX7_takesJoining 54 = .ok (.if_icmp .ne 7, 3) := by decide +kernel
theorem dX7_takesJoining_57 : decode cX7_takesJoining 57 = .ok (.iconst 4, 1) := by decide +kernel
theorem dX7_takesJoining_58 : decode cX7_takesJoining 58 = .ok (.goto 4, 3) := by decide +kernel
theorem dX7_takesJoining_61 : decode cX7_takesJoining 61 = .ok (.iload_n 2, 1) := by decide +kernel
theorem dX7_takesJoining_62 : decode cX7_takesJoining 62 = .ok (.invokevirtual 74, 3) := by decide +kernel
theorem dX7_takesJoining_65 : decode cX7_takesJoining 65 = .ok (.iload_n 2, 1) := by decide +kernel
theorem dX7_takesJoining_66 : decode cX7_takesJoining 66 = .ok (.iconst 3, 1) := by decide +kernel
theorem dX7_takesJoining_67 : decode cX7_takesJoining 67 = .ok (.if_icmp .ne 30, 3) := by decide +kernel
theorem dX7_takesJoining_70 : decode cX7_takesJoining 70 = .ok (.aload_n 0, 1) := by decide +kernel
theorem dX7_takesJoining_71 : decode cX7_takesJoining 71 = .ok (.getfield 44, 3) := by decide +kernel
theorem dX7_takesJoining_74 : decode cX7_takesJoining 74 = .ok (.ifCond .le 23, 3) := by decide +kernel
theorem dX7_takesJoining_77 : decode cX7_takesJoining 77 = .ok (.aload_n 0, 1) := by decide +kernel
theorem dX7_takesJoining_78 : decode cX7_takesJoining 78 = .ok (.getfield 40, 3) := by decide +kernel
theorem dX7_takesJoining_81 : decode cX7_takesJoining 81 = .ok (.aload_n 0, 1) := by decide +kernel
theorem dX7_takesJoining_82 : decode cX7_takesJoining 82 = .ok (.getfield 44, 3) := by decide +kernel
theorem dX7_takesJoining_85 : decode cX7_takesJoining 85 = .ok (.iconst 1, 1) := by decide +kernel
theorem dX7_takesJoining_86 : decode cX7_takesJoining 86 = .ok (.isub, 1) := by decide +kernel
theorem dX7_takesJoining_87 : decode cX7_takesJoining 87 = .ok (.iaload, 1) := by decide +kernel
theorem dX7_takesJoining_88 : decode cX7_takesJoining 88 = .ok (.invokestatic 169, 3) := by decide +kernel
theorem dX7_takesJoining_91 : decode cX7_takesJoining 91 = .ok (.iconst 3, 1) := by decide +kernel
theorem dX7_takesJoining_92 : decode cX7_takesJoining 92 = .ok (.if_icmp .ne 5, 3) := by decide +kernel
theorem dX7_takesJoining_95 : decode cX7_takesJoining 95 = .ok (.iconst 0, 1) := by decide +kernel
theorem dX7_takesJoining_96 : decode cX7_takesJoining 96 = .ok (.ireturn, 1) := by decide +kernel
theorem dX7_takesJoining_97 : decode cX7_takesJoining 97 = .ok (.aload_n 0, 1) := by decide +kernel
theorem dX7_takesJoining_98 : decode cX7_takesJoining 98 = .ok (.iconst 1, 1) := by decide +kernel
theorem dX7_takesJoining_99 : decode cX7_takesJoining 99 = .ok (.putfield 25, 3) := by decide +kernel
theorem dX7_takesJoining_102 : decode cX7_takesJoining 102 = .ok (.aload_n 0, 1) := by decide +kernel
theorem dX7_takesJoining_103 : decode cX7_takesJoining 103 = .ok (.iload_n 1, 1) := by decide +kernel
theorem dX7_takesJoining_104 : decode cX7_takesJoining 104 = .ok (.invokevirtual 154, 3) := by decide +kernel
theorem dX7_takesJoining_107 : decode cX7_takesJoining 107 = .ok (.ireturn, 1) := by decide +kernel
theorem dX7_closeParen_0 : decode cX7_closeParen 0 = .ok (.aload_n 0, 1) := by decide +kernel
theorem dX7_closeParen_1 : decode cX7_closeParen 1 = .ok (.iconst 1, 1) := by decide +kernel
theorem dX7_closeParen_2 : decode cX7_closeParen 2 = .ok (.invokevirtual 74, 3) := by decide +kernel
theorem dX7_closeParen_5 : decode cX7_closeParen 5 = .ok (.aload_n 0, 1) := by decide +kernel
theorem dX7_closeParen_6 : decode cX7_closeParen 6 = .ok (.getfield 44, 3) := by decide +kernel
theorem dX7_closeParen_9 : decode cX7_closeParen 9 = .ok (.ifCond .le 13, 3) := by decide +kernel
theorem dX7_closeParen_12 : decode cX7_closeParen 12 = .ok (.aload_n 0, 1) := by decide +kernel
theorem dX7_closeParen_13 : decode cX7_closeParen 13 = .ok (.dup, 1) := by decide +kernel
theorem dX7_closeParen_14 : decode cX7_closeParen 14 = .ok (.getfield 44, 3) := by decide +kernel
theorem dX7_closeParen_17 : decode cX7_closeParen 17 = .ok (.iconst 1, 1) := by decide +kernel
theorem dX7_closeParen_18 : decode cX7_closeParen 18 = .ok (.isub, 1) := by decide +kernel
theorem dX7_closeParen_19 : decode cX7_closeParen 19 = .ok (.putfield 44, 3) := by decide +kernel
theorem dX7_closeParen_22 : decode cX7_closeParen 22 = .ok (.aload_n 0, 1) := by decide +kernel
theorem dX7_closeParen_23 : decode cX7_closeParen 23 = .ok (.dup, 1) := by decide +kernel
theorem dX7_closeParen_24 : decode cX7_closeParen 24 = .ok (.getfield 34, 3) := by decide +kernel
theorem dX7_closeParen_27 : decode cX7_closeParen 27 = .ok (.iconst 1, 1) := by decide +kernel
theorem dX7_closeParen_28 : decode cX7_closeParen 28 = .ok (.isub, 1) := by decide +kernel
theorem dX7_closeParen_29 : decode cX7_closeParen 29 = .ok (.putfield 34, 3) := by decide +kernel
theorem dX7_closeParen_32 : decode cX7_closeParen 32 = .ok (.aload_n 0, 1) := by decide +kernel
theorem dX7_closeParen_33 : decode cX7_closeParen 33 = .ok (.invokevirtual 160, 3) := by decide +kernel
theorem dX7_closeParen_36 : decode cX7_closeParen 36 = .ok (.return_, 1) := by decide +kernel
theorem dX7_tightnessOf_0 : decode cX7_tightnessOf 0 = .ok (.iload_n 0, 1) := by decide +kernel
theorem dX7_tightnessOf_1 : decode cX7_tightnessOf 1 = .ok (.lookupswitch 93 #[(38, 85), (42, 91), (43, 89), (45, 89), (47, 91), (60, 87), (61, 87), (62, 87), (124, 83)], 83) := by decide +kernel
theorem dX7_tightnessOf_84 : decode cX7_tightnessOf 84 = .ok (.iconst 1, 1) := by decide +kernel
theorem dX7_tightnessOf_85 : decode cX7_tightnessOf 85 = .ok (.ireturn, 1) := by decide +kernel
theorem dX7_tightnessOf_86 : decode cX7_tightnessOf 86 = .ok (.iconst 2, 1) := by decide +kernel
theorem dX7_tightnessOf_87 : decode cX7_tightnessOf 87 = .ok (.ireturn, 1) := by decide +kernel
theorem dX7_tightnessOf_88 : decode cX7_tightnessOf 88 = .ok (.iconst 3, 1) := by decide +kernel
theorem dX7_tightnessOf_89 : decode cX7_tightnessOf 89 = .ok (.ireturn, 1) := by decide +kernel
theorem dX7_tightnessOf_90 : decode cX7_tightnessOf 90 = .ok (.iconst 4, 1) := by decide +kernel
theorem dX7_tightnessOf_91 : decode cX7_tightnessOf 91 = .ok (.ireturn, 1) := by decide +kernel
theorem dX7_tightnessOf_92 : decode cX7_tightnessOf 92 = .ok (.iconst 5, 1) := by decide +kernel
theorem dX7_tightnessOf_93 : decode cX7_tightnessOf 93 = .ok (.ireturn, 1) := by decide +kernel
theorem dX7_tightnessOf_94 : decode cX7_tightnessOf 94 = .ok (.iconst 0, 1) := by decide +kernel
theorem dX7_tightnessOf_95 : decode cX7_tightnessOf 95 = .ok (.ireturn, 1) := by decide +kernel
theorem dX7_pushes_0 : decode cX7_pushes 0 = .ok (.aload_n 0, 1) := by decide +kernel
theorem dX7_pushes_1 : decode cX7_pushes 1 = .ok (.getfield 44, 3) := by decide +kernel
theorem dX7_pushes_4 : decode cX7_pushes 4 = .ok (.bipush 96, 2) := by decide +kernel
theorem dX7_pushes_6 : decode cX7_pushes 6 = .ok (.if_icmp .lt 5, 3) := by decide +kernel
theorem dX7_pushes_9 : decode cX7_pushes 9 = .ok (.iconst 0, 1) := by decide +kernel
theorem dX7_pushes_10 : decode cX7_pushes 10 = .ok (.ireturn, 1) := by decide +kernel
theorem dX7_pushes_11 : decode cX7_pushes 11 = .ok (.aload_n 0, 1) := by decide +kernel
theorem dX7_pushes_12 : decode cX7_pushes 12 = .ok (.getfield 40, 3) := by decide +kernel
theorem dX7_pushes_15 : decode cX7_pushes 15 = .ok (.aload_n 0, 1) := by decide +kernel
theorem dX7_pushes_16 : decode cX7_pushes 16 = .ok (.getfield 44, 3) := by decide +kernel
theorem dX7_pushes_19 : decode cX7_pushes 19 = .ok (.iload_n 1, 1) := by decide +kernel
theorem dX7_pushes_20 : decode cX7_pushes 20 = .ok (.iastore, 1) := by decide +kernel
theorem dX7_pushes_21 : decode cX7_pushes 21 = .ok (.aload_n 0, 1) := by decide +kernel
theorem dX7_pushes_22 : decode cX7_pushes 22 = .ok (.dup, 1) := by decide +kernel
theorem dX7_pushes_23 : decode cX7_pushes 23 = .ok (.getfield 44, 3) := by decide +kernel
theorem dX7_pushes_26 : decode cX7_pushes 26 = .ok (.iconst 1, 1) := by decide +kernel
theorem dX7_pushes_27 : decode cX7_pushes 27 = .ok (.iadd, 1) := by decide +kernel
theorem dX7_pushes_28 : decode cX7_pushes 28 = .ok (.putfield 44, 3) := by decide +kernel
theorem dX7_pushes_31 : decode cX7_pushes 31 = .ok (.iconst 1, 1) := by decide +kernel
theorem dX7_pushes_32 : decode cX7_pushes 32 = .ok (.ireturn, 1) := by decide +kernel
theorem dX7_popSignsFrom_0 : decode cX7_popSignsFrom 0 = .ok (.aload_n 0, 1) := by decide +kernel
theorem dX7_popSignsFrom_1 : decode cX7_popSignsFrom 1 = .ok (.getfield 44, 3) := by decide +kernel
theorem dX7_popSignsFrom_4 : decode cX7_popSignsFrom 4 = .ok (.istore_n 2, 1) := by decide +kernel
theorem dX7_popSignsFrom_5 : decode cX7_popSignsFrom 5 = .ok (.iload_n 2, 1) := by decide +kernel
theorem dX7_popSignsFrom_6 : decode cX7_popSignsFrom 6 = .ok (.ifCond .le 28, 3) := by decide +kernel
theorem dX7_popSignsFrom_9 : decode cX7_popSignsFrom 9 = .ok (.aload_n 0, 1) := by decide +kernel
theorem dX7_popSignsFrom_10 : decode cX7_popSignsFrom 10 = .ok (.getfield 40, 3) := by decide +kernel
theorem dX7_popSignsFrom_13 : decode cX7_popSignsFrom 13 = .ok (.iload_n 2, 1) := by decide +kernel
theorem dX7_popSignsFrom_14 : decode cX7_popSignsFrom 14 = .ok (.iconst 1, 1) := by decide +kernel
theorem dX7_popSignsFrom_15 : decode cX7_popSignsFrom 15 = .ok (.isub, 1) := by decide +kernel
theorem dX7_popSignsFrom_16 : decode cX7_popSignsFrom 16 = .ok (.iaload, 1) := by decide +kernel
theorem dX7_popSignsFrom_17 : decode cX7_popSignsFrom 17 = .ok (.invokestatic 169, 3) := by decide +kernel
theorem dX7_popSignsFrom_20 : decode cX7_popSignsFrom 20 = .ok (.iload_n 1, 1) := by decide +kernel
theorem dX7_popSignsFrom_21 : decode cX7_popSignsFrom 21 = .ok (.if_icmp .lt 13, 3) := by decide +kernel
theorem dX7_popSignsFrom_24 : decode cX7_popSignsFrom 24 = .ok (.aload_n 0, 1) := by decide +kernel
theorem dX7_popSignsFrom_25 : decode cX7_popSignsFrom 25 = .ok (.invokevirtual 163, 3) := by decide +kernel
theorem dX7_popSignsFrom_28 : decode cX7_popSignsFrom 28 = .ok (.iinc 2 (-1), 3) := by decide +kernel
theorem dX7_popSignsFrom_31 : decode cX7_popSignsFrom 31 = .ok (.goto (-26), 3) := by decide +kernel
theorem dX7_popSignsFrom_34 : decode cX7_popSignsFrom 34 = .ok (.return_, 1) := by decide +kernel
theorem dX7_popSign_0 : decode cX7_popSign 0 = .ok (.aload_n 0, 1) := by decide +kernel
theorem dX7_popSign_1 : decode cX7_popSign 1 = .ok (.getfield 44, 3) := by decide +kernel
theorem dX7_popSign_4 : decode cX7_popSign 4 = .ok (.ifCond .le 27, 3) := by decide +kernel
theorem dX7_popSign_7 : decode cX7_popSign 7 = .ok (.aload_n 0, 1) := by decide +kernel
theorem dX7_popSign_8 : decode cX7_popSign 8 = .ok (.dup, 1) := by decide +kernel
theorem dX7_popSign_9 : decode cX7_popSign 9 = .ok (.getfield 44, 3) := by decide +kernel
theorem dX7_popSign_12 : decode cX7_popSign 12 = .ok (.iconst 1, 1) := by decide +kernel
theorem dX7_popSign_13 : decode cX7_popSign 13 = .ok (.isub, 1) := by decide +kernel
theorem dX7_popSign_14 : decode cX7_popSign 14 = .ok (.putfield 44, 3) := by decide +kernel
theorem dX7_popSign_17 : decode cX7_popSign 17 = .ok (.aload_n 0, 1) := by decide +kernel
theorem dX7_popSign_18 : decode cX7_popSign 18 = .ok (.aload_n 0, 1) := by decide +kernel
theorem dX7_popSign_19 : decode cX7_popSign 19 = .ok (.getfield 40, 3) := by decide +kernel
theorem dX7_popSign_22 : decode cX7_popSign 22 = .ok (.aload_n 0, 1) := by decide +kernel
theorem dX7_popSign_23 : decode cX7_popSign 23 = .ok (.getfield 44, 3) := by decide +kernel
theorem dX7_popSign_26 : decode cX7_popSign 26 = .ok (.iaload, 1) := by decide +kernel
theorem dX7_popSign_27 : decode cX7_popSign 27 = .ok (.ineg, 1) := by decide +kernel
theorem dX7_popSign_28 : decode cX7_popSign 28 = .ok (.invokevirtual 157, 3) := by decide +kernel
theorem dX7_popSign_31 : decode cX7_popSign 31 = .ok (.return_, 1) := by decide +kernel
theorem dX7_emit_0 : decode cX7_emit 0 = .ok (.aload_n 0, 1) := by decide +kernel
theorem dX7_emit_1 : decode cX7_emit 1 = .ok (.getfield 50, 3) := by decide +kernel
theorem dX7_emit_4 : decode cX7_emit 4 = .ok (.bipush 96, 2) := by decide +kernel
theorem dX7_emit_6 : decode cX7_emit 6 = .ok (.if_icmp .ge 23, 3) := by decide +kernel
theorem dX7_emit_9 : decode cX7_emit 9 = .ok (.aload_n 0, 1) := by decide +kernel
theorem dX7_emit_10 : decode cX7_emit 10 = .ok (.getfield 47, 3) := by decide +kernel
theorem dX7_emit_13 : decode cX7_emit 13 = .ok (.aload_n 0, 1) := by decide +kernel
theorem dX7_emit_14 : decode cX7_emit 14 = .ok (.getfield 50, 3) := by decide +kernel
theorem dX7_emit_17 : decode cX7_emit 17 = .ok (.iload_n 1, 1) := by decide +kernel
theorem dX7_emit_18 : decode cX7_emit 18 = .ok (.iastore, 1) := by decide +kernel
theorem dX7_emit_19 : decode cX7_emit 19 = .ok (.aload_n 0, 1) := by decide +kernel
theorem dX7_emit_20 : decode cX7_emit 20 = .ok (.dup, 1) := by decide +kernel
theorem dX7_emit_21 : decode cX7_emit 21 = .ok (.getfield 50, 3) := by decide +kernel
theorem dX7_emit_24 : decode cX7_emit 24 = .ok (.iconst 1, 1) := by decide +kernel
theorem dX7_emit_25 : decode cX7_emit 25 = .ok (.iadd, 1) := by decide +kernel
theorem dX7_emit_26 : decode cX7_emit 26 = .ok (.putfield 50, 3) := by decide +kernel
theorem dX7_emit_29 : decode cX7_emit 29 = .ok (.return_, 1) := by decide +kernel
theorem dX8_init_0 : decode cX8_init 0 = .ok (.aload_n 0, 1) := by decide +kernel
theorem dX8_init_1 : decode cX8_init 1 = .ok (.invokespecial 1, 3) := by decide +kernel
theorem dX8_init_4 : decode cX8_init 4 = .ok (.aload_n 0, 1) := by decide +kernel
theorem dX8_init_5 : decode cX8_init 5 = .ok (.new 7, 3) := by decide +kernel
theorem dX8_init_8 : decode cX8_init 8 = .ok (.dup, 1) := by decide +kernel
theorem dX8_init_9 : decode cX8_init 9 = .ok (.invokespecial 9, 3) := by decide +kernel
theorem dX8_init_12 : decode cX8_init 12 = .ok (.putfield 10, 3) := by decide +kernel
theorem dX8_init_15 : decode cX8_init 15 = .ok (.aload_n 0, 1) := by decide +kernel
theorem dX8_init_16 : decode cX8_init 16 = .ok (.new 7, 3) := by decide +kernel
theorem dX8_init_19 : decode cX8_init 19 = .ok (.dup, 1) := by decide +kernel
theorem dX8_init_20 : decode cX8_init 20 = .ok (.invokespecial 9, 3) := by decide +kernel
theorem dX8_init_23 : decode cX8_init 23 = .ok (.putfield 16, 3) := by decide +kernel
theorem dX8_init_26 : decode cX8_init 26 = .ok (.aload_n 0, 1) := by decide +kernel
theorem dX8_init_27 : decode cX8_init 27 = .ok (.new 7, 3) := by decide +kernel
theorem dX8_init_30 : decode cX8_init 30 = .ok (.dup, 1) := by decide +kernel
theorem dX8_init_31 : decode cX8_init 31 = .ok (.invokespecial 9, 3) := by decide +kernel
theorem dX8_init_34 : decode cX8_init 34 = .ok (.putfield 19, 3) := by decide +kernel
theorem dX8_init_37 : decode cX8_init 37 = .ok (.aload_n 0, 1) := by decide +kernel
theorem dX8_init_38 : decode cX8_init 38 = .ok (.iconst 0, 1) := by decide +kernel
theorem dX8_init_39 : decode cX8_init 39 = .ok (.putfield 22, 3) := by decide +kernel
theorem dX8_init_42 : decode cX8_init 42 = .ok (.aload_n 0, 1) := by decide +kernel
theorem dX8_init_43 : decode cX8_init 43 = .ok (.new 26, 3) := by decide +kernel
theorem dX8_init_46 : decode cX8_init 46 = .ok (.dup, 1) := by decide +kernel
theorem dX8_init_47 : decode cX8_init 47 = .ok (.invokespecial 28, 3) := by decide +kernel
theorem dX8_init_50 : decode cX8_init 50 = .ok (.putfield 29, 3) := by decide +kernel
theorem dX8_init_53 : decode cX8_init 53 = .ok (.aload_n 0, 1) := by decide +kernel
theorem dX8_init_54 : decode cX8_init 54 = .ok (.new 33, 3) := by decide +kernel
theorem dX8_init_57 : decode cX8_init 57 = .ok (.dup, 1) := by decide +kernel
theorem dX8_init_58 : decode cX8_init 58 = .ok (.invokespecial 35, 3) := by decide +kernel
theorem dX8_init_61 : decode cX8_init 61 = .ok (.putfield 36, 3) := by decide +kernel
theorem dX8_init_64 : decode cX8_init 64 = .ok (.aload_n 0, 1) := by decide +kernel
theorem dX8_init_65 : decode cX8_init 65 = .ok (.new 40, 3) := by decide +kernel
theorem dX8_init_68 : decode cX8_init 68 = .ok (.dup, 1) := by decide +kernel
theorem dX8_init_69 : decode cX8_init 69 = .ok (.aload_n 0, 1) := by decide +kernel
theorem dX8_init_70 : decode cX8_init 70 = .ok (.getfield 36, 3) := by decide +kernel
theorem dX8_init_73 : decode cX8_init 73 = .ok (.invokespecial 42, 3) := by decide +kernel
theorem dX8_init_76 : decode cX8_init 76 = .ok (.putfield 45, 3) := by decide +kernel
theorem dX8_init_79 : decode cX8_init 79 = .ok (.aload_n 0, 1) := by decide +kernel
theorem dX8_init_80 : decode cX8_init 80 = .ok (.iconst 4, 1) := by decide +kernel
theorem dX8_init_81 : decode cX8_init 81 = .ok (.anewarray 49, 3) := by decide +kernel
theorem dX8_init_84 : decode cX8_init 84 = .ok (.putfield 51, 3) := by decide +kernel
theorem dX8_init_87 : decode cX8_init 87 = .ok (.aload_n 0, 1) := by decide +kernel
theorem dX8_init_88 : decode cX8_init 88 = .ok (.iconst 5, 1) := by decide +kernel
theorem dX8_init_89 : decode cX8_init 89 = .ok (.anewarray 55, 3) := by decide +kernel
theorem dX8_init_92 : decode cX8_init 92 = .ok (.putfield 57, 3) := by decide +kernel
theorem dX8_init_95 : decode cX8_init 95 = .ok (.aload_n 0, 1) := by decide +kernel
theorem dX8_init_96 : decode cX8_init 96 = .ok (.bipush 60, 2) := by decide +kernel
theorem dX8_init_98 : decode cX8_init 98 = .ok (.newarray .int, 2) := by decide +kernel
theorem dX8_init_100 : decode cX8_init 100 = .ok (.putfield 61, 3) := by decide +kernel
theorem dX8_init_103 : decode cX8_init 103 = .ok (.aload_n 0, 1) := by decide +kernel
theorem dX8_init_104 : decode cX8_init 104 = .ok (.iconst 0, 1) := by decide +kernel
theorem dX8_init_105 : decode cX8_init 105 = .ok (.putfield 65, 3) := by decide +kernel
theorem dX8_init_108 : decode cX8_init 108 = .ok (.aload_n 0, 1) := by decide +kernel
theorem dX8_init_109 : decode cX8_init 109 = .ok (.bipush 9, 2) := by decide +kernel
theorem dX8_init_111 : decode cX8_init 111 = .ok (.newarray .int, 2) := by decide +kernel
theorem dX8_init_113 : decode cX8_init 113 = .ok (.putfield 69, 3) := by decide +kernel
theorem dX8_init_116 : decode cX8_init 116 = .ok (.iconst 0, 1) := by decide +kernel
theorem dX8_init_117 : decode cX8_init 117 = .ok (.istore_n 1, 1) := by decide +kernel
theorem dX8_init_118 : decode cX8_init 118 = .ok (.iload_n 1, 1) := by decide +kernel
theorem dX8_init_119 : decode cX8_init 119 = .ok (.iconst 4, 1) := by decide +kernel
theorem dX8_init_120 : decode cX8_init 120 = .ok (.if_icmp .ge 22, 3) := by decide +kernel
theorem dX8_init_123 : decode cX8_init 123 = .ok (.aload_n 0, 1) := by decide +kernel
theorem dX8_init_124 : decode cX8_init 124 = .ok (.getfield 51, 3) := by decide +kernel
theorem dX8_init_127 : decode cX8_init 127 = .ok (.iload_n 1, 1) := by decide +kernel
theorem dX8_init_128 : decode cX8_init 128 = .ok (.new 49, 3) := by decide +kernel
theorem dX8_init_131 : decode cX8_init 131 = .ok (.dup, 1) := by decide +kernel
theorem dX8_init_132 : decode cX8_init 132 = .ok (.invokespecial 72, 3) := by decide +kernel
theorem dX8_init_135 : decode cX8_init 135 = .ok (.aastore, 1) := by decide +kernel
theorem dX8_init_136 : decode cX8_init 136 = .ok (.iinc 1 1, 3) := by decide +kernel
theorem dX8_init_139 : decode cX8_init 139 = .ok (.goto (-21), 3) := by decide +kernel
theorem dX8_init_142 : decode cX8_init 142 = .ok (.iconst 0, 1) := by decide +kernel
theorem dX8_init_143 : decode cX8_init 143 = .ok (.istore_n 1, 1) := by decide +kernel
theorem dX8_init_144 : decode cX8_init 144 = .ok (.iload_n 1, 1) := by decide +kernel
theorem dX8_init_145 : decode cX8_init 145 = .ok (.iconst 5, 1) := by decide +kernel
theorem dX8_init_146 : decode cX8_init 146 = .ok (.if_icmp .ge 22, 3) := by decide +kernel
theorem dX8_init_149 : decode cX8_init 149 = .ok (.aload_n 0, 1) := by decide +kernel
theorem dX8_init_150 : decode cX8_init 150 = .ok (.getfield 57, 3) := by decide +kernel
theorem dX8_init_153 : decode cX8_init 153 = .ok (.iload_n 1, 1) := by decide +kernel
theorem dX8_init_154 : decode cX8_init 154 = .ok (.new 55, 3) := by decide +kernel
theorem dX8_init_157 : decode cX8_init 157 = .ok (.dup, 1) := by decide +kernel
theorem dX8_init_158 : decode cX8_init 158 = .ok (.invokespecial 73, 3) := by decide +kernel
theorem dX8_init_161 : decode cX8_init 161 = .ok (.aastore, 1) := by decide +kernel
theorem dX8_init_162 : decode cX8_init 162 = .ok (.iinc 1 1, 3) := by decide +kernel
theorem dX8_init_165 : decode cX8_init 165 = .ok (.goto (-21), 3) := by decide +kernel
theorem dX8_init_168 : decode cX8_init 168 = .ok (.return_, 1) := by decide +kernel
theorem dX8_man_0 : decode cX8_man 0 = .ok (.iload_n 1, 1) := by decide +kernel
theorem dX8_man_1 : decode cX8_man 1 = .ok (.iconst 0, 1) := by decide +kernel
theorem dX8_man_2 : decode cX8_man 2 = .ok (.iconst 5, 1) := by decide +kernel
theorem dX8_man_3 : decode cX8_man 3 = .ok (.invokestatic 74, 3) := by decide +kernel
theorem dX8_man_6 : decode cX8_man 6 = .ok (.ifCond .eq 34, 3) := by decide +kernel
theorem dX8_man_9 : decode cX8_man 9 = .ok (.iload_n 2, 1) := by decide +kernel
theorem dX8_man_10 : decode cX8_man 10 = .ok (.iconst 0, 1) := by decide +kernel
theorem dX8_man_11 : decode cX8_man 11 = .ok (.bipush 99, 2) := by decide +kernel
theorem dX8_man_13 : decode cX8_man 13 = .ok (.invokestatic 74, 3) := by decide +kernel
theorem dX8_man_16 : decode cX8_man 16 = .ok (.ifCond .eq 24, 3) := by decide +kernel
theorem dX8_man_19 : decode cX8_man 19 = .ok (.iload_n 3, 1) := by decide +kernel
theorem dX8_man_20 : decode cX8_man 20 = .ok (.iconst 0, 1) := by decide +kernel
theorem dX8_man_21 : decode cX8_man 21 = .ok (.bipush 99, 2) := by decide +kernel
theorem dX8_man_23 : decode cX8_man 23 = .ok (.invokestatic 74, 3) := by decide +kernel
theorem dX8_man_26 : decode cX8_man 26 = .ok (.ifCond .eq 14, 3) := by decide +kernel
theorem dX8_man_29 : decode cX8_man 29 = .ok (.iload 4, 2) := by decide +kernel
theorem dX8_man_31 : decode cX8_man 31 = .ok (.iconst 0, 1) := by decide +kernel
theorem dX8_man_32 : decode cX8_man 32 = .ok (.bipush 7, 2) := by decide +kernel
theorem dX8_man_34 : decode cX8_man 34 = .ok (.invokestatic 74, 3) := by decide +kernel
theorem dX8_man_37 : decode cX8_man 37 = .ok (.ifCond .ne 6, 3) := by decide +kernel
theorem dX8_man_40 : decode cX8_man 40 = .ok (.ldc 78, 2) := by decide +kernel
theorem dX8_man_42 : decode cX8_man 42 = .ok (.ireturn, 1) := by decide +kernel
theorem dX8_man_43 : decode cX8_man 43 = .ok (.aload_n 0, 1) := by decide +kernel
theorem dX8_man_44 : decode cX8_man 44 = .ok (.getfield 10, 3) := by decide +kernel
theorem dX8_man_47 : decode cX8_man 47 = .ok (.getfield 79, 3) := by decide +kernel
theorem dX8_man_50 : decode cX8_man 50 = .ok (.bipush 9, 2) := by decide +kernel
theorem dX8_man_52 : decode cX8_man 52 = .ok (.if_icmp .lt 6, 3) := by decide +kernel
theorem dX8_man_55 : decode cX8_man 55 = .ok (.ldc 82, 2) := by decide +kernel
theorem dX8_man_57 : decode cX8_man 57 = .ok (.ireturn, 1) := by decide +kernel
theorem dX8_man_58 : decode cX8_man 58 = .ok (.aload_n 0, 1) := by decide +kernel
theorem dX8_man_59 : decode cX8_man 59 = .ok (.getfield 10, 3) := by decide +kernel
theorem dX8_man_62 : decode cX8_man 62 = .ok (.iload_n 1, 1) := by decide +kernel
theorem dX8_man_63 : decode cX8_man 63 = .ok (.iload_n 2, 1) := by decide +kernel
theorem dX8_man_64 : decode cX8_man 64 = .ok (.iload_n 3, 1) := by decide +kernel
theorem dX8_man_65 : decode cX8_man 65 = .ok (.iload 4, 2) := by decide +kernel
theorem dX8_man_67 : decode cX8_man 67 = .ok (.invokevirtual 83, 3) := by decide +kernel
theorem dX8_man_70 : decode cX8_man 70 = .ok (.ireturn, 1) := by decide +kernel
theorem dX8_told_0 : decode cX8_told 0 = .ok (.aload_n 0, 1) := by decide +kernel
theorem dX8_told_1 : decode cX8_told 1 = .ok (.getfield 10, 3) := by decide +kernel
theorem dX8_told_4 : decode cX8_told 4 = .ok (.iload_n 1, 1) := by decide +kernel
theorem dX8_told_5 : decode cX8_told 5 = .ok (.invokevirtual 87, 3) := by decide +kernel
theorem dX8_told_8 : decode cX8_told 8 = .ok (.ifCond .ne 6, 3) := by decide +kernel
theorem dX8_told_11 : decode cX8_told 11 = .ok (.ldc 78, 2) := by decide +kernel
theorem dX8_told_13 : decode cX8_told 13 = .ok (.ireturn, 1) := by decide +kernel
theorem dX8_told_14 : decode cX8_told 14 = .ok (.aload_n 0, 1) := by decide +kernel
theorem dX8_told_15 : decode cX8_told 15 = .ok (.getfield 10, 3) := by decide +kernel
theorem dX8_told_18 : decode cX8_told 18 = .ok (.getfield 91, 3) := by decide +kernel
theorem dX8_told_21 : decode cX8_told 21 = .ok (.iload_n 1, 1) := by decide +kernel
theorem dX8_told_22 : decode cX8_told 22 = .ok (.aaload, 1) := by decide +kernel
theorem dX8_told_23 : decode cX8_told 23 = .ok (.astore_n 3, 1) := by decide +kernel
theorem dX8_told_24 : decode cX8_told 24 = .ok (.iload_n 2, 1) := by decide +kernel
theorem dX8_told_25 : decode cX8_told 25 = .ok (.tableswitch 95 0 7 #[47, 52, 57, 62, 67, 72, 85, 90], 47) := by decide +kernel
theorem dX8_told_72 : decode cX8_told 72 = .ok (.aload_n 3, 1) := by decide +kernel
theorem dX8_told_73 : decode cX8_told 73 = .ok (.getfield 95, 3) := by decide +kernel
theorem dX8_told_76 : decode cX8_told 76 = .ok (.ireturn, 1) := by decide +kernel
theorem dX8_told_77 : decode cX8_told 77 = .ok (.aload_n 3, 1) := by decide +kernel
theorem dX8_told_78 : decode cX8_told 78 = .ok (.getfield 100, 3) := by decide +kernel
theorem dX8_told_81 : decode cX8_told 81 = .ok (.ireturn, 1) := by decide +kernel
theorem dX8_told_82 : decode cX8_told 82 = .ok (.aload_n 3, 1) := by decide +kernel
theorem dX8_told_83 : decode cX8_told 83 = .ok (.getfield 103, 3) := by decide +kernel
theorem dX8_told_86 : decode cX8_told 86 = .ok (.ireturn, 1) := by decide +kernel
theorem dX8_told_87 : decode cX8_told 87 = .ok (.aload_n 3, 1) := by decide +kernel
theorem dX8_told_88 : decode cX8_told 88 = .ok (.getfield 106, 3) := by decide +kernel
theorem dX8_told_91 : decode cX8_told 91 = .ok (.ireturn, 1) := by decide +kernel
theorem dX8_told_92 : decode cX8_told 92 = .ok (.aload_n 3, 1) := by decide +kernel
theorem dX8_told_93 : decode cX8_told 93 = .ok (.getfield 109, 3) := by decide +kernel
theorem dX8_told_96 : decode cX8_told 96 = .ok (.ireturn, 1) := by decide +kernel
theorem dX8_told_97 : decode cX8_told 97 = .ok (.aload_n 3, 1) := by decide +kernel
theorem dX8_told_98 : decode cX8_told 98 = .ok (.getfield 112, 3) := by decide +kernel
theorem dX8_told_101 : decode cX8_told 101 = .ok (.ifCond .eq 7, 3) := by decide +kernel
theorem dX8_told_104 : decode cX8_told 104 = .ok (.iconst 1, 1) := by decide +kernel
theorem dX8_told_105 : decode cX8_told 105 = .ok (.goto 4, 3) := by decide +kernel
theorem dX8_told_108 : decode cX8_told 108 = .ok (.iconst 0, 1) := by decide +kernel
theorem dX8_told_109 : decode cX8_told 109 = .ok (.ireturn, 1) := by decide +kernel
theorem dX8_told_110 : decode cX8_told 110 = .ok (.aload_n 3, 1) := by decide +kernel
theorem dX8_told_111 : decode cX8_told 111 = .ok (.invokevirtual 115, 3) := by decide +kernel
theorem dX8_told_114 : decode cX8_told 114 = .ok (.ireturn, 1) := by decide +kernel
theorem dX8_told_115 : decode cX8_told 115 = .ok (.aload_n 3, 1) := by decide +kernel
theorem dX8_told_116 : decode cX8_told 116 = .ok (.invokevirtual 119, 3) := by decide +kernel
theorem dX8_told_119 : decode cX8_told 119 = .ok (.ireturn, 1) := by decide +kernel
theorem dX8_told_120 : decode cX8_told 120 = .ok (.ldc 78, 2) := by decide +kernel
theorem dX8_told_122 : decode cX8_told 122 = .ok (.ireturn, 1) := by decide +kernel
theorem dX8_bears_0 : decode cX8_bears 0 = .ok (.aload_n 0, 1) := by decide +kernel
theorem dX8_bears_1 : decode cX8_bears 1 = .ok (.getfield 10, 3) := by decide +kernel
theorem dX8_bears_4 : decode cX8_bears 4 = .ok (.iload_n 1, 1) := by decide +kernel
theorem dX8_bears_5 : decode cX8_bears 5 = .ok (.invokevirtual 87, 3) := by decide +kernel
theorem dX8_bears_8 : decode cX8_bears 8 = .ok (.ifCond .eq 13, 3) := by decide +kernel
theorem dX8_bears_11 : decode cX8_bears 11 = .ok (.iload_n 2, 1) := by decide +kernel
theorem dX8_bears_12 : decode cX8_bears 12 = .ok (.iconst 0, 1) := by decide +kernel
theorem dX8_bears_13 : decode cX8_bears 13 = .ok (.bipush 7, 2) := by decide +kernel
theorem dX8_bears_15 : decode cX8_bears 15 = .ok (.invokestatic 74, 3) := by decide +kernel
theorem dX8_bears_18 : decode cX8_bears 18 = .ok (.ifCond .ne 6, 3) := by decide +kernel
theorem dX8_bears_21 : decode cX8_bears 21 = .ok (.ldc 78, 2) := by decide +kernel
theorem dX8_bears_23 : decode cX8_bears 23 = .ok (.ireturn, 1) := by decide +kernel
theorem dX8_bears_24 : decode cX8_bears 24 = .ok (.aload_n 0, 1) := by decide +kernel
theorem dX8_bears_25 : decode cX8_bears 25 = .ok (.getfield 10, 3) := by decide +kernel
theorem dX8_bears_28 : decode cX8_bears 28 = .ok (.iload_n 1, 1) := by decide +kernel
theorem dX8_bears_29 : decode cX8_bears 29 = .ok (.iload_n 2, 1) := by decide +kernel
theorem dX8_bears_30 : decode cX8_bears 30 = .ok (.invokevirtual 122, 3) := by decide +kernel
theorem dX8_bears_33 : decode cX8_bears 33 = .ok (.ireturn, 1) := by decide +kernel
theorem dX8_as_0 : decode cX8_as 0 = .ok (.aload_n 0, 1) := by decide +kernel
theorem dX8_as_1 : decode cX8_as 1 = .ok (.getfield 10, 3) := by decide +kernel
theorem dX8_as_4 : decode cX8_as 4 = .ok (.iload_n 1, 1) := by decide +kernel
theorem dX8_as_5 : decode cX8_as 5 = .ok (.invokevirtual 87, 3) := by decide +kernel
theorem dX8_as_8 : decode cX8_as 8 = .ok (.ifCond .eq 12, 3) := by decide +kernel
theorem dX8_as_11 : decode cX8_as 11 = .ok (.iload_n 2, 1) := by decide +kernel
theorem dX8_as_12 : decode cX8_as 12 = .ok (.iconst 0, 1) := by decide +kernel
theorem dX8_as_13 : decode cX8_as 13 = .ok (.iconst 5, 1) := by decide +kernel
theorem dX8_as_14 : decode cX8_as 14 = .ok (.invokestatic 74, 3) := by decide +kernel
theorem dX8_as_17 : decode cX8_as 17 = .ok (.ifCond .ne 6, 3) := by decide +kernel
theorem dX8_as_20 : decode cX8_as 20 = .ok (.ldc 78, 2) := by decide +kernel
theorem dX8_as_22 : decode cX8_as 22 = .ok (.ireturn, 1) := by decide +kernel
theorem dX8_as_23 : decode cX8_as 23 = .ok (.aload_n 0, 1) := by decide +kernel
theorem dX8_as_24 : decode cX8_as 24 = .ok (.getfield 10, 3) := by decide +kernel
theorem dX8_as_27 : decode cX8_as 27 = .ok (.getfield 91, 3) := by decide +kernel
theorem dX8_as_30 : decode cX8_as 30 = .ok (.iload_n 1, 1) := by decide +kernel
theorem dX8_as_31 : decode cX8_as 31 = .ok (.aaload, 1) := by decide +kernel
theorem dX8_as_32 : decode cX8_as 32 = .ok (.iload_n 2, 1) := by decide +kernel
theorem dX8_as_33 : decode cX8_as 33 = .ok (.invokevirtual 126, 3) := by decide +kernel
theorem dX8_as_36 : decode cX8_as 36 = .ok (.ifCond .eq 18, 3) := by decide +kernel
theorem dX8_as_39 : decode cX8_as 39 = .ok (.aload_n 0, 1) := by decide +kernel
theorem dX8_as_40 : decode cX8_as 40 = .ok (.getfield 10, 3) := by decide +kernel
theorem dX8_as_43 : decode cX8_as 43 = .ok (.getfield 91, 3) := by decide +kernel
theorem dX8_as_46 : decode cX8_as 46 = .ok (.iload_n 1, 1) := by decide +kernel
theorem dX8_as_47 : decode cX8_as 47 = .ok (.aaload, 1) := by decide +kernel
theorem dX8_as_48 : decode cX8_as 48 = .ok (.getfield 100, 3) := by decide +kernel
theorem dX8_as_51 : decode cX8_as 51 = .ok (.goto 5, 3) := by decide +kernel
theorem dX8_as_54 : decode cX8_as 54 = .ok (.ldc 129, 2) := by decide +kernel
theorem dX8_as_56 : decode cX8_as 56 = .ok (.ireturn, 1) := by decide +kernel
theorem dX8_turns_0 : decode cX8_turns 0 = .ok (.aload_n 0, 1) := by decide +kernel
theorem dX8_turns_1 : decode cX8_turns 1 = .ok (.getfield 10, 3) := by decide +kernel
theorem dX8_turns_4 : decode cX8_turns 4 = .ok (.iload_n 1, 1) := by decide +kernel
theorem dX8_turns_5 : decode cX8_turns 5 = .ok (.invokevirtual 87, 3) := by decide +kernel
theorem dX8_turns_8 : decode cX8_turns 8 = .ok (.ifCond .eq 12, 3) := by decide +kernel
theorem dX8_turns_11 : decode cX8_turns 11 = .ok (.iload_n 2, 1) := by decide +kernel
theorem dX8_turns_12 : decode cX8_turns 12 = .ok (.iconst 0, 1) := by decide +kernel
theorem dX8_turns_13 : decode cX8_turns 13 = .ok (.iconst 5, 1) := by decide +kernel
theorem dX8_turns_14 : decode cX8_turns 14 = .ok (.invokestatic 74, 3) := by decide +kernel
theorem dX8_turns_17 : decode cX8_turns 17 = .ok (.ifCond .ne 6, 3) := by decide +kernel
theorem dX8_turns_20 : decode cX8_turns 20 = .ok (.ldc 78, 2) := by decide +kernel
theorem dX8_turns_22 : decode cX8_turns 22 = .ok (.ireturn, 1) := by decide +kernel
theorem dX8_turns_23 : decode cX8_turns 23 = .ok (.aload_n 0, 1) := by decide +kernel
theorem dX8_turns_24 : decode cX8_turns 24 = .ok (.getfield 10, 3) := by decide +kernel
theorem dX8_turns_27 : decode cX8_turns 27 = .ok (.getfield 91, 3) := by decide +kernel
theorem dX8_turns_30 : decode cX8_turns 30 = .ok (.iload_n 1, 1) := by decide +kernel
theorem dX8_turns_31 : decode cX8_turns 31 = .ok (.aaload, 1) := by decide +kernel
theorem dX8_turns_32 : decode cX8_turns 32 = .ok (.getfield 95, 3) := by decide +kernel
theorem dX8_turns_35 : decode cX8_turns 35 = .ok (.istore_n 3, 1) := by decide +kernel
theorem dX8_turns_36 : decode cX8_turns 36 = .ok (.aload_n 0, 1) := by decide +kernel
theorem dX8_turns_37 : decode cX8_turns 37 = .ok (.getfield 10, 3) := by decide +kernel
theorem dX8_turns_40 : decode cX8_turns 40 = .ok (.getfield 91, 3) := by decide +kernel
theorem dX8_turns_43 : decode cX8_turns 43 = .ok (.iload_n 1, 1) := by decide +kernel
theorem dX8_turns_44 : decode cX8_turns 44 = .ok (.aaload, 1) := by decide +kernel
theorem dX8_turns_45 : decode cX8_turns 45 = .ok (.iload_n 2, 1) := by decide +kernel
theorem dX8_turns_46 : decode cX8_turns 46 = .ok (.putfield 95, 3) := by decide +kernel
theorem dX8_turns_49 : decode cX8_turns 49 = .ok (.iload_n 3, 1) := by decide +kernel
theorem dX8_turns_50 : decode cX8_turns 50 = .ok (.ireturn, 1) := by decide +kernel
theorem dX8_set_0 : decode cX8_set 0 = .ok (.aload_n 0, 1) := by decide +kernel
theorem dX8_set_1 : decode cX8_set 1 = .ok (.getfield 10, 3) := by decide +kernel
theorem dX8_set_4 : decode cX8_set 4 = .ok (.iload_n 1, 1) := by decide +kernel
theorem dX8_set_5 : decode cX8_set 5 = .ok (.invokevirtual 87, 3) := by decide +kernel
theorem dX8_set_8 : decode cX8_set 8 = .ok (.ifCond .eq 24, 3) := by decide +kernel
theorem dX8_set_11 : decode cX8_set 11 = .ok (.iload_n 2, 1) := by decide +kernel
theorem dX8_set_12 : decode cX8_set 12 = .ok (.iconst 1, 1) := by decide +kernel
theorem dX8_set_13 : decode cX8_set 13 = .ok (.iconst 5, 1) := by decide +kernel
theorem dX8_set_14 : decode cX8_set 14 = .ok (.invokestatic 74, 3) := by decide +kernel
theorem dX8_set_17 : decode cX8_set 17 = .ok (.ifCond .eq 15, 3) := by decide +kernel
theorem dX8_set_20 : decode cX8_set 20 = .ok (.iload_n 3, 1) := by decide +kernel
theorem dX8_set_21 : decode cX8_set 21 = .ok (.iconst 0, 1) := by decide +kernel
theorem dX8_set_22 : decode cX8_set 22 = .ok (.iload_n 2, 1) := by decide +kernel
theorem dX8_set_23 : decode cX8_set 23 = .ok (.invokestatic 130, 3) := by decide +kernel
theorem dX8_set_26 : decode cX8_set 26 = .ok (.invokestatic 74, 3) := by decide +kernel
theorem dX8_set_29 : decode cX8_set 29 = .ok (.ifCond .ne 6, 3) := by decide +kernel
theorem dX8_set_32 : decode cX8_set 32 = .ok (.ldc 78, 2) := by decide +kernel
theorem dX8_set_34 : decode cX8_set 34 = .ok (.ireturn, 1) := by decide +kernel
theorem dX8_set_35 : decode cX8_set 35 = .ok (.aload_n 0, 1) := by decide +kernel
theorem dX8_set_36 : decode cX8_set 36 = .ok (.iload_n 1, 1) := by decide +kernel
theorem dX8_set_37 : decode cX8_set 37 = .ok (.iload_n 2, 1) := by decide +kernel
theorem dX8_set_38 : decode cX8_set 38 = .ok (.invokevirtual 134, 3) := by decide +kernel
theorem dX8_set_41 : decode cX8_set 41 = .ok (.istore 4, 2) := by decide +kernel
theorem dX8_set_43 : decode cX8_set 43 = .ok (.aload_n 0, 1) := by decide +kernel
theorem dX8_set_44 : decode cX8_set 44 = .ok (.getfield 10, 3) := by decide +kernel
theorem dX8_set_47 : decode cX8_set 47 = .ok (.getfield 91, 3) := by decide +kernel
theorem dX8_set_50 : decode cX8_set 50 = .ok (.iload_n 1, 1) := by decide +kernel
theorem dX8_set_51 : decode cX8_set 51 = .ok (.aaload, 1) := by decide +kernel
theorem dX8_set_52 : decode cX8_set 52 = .ok (.astore 5, 2) := by decide +kernel
theorem dX8_set_54 : decode cX8_set 54 = .ok (.iload_n 2, 1) := by decide +kernel
theorem dX8_set_55 : decode cX8_set 55 = .ok (.tableswitch 65 1 4 #[29, 38, 47, 56], 29) := by decide +kernel
theorem dX8_set_84 : decode cX8_set 84 = .ok (.aload 5, 2) := by decide +kernel
theorem dX8_set_86 : decode cX8_set 86 = .ok (.iload_n 3, 1) := by decide +kernel
theorem dX8_set_87 : decode cX8_set 87 = .ok (.putfield 100, 3) := by decide +kernel
theorem dX8_set_90 : decode cX8_set 90 = .ok (.goto 45, 3) := by decide +kernel
theorem dX8_set_93 : decode cX8_set 93 = .ok (.aload 5, 2) := by decide +kernel
theorem dX8_set_95 : decode cX8_set 95 = .ok (.iload_n 3, 1) := by decide +kernel
theorem dX8_set_96 : decode cX8_set 96 = .ok (.putfield 103, 3) := by decide +kernel
theorem dX8_set_99 : decode cX8_set 99 = .ok (.goto 36, 3) := by decide +kernel
theorem dX8_set_102 : decode cX8_set 102 = .ok (.aload 5, 2) := by decide +kernel
theorem dX8_set_104 : decode cX8_set 104 = .ok (.iload_n 3, 1) := by decide +kernel
theorem dX8_set_105 : decode cX8_set 105 = .ok (.putfield 106, 3) := by decide +kernel
theorem dX8_set_108 : decode cX8_set 108 = .ok (.goto 27, 3) := by decide +kernel
theorem dX8_set_111 : decode cX8_set 111 = .ok (.aload 5, 2) := by decide +kernel
theorem dX8_set_113 : decode cX8_set 113 = .ok (.iload_n 3, 1) := by decide +kernel
theorem dX8_set_114 : decode cX8_set 114 = .ok (.putfield 109, 3) := by decide +kernel
theorem dX8_set_117 : decode cX8_set 117 = .ok (.goto 18, 3) := by decide +kernel
theorem dX8_set_120 : decode cX8_set 120 = .ok (.aload 5, 2) := by decide +kernel
theorem dX8_set_122 : decode cX8_set 122 = .ok (.iload_n 3, 1) := by decide +kernel
theorem dX8_set_123 : decode cX8_set 123 = .ok (.iconst 1, 1) := by decide +kernel
theorem dX8_set_124 : decode cX8_set 124 = .ok (.if_icmp .ne 7, 3) := by decide +kernel
theorem dX8_set_127 : decode cX8_set 127 = .ok (.iconst 1, 1) := by decide +kernel
theorem dX8_set_128 : decode cX8_set 128 = .ok (.goto 4, 3) := by decide +kernel
theorem dX8_set_131 : decode cX8_set 131 = .ok (.iconst 0, 1) := by decide +kernel
theorem dX8_set_132 : decode cX8_set 132 = .ok (.putfield 112, 3) := by decide +kernel
theorem dX8_set_135 : decode cX8_set 135 = .ok (.iload 4, 2) := by decide +kernel
theorem dX8_set_137 : decode cX8_set 137 = .ok (.ireturn, 1) := by decide +kernel
theorem dX8_mostOf_0 : decode cX8_mostOf 0 = .ok (.iload_n 0, 1) := by decide +kernel
theorem dX8_mostOf_1 : decode cX8_mostOf 1 = .ok (.tableswitch 44 1 4 #[31, 34, 37, 40], 31) := by decide +kernel
theorem dX8_mostOf_32 : decode cX8_mostOf 32 = .ok (.bipush 99, 2) := by decide +kernel
theorem dX8_mostOf_34 : decode cX8_mostOf 34 = .ok (.ireturn, 1) := by decide +kernel
theorem dX8_mostOf_35 : decode cX8_mostOf 35 = .ok (.bipush 99, 2) := by decide +kernel
theorem dX8_mostOf_37 : decode cX8_mostOf 37 = .ok (.ireturn, 1) := by decide +kernel
theorem dX8_mostOf_38 : decode cX8_mostOf 38 = .ok (.bipush 7, 2) := by decide +kernel
theorem dX8_mostOf_40 : decode cX8_mostOf 40 = .ok (.ireturn, 1) := by decide +kernel
theorem dX8_mostOf_41 : decode cX8_mostOf 41 = .ok (.sipush 9999, 3) := by decide +kernel
theorem dX8_mostOf_44 : decode cX8_mostOf 44 = .ok (.ireturn, 1) := by decide +kernel
theorem dX8_mostOf_45 : decode cX8_mostOf 45 = .ok (.iconst 1, 1) := by decide +kernel
theorem dX8_mostOf_46 : decode cX8_mostOf 46 = .ok (.ireturn, 1) := by decide +kernel
theorem dX8_says_0 : decode cX8_says 0 = .ok (.aload_n 0, 1) := by decide +kernel
theorem dX8_says_1 : decode cX8_says 1 = .ok (.getfield 10, 3) := by decide +kernel
theorem dX8_says_4 : decode cX8_says 4 = .ok (.iload_n 1, 1) := by decide +kernel
theorem dX8_says_5 : decode cX8_says 5 = .ok (.invokevirtual 87, 3) := by decide +kernel
theorem dX8_says_8 : decode cX8_says 8 = .ok (.ifCond .eq 33, 3) := by decide +kernel
theorem dX8_says_11 : decode cX8_says 11 = .ok (.iload_n 2, 1) := by decide +kernel
theorem dX8_says_12 : decode cX8_says 12 = .ok (.iconst 0, 1) := by decide +kernel
theorem dX8_says_13 : decode cX8_says 13 = .ok (.bipush 7, 2) := by decide +kernel
theorem dX8_says_15 : decode cX8_says 15 = .ok (.invokestatic 74, 3) := by decide +kernel
theorem dX8_says_18 : decode cX8_says 18 = .ok (.ifCond .eq 23, 3) := by decide +kernel
theorem dX8_says_21 : decode cX8_says 21 = .ok (.iload_n 3, 1) := by decide +kernel
theorem dX8_says_22 : decode cX8_says 22 = .ok (.iconst 0, 1) := by decide +kernel
theorem dX8_says_23 : decode cX8_says 23 = .ok (.bipush 99, 2) := by decide +kernel
theorem dX8_says_25 : decode cX8_says 25 = .ok (.invokestatic 74, 3) := by decide +kernel
theorem dX8_says_28 : decode cX8_says 28 = .ok (.ifCond .eq 13, 3) := by decide +kernel
theorem dX8_says_31 : decode cX8_says 31 = .ok (.iload 4, 2) := by decide +kernel
theorem dX8_says_33 : decode cX8_says 33 = .ok (.iconst (-1), 1) := by decide +kernel
theorem dX8_says_34 : decode cX8_says 34 = .ok (.iconst 1, 1) := by decide +kernel
theorem dX8_says_35 : decode cX8_says 35 = .ok (.invokestatic 74, 3) := by decide +kernel
theorem dX8_says_38 : decode cX8_says 38 = .ok (.ifCond .ne 6, 3) := by decide +kernel
theorem dX8_says_41 : decode cX8_says 41 = .ok (.ldc 78, 2) := by decide +kernel
theorem dX8_says_43 : decode cX8_says 43 = .ok (.ireturn, 1) := by decide +kernel
theorem dX8_says_44 : decode cX8_says 44 = .ok (.aload_n 0, 1) := by decide +kernel
theorem dX8_says_45 : decode cX8_says 45 = .ok (.getfield 10, 3) := by decide +kernel
theorem dX8_says_48 : decode cX8_says 48 = .ok (.iload_n 1, 1) := by decide +kernel
theorem dX8_says_49 : decode cX8_says 49 = .ok (.invokevirtual 137, 3) := by decide +kernel
theorem dX8_says_52 : decode cX8_says 52 = .ok (.ifCond .ne 6, 3) := by decide +kernel
theorem dX8_says_55 : decode cX8_says 55 = .ok (.ldc 140, 2) := by decide +kernel
theorem dX8_says_57 : decode cX8_says 57 = .ok (.ireturn, 1) := by decide +kernel
theorem dX8_says_58 : decode cX8_says 58 = .ok (.aload_n 0, 1) := by decide +kernel
theorem dX8_says_59 : decode cX8_says 59 = .ok (.getfield 10, 3) := by decide +kernel
theorem dX8_says_62 : decode cX8_says 62 = .ok (.getfield 141, 3) := by decide +kernel
theorem dX8_says_65 : decode cX8_says 65 = .ok (.istore 5, 2) := by decide +kernel
theorem dX8_says_67 : decode cX8_says 67 = .ok (.aload_n 0, 1) := by decide +kernel
theorem dX8_says_68 : decode cX8_says 68 = .ok (.getfield 10, 3) := by decide +kernel
theorem dX8_says_71 : decode cX8_says 71 = .ok (.iload_n 1, 1) := by decide +kernel
theorem dX8_says_72 : decode cX8_says 72 = .ok (.iload_n 2, 1) := by decide +kernel
theorem dX8_says_73 : decode cX8_says 73 = .ok (.iload_n 3, 1) := by decide +kernel
theorem dX8_says_74 : decode cX8_says 74 = .ok (.iload 4, 2) := by decide +kernel
theorem dX8_says_76 : decode cX8_says 76 = .ok (.iconst 0, 1) := by decide +kernel
theorem dX8_says_77 : decode cX8_says 77 = .ok (.invokevirtual 144, 3) := by decide +kernel
theorem dX8_says_80 : decode cX8_says 80 = .ok (.aload_n 0, 1) := by decide +kernel
theorem dX8_says_81 : decode cX8_says 81 = .ok (.getfield 10, 3) := by decide +kernel
theorem dX8_says_84 : decode cX8_says 84 = .ok (.getfield 141, 3) := by decide +kernel
theorem dX8_says_87 : decode cX8_says 87 = .ok (.iload 5, 2) := by decide +kernel
theorem dX8_says_89 : decode cX8_says 89 = .ok (.isub, 1) := by decide +kernel
theorem dX8_says_90 : decode cX8_says 90 = .ok (.ireturn, 1) := by decide +kernel
theorem dX8_sets_0 : decode cX8_sets 0 = .ok (.aload_n 0, 1) := by decide +kernel
theorem dX8_sets_1 : decode cX8_sets 1 = .ok (.getfield 10, 3) := by decide +kernel
theorem dX8_sets_4 : decode cX8_sets 4 = .ok (.getfield 79, 3) := by decide +kernel
theorem dX8_sets_7 : decode cX8_sets 7 = .ok (.aload_n 0, 1) := by decide +kernel
theorem dX8_sets_8 : decode cX8_sets 8 = .ok (.getfield 10, 3) := by decide +kernel
theorem dX8_sets_11 : decode cX8_sets 11 = .ok (.invokevirtual 148, 3) := by decide +kernel
theorem dX8_sets_14 : decode cX8_sets 14 = .ok (.isub, 1) := by decide +kernel
theorem dX8_sets_15 : decode cX8_sets 15 = .ok (.istore_n 1, 1) := by decide +kernel
theorem dX8_sets_16 : decode cX8_sets 16 = .ok (.aload_n 0, 1) := by decide +kernel
theorem dX8_sets_17 : decode cX8_sets 17 = .ok (.getfield 10, 3) := by decide +kernel
theorem dX8_sets_20 : decode cX8_sets 20 = .ok (.invokevirtual 151, 3) := by decide +kernel
theorem dX8_sets_23 : decode cX8_sets 23 = .ok (.iload_n 1, 1) := by decide +kernel
theorem dX8_sets_24 : decode cX8_sets 24 = .ok (.ireturn, 1) := by decide +kernel
theorem dX8_deal_0 : decode cX8_deal 0 = .ok (.iload_n 1, 1) := by decide +kernel
theorem dX8_deal_1 : decode cX8_deal 1 = .ok (.iconst 1, 1) := by decide +kernel
theorem dX8_deal_2 : decode cX8_deal 2 = .ok (.bipush 9, 2) := by decide +kernel
theorem dX8_deal_4 : decode cX8_deal 4 = .ok (.invokestatic 74, 3) := by decide +kernel
theorem dX8_deal_7 : decode cX8_deal 7 = .ok (.ifCond .ne 6, 3) := by decide +kernel
theorem dX8_deal_10 : decode cX8_deal 10 = .ok (.ldc 78, 2) := by decide +kernel
theorem dX8_deal_12 : decode cX8_deal 12 = .ok (.ireturn, 1) := by decide +kernel
theorem dX8_deal_13 : decode cX8_deal 13 = .ok (.iload_n 1, 1) := by decide +kernel
theorem dX8_deal_14 : decode cX8_deal 14 = .ok (.bipush 9, 2) := by decide +kernel
theorem dX8_deal_16 : decode cX8_deal 16 = .ok (.aload_n 0, 1) := by decide +kernel
theorem dX8_deal_17 : decode cX8_deal 17 = .ok (.getfield 10, 3) := by decide +kernel
theorem dX8_deal_20 : decode cX8_deal 20 = .ok (.getfield 79, 3) := by decide +kernel
theorem dX8_deal_23 : decode cX8_deal 23 = .ok (.isub, 1) := by decide +kernel
theorem dX8_deal_24 : decode cX8_deal 24 = .ok (.invokestatic 154, 3) := by decide +kernel
theorem dX8_deal_27 : decode cX8_deal 27 = .ok (.istore_n 2, 1) := by decide +kernel
theorem dX8_deal_28 : decode cX8_deal 28 = .ok (.iconst 0, 1) := by decide +kernel
theorem dX8_deal_29 : decode cX8_deal 29 = .ok (.istore_n 3, 1) := by decide +kernel
theorem dX8_deal_30 : decode cX8_deal 30 = .ok (.iload_n 3, 1) := by decide +kernel
theorem dX8_deal_31 : decode cX8_deal 31 = .ok (.iload_n 2, 1) := by decide +kernel
theorem dX8_deal_32 : decode cX8_deal 32 = .ok (.if_icmp .ge 16, 3) := by decide +kernel
theorem dX8_deal_35 : decode cX8_deal 35 = .ok (.aload_n 0, 1) := by decide +kernel
theorem dX8_deal_36 : decode cX8_deal 36 = .ok (.getfield 10, 3) := by decide +kernel
theorem dX8_deal_39 : decode cX8_deal 39 = .ok (.invokevirtual 159, 3) := by decide +kernel
theorem dX8_deal_42 : decode cX8_deal 42 = .ok (.iinc 3 1, 3) := by decide +kernel
theorem dX8_deal_45 : decode cX8_deal 45 = .ok (.goto (-15), 3) := by decide +kernel
theorem dX8_deal_48 : decode cX8_deal 48 = .ok (.iload_n 2, 1) := by decide +kernel
theorem dX8_deal_49 : decode cX8_deal 49 = .ok (.ireturn, 1) := by decide +kernel
theorem dX8_seed_0 : decode cX8_seed 0 = .ok (.aload_n 0, 1) := by decide +kernel
theorem dX8_seed_1 : decode cX8_seed 1 = .ok (.getfield 10, 3) := by decide +kernel
theorem dX8_seed_4 : decode cX8_seed 4 = .ok (.getfield 162, 3) := by decide +kernel
theorem dX8_seed_7 : decode cX8_seed 7 = .ok (.istore_n 2, 1) := by decide +kernel
theorem dX8_seed_8 : decode cX8_seed 8 = .ok (.aload_n 0, 1) := by decide +kernel
theorem dX8_seed_9 : decode cX8_seed 9 = .ok (.getfield 10, 3) := by decide +kernel
theorem dX8_seed_12 : decode cX8_seed 12 = .ok (.iload_n 1, 1) := by decide +kernel
theorem dX8_seed_13 : decode cX8_seed 13 = .ok (.putfield 162, 3) := by decide +kernel
theorem dX8_seed_16 : decode cX8_seed 16 = .ok (.iload_n 2, 1) := by decide +kernel
theorem dX8_seed_17 : decode cX8_seed 17 = .ok (.ireturn, 1) := by decide +kernel
theorem dX8_goes_0 : decode cX8_goes 0 = .ok (.iload_n 1, 1) := by decide +kernel
theorem dX8_goes_1 : decode cX8_goes 1 = .ok (.iconst 1, 1) := by decide +kernel
theorem dX8_goes_2 : decode cX8_goes 2 = .ok (.bipush 100, 2) := by decide +kernel
theorem dX8_goes_4 : decode cX8_goes 4 = .ok (.invokestatic 74, 3) := by decide +kernel
theorem dX8_goes_7 : decode cX8_goes 7 = .ok (.ifCond .ne 6, 3) := by decide +kernel
theorem dX8_goes_10 : decode cX8_goes 10 = .ok (.ldc 78, 2) := by decide +kernel
theorem dX8_goes_12 : decode cX8_goes 12 = .ok (.ireturn, 1) := by decide +kernel
theorem dX8_goes_13 : decode cX8_goes 13 = .ok (.aload_n 0, 1) := by decide +kernel
theorem dX8_goes_14 : decode cX8_goes 14 = .ok (.getfield 10, 3) := by decide +kernel
theorem dX8_goes_17 : decode cX8_goes 17 = .ok (.getfield 141, 3) := by decide +kernel
theorem dX8_goes_20 : decode cX8_goes 20 = .ok (.istore_n 2, 1) := by decide +kernel
theorem dX8_goes_21 : decode cX8_goes 21 = .ok (.aload_n 0, 1) := by decide +kernel
theorem dX8_goes_22 : decode cX8_goes 22 = .ok (.getfield 10, 3) := by decide +kernel
theorem dX8_goes_25 : decode cX8_goes 25 = .ok (.iload_n 1, 1) := by decide +kernel
theorem dX8_goes_26 : decode cX8_goes 26 = .ok (.sipush 9999, 3) := by decide +kernel
theorem dX8_goes_29 : decode cX8_goes 29 = .ok (.aload_n 0, 1) := by decide +kernel
theorem dX8_goes_30 : decode cX8_goes 30 = .ok (.getfield 10, 3) := by decide +kernel
theorem dX8_goes_33 : decode cX8_goes 33 = .ok (.getfield 165, 3) := by decide +kernel
theorem dX8_goes_36 : decode cX8_goes 36 = .ok (.isub, 1) := by decide +kernel
theorem dX8_goes_37 : decode cX8_goes 37 = .ok (.invokestatic 154, 3) := by decide +kernel
theorem dX8_goes_40 : decode cX8_goes 40 = .ok (.invokevirtual 168, 3) := by decide +kernel
theorem dX8_goes_43 : decode cX8_goes 43 = .ok (.aload_n 0, 1) := by decide +kernel
theorem dX8_goes_44 : decode cX8_goes 44 = .ok (.getfield 10, 3) := by decide +kernel
theorem dX8_goes_47 : decode cX8_goes 47 = .ok (.getfield 141, 3) := by decide +kernel
theorem dX8_goes_50 : decode cX8_goes 50 = .ok (.iload_n 2, 1) := by decide +kernel
theorem dX8_goes_51 : decode cX8_goes 51 = .ok (.isub, 1) := by decide +kernel
theorem dX8_goes_52 : decode cX8_goes 52 = .ok (.ireturn, 1) := by decide +kernel
theorem dX8_alley_0 : decode cX8_alley 0 = .ok (.iload_n 1, 1) := by decide +kernel
theorem dX8_alley_1 : decode cX8_alley 1 = .ok (.tableswitch 87 0 5 #[39, 47, 55, 63, 71, 79], 39) := by decide +kernel
theorem dX8_alley_40 : decode cX8_alley 40 = .ok (.aload_n 0, 1) := by decide +kernel
theorem dX8_alley_41 : decode cX8_alley 41 = .ok (.getfield 10, 3) := by decide +kernel
theorem dX8_alley_44 : decode cX8_alley 44 = .ok (.getfield 141, 3) := by decide +kernel
theorem dX8_alley_47 : decode cX8_alley 47 = .ok (.ireturn, 1) := by decide +kernel
theorem dX8_alley_48 : decode cX8_alley 48 = .ok (.aload_n 0, 1) := by decide +kernel
theorem dX8_alley_49 : decode cX8_alley 49 = .ok (.getfield 10, 3) := by decide +kernel
theorem dX8_alley_52 : decode cX8_alley 52 = .ok (.getfield 172, 3) := by decide +kernel
theorem dX8_alley_55 : decode cX8_alley 55 = .ok (.ireturn, 1) := by decide +kernel
theorem dX8_alley_56 : decode cX8_alley 56 = .ok (.aload_n 0, 1) := by decide +kernel
theorem dX8_alley_57 : decode cX8_alley 57 = .ok (.getfield 10, 3) := by decide +kernel
theorem dX8_alley_60 : decode cX8_alley 60 = .ok (.getfield 175, 3) := by decide +kernel
theorem dX8_alley_63 : decode cX8_alley 63 = .ok (.ireturn, 1) := by decide +kernel
theorem dX8_alley_64 : decode cX8_alley 64 = .ok (.aload_n 0, 1) := by decide +kernel
theorem dX8_alley_65 : decode cX8_alley 65 = .ok (.getfield 10, 3) := by decide +kernel
theorem dX8_alley_68 : decode cX8_alley 68 = .ok (.invokevirtual 178, 3) := by decide +kernel
theorem dX8_alley_71 : decode cX8_alley 71 = .ok (.ireturn, 1) := by decide +kernel
theorem dX8_alley_72 : decode cX8_alley 72 = .ok (.aload_n 0, 1) := by decide +kernel
theorem dX8_alley_73 : decode cX8_alley 73 = .ok (.getfield 10, 3) := by decide +kernel
theorem dX8_alley_76 : decode cX8_alley 76 = .ok (.invokevirtual 181, 3) := by decide +kernel
theorem dX8_alley_79 : decode cX8_alley 79 = .ok (.ireturn, 1) := by decide +kernel
theorem dX8_alley_80 : decode cX8_alley 80 = .ok (.aload_n 0, 1) := by decide +kernel
theorem dX8_alley_81 : decode cX8_alley 81 = .ok (.getfield 10, 3) := by decide +kernel
theorem dX8_alley_84 : decode cX8_alley 84 = .ok (.invokevirtual 184, 3) := by decide +kernel
theorem dX8_alley_87 : decode cX8_alley 87 = .ok (.ireturn, 1) := by decide +kernel
theorem dX8_alley_88 : decode cX8_alley 88 = .ok (.ldc 78, 2) := by decide +kernel
theorem dX8_alley_90 : decode cX8_alley 90 = .ok (.ireturn, 1) := by decide +kernel
theorem dX8_best_0 : decode cX8_best 0 = .ok (.iload_n 1, 1) := by decide +kernel
theorem dX8_best_1 : decode cX8_best 1 = .ok (.iconst 0, 1) := by decide +kernel
theorem dX8_best_2 : decode cX8_best 2 = .ok (.bipush 99, 2) := by decide +kernel
theorem dX8_best_4 : decode cX8_best 4 = .ok (.invokestatic 74, 3) := by decide +kernel
theorem dX8_best_7 : decode cX8_best 7 = .ok (.ifCond .eq 12, 3) := by decide +kernel
theorem dX8_best_10 : decode cX8_best 10 = .ok (.iload_n 2, 1) := by decide +kernel
theorem dX8_best_11 : decode cX8_best 11 = .ok (.iconst 0, 1) := by decide +kernel
theorem dX8_best_12 : decode cX8_best 12 = .ok (.iconst 3, 1) := by decide +kernel
theorem dX8_best_13 : decode cX8_best 13 = .ok (.invokestatic 74, 3) := by decide +kernel
theorem dX8_best_16 : decode cX8_best 16 = .ok (.ifCond .ne 6, 3) := by decide +kernel
theorem dX8_best_19 : decode cX8_best 19 = .ok (.ldc 78, 2) := by decide +kernel
theorem dX8_best_21 : decode cX8_best 21 = .ok (.ireturn, 1) := by decide +kernel
theorem dX8_best_22 : decode cX8_best 22 = .ok (.aload_n 0, 1) := by decide +kernel
theorem dX8_best_23 : decode cX8_best 23 = .ok (.getfield 10, 3) := by decide +kernel
theorem dX8_best_26 : decode cX8_best 26 = .ok (.invokevirtual 148, 3) := by decide +kernel
theorem dX8_best_29 : decode cX8_best 29 = .ok (.ifCond .ne 6, 3) := by decide +kernel
theorem dX8_best_32 : decode cX8_best 32 = .ok (.ldc 187, 2) := by decide +kernel
theorem dX8_best_34 : decode cX8_best 34 = .ok (.ireturn, 1) := by decide +kernel
theorem dX8_best_35 : decode cX8_best 35 = .ok (.aload_n 0, 1) := by decide +kernel
theorem dX8_best_36 : decode cX8_best 36 = .ok (.getfield 29, 3) := by decide +kernel
theorem dX8_best_39 : decode cX8_best 39 = .ok (.aload_n 0, 1) := by decide +kernel
theorem dX8_best_40 : decode cX8_best 40 = .ok (.getfield 10, 3) := by decide +kernel
theorem dX8_best_43 : decode cX8_best 43 = .ok (.iload_n 1, 1) := by decide +kernel
theorem dX8_best_44 : decode cX8_best 44 = .ok (.invokevirtual 188, 3) := by decide +kernel
theorem dX8_best_47 : decode cX8_best 47 = .ok (.aload_n 0, 1) := by decide +kernel
theorem dX8_best_48 : decode cX8_best 48 = .ok (.getfield 29, 3) := by decide +kernel
theorem dX8_best_51 : decode cX8_best 51 = .ok (.invokevirtual 192, 3) := by decide +kernel
theorem dX8_best_54 : decode cX8_best 54 = .ok (.iload_n 2, 1) := by decide +kernel
theorem dX8_best_55 : decode cX8_best 55 = .ok (.tableswitch 49 0 2 #[25, 33, 41], 25) := by decide +kernel
theorem dX8_best_80 : decode cX8_best 80 = .ok (.aload_n 0, 1) := by decide +kernel
theorem dX8_best_81 : decode cX8_best 81 = .ok (.getfield 29, 3) := by decide +kernel
theorem dX8_best_84 : decode cX8_best 84 = .ok (.getfield 195, 3) := by decide +kernel
theorem dX8_best_87 : decode cX8_best 87 = .ok (.ireturn, 1) := by decide +kernel
theorem dX8_best_88 : decode cX8_best 88 = .ok (.aload_n 0, 1) := by decide +kernel
theorem dX8_best_89 : decode cX8_best 89 = .ok (.getfield 29, 3) := by decide +kernel
theorem dX8_best_92 : decode cX8_best 92 = .ok (.getfield 198, 3) := by decide +kernel
theorem dX8_best_95 : decode cX8_best 95 = .ok (.ireturn, 1) := by decide +kernel
theorem dX8_best_96 : decode cX8_best 96 = .ok (.aload_n 0, 1) := by decide +kernel
theorem dX8_best_97 : decode cX8_best 97 = .ok (.getfield 29, 3) := by decide +kernel
theorem dX8_best_100 : decode cX8_best 100 = .ok (.getfield 201, 3) := by decide +kernel
theorem dX8_best_103 : decode cX8_best 103 = .ok (.ireturn, 1) := by decide +kernel
theorem dX8_best_104 : decode cX8_best 104 = .ok (.aload_n 0, 1) := by decide +kernel
theorem dX8_best_105 : decode cX8_best 105 = .ok (.getfield 29, 3) := by decide +kernel
theorem dX8_best_108 : decode cX8_best 108 = .ok (.getfield 204, 3) := by decide +kernel
theorem dX8_best_111 : decode cX8_best 111 = .ok (.iconst 1, 1) := by decide +kernel
theorem dX8_best_112 : decode cX8_best 112 = .ok (.iadd, 1) := by decide +kernel
theorem dX8_best_113 : decode cX8_best 113 = .ok (.ireturn, 1) := by decide +kernel
theorem dX8_pair_0 : decode cX8_pair 0 = .ok (.iload_n 1, 1) := by decide +kernel
theorem dX8_pair_1 : decode cX8_pair 1 = .ok (.iconst 0, 1) := by decide +kernel
theorem dX8_pair_2 : decode cX8_pair 2 = .ok (.bipush 99, 2) := by decide +kernel
theorem dX8_pair_4 : decode cX8_pair 4 = .ok (.invokestatic 74, 3) := by decide +kernel
theorem dX8_pair_7 : decode cX8_pair 7 = .ok (.ifCond .ne 6, 3) := by decide +kernel
theorem dX8_pair_10 : decode cX8_pair 10 = .ok (.ldc 78, 2) := by decide +kernel
theorem dX8_pair_12 : decode cX8_pair 12 = .ok (.ireturn, 1) := by decide +kernel
theorem dX8_pair_13 : decode cX8_pair 13 = .ok (.aload_n 0, 1) := by decide +kernel
theorem dX8_pair_14 : decode cX8_pair 14 = .ok (.getfield 29, 3) := by decide +kernel
theorem dX8_pair_17 : decode cX8_pair 17 = .ok (.aload_n 0, 1) := by decide +kernel
theorem dX8_pair_18 : decode cX8_pair 18 = .ok (.getfield 10, 3) := by decide +kernel
theorem dX8_pair_21 : decode cX8_pair 21 = .ok (.iload_n 1, 1) := by decide +kernel
theorem dX8_pair_22 : decode cX8_pair 22 = .ok (.invokevirtual 188, 3) := by decide +kernel
theorem dX8_pair_25 : decode cX8_pair 25 = .ok (.aload_n 0, 1) := by decide +kernel
theorem dX8_pair_26 : decode cX8_pair 26 = .ok (.getfield 29, 3) := by decide +kernel
theorem dX8_pair_29 : decode cX8_pair 29 = .ok (.invokevirtual 207, 3) := by decide +kernel
theorem dX8_pair_32 : decode cX8_pair 32 = .ok (.ireturn, 1) := by decide +kernel
theorem dX8_clear_0 : decode cX8_clear 0 = .ok (.iload_n 1, 1) := by decide +kernel
theorem dX8_clear_1 : decode cX8_clear 1 = .ok (.iconst 0, 1) := by decide +kernel
theorem dX8_clear_2 : decode cX8_clear 2 = .ok (.bipush 99, 2) := by decide +kernel
theorem dX8_clear_4 : decode cX8_clear 4 = .ok (.invokestatic 74, 3) := by decide +kernel
theorem dX8_clear_7 : decode cX8_clear 7 = .ok (.ifCond .ne 6, 3) := by decide +kernel
theorem dX8_clear_10 : decode cX8_clear 10 = .ok (.ldc 78, 2) := by decide +kernel
theorem dX8_clear_12 : decode cX8_clear 12 = .ok (.ireturn, 1) := by decide +kernel
theorem dX8_clear_13 : decode cX8_clear 13 = .ok (.aload_n 0, 1) := by decide +kernel
theorem dX8_clear_14 : decode cX8_clear 14 = .ok (.getfield 29, 3) := by decide +kernel
theorem dX8_clear_17 : decode cX8_clear 17 = .ok (.aload_n 0, 1) := by decide +kernel
theorem dX8_clear_18 : decode cX8_clear 18 = .ok (.getfield 10, 3) := by decide +kernel
theorem dX8_clear_21 : decode cX8_clear 21 = .ok (.iload_n 1, 1) := by decide +kernel
theorem dX8_clear_22 : decode cX8_clear 22 = .ok (.invokevirtual 188, 3) := by decide +kernel
theorem dX8_clear_25 : decode cX8_clear 25 = .ok (.aload_n 0, 1) := by decide +kernel
theorem dX8_clear_26 : decode cX8_clear 26 = .ok (.getfield 29, 3) := by decide +kernel
theorem dX8_clear_29 : decode cX8_clear 29 = .ok (.invokevirtual 210, 3) := by decide +kernel
theorem dX8_clear_32 : decode cX8_clear 32 = .ok (.ireturn, 1) := by decide +kernel
theorem dX8_force_0 : decode cX8_force 0 = .ok (.aload_n 0, 1) := by decide +kernel
theorem dX8_force_1 : decode cX8_force 1 = .ok (.getfield 10, 3) := by decide +kernel
theorem dX8_force_4 : decode cX8_force 4 = .ok (.iload_n 1, 1) := by decide +kernel
theorem dX8_force_5 : decode cX8_force 5 = .ok (.invokevirtual 87, 3) := by decide +kernel
theorem dX8_force_8 : decode cX8_force 8 = .ok (.ifCond .eq 13, 3) := by decide +kernel
theorem dX8_force_11 : decode cX8_force 11 = .ok (.iload_n 2, 1) := by decide +kernel
theorem dX8_force_12 : decode cX8_force 12 = .ok (.iconst 0, 1) := by decide +kernel
theorem dX8_force_13 : decode cX8_force 13 = .ok (.bipush 7, 2) := by decide +kernel
theorem dX8_force_15 : decode cX8_force 15 = .ok (.invokestatic 74, 3) := by decide +kernel
theorem dX8_force_18 : decode cX8_force 18 = .ok (.ifCond .ne 6, 3) := by decide +kernel
theorem dX8_force_21 : decode cX8_force 21 = .ok (.ldc 78, 2) := by decide +kernel
theorem dX8_force_23 : decode cX8_force 23 = .ok (.ireturn, 1) := by decide +kernel
theorem dX8_force_24 : decode cX8_force 24 = .ok (.aload_n 0, 1) := by decide +kernel
theorem dX8_force_25 : decode cX8_force 25 = .ok (.getfield 10, 3) := by decide +kernel
theorem dX8_force_28 : decode cX8_force 28 = .ok (.iload_n 1, 1) := by decide +kernel
theorem dX8_force_29 : decode cX8_force 29 = .ok (.invokevirtual 137, 3) := by decide +kernel
theorem dX8_force_32 : decode cX8_force 32 = .ok (.ifCond .ne 6, 3) := by decide +kernel
theorem dX8_force_35 : decode cX8_force 35 = .ok (.ldc 140, 2) := by decide +kernel
theorem dX8_force_37 : decode cX8_force 37 = .ok (.ireturn, 1) := by decide +kernel
theorem dX8_force_38 : decode cX8_force 38 = .ok (.aload_n 0, 1) := by decide +kernel
theorem dX8_force_39 : decode cX8_force 39 = .ok (.getfield 10, 3) := by decide +kernel
theorem dX8_force_42 : decode cX8_force 42 = .ok (.iload_n 1, 1) := by decide +kernel
theorem dX8_force_43 : decode cX8_force 43 = .ok (.iload_n 2, 1) := by decide +kernel
theorem dX8_force_44 : decode cX8_force 44 = .ok (.invokevirtual 122, 3) := by decide +kernel
theorem dX8_force_47 : decode cX8_force 47 = .ok (.iconst 1, 1) := by decide +kernel
theorem dX8_force_48 : decode cX8_force 48 = .ok (.iadd, 1) := by decide +kernel
theorem dX8_force_49 : decode cX8_force 49 = .ok (.istore_n 3, 1) := by decide +kernel
theorem dX8_force_50 : decode cX8_force 50 = .ok (.iload_n 3, 1) := by decide +kernel
theorem dX8_force_51 : decode cX8_force 51 = .ok (.bipush 99, 2) := by decide +kernel
theorem dX8_force_53 : decode cX8_force 53 = .ok (.if_icmp .gt 7, 3) := by decide +kernel
theorem dX8_force_56 : decode cX8_force 56 = .ok (.iload_n 3, 1) := by decide +kernel
theorem dX8_force_57 : decode cX8_force 57 = .ok (.goto 5, 3) := by decide +kernel
theorem dX8_force_60 : decode cX8_force 60 = .ok (.ldc 187, 2) := by decide +kernel
theorem dX8_force_62 : decode cX8_force 62 = .ok (.ireturn, 1) := by decide +kernel
theorem dX8_behind_0 : decode cX8_behind 0 = .ok (.iload_n 1, 1) := by decide +kernel
theorem dX8_behind_1 : decode cX8_behind 1 = .ok (.iconst 0, 1) := by decide +kernel
theorem dX8_behind_2 : decode cX8_behind 2 = .ok (.bipush 100, 2) := by decide +kernel
theorem dX8_behind_4 : decode cX8_behind 4 = .ok (.invokestatic 74, 3) := by decide +kernel
theorem dX8_behind_7 : decode cX8_behind 7 = .ok (.ifCond .eq 20, 3) := by decide +kernel
theorem dX8_behind_10 : decode cX8_behind 10 = .ok (.iload_n 2, 1) := by decide +kernel
theorem dX8_behind_11 : decode cX8_behind 11 = .ok (.iconst 0, 1) := by decide +kernel
theorem dX8_behind_12 : decode cX8_behind 12 = .ok (.iconst 2, 1) := by decide +kernel
theorem dX8_behind_13 : decode cX8_behind 13 = .ok (.aload_n 0, 1) := by decide +kernel
theorem dX8_behind_14 : decode cX8_behind 14 = .ok (.getfield 10, 3) := by decide +kernel
theorem dX8_behind_17 : decode cX8_behind 17 = .ok (.getfield 79, 3) := by decide +kernel
theorem dX8_behind_20 : decode cX8_behind 20 = .ok (.iadd, 1) := by decide +kernel
theorem dX8_behind_21 : decode cX8_behind 21 = .ok (.invokestatic 74, 3) := by decide +kernel
theorem dX8_behind_24 : decode cX8_behind 24 = .ok (.ifCond .ne 6, 3) := by decide +kernel
theorem dX8_behind_27 : decode cX8_behind 27 = .ok (.ldc 78, 2) := by decide +kernel
theorem dX8_behind_29 : decode cX8_behind 29 = .ok (.ireturn, 1) := by decide +kernel
theorem dX8_behind_30 : decode cX8_behind 30 = .ok (.aload_n 0, 1) := by decide +kernel
theorem dX8_behind_31 : decode cX8_behind 31 = .ok (.getfield 19, 3) := by decide +kernel
theorem dX8_behind_34 : decode cX8_behind 34 = .ok (.aload_n 0, 1) := by decide +kernel
theorem dX8_behind_35 : decode cX8_behind 35 = .ok (.getfield 10, 3) := by decide +kernel
theorem dX8_behind_38 : decode cX8_behind 38 = .ok (.invokevirtual 213, 3) := by decide +kernel
theorem dX8_behind_41 : decode cX8_behind 41 = .ok (.aload_n 0, 1) := by decide +kernel
theorem dX8_behind_42 : decode cX8_behind 42 = .ok (.getfield 19, 3) := by decide +kernel
theorem dX8_behind_45 : decode cX8_behind 45 = .ok (.iload_n 1, 1) := by decide +kernel
theorem dX8_behind_46 : decode cX8_behind 46 = .ok (.invokevirtual 168, 3) := by decide +kernel
theorem dX8_behind_49 : decode cX8_behind 49 = .ok (.iload_n 2, 1) := by decide +kernel
theorem dX8_behind_50 : decode cX8_behind 50 = .ok (.tableswitch 50 0 2 #[26, 34, 42], 26) := by decide +kernel
theorem dX8_behind_76 : decode cX8_behind 76 = .ok (.aload_n 0, 1) := by decide +kernel
theorem dX8_behind_77 : decode cX8_behind 77 = .ok (.getfield 19, 3) := by decide +kernel
theorem dX8_behind_80 : decode cX8_behind 80 = .ok (.getfield 141, 3) := by decide +kernel
theorem dX8_behind_83 : decode cX8_behind 83 = .ok (.ireturn, 1) := by decide +kernel
theorem dX8_behind_84 : decode cX8_behind 84 = .ok (.aload_n 0, 1) := by decide +kernel
theorem dX8_behind_85 : decode cX8_behind 85 = .ok (.getfield 19, 3) := by decide +kernel
theorem dX8_behind_88 : decode cX8_behind 88 = .ok (.getfield 172, 3) := by decide +kernel
theorem dX8_behind_91 : decode cX8_behind 91 = .ok (.ireturn, 1) := by decide +kernel
theorem dX8_behind_92 : decode cX8_behind 92 = .ok (.aload_n 0, 1) := by decide +kernel
theorem dX8_behind_93 : decode cX8_behind 93 = .ok (.getfield 19, 3) := by decide +kernel
theorem dX8_behind_96 : decode cX8_behind 96 = .ok (.invokevirtual 148, 3) := by decide +kernel
theorem dX8_behind_99 : decode cX8_behind 99 = .ok (.ireturn, 1) := by decide +kernel
theorem dX8_behind_100 : decode cX8_behind 100 = .ok (.aload_n 0, 1) := by decide +kernel
theorem dX8_behind_101 : decode cX8_behind 101 = .ok (.getfield 19, 3) := by decide +kernel
theorem dX8_behind_104 : decode cX8_behind 104 = .ok (.getfield 91, 3) := by decide +kernel
theorem dX8_behind_107 : decode cX8_behind 107 = .ok (.iload_n 2, 1) := by decide +kernel
theorem dX8_behind_108 : decode cX8_behind 108 = .ok (.iconst 3, 1) := by decide +kernel
theorem dX8_behind_109 : decode cX8_behind 109 = .ok (.isub, 1) := by decide +kernel
theorem dX8_behind_110 : decode cX8_behind 110 = .ok (.aaload, 1) := by decide +kernel
theorem dX8_behind_111 : decode cX8_behind 111 = .ok (.getfield 109, 3) := by decide +kernel
theorem dX8_behind_114 : decode cX8_behind 114 = .ok (.ireturn, 1) := by decide +kernel
theorem dX8_falls_0 : decode cX8_falls 0 = .ok (.aload_n 0, 1) := by decide +kernel
theorem dX8_falls_1 : decode cX8_falls 1 = .ok (.getfield 10, 3) := by decide +kernel
theorem dX8_falls_4 : decode cX8_falls 4 = .ok (.iload_n 1, 1) := by decide +kernel
theorem dX8_falls_5 : decode cX8_falls 5 = .ok (.invokevirtual 87, 3) := by decide +kernel
theorem dX8_falls_8 : decode cX8_falls 8 = .ok (.ifCond .ne 6, 3) := by decide +kernel
theorem dX8_falls_11 : decode cX8_falls 11 = .ok (.ldc 78, 2) := by decide +kernel
theorem dX8_falls_13 : decode cX8_falls 13 = .ok (.ireturn, 1) := by decide +kernel
theorem dX8_falls_14 : decode cX8_falls 14 = .ok (.aload_n 0, 1) := by decide +kernel
theorem dX8_falls_15 : decode cX8_falls 15 = .ok (.getfield 19, 3) := by decide +kernel
theorem dX8_falls_18 : decode cX8_falls 18 = .ok (.aload_n 0, 1) := by decide +kernel
theorem dX8_falls_19 : decode cX8_falls 19 = .ok (.getfield 10, 3) := by decide +kernel
theorem dX8_falls_22 : decode cX8_falls 22 = .ok (.invokevirtual 213, 3) := by decide +kernel
theorem dX8_falls_25 : decode cX8_falls 25 = .ok (.iconst 1, 1) := by decide +kernel
theorem dX8_falls_26 : decode cX8_falls 26 = .ok (.istore_n 2, 1) := by decide +kernel
theorem dX8_falls_27 : decode cX8_falls 27 = .ok (.iload_n 2, 1) := by decide +kernel
theorem dX8_falls_28 : decode cX8_falls 28 = .ok (.sipush 200, 3) := by decide +kernel
theorem dX8_falls_31 : decode cX8_falls 31 = .ok (.if_icmp .gt 45, 3) := by decide +kernel
theorem dX8_falls_34 : decode cX8_falls 34 = .ok (.aload_n 0, 1) := by decide +kernel
theorem dX8_falls_35 : decode cX8_falls 35 = .ok (.getfield 19, 3) := by decide +kernel
theorem dX8_falls_38 : decode cX8_falls 38 = .ok (.invokevirtual 217, 3) := by decide +kernel
theorem dX8_falls_41 : decode cX8_falls 41 = .ok (.aload_n 0, 1) := by decide +kernel
theorem dX8_falls_42 : decode cX8_falls 42 = .ok (.getfield 19, 3) := by decide +kernel
theorem dX8_falls_45 : decode cX8_falls 45 = .ok (.getfield 91, 3) := by decide +kernel
theorem dX8_falls_48 : decode cX8_falls 48 = .ok (.iload_n 1, 1) := by decide +kernel
theorem dX8_falls_49 : decode cX8_falls 49 = .ok (.aaload, 1) := by decide +kernel
theorem dX8_falls_50 : decode cX8_falls 50 = .ok (.getfield 109, 3) := by decide +kernel
theorem dX8_falls_53 : decode cX8_falls 53 = .ok (.aload_n 0, 1) := by decide +kernel
theorem dX8_falls_54 : decode cX8_falls 54 = .ok (.getfield 10, 3) := by decide +kernel
theorem dX8_falls_57 : decode cX8_falls 57 = .ok (.getfield 91, 3) := by decide +kernel
theorem dX8_falls_60 : decode cX8_falls 60 = .ok (.iload_n 1, 1) := by decide +kernel
theorem dX8_falls_61 : decode cX8_falls 61 = .ok (.aaload, 1) := by decide +kernel
theorem dX8_falls_62 : decode cX8_falls 62 = .ok (.getfield 109, 3) := by decide +kernel
theorem dX8_falls_65 : decode cX8_falls 65 = .ok (.if_icmp .le 5, 3) := by decide +kernel
theorem dX8_falls_68 : decode cX8_falls 68 = .ok (.iload_n 2, 1) := by decide +kernel
theorem dX8_falls_69 : decode cX8_falls 69 = .ok (.ireturn, 1) := by decide +kernel
theorem dX8_falls_70 : decode cX8_falls 70 = .ok (.iinc 2 1, 3) := by decide +kernel
theorem dX8_falls_73 : decode cX8_falls 73 = .ok (.goto (-46), 3) := by decide +kernel
theorem dX8_falls_76 : decode cX8_falls 76 = .ok (.ldc 187, 2) := by decide +kernel
theorem dX8_falls_78 : decode cX8_falls 78 = .ok (.ireturn, 1) := by decide +kernel
theorem dX8_becomes_0 : decode cX8_becomes 0 = .ok (.aload_n 0, 1) := by decide +kernel
theorem dX8_becomes_1 : decode cX8_becomes 1 = .ok (.getfield 10, 3) := by decide +kernel
theorem dX8_becomes_4 : decode cX8_becomes 4 = .ok (.iload_n 1, 1) := by decide +kernel
theorem dX8_becomes_5 : decode cX8_becomes 5 = .ok (.invokevirtual 87, 3) := by decide +kernel
theorem dX8_becomes_8 : decode cX8_becomes 8 = .ok (.ifCond .eq 22, 3) := by decide +kernel
theorem dX8_becomes_11 : decode cX8_becomes 11 = .ok (.iload_n 2, 1) := by decide +kernel
theorem dX8_becomes_12 : decode cX8_becomes 12 = .ok (.iconst 1, 1) := by decide +kernel
theorem dX8_becomes_13 : decode cX8_becomes 13 = .ok (.bipush 60, 2) := by decide +kernel
theorem dX8_becomes_15 : decode cX8_becomes 15 = .ok (.invokestatic 74, 3) := by decide +kernel
theorem dX8_becomes_18 : decode cX8_becomes 18 = .ok (.ifCond .eq 12, 3) := by decide +kernel
theorem dX8_becomes_21 : decode cX8_becomes 21 = .ok (.iload_n 3, 1) := by decide +kernel
theorem dX8_becomes_22 : decode cX8_becomes 22 = .ok (.iconst 0, 1) := by decide +kernel
theorem dX8_becomes_23 : decode cX8_becomes 23 = .ok (.iconst 1, 1) := by decide +kernel
theorem dX8_becomes_24 : decode cX8_becomes 24 = .ok (.invokestatic 74, 3) := by decide +kernel
theorem dX8_becomes_27 : decode cX8_becomes 27 = .ok (.ifCond .ne 6, 3) := by decide +kernel
theorem dX8_becomes_30 : decode cX8_becomes 30 = .ok (.ldc 78, 2) := by decide +kernel
theorem dX8_becomes_32 : decode cX8_becomes 32 = .ok (.ireturn, 1) := by decide +kernel
theorem dX8_becomes_33 : decode cX8_becomes 33 = .ok (.iconst 0, 1) := by decide +kernel
theorem dX8_becomes_34 : decode cX8_becomes 34 = .ok (.istore 4, 2) := by decide +kernel
theorem dX8_becomes_36 : decode cX8_becomes 36 = .ok (.sipush 10000, 3) := by decide +kernel
theorem dX8_becomes_39 : decode cX8_becomes 39 = .ok (.istore 5, 2) := by decide +kernel
theorem dX8_becomes_41 : decode cX8_becomes 41 = .ok (.iconst 0, 1) := by decide +kernel
theorem dX8_becomes_42 : decode cX8_becomes 42 = .ok (.istore 6, 2) := by decide +kernel
theorem dX8_becomes_44 : decode cX8_becomes 44 = .ok (.iload 6, 2) := by decide +kernel
theorem dX8_becomes_46 : decode cX8_becomes 46 = .ok (.bipush 6, 2) := by decide +kernel
theorem dX8_becomes_48 : decode cX8_becomes 48 = .ok (.if_icmp .ge 71, 3) := by decide +kernel
theorem dX8_becomes_51 : decode cX8_becomes 51 = .ok (.aload_n 0, 1) := by decide +kernel
theorem dX8_becomes_52 : decode cX8_becomes 52 = .ok (.getfield 19, 3) := by decide +kernel
theorem dX8_becomes_55 : decode cX8_becomes 55 = .ok (.aload_n 0, 1) := by decide +kernel
theorem dX8_becomes_56 : decode cX8_becomes 56 = .ok (.getfield 10, 3) := by decide +kernel
theorem dX8_becomes_59 : decode cX8_becomes 59 = .ok (.invokevirtual 213, 3) := by decide +kernel
theorem dX8_becomes_62 : decode cX8_becomes 62 = .ok (.aload_n 0, 1) := by decide +kernel
theorem dX8_becomes_63 : decode cX8_becomes 63 = .ok (.getfield 19, 3) := by decide +kernel
theorem dX8_becomes_66 : decode cX8_becomes 66 = .ok (.getfield 91, 3) := by decide +kernel
theorem dX8_becomes_69 : decode cX8_becomes 69 = .ok (.iload_n 1, 1) := by decide +kernel
theorem dX8_becomes_70 : decode cX8_becomes 70 = .ok (.aaload, 1) := by decide +kernel
theorem dX8_becomes_71 : decode cX8_becomes 71 = .ok (.iload 6, 2) := by decide +kernel
theorem dX8_becomes_73 : decode cX8_becomes 73 = .ok (.putfield 95, 3) := by decide +kernel
theorem dX8_becomes_76 : decode cX8_becomes 76 = .ok (.aload_n 0, 1) := by decide +kernel
theorem dX8_becomes_77 : decode cX8_becomes 77 = .ok (.getfield 19, 3) := by decide +kernel
theorem dX8_becomes_80 : decode cX8_becomes 80 = .ok (.iload_n 2, 1) := by decide +kernel
theorem dX8_becomes_81 : decode cX8_becomes 81 = .ok (.invokevirtual 168, 3) := by decide +kernel
theorem dX8_becomes_84 : decode cX8_becomes 84 = .ok (.aload_n 0, 1) := by decide +kernel
theorem dX8_becomes_85 : decode cX8_becomes 85 = .ok (.getfield 19, 3) := by decide +kernel
theorem dX8_becomes_88 : decode cX8_becomes 88 = .ok (.getfield 91, 3) := by decide +kernel
theorem dX8_becomes_91 : decode cX8_becomes 91 = .ok (.iload_n 1, 1) := by decide +kernel
theorem dX8_becomes_92 : decode cX8_becomes 92 = .ok (.aaload, 1) := by decide +kernel
theorem dX8_becomes_93 : decode cX8_becomes 93 = .ok (.getfield 109, 3) := by decide +kernel
theorem dX8_becomes_96 : decode cX8_becomes 96 = .ok (.istore 7, 2) := by decide +kernel
theorem dX8_becomes_98 : decode cX8_becomes 98 = .ok (.iload 7, 2) := by decide +kernel
theorem dX8_becomes_100 : decode cX8_becomes 100 = .ok (.iload 5, 2) := by decide +kernel
theorem dX8_becomes_102 : decode cX8_becomes 102 = .ok (.if_icmp .ge 11, 3) := by decide +kernel
theorem dX8_becomes_105 : decode cX8_becomes 105 = .ok (.iload 7, 2) := by decide +kernel
theorem dX8_becomes_107 : decode cX8_becomes 107 = .ok (.istore 5, 2) := by decide +kernel
theorem dX8_becomes_109 : decode cX8_becomes 109 = .ok (.iload 6, 2) := by decide +kernel
theorem dX8_becomes_111 : decode cX8_becomes 111 = .ok (.istore 4, 2) := by decide +kernel
theorem dX8_becomes_113 : decode cX8_becomes 113 = .ok (.iinc 6 1, 3) := by decide +kernel
theorem dX8_becomes_116 : decode cX8_becomes 116 = .ok (.goto (-72), 3) := by decide +kernel
theorem dX8_becomes_119 : decode cX8_becomes 119 = .ok (.iload_n 3, 1) := by decide +kernel
theorem dX8_becomes_120 : decode cX8_becomes 120 = .ok (.ifCond .ne 8, 3) := by decide +kernel
theorem dX8_becomes_123 : decode cX8_becomes 123 = .ok (.iload 4, 2) := by decide +kernel
theorem dX8_becomes_125 : decode cX8_becomes 125 = .ok (.goto 5, 3) := by decide +kernel
theorem dX8_becomes_128 : decode cX8_becomes 128 = .ok (.iload 5, 2) := by decide +kernel
theorem dX8_becomes_130 : decode cX8_becomes 130 = .ok (.ireturn, 1) := by decide +kernel
theorem dX8_like_0 : decode cX8_like 0 = .ok (.iload_n 1, 1) := by decide +kernel
theorem dX8_like_1 : decode cX8_like 1 = .ok (.invokestatic 220, 3) := by decide +kernel
theorem dX8_like_4 : decode cX8_like 4 = .ok (.ifCond .eq 12, 3) := by decide +kernel
theorem dX8_like_7 : decode cX8_like 7 = .ok (.iload_n 2, 1) := by decide +kernel
theorem dX8_like_8 : decode cX8_like 8 = .ok (.iconst 0, 1) := by decide +kernel
theorem dX8_like_9 : decode cX8_like 9 = .ok (.iconst 1, 1) := by decide +kernel
theorem dX8_like_10 : decode cX8_like 10 = .ok (.invokestatic 74, 3) := by decide +kernel
theorem dX8_like_13 : decode cX8_like 13 = .ok (.ifCond .ne 6, 3) := by decide +kernel
theorem dX8_like_16 : decode cX8_like 16 = .ok (.ldc 78, 2) := by decide +kernel
theorem dX8_like_18 : decode cX8_like 18 = .ok (.ireturn, 1) := by decide +kernel
theorem dX8_like_19 : decode cX8_like 19 = .ok (.aload_n 0, 1) := by decide +kernel
theorem dX8_like_20 : decode cX8_like 20 = .ok (.getfield 51, 3) := by decide +kernel
theorem dX8_like_23 : decode cX8_like 23 = .ok (.iload_n 1, 1) := by decide +kernel
theorem dX8_like_24 : decode cX8_like 24 = .ok (.aaload, 1) := by decide +kernel
theorem dX8_like_25 : decode cX8_like 25 = .ok (.invokevirtual 223, 3) := by decide +kernel
theorem dX8_like_28 : decode cX8_like 28 = .ok (.ifCond .eq 6, 3) := by decide +kernel
theorem dX8_like_31 : decode cX8_like 31 = .ok (.ldc 227, 2) := by decide +kernel
theorem dX8_like_33 : decode cX8_like 33 = .ok (.ireturn, 1) := by decide +kernel
theorem dX8_like_34 : decode cX8_like 34 = .ok (.aload_n 0, 1) := by decide +kernel
theorem dX8_like_35 : decode cX8_like 35 = .ok (.getfield 10, 3) := by decide +kernel
theorem dX8_like_38 : decode cX8_like 38 = .ok (.getfield 79, 3) := by decide +kernel
theorem dX8_like_41 : decode cX8_like 41 = .ok (.ifCond .ne 6, 3) := by decide +kernel
theorem dX8_like_44 : decode cX8_like 44 = .ok (.ldc 187, 2) := by decide +kernel
theorem dX8_like_46 : decode cX8_like 46 = .ok (.ireturn, 1) := by decide +kernel
theorem dX8_like_47 : decode cX8_like 47 = .ok (.aload_n 0, 1) := by decide +kernel
theorem dX8_like_48 : decode cX8_like 48 = .ok (.aload_n 0, 1) := by decide +kernel
theorem dX8_like_49 : decode cX8_like 49 = .ok (.getfield 51, 3) := by decide +kernel
theorem dX8_like_52 : decode cX8_like 52 = .ok (.iload_n 1, 1) := by decide +kernel
theorem dX8_like_53 : decode cX8_like 53 = .ok (.aaload, 1) := by decide +kernel
theorem dX8_like_54 : decode cX8_like 54 = .ok (.invokevirtual 228, 3) := by decide +kernel
theorem dX8_like_57 : decode cX8_like 57 = .ok (.iconst 0, 1) := by decide +kernel
theorem dX8_like_58 : decode cX8_like 58 = .ok (.istore_n 3, 1) := by decide +kernel
theorem dX8_like_59 : decode cX8_like 59 = .ok (.iconst 1, 1) := by decide +kernel
theorem dX8_like_60 : decode cX8_like 60 = .ok (.istore 4, 2) := by decide +kernel
theorem dX8_like_62 : decode cX8_like 62 = .ok (.iload 4, 2) := by decide +kernel
theorem dX8_like_64 : decode cX8_like 64 = .ok (.aload_n 0, 1) := by decide +kernel
theorem dX8_like_65 : decode cX8_like 65 = .ok (.getfield 10, 3) := by decide +kernel
theorem dX8_like_68 : decode cX8_like 68 = .ok (.getfield 79, 3) := by decide +kernel
theorem dX8_like_71 : decode cX8_like 71 = .ok (.if_icmp .ge 28, 3) := by decide +kernel
theorem dX8_like_74 : decode cX8_like 74 = .ok (.aload_n 0, 1) := by decide +kernel
theorem dX8_like_75 : decode cX8_like 75 = .ok (.getfield 69, 3) := by decide +kernel
theorem dX8_like_78 : decode cX8_like 78 = .ok (.iload 4, 2) := by decide +kernel
theorem dX8_like_80 : decode cX8_like 80 = .ok (.iaload, 1) := by decide +kernel
theorem dX8_like_81 : decode cX8_like 81 = .ok (.aload_n 0, 1) := by decide +kernel
theorem dX8_like_82 : decode cX8_like 82 = .ok (.getfield 69, 3) := by decide +kernel
theorem dX8_like_85 : decode cX8_like 85 = .ok (.iload_n 3, 1) := by decide +kernel
theorem dX8_like_86 : decode cX8_like 86 = .ok (.iaload, 1) := by decide +kernel
theorem dX8_like_87 : decode cX8_like 87 = .ok (.if_icmp .ge 6, 3) := by decide +kernel
theorem dX8_like_90 : decode cX8_like 90 = .ok (.iload 4, 2) := by decide +kernel
theorem dX8_like_92 : decode cX8_like 92 = .ok (.istore_n 3, 1) := by decide +kernel
theorem dX8_like_93 : decode cX8_like 93 = .ok (.iinc 4 1, 3) := by decide +kernel
theorem dX8_like_96 : decode cX8_like 96 = .ok (.goto (-34), 3) := by decide +kernel
theorem dX8_like_99 : decode cX8_like 99 = .ok (.iload_n 2, 1) := by decide +kernel
theorem dX8_like_100 : decode cX8_like 100 = .ok (.ifCond .ne 7, 3) := by decide +kernel
theorem dX8_like_103 : decode cX8_like 103 = .ok (.iload_n 3, 1) := by decide +kernel
theorem dX8_like_104 : decode cX8_like 104 = .ok (.goto 9, 3) := by decide +kernel
theorem dX8_like_107 : decode cX8_like 107 = .ok (.aload_n 0, 1) := by decide +kernel
theorem dX8_like_108 : decode cX8_like 108 = .ok (.getfield 69, 3) := by decide +kernel
theorem dX8_like_111 : decode cX8_like 111 = .ok (.iload_n 3, 1) := by decide +kernel
theorem dX8_like_112 : decode cX8_like 112 = .ok (.iaload, 1) := by decide +kernel
theorem dX8_like_113 : decode cX8_like 113 = .ok (.ireturn, 1) := by decide +kernel
end
section
theorem dX8_addDifferences_0 : decode cX8_addDifferences 0 = .ok (.aload_n 0, 1) := by decide +kernel
theorem dX8_addDifferences_1 : decode cX8_addDifferences 1 = .ok (.getfield 69, 3) := by decide +kernel
theorem dX8_addDifferences_4 : decode cX8_addDifferences 4 = .ok (.iconst 0, 1) := by decide +kernel
theorem dX8_addDifferences_5 : decode cX8_addDifferences 5 = .ok (.invokestatic 232, 3) := by decide +kernel
theorem dX8_addDifferences_8 : decode cX8_addDifferences 8 = .ok (.aload_n 0, 1) := by decide +kernel
theorem dX8_addDifferences_9 : decode cX8_addDifferences 9 = .ok (.getfield 19, 3) := by decide +kernel
theorem dX8_addDifferences_12 : decode cX8_addDifferences 12 = .ok (.aload_n 0, 1) := by decide +kernel
theorem dX8_addDifferences_13 : decode cX8_addDifferences 13 = .ok (.getfield 10, 3) := by decide +kernel
theorem dX8_addDifferences_16 : decode cX8_addDifferences 16 = .ok (.invokevirtual 213, 3) := by decide +kernel
theorem dX8_addDifferences_19 : decode cX8_addDifferences 19 = .ok (.iconst 0, 1) := by decide +kernel
theorem dX8_addDifferences_20 : decode cX8_addDifferences 20 = .ok (.istore_n 2, 1) := by decide +kernel
theorem dX8_addDifferences_21 : decode cX8_addDifferences 21 = .ok (.iload_n 2, 1) := by decide +kernel
theorem dX8_addDifferences_22 : decode cX8_addDifferences 22 = .ok (.aload_n 1, 1) := by decide +kernel
theorem dX8_addDifferences_23 : decode cX8_addDifferences 23 = .ok (.getfield 238, 3) := by decide +kernel
theorem dX8_addDifferences_26 : decode cX8_addDifferences 26 = .ok (.if_icmp .ge 78, 3) := by decide +kernel
theorem dX8_addDifferences_29 : decode cX8_addDifferences 29 = .ok (.iload_n 2, 1) := by decide +kernel
theorem dX8_addDifferences_30 : decode cX8_addDifferences 30 = .ok (.ifCond .le 10, 3) := by decide +kernel
theorem dX8_addDifferences_33 : decode cX8_addDifferences 33 = .ok (.aload_n 0, 1) := by decide +kernel
theorem dX8_addDifferences_34 : decode cX8_addDifferences 34 = .ok (.getfield 19, 3) := by decide +kernel
theorem dX8_addDifferences_37 : decode cX8_addDifferences 37 = .ok (.invokevirtual 217, 3) := by decide +kernel
theorem dX8_addDifferences_40 : decode cX8_addDifferences 40 = .ok (.aload_n 1, 1) := by decide +kernel
theorem dX8_addDifferences_41 : decode cX8_addDifferences 41 = .ok (.iload_n 2, 1) := by decide +kernel
theorem dX8_addDifferences_42 : decode cX8_addDifferences 42 = .ok (.invokevirtual 239, 3) := by decide +kernel
theorem dX8_addDifferences_45 : decode cX8_addDifferences 45 = .ok (.ifCond .eq 53, 3) := by decide +kernel
theorem dX8_addDifferences_48 : decode cX8_addDifferences 48 = .ok (.iconst 0, 1) := by decide +kernel
theorem dX8_addDifferences_49 : decode cX8_addDifferences 49 = .ok (.istore_n 3, 1) := by decide +kernel
theorem dX8_addDifferences_50 : decode cX8_addDifferences 50 = .ok (.iload_n 3, 1) := by decide +kernel
theorem dX8_addDifferences_51 : decode cX8_addDifferences 51 = .ok (.aload_n 0, 1) := by decide +kernel
theorem dX8_addDifferences_52 : decode cX8_addDifferences 52 = .ok (.getfield 19, 3) := by decide +kernel
theorem dX8_addDifferences_55 : decode cX8_addDifferences 55 = .ok (.getfield 79, 3) := by decide +kernel
theorem dX8_addDifferences_58 : decode cX8_addDifferences 58 = .ok (.if_icmp .ge 40, 3) := by decide +kernel
theorem dX8_addDifferences_61 : decode cX8_addDifferences 61 = .ok (.aload_n 0, 1) := by decide +kernel
theorem dX8_addDifferences_62 : decode cX8_addDifferences 62 = .ok (.getfield 69, 3) := by decide +kernel
theorem dX8_addDifferences_65 : decode cX8_addDifferences 65 = .ok (.iload_n 3, 1) := by decide +kernel
theorem dX8_addDifferences_66 : decode cX8_addDifferences 66 = .ok (.dup2, 1) := by decide +kernel
theorem dX8_addDifferences_67 : decode cX8_addDifferences 67 = .ok (.iaload, 1) := by decide +kernel
theorem dX8_addDifferences_68 : decode cX8_addDifferences 68 = .ok (.aload_n 0, 1) := by decide +kernel
theorem dX8_addDifferences_69 : decode cX8_addDifferences 69 = .ok (.getfield 19, 3) := by decide +kernel
theorem dX8_addDifferences_72 : decode cX8_addDifferences 72 = .ok (.getfield 91, 3) := by decide +kernel
theorem dX8_addDifferences_75 : decode cX8_addDifferences 75 = .ok (.iload_n 3, 1) := by decide +kernel
theorem dX8_addDifferences_76 : decode cX8_addDifferences 76 = .ok (.aaload, 1) := by decide +kernel
theorem dX8_addDifferences_77 : decode cX8_addDifferences 77 = .ok (.getfield 100, 3) := by decide +kernel
theorem dX8_addDifferences_80 : decode cX8_addDifferences 80 = .ok (.aload_n 1, 1) := by decide +kernel
theorem dX8_addDifferences_81 : decode cX8_addDifferences 81 = .ok (.getfield 242, 3) := by decide +kernel
theorem dX8_addDifferences_84 : decode cX8_addDifferences 84 = .ok (.iload_n 2, 1) := by decide +kernel
theorem dX8_addDifferences_85 : decode cX8_addDifferences 85 = .ok (.iaload, 1) := by decide +kernel
theorem dX8_addDifferences_86 : decode cX8_addDifferences 86 = .ok (.isub, 1) := by decide +kernel
theorem dX8_addDifferences_87 : decode cX8_addDifferences 87 = .ok (.invokestatic 245, 3) := by decide +kernel
theorem dX8_addDifferences_90 : decode cX8_addDifferences 90 = .ok (.iadd, 1) := by decide +kernel
theorem dX8_addDifferences_91 : decode cX8_addDifferences 91 = .ok (.iastore, 1) := by decide +kernel
theorem dX8_addDifferences_92 : decode cX8_addDifferences 92 = .ok (.iinc 3 1, 3) := by decide +kernel
theorem dX8_addDifferences_95 : decode cX8_addDifferences 95 = .ok (.goto (-45), 3) := by decide +kernel
theorem dX8_addDifferences_98 : decode cX8_addDifferences 98 = .ok (.iinc 2 1, 3) := by decide +kernel
theorem dX8_addDifferences_101 : decode cX8_addDifferences 101 = .ok (.goto (-80), 3) := by decide +kernel
theorem dX8_addDifferences_104 : decode cX8_addDifferences 104 = .ok (.return_, 1) := by decide +kernel
theorem dX8_fee_0 : decode cX8_fee 0 = .ok (.aload_n 0, 1) := by decide +kernel
theorem dX8_fee_1 : decode cX8_fee 1 = .ok (.getfield 10, 3) := by decide +kernel
theorem dX8_fee_4 : decode cX8_fee 4 = .ok (.iconst 1, 1) := by decide +kernel
theorem dX8_fee_5 : decode cX8_fee 5 = .ok (.invokevirtual 248, 3) := by decide +kernel
theorem dX8_fee_8 : decode cX8_fee 8 = .ok (.astore_n 1, 1) := by decide +kernel
theorem dX8_fee_9 : decode cX8_fee 9 = .ok (.aload_n 1, 1) := by decide +kernel
theorem dX8_fee_10 : decode cX8_fee 10 = .ok (.ifnonnull 13, 3) := by decide +kernel
theorem dX8_fee_13 : decode cX8_fee 13 = .ok (.aload_n 0, 1) := by decide +kernel
theorem dX8_fee_14 : decode cX8_fee 14 = .ok (.getfield 10, 3) := by decide +kernel
theorem dX8_fee_17 : decode cX8_fee 17 = .ok (.getfield 141, 3) := by decide +kernel
theorem dX8_fee_20 : decode cX8_fee 20 = .ok (.goto 23, 3) := by decide +kernel
theorem dX8_fee_23 : decode cX8_fee 23 = .ok (.aload_n 1, 1) := by decide +kernel
theorem dX8_fee_24 : decode cX8_fee 24 = .ok (.aload_n 0, 1) := by decide +kernel
theorem dX8_fee_25 : decode cX8_fee 25 = .ok (.getfield 10, 3) := by decide +kernel
theorem dX8_fee_28 : decode cX8_fee 28 = .ok (.getfield 141, 3) := by decide +kernel
theorem dX8_fee_31 : decode cX8_fee 31 = .ok (.aload_n 0, 1) := by decide +kernel
theorem dX8_fee_32 : decode cX8_fee 32 = .ok (.getfield 10, 3) := by decide +kernel
theorem dX8_fee_35 : decode cX8_fee 35 = .ok (.getfield 172, 3) := by decide +kernel
theorem dX8_fee_38 : decode cX8_fee 38 = .ok (.iconst 0, 1) := by decide +kernel
theorem dX8_fee_39 : decode cX8_fee 39 = .ok (.iconst 0, 1) := by decide +kernel
theorem dX8_fee_40 : decode cX8_fee 40 = .ok (.invokevirtual 252, 3) := by decide +kernel
theorem dX8_fee_43 : decode cX8_fee 43 = .ok (.ireturn, 1) := by decide +kernel
theorem dX8_fine_0 : decode cX8_fine 0 = .ok (.aload_n 0, 1) := by decide +kernel
theorem dX8_fine_1 : decode cX8_fine 1 = .ok (.getfield 10, 3) := by decide +kernel
theorem dX8_fine_4 : decode cX8_fine 4 = .ok (.iload_n 1, 1) := by decide +kernel
theorem dX8_fine_5 : decode cX8_fine 5 = .ok (.invokevirtual 87, 3) := by decide +kernel
theorem dX8_fine_8 : decode cX8_fine 8 = .ok (.ifCond .ne 6, 3) := by decide +kernel
theorem dX8_fine_11 : decode cX8_fine 11 = .ok (.ldc 78, 2) := by decide +kernel
theorem dX8_fine_13 : decode cX8_fine 13 = .ok (.ireturn, 1) := by decide +kernel
theorem dX8_fine_14 : decode cX8_fine 14 = .ok (.aload_n 0, 1) := by decide +kernel
theorem dX8_fine_15 : decode cX8_fine 15 = .ok (.getfield 10, 3) := by decide +kernel
theorem dX8_fine_18 : decode cX8_fine 18 = .ok (.getfield 91, 3) := by decide +kernel
theorem dX8_fine_21 : decode cX8_fine 21 = .ok (.iload_n 1, 1) := by decide +kernel
theorem dX8_fine_22 : decode cX8_fine 22 = .ok (.aaload, 1) := by decide +kernel
theorem dX8_fine_23 : decode cX8_fine 23 = .ok (.astore_n 2, 1) := by decide +kernel
theorem dX8_fine_24 : decode cX8_fine 24 = .ok (.aload_n 0, 1) := by decide +kernel
theorem dX8_fine_25 : decode cX8_fine 25 = .ok (.getfield 10, 3) := by decide +kernel
theorem dX8_fine_28 : decode cX8_fine 28 = .ok (.iconst 2, 1) := by decide +kernel
theorem dX8_fine_29 : decode cX8_fine 29 = .ok (.invokevirtual 248, 3) := by decide +kernel
theorem dX8_fine_32 : decode cX8_fine 32 = .ok (.astore_n 3, 1) := by decide +kernel
theorem dX8_fine_33 : decode cX8_fine 33 = .ok (.aload_n 3, 1) := by decide +kernel
theorem dX8_fine_34 : decode cX8_fine 34 = .ok (.ifnonnull 10, 3) := by decide +kernel
theorem dX8_fine_37 : decode cX8_fine 37 = .ok (.aload_n 2, 1) := by decide +kernel
theorem dX8_fine_38 : decode cX8_fine 38 = .ok (.getfield 100, 3) := by decide +kernel
theorem dX8_fine_41 : decode cX8_fine 41 = .ok (.goto 17, 3) := by decide +kernel
theorem dX8_fine_44 : decode cX8_fine 44 = .ok (.aload_n 3, 1) := by decide +kernel
theorem dX8_fine_45 : decode cX8_fine 45 = .ok (.aload_n 2, 1) := by decide +kernel
theorem dX8_fine_46 : decode cX8_fine 46 = .ok (.getfield 100, 3) := by decide +kernel
theorem dX8_fine_49 : decode cX8_fine 49 = .ok (.aload_n 2, 1) := by decide +kernel
theorem dX8_fine_50 : decode cX8_fine 50 = .ok (.getfield 103, 3) := by decide +kernel
theorem dX8_fine_53 : decode cX8_fine 53 = .ok (.iconst 0, 1) := by decide +kernel
theorem dX8_fine_54 : decode cX8_fine 54 = .ok (.iconst 0, 1) := by decide +kernel
theorem dX8_fine_55 : decode cX8_fine 55 = .ok (.invokevirtual 252, 3) := by decide +kernel
theorem dX8_fine_58 : decode cX8_fine 58 = .ok (.ireturn, 1) := by decide +kernel
theorem dX8_feed_0 : decode cX8_feed 0 = .ok (.aload_n 0, 1) := by decide +kernel
theorem dX8_feed_1 : decode cX8_feed 1 = .ok (.getfield 36, 3) := by decide +kernel
theorem dX8_feed_4 : decode cX8_feed 4 = .ok (.getfield 257, 3) := by decide +kernel
theorem dX8_feed_7 : decode cX8_feed 7 = .ok (.bipush 12, 2) := by decide +kernel
theorem dX8_feed_9 : decode cX8_feed 9 = .ok (.iadd, 1) := by decide +kernel
theorem dX8_feed_10 : decode cX8_feed 10 = .ok (.bipush 96, 2) := by decide +kernel
theorem dX8_feed_12 : decode cX8_feed 12 = .ok (.if_icmp .le 6, 3) := by decide +kernel
theorem dX8_feed_15 : decode cX8_feed 15 = .ok (.ldc 82, 2) := by decide +kernel
theorem dX8_feed_17 : decode cX8_feed 17 = .ok (.ireturn, 1) := by decide +kernel
theorem dX8_feed_18 : decode cX8_feed 18 = .ok (.aload_n 0, 1) := by decide +kernel
theorem dX8_feed_19 : decode cX8_feed 19 = .ok (.getfield 36, 3) := by decide +kernel
theorem dX8_feed_22 : decode cX8_feed 22 = .ok (.iload_n 1, 1) := by decide +kernel
theorem dX8_feed_23 : decode cX8_feed 23 = .ok (.invokevirtual 258, 3) := by decide +kernel
theorem dX8_feed_26 : decode cX8_feed 26 = .ok (.aload_n 0, 1) := by decide +kernel
theorem dX8_feed_27 : decode cX8_feed 27 = .ok (.getfield 36, 3) := by decide +kernel
theorem dX8_feed_30 : decode cX8_feed 30 = .ok (.iload_n 2, 1) := by decide +kernel
theorem dX8_feed_31 : decode cX8_feed 31 = .ok (.invokevirtual 258, 3) := by decide +kernel
theorem dX8_feed_34 : decode cX8_feed 34 = .ok (.aload_n 0, 1) := by decide +kernel
theorem dX8_feed_35 : decode cX8_feed 35 = .ok (.getfield 36, 3) := by decide +kernel
theorem dX8_feed_38 : decode cX8_feed 38 = .ok (.iload_n 3, 1) := by decide +kernel
theorem dX8_feed_39 : decode cX8_feed 39 = .ok (.invokevirtual 258, 3) := by decide +kernel
theorem dX8_feed_42 : decode cX8_feed 42 = .ok (.aload_n 0, 1) := by decide +kernel
theorem dX8_feed_43 : decode cX8_feed 43 = .ok (.getfield 36, 3) := by decide +kernel
theorem dX8_feed_46 : decode cX8_feed 46 = .ok (.getfield 257, 3) := by decide +kernel
theorem dX8_feed_49 : decode cX8_feed 49 = .ok (.ireturn, 1) := by decide +kernel
theorem dX8_trim_0 : decode cX8_trim 0 = .ok (.iload_n 1, 1) := by decide +kernel
theorem dX8_trim_1 : decode cX8_trim 1 = .ok (.iconst 0, 1) := by decide +kernel
theorem dX8_trim_2 : decode cX8_trim 2 = .ok (.aload_n 0, 1) := by decide +kernel
theorem dX8_trim_3 : decode cX8_trim 3 = .ok (.getfield 36, 3) := by decide +kernel
theorem dX8_trim_6 : decode cX8_trim 6 = .ok (.getfield 257, 3) := by decide +kernel
theorem dX8_trim_9 : decode cX8_trim 9 = .ok (.invokestatic 74, 3) := by decide +kernel
theorem dX8_trim_12 : decode cX8_trim 12 = .ok (.ifCond .ne 6, 3) := by decide +kernel
theorem dX8_trim_15 : decode cX8_trim 15 = .ok (.ldc 78, 2) := by decide +kernel
theorem dX8_trim_17 : decode cX8_trim 17 = .ok (.ireturn, 1) := by decide +kernel
theorem dX8_trim_18 : decode cX8_trim 18 = .ok (.aload_n 0, 1) := by decide +kernel
theorem dX8_trim_19 : decode cX8_trim 19 = .ok (.getfield 36, 3) := by decide +kernel
theorem dX8_trim_22 : decode cX8_trim 22 = .ok (.iload_n 1, 1) := by decide +kernel
theorem dX8_trim_23 : decode cX8_trim 23 = .ok (.putfield 257, 3) := by decide +kernel
theorem dX8_trim_26 : decode cX8_trim 26 = .ok (.iload_n 1, 1) := by decide +kernel
theorem dX8_trim_27 : decode cX8_trim 27 = .ok (.ireturn, 1) := by decide +kernel
theorem dX8_text_0 : decode cX8_text 0 = .ok (.aload_n 0, 1) := by decide +kernel
theorem dX8_text_1 : decode cX8_text 1 = .ok (.getfield 45, 3) := by decide +kernel
theorem dX8_text_4 : decode cX8_text 4 = .ok (.invokevirtual 261, 3) := by decide +kernel
theorem dX8_text_7 : decode cX8_text 7 = .ok (.istore_n 1, 1) := by decide +kernel
theorem dX8_text_8 : decode cX8_text 8 = .ok (.aload_n 0, 1) := by decide +kernel
theorem dX8_text_9 : decode cX8_text 9 = .ok (.getfield 36, 3) := by decide +kernel
theorem dX8_text_12 : decode cX8_text 12 = .ok (.iconst 0, 1) := by decide +kernel
theorem dX8_text_13 : decode cX8_text 13 = .ok (.putfield 257, 3) := by decide +kernel
theorem dX8_text_16 : decode cX8_text 16 = .ok (.iload_n 1, 1) := by decide +kernel
theorem dX8_text_17 : decode cX8_text 17 = .ok (.iconst (-1), 1) := by decide +kernel
theorem dX8_text_18 : decode cX8_text 18 = .ok (.if_icmp .eq 8, 3) := by decide +kernel
theorem dX8_text_21 : decode cX8_text 21 = .ok (.bipush (-100), 2) := by decide +kernel
theorem dX8_text_23 : decode cX8_text 23 = .ok (.iload_n 1, 1) := by decide +kernel
theorem dX8_text_24 : decode cX8_text 24 = .ok (.isub, 1) := by decide +kernel
theorem dX8_text_25 : decode cX8_text 25 = .ok (.ireturn, 1) := by decide +kernel
theorem dX8_text_26 : decode cX8_text 26 = .ok (.aload_n 0, 1) := by decide +kernel
theorem dX8_text_27 : decode cX8_text 27 = .ok (.getfield 10, 3) := by decide +kernel
theorem dX8_text_30 : decode cX8_text 30 = .ok (.getfield 264, 3) := by decide +kernel
theorem dX8_text_33 : decode cX8_text 33 = .ok (.bipush 14, 2) := by decide +kernel
theorem dX8_text_35 : decode cX8_text 35 = .ok (.if_icmp .ge 20, 3) := by decide +kernel
theorem dX8_text_38 : decode cX8_text 38 = .ok (.aload_n 0, 1) := by decide +kernel
theorem dX8_text_39 : decode cX8_text 39 = .ok (.getfield 10, 3) := by decide +kernel
theorem dX8_text_42 : decode cX8_text 42 = .ok (.aload_n 0, 1) := by decide +kernel
theorem dX8_text_43 : decode cX8_text 43 = .ok (.getfield 45, 3) := by decide +kernel
theorem dX8_text_46 : decode cX8_text 46 = .ok (.invokevirtual 267, 3) := by decide +kernel
theorem dX8_text_49 : decode cX8_text 49 = .ok (.invokevirtual 271, 3) := by decide +kernel
theorem dX8_text_52 : decode cX8_text 52 = .ok (.goto 5, 3) := by decide +kernel
theorem dX8_text_55 : decode cX8_text 55 = .ok (.ldc 82, 2) := by decide +kernel
theorem dX8_text_57 : decode cX8_text 57 = .ok (.ireturn, 1) := by decide +kernel
theorem dX8_textTold_0 : decode cX8_textTold 0 = .ok (.iload_n 1, 1) := by decide +kernel
theorem dX8_textTold_1 : decode cX8_textTold 1 = .ok (.iconst 0, 1) := by decide +kernel
theorem dX8_textTold_2 : decode cX8_textTold 2 = .ok (.aload_n 0, 1) := by decide +kernel
theorem dX8_textTold_3 : decode cX8_textTold 3 = .ok (.getfield 10, 3) := by decide +kernel
theorem dX8_textTold_6 : decode cX8_textTold 6 = .ok (.getfield 264, 3) := by decide +kernel
theorem dX8_textTold_9 : decode cX8_textTold 9 = .ok (.iconst 1, 1) := by decide +kernel
theorem dX8_textTold_10 : decode cX8_textTold 10 = .ok (.isub, 1) := by decide +kernel
theorem dX8_textTold_11 : decode cX8_textTold 11 = .ok (.invokestatic 74, 3) := by decide +kernel
theorem dX8_textTold_14 : decode cX8_textTold 14 = .ok (.ifCond .eq 12, 3) := by decide +kernel
theorem dX8_textTold_17 : decode cX8_textTold 17 = .ok (.iload_n 2, 1) := by decide +kernel
theorem dX8_textTold_18 : decode cX8_textTold 18 = .ok (.iconst 0, 1) := by decide +kernel
theorem dX8_textTold_19 : decode cX8_textTold 19 = .ok (.iconst 1, 1) := by decide +kernel
theorem dX8_textTold_20 : decode cX8_textTold 20 = .ok (.invokestatic 74, 3) := by decide +kernel
theorem dX8_textTold_23 : decode cX8_textTold 23 = .ok (.ifCond .ne 6, 3) := by decide +kernel
theorem dX8_textTold_26 : decode cX8_textTold 26 = .ok (.ldc 78, 2) := by decide +kernel
theorem dX8_textTold_28 : decode cX8_textTold 28 = .ok (.ireturn, 1) := by decide +kernel
theorem dX8_textTold_29 : decode cX8_textTold 29 = .ok (.aload_n 0, 1) := by decide +kernel
theorem dX8_textTold_30 : decode cX8_textTold 30 = .ok (.getfield 10, 3) := by decide +kernel
theorem dX8_textTold_33 : decode cX8_textTold 33 = .ok (.getfield 275, 3) := by decide +kernel
theorem dX8_textTold_36 : decode cX8_textTold 36 = .ok (.iload_n 1, 1) := by decide +kernel
theorem dX8_textTold_37 : decode cX8_textTold 37 = .ok (.aaload, 1) := by decide +kernel
theorem dX8_textTold_38 : decode cX8_textTold 38 = .ok (.astore_n 3, 1) := by decide +kernel
theorem dX8_textTold_39 : decode cX8_textTold 39 = .ok (.aload_n 3, 1) := by decide +kernel
theorem dX8_textTold_40 : decode cX8_textTold 40 = .ok (.ifnonnull 6, 3) := by decide +kernel
theorem dX8_textTold_43 : decode cX8_textTold 43 = .ok (.ldc 78, 2) := by decide +kernel
theorem dX8_textTold_45 : decode cX8_textTold 45 = .ok (.ireturn, 1) := by decide +kernel
theorem dX8_textTold_46 : decode cX8_textTold 46 = .ok (.iload_n 2, 1) := by decide +kernel
theorem dX8_textTold_47 : decode cX8_textTold 47 = .ok (.ifCond .ne 10, 3) := by decide +kernel
theorem dX8_textTold_50 : decode cX8_textTold 50 = .ok (.aload_n 3, 1) := by decide +kernel
theorem dX8_textTold_51 : decode cX8_textTold 51 = .ok (.getfield 279, 3) := by decide +kernel
theorem dX8_textTold_54 : decode cX8_textTold 54 = .ok (.goto 7, 3) := by decide +kernel
theorem dX8_textTold_57 : decode cX8_textTold 57 = .ok (.aload_n 3, 1) := by decide +kernel
theorem dX8_textTold_58 : decode cX8_textTold 58 = .ok (.getfield 282, 3) := by decide +kernel
theorem dX8_textTold_61 : decode cX8_textTold 61 = .ok (.ireturn, 1) := by decide +kernel
theorem dX8_why_0 : decode cX8_why 0 = .ok (.iload_n 1, 1) := by decide +kernel
theorem dX8_why_1 : decode cX8_why 1 = .ok (.iconst 0, 1) := by decide +kernel
theorem dX8_why_2 : decode cX8_why 2 = .ok (.iconst 2, 1) := by decide +kernel
theorem dX8_why_3 : decode cX8_why 3 = .ok (.invokestatic 74, 3) := by decide +kernel
theorem dX8_why_6 : decode cX8_why 6 = .ok (.ifCond .eq 15, 3) := by decide +kernel
theorem dX8_why_9 : decode cX8_why 9 = .ok (.aload_n 0, 1) := by decide +kernel
theorem dX8_why_10 : decode cX8_why 10 = .ok (.getfield 10, 3) := by decide +kernel
theorem dX8_why_13 : decode cX8_why 13 = .ok (.getfield 285, 3) := by decide +kernel
theorem dX8_why_16 : decode cX8_why 16 = .ok (.iload_n 1, 1) := by decide +kernel
theorem dX8_why_17 : decode cX8_why 17 = .ok (.iaload, 1) := by decide +kernel
theorem dX8_why_18 : decode cX8_why 18 = .ok (.goto 5, 3) := by decide +kernel
theorem dX8_why_21 : decode cX8_why 21 = .ok (.ldc 78, 2) := by decide +kernel
theorem dX8_why_23 : decode cX8_why 23 = .ok (.ireturn, 1) := by decide +kernel
theorem dX8_sheet_0 : decode cX8_sheet 0 = .ok (.iload_n 1, 1) := by decide +kernel
theorem dX8_sheet_1 : decode cX8_sheet 1 = .ok (.invokestatic 220, 3) := by decide +kernel
theorem dX8_sheet_4 : decode cX8_sheet 4 = .ok (.ifCond .eq 12, 3) := by decide +kernel
theorem dX8_sheet_7 : decode cX8_sheet 7 = .ok (.iload_n 2, 1) := by decide +kernel
theorem dX8_sheet_8 : decode cX8_sheet 8 = .ok (.iconst (-1), 1) := by decide +kernel
theorem dX8_sheet_9 : decode cX8_sheet 9 = .ok (.iconst 1, 1) := by decide +kernel
theorem dX8_sheet_10 : decode cX8_sheet 10 = .ok (.invokestatic 74, 3) := by decide +kernel
theorem dX8_sheet_13 : decode cX8_sheet 13 = .ok (.ifCond .ne 6, 3) := by decide +kernel
theorem dX8_sheet_16 : decode cX8_sheet 16 = .ok (.ldc 78, 2) := by decide +kernel
theorem dX8_sheet_18 : decode cX8_sheet 18 = .ok (.ireturn, 1) := by decide +kernel
theorem dX8_sheet_19 : decode cX8_sheet 19 = .ok (.iload_n 2, 1) := by decide +kernel
theorem dX8_sheet_20 : decode cX8_sheet 20 = .ok (.iconst (-1), 1) := by decide +kernel
theorem dX8_sheet_21 : decode cX8_sheet 21 = .ok (.if_icmp .ne 16, 3) := by decide +kernel
theorem dX8_sheet_24 : decode cX8_sheet 24 = .ok (.aload_n 0, 1) := by decide +kernel
theorem dX8_sheet_25 : decode cX8_sheet 25 = .ok (.getfield 51, 3) := by decide +kernel
theorem dX8_sheet_28 : decode cX8_sheet 28 = .ok (.iload_n 1, 1) := by decide +kernel
theorem dX8_sheet_29 : decode cX8_sheet 29 = .ok (.aaload, 1) := by decide +kernel
theorem dX8_sheet_30 : decode cX8_sheet 30 = .ok (.iconst (-1), 1) := by decide +kernel
theorem dX8_sheet_31 : decode cX8_sheet 31 = .ok (.iconst 0, 1) := by decide +kernel
theorem dX8_sheet_32 : decode cX8_sheet 32 = .ok (.invokevirtual 288, 3) := by decide +kernel
theorem dX8_sheet_35 : decode cX8_sheet 35 = .ok (.iconst 0, 1) := by decide +kernel
theorem dX8_sheet_36 : decode cX8_sheet 36 = .ok (.ireturn, 1) := by decide +kernel
theorem dX8_sheet_37 : decode cX8_sheet 37 = .ok (.iload_n 3, 1) := by decide +kernel
theorem dX8_sheet_38 : decode cX8_sheet 38 = .ok (.bipush 24, 2) := by decide +kernel
theorem dX8_sheet_40 : decode cX8_sheet 40 = .ok (.if_icmp .le 6, 3) := by decide +kernel
theorem dX8_sheet_43 : decode cX8_sheet 43 = .ok (.ldc 78, 2) := by decide +kernel
theorem dX8_sheet_45 : decode cX8_sheet 45 = .ok (.ireturn, 1) := by decide +kernel
theorem dX8_sheet_46 : decode cX8_sheet 46 = .ok (.iload_n 3, 1) := by decide +kernel
theorem dX8_sheet_47 : decode cX8_sheet 47 = .ok (.ifCond .ge 7, 3) := by decide +kernel
theorem dX8_sheet_50 : decode cX8_sheet 50 = .ok (.ldc_w 292, 3) := by decide +kernel
theorem dX8_sheet_53 : decode cX8_sheet 53 = .ok (.ireturn, 1) := by decide +kernel
theorem dX8_sheet_54 : decode cX8_sheet 54 = .ok (.aload_n 0, 1) := by decide +kernel
theorem dX8_sheet_55 : decode cX8_sheet 55 = .ok (.getfield 51, 3) := by decide +kernel
theorem dX8_sheet_58 : decode cX8_sheet 58 = .ok (.iload_n 1, 1) := by decide +kernel
theorem dX8_sheet_59 : decode cX8_sheet 59 = .ok (.aaload, 1) := by decide +kernel
theorem dX8_sheet_60 : decode cX8_sheet 60 = .ok (.iload_n 2, 1) := by decide +kernel
theorem dX8_sheet_61 : decode cX8_sheet 61 = .ok (.iload_n 3, 1) := by decide +kernel
theorem dX8_sheet_62 : decode cX8_sheet 62 = .ok (.invokevirtual 288, 3) := by decide +kernel
theorem dX8_sheet_65 : decode cX8_sheet 65 = .ok (.iload_n 3, 1) := by decide +kernel
theorem dX8_sheet_66 : decode cX8_sheet 66 = .ok (.ireturn, 1) := by decide +kernel
theorem dX8_mark_0 : decode cX8_mark 0 = .ok (.iload_n 1, 1) := by decide +kernel
theorem dX8_mark_1 : decode cX8_mark 1 = .ok (.invokestatic 220, 3) := by decide +kernel
theorem dX8_mark_4 : decode cX8_mark 4 = .ok (.ifCond .ne 6, 3) := by decide +kernel
theorem dX8_mark_7 : decode cX8_mark 7 = .ok (.ldc 78, 2) := by decide +kernel
theorem dX8_mark_9 : decode cX8_mark 9 = .ok (.ireturn, 1) := by decide +kernel
theorem dX8_mark_10 : decode cX8_mark 10 = .ok (.aload_n 0, 1) := by decide +kernel
theorem dX8_mark_11 : decode cX8_mark 11 = .ok (.getfield 51, 3) := by decide +kernel
theorem dX8_mark_14 : decode cX8_mark 14 = .ok (.iload_n 1, 1) := by decide +kernel
theorem dX8_mark_15 : decode cX8_mark 15 = .ok (.aaload, 1) := by decide +kernel
theorem dX8_mark_16 : decode cX8_mark 16 = .ok (.astore 4, 2) := by decide +kernel
theorem dX8_mark_18 : decode cX8_mark 18 = .ok (.aload 4, 2) := by decide +kernel
theorem dX8_mark_20 : decode cX8_mark 20 = .ok (.invokevirtual 223, 3) := by decide +kernel
theorem dX8_mark_23 : decode cX8_mark 23 = .ok (.ifCond .eq 6, 3) := by decide +kernel
theorem dX8_mark_26 : decode cX8_mark 26 = .ok (.ldc 227, 2) := by decide +kernel
theorem dX8_mark_28 : decode cX8_mark 28 = .ok (.ireturn, 1) := by decide +kernel
theorem dX8_mark_29 : decode cX8_mark 29 = .ok (.aload 4, 2) := by decide +kernel
theorem dX8_mark_31 : decode cX8_mark 31 = .ok (.iload_n 2, 1) := by decide +kernel
theorem dX8_mark_32 : decode cX8_mark 32 = .ok (.invokevirtual 293, 3) := by decide +kernel
theorem dX8_mark_35 : decode cX8_mark 35 = .ok (.ifCond .ne 7, 3) := by decide +kernel
theorem dX8_mark_38 : decode cX8_mark 38 = .ok (.ldc_w 294, 3) := by decide +kernel
theorem dX8_mark_41 : decode cX8_mark 41 = .ok (.ireturn, 1) := by decide +kernel
theorem dX8_mark_42 : decode cX8_mark 42 = .ok (.aload 4, 2) := by decide +kernel
theorem dX8_mark_44 : decode cX8_mark 44 = .ok (.getfield 295, 3) := by decide +kernel
theorem dX8_mark_47 : decode cX8_mark 47 = .ok (.ifCond .ne 23, 3) := by decide +kernel
theorem dX8_mark_50 : decode cX8_mark 50 = .ok (.iload_n 3, 1) := by decide +kernel
theorem dX8_mark_51 : decode cX8_mark 51 = .ok (.ldc 187, 2) := by decide +kernel
theorem dX8_mark_53 : decode cX8_mark 53 = .ok (.if_icmp .ne 6, 3) := by decide +kernel
theorem dX8_mark_56 : decode cX8_mark 56 = .ok (.ldc 129, 2) := by decide +kernel
theorem dX8_mark_58 : decode cX8_mark 58 = .ok (.ireturn, 1) := by decide +kernel
theorem dX8_mark_59 : decode cX8_mark 59 = .ok (.aload 4, 2) := by decide +kernel
theorem dX8_mark_61 : decode cX8_mark 61 = .ok (.getfield 242, 3) := by decide +kernel
theorem dX8_mark_64 : decode cX8_mark 64 = .ok (.iload_n 2, 1) := by decide +kernel
theorem dX8_mark_65 : decode cX8_mark 65 = .ok (.iload_n 3, 1) := by decide +kernel
theorem dX8_mark_66 : decode cX8_mark 66 = .ok (.i2s, 1) := by decide +kernel
theorem dX8_mark_67 : decode cX8_mark 67 = .ok (.iastore, 1) := by decide +kernel
theorem dX8_mark_68 : decode cX8_mark 68 = .ok (.iconst 1, 1) := by decide +kernel
theorem dX8_mark_69 : decode cX8_mark 69 = .ok (.ireturn, 1) := by decide +kernel
theorem dX8_mark_70 : decode cX8_mark 70 = .ok (.iload_n 3, 1) := by decide +kernel
theorem dX8_mark_71 : decode cX8_mark 71 = .ok (.ldc 187, 2) := by decide +kernel
theorem dX8_mark_73 : decode cX8_mark 73 = .ok (.if_icmp .eq 19, 3) := by decide +kernel
theorem dX8_mark_76 : decode cX8_mark 76 = .ok (.iload_n 3, 1) := by decide +kernel
theorem dX8_mark_77 : decode cX8_mark 77 = .ok (.ldc_w 298, 3) := by decide +kernel
theorem dX8_mark_80 : decode cX8_mark 80 = .ok (.ldc_w 299, 3) := by decide +kernel
theorem dX8_mark_83 : decode cX8_mark 83 = .ok (.invokestatic 74, 3) := by decide +kernel
theorem dX8_mark_86 : decode cX8_mark 86 = .ok (.ifCond .ne 6, 3) := by decide +kernel
theorem dX8_mark_89 : decode cX8_mark 89 = .ok (.ldc 78, 2) := by decide +kernel
theorem dX8_mark_91 : decode cX8_mark 91 = .ok (.ireturn, 1) := by decide +kernel
theorem dX8_mark_92 : decode cX8_mark 92 = .ok (.aload 4, 2) := by decide +kernel
theorem dX8_mark_94 : decode cX8_mark 94 = .ok (.getfield 242, 3) := by decide +kernel
theorem dX8_mark_97 : decode cX8_mark 97 = .ok (.iload_n 2, 1) := by decide +kernel
theorem dX8_mark_98 : decode cX8_mark 98 = .ok (.iload_n 3, 1) := by decide +kernel
theorem dX8_mark_99 : decode cX8_mark 99 = .ok (.ldc 187, 2) := by decide +kernel
theorem dX8_mark_101 : decode cX8_mark 101 = .ok (.if_icmp .ne 9, 3) := by decide +kernel
theorem dX8_mark_104 : decode cX8_mark 104 = .ok (.ldc_w 300, 3) := by decide +kernel
theorem dX8_mark_107 : decode cX8_mark 107 = .ok (.goto 4, 3) := by decide +kernel
theorem dX8_mark_110 : decode cX8_mark 110 = .ok (.iload_n 3, 1) := by decide +kernel
theorem dX8_mark_111 : decode cX8_mark 111 = .ok (.iastore, 1) := by decide +kernel
theorem dX8_mark_112 : decode cX8_mark 112 = .ok (.iconst 1, 1) := by decide +kernel
theorem dX8_mark_113 : decode cX8_mark 113 = .ok (.ireturn, 1) := by decide +kernel
theorem dX8_pour_0 : decode cX8_pour 0 = .ok (.iload_n 1, 1) := by decide +kernel
theorem dX8_pour_1 : decode cX8_pour 1 = .ok (.invokestatic 220, 3) := by decide +kernel
theorem dX8_pour_4 : decode cX8_pour 4 = .ok (.ifCond .ne 6, 3) := by decide +kernel
theorem dX8_pour_7 : decode cX8_pour 7 = .ok (.ldc 78, 2) := by decide +kernel
theorem dX8_pour_9 : decode cX8_pour 9 = .ok (.ireturn, 1) := by decide +kernel
theorem dX8_pour_10 : decode cX8_pour 10 = .ok (.aload_n 0, 1) := by decide +kernel
theorem dX8_pour_11 : decode cX8_pour 11 = .ok (.getfield 51, 3) := by decide +kernel
theorem dX8_pour_14 : decode cX8_pour 14 = .ok (.iload_n 1, 1) := by decide +kernel
theorem dX8_pour_15 : decode cX8_pour 15 = .ok (.aaload, 1) := by decide +kernel
theorem dX8_pour_16 : decode cX8_pour 16 = .ok (.astore_n 2, 1) := by decide +kernel
theorem dX8_pour_17 : decode cX8_pour 17 = .ok (.aload_n 2, 1) := by decide +kernel
theorem dX8_pour_18 : decode cX8_pour 18 = .ok (.invokevirtual 223, 3) := by decide +kernel
theorem dX8_pour_21 : decode cX8_pour 21 = .ok (.ifCond .eq 6, 3) := by decide +kernel
theorem dX8_pour_24 : decode cX8_pour 24 = .ok (.ldc 227, 2) := by decide +kernel
theorem dX8_pour_26 : decode cX8_pour 26 = .ok (.ireturn, 1) := by decide +kernel
theorem dX8_pour_27 : decode cX8_pour 27 = .ok (.iconst 0, 1) := by decide +kernel
theorem dX8_pour_28 : decode cX8_pour 28 = .ok (.istore_n 3, 1) := by decide +kernel
theorem dX8_pour_29 : decode cX8_pour 29 = .ok (.iconst 0, 1) := by decide +kernel
theorem dX8_pour_30 : decode cX8_pour 30 = .ok (.istore 4, 2) := by decide +kernel
theorem dX8_pour_32 : decode cX8_pour 32 = .ok (.iload 4, 2) := by decide +kernel
theorem dX8_pour_34 : decode cX8_pour 34 = .ok (.aload_n 0, 1) := by decide +kernel
theorem dX8_pour_35 : decode cX8_pour 35 = .ok (.getfield 10, 3) := by decide +kernel
theorem dX8_pour_38 : decode cX8_pour 38 = .ok (.getfield 79, 3) := by decide +kernel
theorem dX8_pour_41 : decode cX8_pour 41 = .ok (.if_icmp .ge 77, 3) := by decide +kernel
theorem dX8_pour_44 : decode cX8_pour 44 = .ok (.iload 4, 2) := by decide +kernel
theorem dX8_pour_46 : decode cX8_pour 46 = .ok (.aload_n 2, 1) := by decide +kernel
theorem dX8_pour_47 : decode cX8_pour 47 = .ok (.getfield 238, 3) := by decide +kernel
theorem dX8_pour_50 : decode cX8_pour 50 = .ok (.if_icmp .ge 68, 3) := by decide +kernel
theorem dX8_pour_53 : decode cX8_pour 53 = .ok (.aload_n 2, 1) := by decide +kernel
theorem dX8_pour_54 : decode cX8_pour 54 = .ok (.iload 4, 2) := by decide +kernel
theorem dX8_pour_56 : decode cX8_pour 56 = .ok (.invokevirtual 239, 3) := by decide +kernel
theorem dX8_pour_59 : decode cX8_pour 59 = .ok (.ifCond .eq 53, 3) := by decide +kernel
theorem dX8_pour_62 : decode cX8_pour 62 = .ok (.aload_n 2, 1) := by decide +kernel
theorem dX8_pour_63 : decode cX8_pour 63 = .ok (.getfield 242, 3) := by decide +kernel
theorem dX8_pour_66 : decode cX8_pour 66 = .ok (.iload 4, 2) := by decide +kernel
theorem dX8_pour_68 : decode cX8_pour 68 = .ok (.iaload, 1) := by decide +kernel
theorem dX8_pour_69 : decode cX8_pour 69 = .ok (.bipush 99, 2) := by decide +kernel
theorem dX8_pour_71 : decode cX8_pour 71 = .ok (.invokestatic 301, 3) := by decide +kernel
theorem dX8_pour_74 : decode cX8_pour 74 = .ok (.istore 5, 2) := by decide +kernel
theorem dX8_pour_76 : decode cX8_pour 76 = .ok (.iload 5, 2) := by decide +kernel
theorem dX8_pour_78 : decode cX8_pour 78 = .ok (.aload_n 0, 1) := by decide +kernel
theorem dX8_pour_79 : decode cX8_pour 79 = .ok (.getfield 10, 3) := by decide +kernel
theorem dX8_pour_82 : decode cX8_pour 82 = .ok (.getfield 91, 3) := by decide +kernel
theorem dX8_pour_85 : decode cX8_pour 85 = .ok (.iload 4, 2) := by decide +kernel
theorem dX8_pour_87 : decode cX8_pour 87 = .ok (.aaload, 1) := by decide +kernel
theorem dX8_pour_88 : decode cX8_pour 88 = .ok (.getfield 100, 3) := by decide +kernel
theorem dX8_pour_91 : decode cX8_pour 91 = .ok (.if_icmp .eq 6, 3) := by decide +kernel
theorem dX8_pour_94 : decode cX8_pour 94 = .ok (.iinc 3 1, 3) := by decide +kernel
theorem dX8_pour_97 : decode cX8_pour 97 = .ok (.aload_n 0, 1) := by decide +kernel
theorem dX8_pour_98 : decode cX8_pour 98 = .ok (.getfield 10, 3) := by decide +kernel
theorem dX8_pour_101 : decode cX8_pour 101 = .ok (.getfield 91, 3) := by decide +kernel
theorem dX8_pour_104 : decode cX8_pour 104 = .ok (.iload 4, 2) := by decide +kernel
theorem dX8_pour_106 : decode cX8_pour 106 = .ok (.aaload, 1) := by decide +kernel
theorem dX8_pour_107 : decode cX8_pour 107 = .ok (.iload 5, 2) := by decide +kernel
theorem dX8_pour_109 : decode cX8_pour 109 = .ok (.putfield 100, 3) := by decide +kernel
theorem dX8_pour_112 : decode cX8_pour 112 = .ok (.iinc 4 1, 3) := by decide +kernel
theorem dX8_pour_115 : decode cX8_pour 115 = .ok (.goto (-83), 3) := by decide +kernel
theorem dX8_pour_118 : decode cX8_pour 118 = .ok (.iload_n 3, 1) := by decide +kernel
theorem dX8_pour_119 : decode cX8_pour 119 = .ok (.ireturn, 1) := by decide +kernel
theorem dX8_reads_0 : decode cX8_reads 0 = .ok (.iload_n 1, 1) := by decide +kernel
theorem dX8_reads_1 : decode cX8_reads 1 = .ok (.invokestatic 220, 3) := by decide +kernel
theorem dX8_reads_4 : decode cX8_reads 4 = .ok (.ifCond .ne 6, 3) := by decide +kernel
theorem dX8_reads_7 : decode cX8_reads 7 = .ok (.ldc 78, 2) := by decide +kernel
theorem dX8_reads_9 : decode cX8_reads 9 = .ok (.ireturn, 1) := by decide +kernel
theorem dX8_reads_10 : decode cX8_reads 10 = .ok (.aload_n 0, 1) := by decide +kernel
theorem dX8_reads_11 : decode cX8_reads 11 = .ok (.getfield 51, 3) := by decide +kernel
theorem dX8_reads_14 : decode cX8_reads 14 = .ok (.iload_n 1, 1) := by decide +kernel
theorem dX8_reads_15 : decode cX8_reads 15 = .ok (.aaload, 1) := by decide +kernel
theorem dX8_reads_16 : decode cX8_reads 16 = .ok (.astore_n 2, 1) := by decide +kernel
theorem dX8_reads_17 : decode cX8_reads 17 = .ok (.aload_n 2, 1) := by decide +kernel
theorem dX8_reads_18 : decode cX8_reads 18 = .ok (.invokevirtual 223, 3) := by decide +kernel
theorem dX8_reads_21 : decode cX8_reads 21 = .ok (.ifCond .eq 6, 3) := by decide +kernel
theorem dX8_reads_24 : decode cX8_reads 24 = .ok (.ldc 227, 2) := by decide +kernel
theorem dX8_reads_26 : decode cX8_reads 26 = .ok (.ireturn, 1) := by decide +kernel
theorem dX8_reads_27 : decode cX8_reads 27 = .ok (.iconst 0, 1) := by decide +kernel
theorem dX8_reads_28 : decode cX8_reads 28 = .ok (.istore_n 3, 1) := by decide +kernel
theorem dX8_reads_29 : decode cX8_reads 29 = .ok (.iload_n 3, 1) := by decide +kernel
theorem dX8_reads_30 : decode cX8_reads 30 = .ok (.aload_n 2, 1) := by decide +kernel
theorem dX8_reads_31 : decode cX8_reads 31 = .ok (.getfield 238, 3) := by decide +kernel
theorem dX8_reads_34 : decode cX8_reads 34 = .ok (.if_icmp .ge 51, 3) := by decide +kernel
theorem dX8_reads_37 : decode cX8_reads 37 = .ok (.aload_n 2, 1) := by decide +kernel
theorem dX8_reads_38 : decode cX8_reads 38 = .ok (.iload_n 3, 1) := by decide +kernel
theorem dX8_reads_39 : decode cX8_reads 39 = .ok (.invokevirtual 239, 3) := by decide +kernel
theorem dX8_reads_42 : decode cX8_reads 42 = .ok (.ifCond .eq 37, 3) := by decide +kernel
theorem dX8_reads_45 : decode cX8_reads 45 = .ok (.aload_n 0, 1) := by decide +kernel
theorem dX8_reads_46 : decode cX8_reads 46 = .ok (.getfield 10, 3) := by decide +kernel
theorem dX8_reads_49 : decode cX8_reads 49 = .ok (.iload_n 3, 1) := by decide +kernel
theorem dX8_reads_50 : decode cX8_reads 50 = .ok (.invokevirtual 87, 3) := by decide +kernel
theorem dX8_reads_53 : decode cX8_reads 53 = .ok (.ifCond .eq 24, 3) := by decide +kernel
theorem dX8_reads_56 : decode cX8_reads 56 = .ok (.aload_n 2, 1) := by decide +kernel
theorem dX8_reads_57 : decode cX8_reads 57 = .ok (.getfield 242, 3) := by decide +kernel
theorem dX8_reads_60 : decode cX8_reads 60 = .ok (.iload_n 3, 1) := by decide +kernel
theorem dX8_reads_61 : decode cX8_reads 61 = .ok (.iaload, 1) := by decide +kernel
theorem dX8_reads_62 : decode cX8_reads 62 = .ok (.aload_n 0, 1) := by decide +kernel
theorem dX8_reads_63 : decode cX8_reads 63 = .ok (.getfield 10, 3) := by decide +kernel
theorem dX8_reads_66 : decode cX8_reads 66 = .ok (.getfield 91, 3) := by decide +kernel
theorem dX8_reads_69 : decode cX8_reads 69 = .ok (.iload_n 3, 1) := by decide +kernel
theorem dX8_reads_70 : decode cX8_reads 70 = .ok (.aaload, 1) := by decide +kernel
theorem dX8_reads_71 : decode cX8_reads 71 = .ok (.getfield 103, 3) := by decide +kernel
theorem dX8_reads_74 : decode cX8_reads 74 = .ok (.if_icmp .eq 5, 3) := by decide +kernel
theorem dX8_reads_77 : decode cX8_reads 77 = .ok (.iload_n 3, 1) := by decide +kernel
theorem dX8_reads_78 : decode cX8_reads 78 = .ok (.ireturn, 1) := by decide +kernel
theorem dX8_reads_79 : decode cX8_reads 79 = .ok (.iinc 3 1, 3) := by decide +kernel
theorem dX8_reads_82 : decode cX8_reads 82 = .ok (.goto (-53), 3) := by decide +kernel
theorem dX8_reads_85 : decode cX8_reads 85 = .ok (.ldc 187, 2) := by decide +kernel
theorem dX8_reads_87 : decode cX8_reads 87 = .ok (.ireturn, 1) := by decide +kernel
theorem dX8_copy_0 : decode cX8_copy 0 = .ok (.iload_n 1, 1) := by decide +kernel
theorem dX8_copy_1 : decode cX8_copy 1 = .ok (.invokestatic 220, 3) := by decide +kernel
theorem dX8_copy_4 : decode cX8_copy 4 = .ok (.ifCond .eq 10, 3) := by decide +kernel
theorem dX8_copy_7 : decode cX8_copy 7 = .ok (.iload_n 3, 1) := by decide +kernel
theorem dX8_copy_8 : decode cX8_copy 8 = .ok (.invokestatic 220, 3) := by decide +kernel
theorem dX8_copy_11 : decode cX8_copy 11 = .ok (.ifCond .ne 6, 3) := by decide +kernel
theorem dX8_copy_14 : decode cX8_copy 14 = .ok (.ldc 78, 2) := by decide +kernel
theorem dX8_copy_16 : decode cX8_copy 16 = .ok (.ireturn, 1) := by decide +kernel
theorem dX8_copy_17 : decode cX8_copy 17 = .ok (.aload_n 0, 1) := by decide +kernel
theorem dX8_copy_18 : decode cX8_copy 18 = .ok (.getfield 51, 3) := by decide +kernel
theorem dX8_copy_21 : decode cX8_copy 21 = .ok (.iload_n 1, 1) := by decide +kernel
theorem dX8_copy_22 : decode cX8_copy 22 = .ok (.aaload, 1) := by decide +kernel
theorem dX8_copy_23 : decode cX8_copy 23 = .ok (.astore 6, 2) := by decide +kernel
theorem dX8_copy_25 : decode cX8_copy 25 = .ok (.aload_n 0, 1) := by decide +kernel
theorem dX8_copy_26 : decode cX8_copy 26 = .ok (.getfield 51, 3) := by decide +kernel
theorem dX8_copy_29 : decode cX8_copy 29 = .ok (.iload_n 3, 1) := by decide +kernel
theorem dX8_copy_30 : decode cX8_copy 30 = .ok (.aaload, 1) := by decide +kernel
theorem dX8_copy_31 : decode cX8_copy 31 = .ok (.astore 7, 2) := by decide +kernel
theorem dX8_copy_33 : decode cX8_copy 33 = .ok (.aload 6, 2) := by decide +kernel
theorem dX8_copy_35 : decode cX8_copy 35 = .ok (.invokevirtual 223, 3) := by decide +kernel
theorem dX8_copy_38 : decode cX8_copy 38 = .ok (.ifCond .ne 11, 3) := by decide +kernel
theorem dX8_copy_41 : decode cX8_copy 41 = .ok (.aload 7, 2) := by decide +kernel
theorem dX8_copy_43 : decode cX8_copy 43 = .ok (.invokevirtual 223, 3) := by decide +kernel
theorem dX8_copy_46 : decode cX8_copy 46 = .ok (.ifCond .eq 6, 3) := by decide +kernel
theorem dX8_copy_49 : decode cX8_copy 49 = .ok (.ldc 227, 2) := by decide +kernel
theorem dX8_copy_51 : decode cX8_copy 51 = .ok (.ireturn, 1) := by decide +kernel
theorem dX8_copy_52 : decode cX8_copy 52 = .ok (.aload 6, 2) := by decide +kernel
theorem dX8_copy_54 : decode cX8_copy 54 = .ok (.getfield 295, 3) := by decide +kernel
theorem dX8_copy_57 : decode cX8_copy 57 = .ok (.aload 7, 2) := by decide +kernel
theorem dX8_copy_59 : decode cX8_copy 59 = .ok (.getfield 295, 3) := by decide +kernel
theorem dX8_copy_62 : decode cX8_copy 62 = .ok (.if_icmp .eq 6, 3) := by decide +kernel
theorem dX8_copy_65 : decode cX8_copy 65 = .ok (.ldc 129, 2) := by decide +kernel
theorem dX8_copy_67 : decode cX8_copy 67 = .ok (.ireturn, 1) := by decide +kernel
theorem dX8_copy_68 : decode cX8_copy 68 = .ok (.aload 6, 2) := by decide +kernel
theorem dX8_copy_70 : decode cX8_copy 70 = .ok (.iload_n 2, 1) := by decide +kernel
theorem dX8_copy_71 : decode cX8_copy 71 = .ok (.iload 5, 2) := by decide +kernel
theorem dX8_copy_73 : decode cX8_copy 73 = .ok (.invokevirtual 304, 3) := by decide +kernel
theorem dX8_copy_76 : decode cX8_copy 76 = .ok (.ifCond .eq 15, 3) := by decide +kernel
theorem dX8_copy_79 : decode cX8_copy 79 = .ok (.aload 7, 2) := by decide +kernel
theorem dX8_copy_81 : decode cX8_copy 81 = .ok (.iload 4, 2) := by decide +kernel
theorem dX8_copy_83 : decode cX8_copy 83 = .ok (.iload 5, 2) := by decide +kernel
theorem dX8_copy_85 : decode cX8_copy 85 = .ok (.invokevirtual 304, 3) := by decide +kernel
theorem dX8_copy_88 : decode cX8_copy 88 = .ok (.ifCond .ne 7, 3) := by decide +kernel
theorem dX8_copy_91 : decode cX8_copy 91 = .ok (.ldc_w 294, 3) := by decide +kernel
theorem dX8_copy_94 : decode cX8_copy 94 = .ok (.ireturn, 1) := by decide +kernel
theorem dX8_copy_95 : decode cX8_copy 95 = .ok (.aload 6, 2) := by decide +kernel
theorem dX8_copy_97 : decode cX8_copy 97 = .ok (.getfield 242, 3) := by decide +kernel
theorem dX8_copy_100 : decode cX8_copy 100 = .ok (.iload_n 2, 1) := by decide +kernel
theorem dX8_copy_101 : decode cX8_copy 101 = .ok (.aload 7, 2) := by decide +kernel
theorem dX8_copy_103 : decode cX8_copy 103 = .ok (.getfield 242, 3) := by decide +kernel
theorem dX8_copy_106 : decode cX8_copy 106 = .ok (.iload 4, 2) := by decide +kernel
theorem dX8_copy_108 : decode cX8_copy 108 = .ok (.iload 5, 2) := by decide +kernel
theorem dX8_copy_110 : decode cX8_copy 110 = .ok (.invokestatic 308, 3) := by decide +kernel
theorem dX8_copy_113 : decode cX8_copy 113 = .ok (.iload 5, 2) := by decide +kernel
theorem dX8_copy_115 : decode cX8_copy 115 = .ok (.ireturn, 1) := by decide +kernel
theorem dX8_lay_0 : decode cX8_lay 0 = .ok (.iload_n 1, 1) := by decide +kernel
theorem dX8_lay_1 : decode cX8_lay 1 = .ok (.invokestatic 314, 3) := by decide +kernel
theorem dX8_lay_4 : decode cX8_lay 4 = .ok (.ifCond .eq 40, 3) := by decide +kernel
theorem dX8_lay_7 : decode cX8_lay 7 = .ok (.iload_n 2, 1) := by decide +kernel
theorem dX8_lay_8 : decode cX8_lay 8 = .ok (.iconst 0, 1) := by decide +kernel
theorem dX8_lay_9 : decode cX8_lay 9 = .ok (.iconst 3, 1) := by decide +kernel
theorem dX8_lay_10 : decode cX8_lay 10 = .ok (.invokestatic 74, 3) := by decide +kernel
theorem dX8_lay_13 : decode cX8_lay 13 = .ok (.ifCond .eq 31, 3) := by decide +kernel
theorem dX8_lay_16 : decode cX8_lay 16 = .ok (.iload_n 2, 1) := by decide +kernel
theorem dX8_lay_17 : decode cX8_lay 17 = .ok (.iconst 1, 1) := by decide +kernel
theorem dX8_lay_18 : decode cX8_lay 18 = .ok (.if_icmp .ne 14, 3) := by decide +kernel
theorem dX8_lay_21 : decode cX8_lay 21 = .ok (.aload_n 0, 1) := by decide +kernel
theorem dX8_lay_22 : decode cX8_lay 22 = .ok (.getfield 10, 3) := by decide +kernel
theorem dX8_lay_25 : decode cX8_lay 25 = .ok (.iload_n 3, 1) := by decide +kernel
theorem dX8_lay_26 : decode cX8_lay 26 = .ok (.invokevirtual 87, 3) := by decide +kernel
theorem dX8_lay_29 : decode cX8_lay 29 = .ok (.ifCond .eq 15, 3) := by decide +kernel
theorem dX8_lay_32 : decode cX8_lay 32 = .ok (.iload_n 2, 1) := by decide +kernel
theorem dX8_lay_33 : decode cX8_lay 33 = .ok (.iconst 2, 1) := by decide +kernel
theorem dX8_lay_34 : decode cX8_lay 34 = .ok (.if_icmp .ne 13, 3) := by decide +kernel
theorem dX8_lay_37 : decode cX8_lay 37 = .ok (.iload_n 3, 1) := by decide +kernel
theorem dX8_lay_38 : decode cX8_lay 38 = .ok (.invokestatic 220, 3) := by decide +kernel
theorem dX8_lay_41 : decode cX8_lay 41 = .ok (.ifCond .ne 6, 3) := by decide +kernel
theorem dX8_lay_44 : decode cX8_lay 44 = .ok (.ldc 78, 2) := by decide +kernel
theorem dX8_lay_46 : decode cX8_lay 46 = .ok (.ireturn, 1) := by decide +kernel
theorem dX8_lay_47 : decode cX8_lay 47 = .ok (.iload_n 2, 1) := by decide +kernel
theorem dX8_lay_48 : decode cX8_lay 48 = .ok (.iconst 2, 1) := by decide +kernel
theorem dX8_lay_49 : decode cX8_lay 49 = .ok (.if_icmp .ne 18, 3) := by decide +kernel
theorem dX8_lay_52 : decode cX8_lay 52 = .ok (.aload_n 0, 1) := by decide +kernel
theorem dX8_lay_53 : decode cX8_lay 53 = .ok (.getfield 51, 3) := by decide +kernel
theorem dX8_lay_56 : decode cX8_lay 56 = .ok (.iload_n 3, 1) := by decide +kernel
theorem dX8_lay_57 : decode cX8_lay 57 = .ok (.aaload, 1) := by decide +kernel
theorem dX8_lay_58 : decode cX8_lay 58 = .ok (.invokevirtual 223, 3) := by decide +kernel
theorem dX8_lay_61 : decode cX8_lay 61 = .ok (.ifCond .eq 6, 3) := by decide +kernel
theorem dX8_lay_64 : decode cX8_lay 64 = .ok (.ldc 227, 2) := by decide +kernel
theorem dX8_lay_66 : decode cX8_lay 66 = .ok (.ireturn, 1) := by decide +kernel
theorem dX8_lay_67 : decode cX8_lay 67 = .ok (.aload_n 0, 1) := by decide +kernel
theorem dX8_lay_68 : decode cX8_lay 68 = .ok (.getfield 57, 3) := by decide +kernel
theorem dX8_lay_71 : decode cX8_lay 71 = .ok (.iload_n 1, 1) := by decide +kernel
theorem dX8_lay_72 : decode cX8_lay 72 = .ok (.aaload, 1) := by decide +kernel
theorem dX8_lay_73 : decode cX8_lay 73 = .ok (.astore 4, 2) := by decide +kernel
theorem dX8_lay_75 : decode cX8_lay 75 = .ok (.aload 4, 2) := by decide +kernel
theorem dX8_lay_77 : decode cX8_lay 77 = .ok (.getfield 317, 3) := by decide +kernel
theorem dX8_lay_80 : decode cX8_lay 80 = .ok (.istore 5, 2) := by decide +kernel
theorem dX8_lay_82 : decode cX8_lay 82 = .ok (.aload 4, 2) := by decide +kernel
theorem dX8_lay_84 : decode cX8_lay 84 = .ok (.iload_n 2, 1) := by decide +kernel
theorem dX8_lay_85 : decode cX8_lay 85 = .ok (.putfield 317, 3) := by decide +kernel
theorem dX8_lay_88 : decode cX8_lay 88 = .ok (.iload_n 2, 1) := by decide +kernel
theorem dX8_lay_89 : decode cX8_lay 89 = .ok (.lookupswitch 64 #[(1, 27), (2, 47)], 27) := by decide +kernel
theorem dX8_lay_116 : decode cX8_lay 116 = .ok (.aload 4, 2) := by decide +kernel
theorem dX8_lay_118 : decode cX8_lay 118 = .ok (.getfield 320, 3) := by decide +kernel
theorem dX8_lay_121 : decode cX8_lay 121 = .ok (.aload_n 0, 1) := by decide +kernel
theorem dX8_lay_122 : decode cX8_lay 122 = .ok (.getfield 10, 3) := by decide +kernel
theorem dX8_lay_125 : decode cX8_lay 125 = .ok (.getfield 91, 3) := by decide +kernel
theorem dX8_lay_128 : decode cX8_lay 128 = .ok (.iload_n 3, 1) := by decide +kernel
theorem dX8_lay_129 : decode cX8_lay 129 = .ok (.aaload, 1) := by decide +kernel
theorem dX8_lay_130 : decode cX8_lay 130 = .ok (.invokevirtual 324, 3) := by decide +kernel
theorem dX8_lay_133 : decode cX8_lay 133 = .ok (.goto 26, 3) := by decide +kernel
theorem dX8_lay_136 : decode cX8_lay 136 = .ok (.aload 4, 2) := by decide +kernel
theorem dX8_lay_138 : decode cX8_lay 138 = .ok (.getfield 327, 3) := by decide +kernel
theorem dX8_lay_141 : decode cX8_lay 141 = .ok (.aload_n 0, 1) := by decide +kernel
theorem dX8_lay_142 : decode cX8_lay 142 = .ok (.getfield 51, 3) := by decide +kernel
theorem dX8_lay_145 : decode cX8_lay 145 = .ok (.iload_n 3, 1) := by decide +kernel
theorem dX8_lay_146 : decode cX8_lay 146 = .ok (.aaload, 1) := by decide +kernel
theorem dX8_lay_147 : decode cX8_lay 147 = .ok (.invokevirtual 331, 3) := by decide +kernel
theorem dX8_lay_150 : decode cX8_lay 150 = .ok (.goto 9, 3) := by decide +kernel
theorem dX8_lay_153 : decode cX8_lay 153 = .ok (.aload 4, 2) := by decide +kernel
theorem dX8_lay_155 : decode cX8_lay 155 = .ok (.iload_n 3, 1) := by decide +kernel
theorem dX8_lay_156 : decode cX8_lay 156 = .ok (.putfield 333, 3) := by decide +kernel
theorem dX8_lay_159 : decode cX8_lay 159 = .ok (.iload 5, 2) := by decide +kernel
theorem dX8_lay_161 : decode cX8_lay 161 = .ok (.ireturn, 1) := by decide +kernel
theorem dX8_ask_0 : decode cX8_ask 0 = .ok (.iload_n 1, 1) := by decide +kernel
theorem dX8_ask_1 : decode cX8_ask 1 = .ok (.invokestatic 314, 3) := by decide +kernel
theorem dX8_ask_4 : decode cX8_ask 4 = .ok (.ifCond .eq 12, 3) := by decide +kernel
theorem dX8_ask_7 : decode cX8_ask 7 = .ok (.iload_n 2, 1) := by decide +kernel
theorem dX8_ask_8 : decode cX8_ask 8 = .ok (.iconst 0, 1) := by decide +kernel
theorem dX8_ask_9 : decode cX8_ask 9 = .ok (.iconst 5, 1) := by decide +kernel
theorem dX8_ask_10 : decode cX8_ask 10 = .ok (.invokestatic 74, 3) := by decide +kernel
theorem dX8_ask_13 : decode cX8_ask 13 = .ok (.ifCond .ne 6, 3) := by decide +kernel
theorem dX8_ask_16 : decode cX8_ask 16 = .ok (.ldc 78, 2) := by decide +kernel
theorem dX8_ask_18 : decode cX8_ask 18 = .ok (.ireturn, 1) := by decide +kernel
theorem dX8_ask_19 : decode cX8_ask 19 = .ok (.aload_n 0, 1) := by decide +kernel
theorem dX8_ask_20 : decode cX8_ask 20 = .ok (.getfield 57, 3) := by decide +kernel
theorem dX8_ask_23 : decode cX8_ask 23 = .ok (.iload_n 1, 1) := by decide +kernel
theorem dX8_ask_24 : decode cX8_ask 24 = .ok (.aaload, 1) := by decide +kernel
theorem dX8_ask_25 : decode cX8_ask 25 = .ok (.astore_n 3, 1) := by decide +kernel
theorem dX8_ask_26 : decode cX8_ask 26 = .ok (.aload_n 3, 1) := by decide +kernel
theorem dX8_ask_27 : decode cX8_ask 27 = .ok (.getfield 317, 3) := by decide +kernel
theorem dX8_ask_30 : decode cX8_ask 30 = .ok (.ifCond .ne 6, 3) := by decide +kernel
theorem dX8_ask_33 : decode cX8_ask 33 = .ok (.ldc 227, 2) := by decide +kernel
theorem dX8_ask_35 : decode cX8_ask 35 = .ok (.ireturn, 1) := by decide +kernel
theorem dX8_ask_36 : decode cX8_ask 36 = .ok (.aload_n 3, 1) := by decide +kernel
theorem dX8_ask_37 : decode cX8_ask 37 = .ok (.getfield 317, 3) := by decide +kernel
theorem dX8_ask_40 : decode cX8_ask 40 = .ok (.iconst 1, 1) := by decide +kernel
theorem dX8_ask_41 : decode cX8_ask 41 = .ok (.if_icmp .ne 14, 3) := by decide +kernel
theorem dX8_ask_44 : decode cX8_ask 44 = .ok (.aload_n 3, 1) := by decide +kernel
theorem dX8_ask_45 : decode cX8_ask 45 = .ok (.getfield 320, 3) := by decide +kernel
theorem dX8_ask_48 : decode cX8_ask 48 = .ok (.iload_n 2, 1) := by decide +kernel
theorem dX8_ask_49 : decode cX8_ask 49 = .ok (.invokevirtual 126, 3) := by decide +kernel
theorem dX8_ask_52 : decode cX8_ask 52 = .ok (.ifCond .ne 6, 3) := by decide +kernel
theorem dX8_ask_55 : decode cX8_ask 55 = .ok (.ldc 129, 2) := by decide +kernel
theorem dX8_ask_57 : decode cX8_ask 57 = .ok (.ireturn, 1) := by decide +kernel
theorem dX8_ask_58 : decode cX8_ask 58 = .ok (.aload_n 3, 1) := by decide +kernel
theorem dX8_ask_59 : decode cX8_ask 59 = .ok (.getfield 320, 3) := by decide +kernel
theorem dX8_ask_62 : decode cX8_ask 62 = .ok (.invokevirtual 119, 3) := by decide +kernel
theorem dX8_ask_65 : decode cX8_ask 65 = .ok (.ireturn, 1) := by decide +kernel
theorem dX8_item_0 : decode cX8_item 0 = .ok (.iload_n 1, 1) := by decide +kernel
theorem dX8_item_1 : decode cX8_item 1 = .ok (.invokestatic 314, 3) := by decide +kernel
theorem dX8_item_4 : decode cX8_item 4 = .ok (.ifCond .ne 6, 3) := by decide +kernel
theorem dX8_item_7 : decode cX8_item 7 = .ok (.ldc 78, 2) := by decide +kernel
theorem dX8_item_9 : decode cX8_item 9 = .ok (.ireturn, 1) := by decide +kernel
theorem dX8_item_10 : decode cX8_item 10 = .ok (.aload_n 0, 1) := by decide +kernel
theorem dX8_item_11 : decode cX8_item 11 = .ok (.getfield 57, 3) := by decide +kernel
theorem dX8_item_14 : decode cX8_item 14 = .ok (.iload_n 1, 1) := by decide +kernel
theorem dX8_item_15 : decode cX8_item 15 = .ok (.aaload, 1) := by decide +kernel
theorem dX8_item_16 : decode cX8_item 16 = .ok (.astore_n 3, 1) := by decide +kernel
theorem dX8_item_17 : decode cX8_item 17 = .ok (.aload_n 3, 1) := by decide +kernel
theorem dX8_item_18 : decode cX8_item 18 = .ok (.getfield 317, 3) := by decide +kernel
theorem dX8_item_21 : decode cX8_item 21 = .ok (.ifCond .ne 6, 3) := by decide +kernel
theorem dX8_item_24 : decode cX8_item 24 = .ok (.ldc 227, 2) := by decide +kernel
theorem dX8_item_26 : decode cX8_item 26 = .ok (.ireturn, 1) := by decide +kernel
theorem dX8_item_27 : decode cX8_item 27 = .ok (.aload_n 3, 1) := by decide +kernel
theorem dX8_item_28 : decode cX8_item 28 = .ok (.getfield 317, 3) := by decide +kernel
theorem dX8_item_31 : decode cX8_item 31 = .ok (.iconst 2, 1) := by decide +kernel
theorem dX8_item_32 : decode cX8_item 32 = .ok (.if_icmp .eq 6, 3) := by decide +kernel
theorem dX8_item_35 : decode cX8_item 35 = .ok (.ldc 129, 2) := by decide +kernel
theorem dX8_item_37 : decode cX8_item 37 = .ok (.ireturn, 1) := by decide +kernel
theorem dX8_item_38 : decode cX8_item 38 = .ok (.aload_n 3, 1) := by decide +kernel
theorem dX8_item_39 : decode cX8_item 39 = .ok (.getfield 327, 3) := by decide +kernel
theorem dX8_item_42 : decode cX8_item 42 = .ok (.iload_n 2, 1) := by decide +kernel
theorem dX8_item_43 : decode cX8_item 43 = .ok (.invokevirtual 293, 3) := by decide +kernel
theorem dX8_item_46 : decode cX8_item 46 = .ok (.ifCond .ne 7, 3) := by decide +kernel
theorem dX8_item_49 : decode cX8_item 49 = .ok (.ldc_w 294, 3) := by decide +kernel
theorem dX8_item_52 : decode cX8_item 52 = .ok (.ireturn, 1) := by decide +kernel
theorem dX8_item_53 : decode cX8_item 53 = .ok (.aload_n 3, 1) := by decide +kernel
theorem dX8_item_54 : decode cX8_item 54 = .ok (.getfield 327, 3) := by decide +kernel
theorem dX8_item_57 : decode cX8_item 57 = .ok (.iload_n 2, 1) := by decide +kernel
theorem dX8_item_58 : decode cX8_item 58 = .ok (.invokevirtual 239, 3) := by decide +kernel
theorem dX8_item_61 : decode cX8_item 61 = .ok (.ifCond .eq 15, 3) := by decide +kernel
theorem dX8_item_64 : decode cX8_item 64 = .ok (.aload_n 3, 1) := by decide +kernel
theorem dX8_item_65 : decode cX8_item 65 = .ok (.getfield 327, 3) := by decide +kernel
theorem dX8_item_68 : decode cX8_item 68 = .ok (.getfield 242, 3) := by decide +kernel
theorem dX8_item_71 : decode cX8_item 71 = .ok (.iload_n 2, 1) := by decide +kernel
theorem dX8_item_72 : decode cX8_item 72 = .ok (.iaload, 1) := by decide +kernel
theorem dX8_item_73 : decode cX8_item 73 = .ok (.goto 5, 3) := by decide +kernel
theorem dX8_item_76 : decode cX8_item 76 = .ok (.ldc 129, 2) := by decide +kernel
theorem dX8_item_78 : decode cX8_item 78 = .ok (.ireturn, 1) := by decide +kernel
theorem dX8_rest_0 : decode cX8_rest 0 = .ok (.iload_n 1, 1) := by decide +kernel
theorem dX8_rest_1 : decode cX8_rest 1 = .ok (.invokestatic 314, 3) := by decide +kernel
theorem dX8_rest_4 : decode cX8_rest 4 = .ok (.ifCond .ne 6, 3) := by decide +kernel
theorem dX8_rest_7 : decode cX8_rest 7 = .ok (.ldc 78, 2) := by decide +kernel
theorem dX8_rest_9 : decode cX8_rest 9 = .ok (.ireturn, 1) := by decide +kernel
theorem dX8_rest_10 : decode cX8_rest 10 = .ok (.aload_n 0, 1) := by decide +kernel
theorem dX8_rest_11 : decode cX8_rest 11 = .ok (.getfield 57, 3) := by decide +kernel
theorem dX8_rest_14 : decode cX8_rest 14 = .ok (.iload_n 1, 1) := by decide +kernel
theorem dX8_rest_15 : decode cX8_rest 15 = .ok (.aaload, 1) := by decide +kernel
theorem dX8_rest_16 : decode cX8_rest 16 = .ok (.astore_n 3, 1) := by decide +kernel
theorem dX8_rest_17 : decode cX8_rest 17 = .ok (.aload_n 3, 1) := by decide +kernel
theorem dX8_rest_18 : decode cX8_rest 18 = .ok (.getfield 317, 3) := by decide +kernel
theorem dX8_rest_21 : decode cX8_rest 21 = .ok (.ifCond .ne 6, 3) := by decide +kernel
theorem dX8_rest_24 : decode cX8_rest 24 = .ok (.ldc 227, 2) := by decide +kernel
theorem dX8_rest_26 : decode cX8_rest 26 = .ok (.ireturn, 1) := by decide +kernel
theorem dX8_rest_27 : decode cX8_rest 27 = .ok (.aload_n 3, 1) := by decide +kernel
theorem dX8_rest_28 : decode cX8_rest 28 = .ok (.getfield 317, 3) := by decide +kernel
theorem dX8_rest_31 : decode cX8_rest 31 = .ok (.iconst 3, 1) := by decide +kernel
theorem dX8_rest_32 : decode cX8_rest 32 = .ok (.if_icmp .eq 6, 3) := by decide +kernel
theorem dX8_rest_35 : decode cX8_rest 35 = .ok (.ldc 129, 2) := by decide +kernel
theorem dX8_rest_37 : decode cX8_rest 37 = .ok (.ireturn, 1) := by decide +kernel
theorem dX8_rest_38 : decode cX8_rest 38 = .ok (.iload_n 2, 1) := by decide +kernel
theorem dX8_rest_39 : decode cX8_rest 39 = .ok (.ifCond .ne 8, 3) := by decide +kernel
theorem dX8_rest_42 : decode cX8_rest 42 = .ok (.ldc 140, 2) := by decide +kernel
theorem dX8_rest_44 : decode cX8_rest 44 = .ok (.goto 9, 3) := by decide +kernel
theorem dX8_rest_47 : decode cX8_rest 47 = .ok (.aload_n 3, 1) := by decide +kernel
theorem dX8_rest_48 : decode cX8_rest 48 = .ok (.getfield 333, 3) := by decide +kernel
theorem dX8_rest_51 : decode cX8_rest 51 = .ok (.iload_n 2, 1) := by decide +kernel
theorem dX8_rest_52 : decode cX8_rest 52 = .ok (.irem, 1) := by decide +kernel
theorem dX8_rest_53 : decode cX8_rest 53 = .ok (.ireturn, 1) := by decide +kernel
theorem dX8_tell_0 : decode cX8_tell 0 = .ok (.aload_n 0, 1) := by decide +kernel
theorem dX8_tell_1 : decode cX8_tell 1 = .ok (.getfield 65, 3) := by decide +kernel
theorem dX8_tell_4 : decode cX8_tell 4 = .ok (.bipush 60, 2) := by decide +kernel
theorem dX8_tell_6 : decode cX8_tell 6 = .ok (.if_icmp .lt 6, 3) := by decide +kernel
theorem dX8_tell_9 : decode cX8_tell 9 = .ok (.ldc 82, 2) := by decide +kernel
theorem dX8_tell_11 : decode cX8_tell 11 = .ok (.ireturn, 1) := by decide +kernel
theorem dX8_tell_12 : decode cX8_tell 12 = .ok (.aload_n 0, 1) := by decide +kernel
theorem dX8_tell_13 : decode cX8_tell 13 = .ok (.getfield 61, 3) := by decide +kernel
theorem dX8_tell_16 : decode cX8_tell 16 = .ok (.aload_n 0, 1) := by decide +kernel
theorem dX8_tell_17 : decode cX8_tell 17 = .ok (.getfield 65, 3) := by decide +kernel
theorem dX8_tell_20 : decode cX8_tell 20 = .ok (.iload_n 1, 1) := by decide +kernel
theorem dX8_tell_21 : decode cX8_tell 21 = .ok (.iastore, 1) := by decide +kernel
theorem dX8_tell_22 : decode cX8_tell 22 = .ok (.aload_n 0, 1) := by decide +kernel
theorem dX8_tell_23 : decode cX8_tell 23 = .ok (.dup, 1) := by decide +kernel
theorem dX8_tell_24 : decode cX8_tell 24 = .ok (.getfield 65, 3) := by decide +kernel
theorem dX8_tell_27 : decode cX8_tell 27 = .ok (.iconst 1, 1) := by decide +kernel
theorem dX8_tell_28 : decode cX8_tell 28 = .ok (.iadd, 1) := by decide +kernel
theorem dX8_tell_29 : decode cX8_tell 29 = .ok (.putfield 65, 3) := by decide +kernel
theorem dX8_tell_32 : decode cX8_tell 32 = .ok (.aload_n 0, 1) := by decide +kernel
theorem dX8_tell_33 : decode cX8_tell 33 = .ok (.getfield 65, 3) := by decide +kernel
theorem dX8_tell_36 : decode cX8_tell 36 = .ok (.ireturn, 1) := by decide +kernel
theorem dX8_check_0 : decode cX8_check 0 = .ok (.aload_n 0, 1) := by decide +kernel
theorem dX8_check_1 : decode cX8_check 1 = .ok (.getfield 65, 3) := by decide +kernel
theorem dX8_check_4 : decode cX8_check 4 = .ok (.istore_n 2, 1) := by decide +kernel
theorem dX8_check_5 : decode cX8_check 5 = .ok (.aload_n 0, 1) := by decide +kernel
theorem dX8_check_6 : decode cX8_check 6 = .ok (.iconst 0, 1) := by decide +kernel
theorem dX8_check_7 : decode cX8_check 7 = .ok (.putfield 65, 3) := by decide +kernel
theorem dX8_check_10 : decode cX8_check 10 = .ok (.iload_n 1, 1) := by decide +kernel
theorem dX8_check_11 : decode cX8_check 11 = .ok (.iconst 1, 1) := by decide +kernel
theorem dX8_check_12 : decode cX8_check 12 = .ok (.bipush 30, 2) := by decide +kernel
theorem dX8_check_14 : decode cX8_check 14 = .ok (.invokestatic 74, 3) := by decide +kernel
theorem dX8_check_17 : decode cX8_check 17 = .ok (.ifCond .ne 6, 3) := by decide +kernel
theorem dX8_check_20 : decode cX8_check 20 = .ok (.ldc 78, 2) := by decide +kernel
theorem dX8_check_22 : decode cX8_check 22 = .ok (.ireturn, 1) := by decide +kernel
theorem dX8_check_23 : decode cX8_check 23 = .ok (.aload_n 0, 1) := by decide +kernel
theorem dX8_check_24 : decode cX8_check 24 = .ok (.getfield 22, 3) := by decide +kernel
theorem dX8_check_27 : decode cX8_check 27 = .ok (.ifCond .ne 6, 3) := by decide +kernel
theorem dX8_check_30 : decode cX8_check 30 = .ok (.ldc 140, 2) := by decide +kernel
theorem dX8_check_32 : decode cX8_check 32 = .ok (.ireturn, 1) := by decide +kernel
theorem dX8_check_33 : decode cX8_check 33 = .ok (.aload_n 0, 1) := by decide +kernel
theorem dX8_check_34 : decode cX8_check 34 = .ok (.getfield 19, 3) := by decide +kernel
theorem dX8_check_37 : decode cX8_check 37 = .ok (.aload_n 0, 1) := by decide +kernel
theorem dX8_check_38 : decode cX8_check 38 = .ok (.getfield 16, 3) := by decide +kernel
theorem dX8_check_41 : decode cX8_check 41 = .ok (.invokevirtual 213, 3) := by decide +kernel
theorem dX8_check_44 : decode cX8_check 44 = .ok (.iload_n 1, 1) := by decide +kernel
theorem dX8_check_45 : decode cX8_check 45 = .ok (.sipush 9999, 3) := by decide +kernel
theorem dX8_check_48 : decode cX8_check 48 = .ok (.aload_n 0, 1) := by decide +kernel
theorem dX8_check_49 : decode cX8_check 49 = .ok (.getfield 16, 3) := by decide +kernel
theorem dX8_check_52 : decode cX8_check 52 = .ok (.getfield 165, 3) := by decide +kernel
theorem dX8_check_55 : decode cX8_check 55 = .ok (.isub, 1) := by decide +kernel
theorem dX8_check_56 : decode cX8_check 56 = .ok (.invokestatic 154, 3) := by decide +kernel
theorem dX8_check_59 : decode cX8_check 59 = .ok (.istore_n 3, 1) := by decide +kernel
theorem dX8_check_60 : decode cX8_check 60 = .ok (.iconst 0, 1) := by decide +kernel
theorem dX8_check_61 : decode cX8_check 61 = .ok (.istore 4, 2) := by decide +kernel
theorem dX8_check_63 : decode cX8_check 63 = .ok (.iconst 0, 1) := by decide +kernel
theorem dX8_check_64 : decode cX8_check 64 = .ok (.istore 5, 2) := by decide +kernel
theorem dX8_check_66 : decode cX8_check 66 = .ok (.iload 5, 2) := by decide +kernel
theorem dX8_check_68 : decode cX8_check 68 = .ok (.iload_n 3, 1) := by decide +kernel
theorem dX8_check_69 : decode cX8_check 69 = .ok (.if_icmp .ge 66, 3) := by decide +kernel
theorem dX8_check_72 : decode cX8_check 72 = .ok (.aload_n 0, 1) := by decide +kernel
theorem dX8_check_73 : decode cX8_check 73 = .ok (.getfield 19, 3) := by decide +kernel
theorem dX8_check_76 : decode cX8_check 76 = .ok (.invokevirtual 217, 3) := by decide +kernel
theorem dX8_check_79 : decode cX8_check 79 = .ok (.aload_n 0, 1) := by decide +kernel
theorem dX8_check_80 : decode cX8_check 80 = .ok (.iload 4, 2) := by decide +kernel
theorem dX8_check_82 : decode cX8_check 82 = .ok (.iload_n 2, 1) := by decide +kernel
theorem dX8_check_83 : decode cX8_check 83 = .ok (.aload_n 0, 1) := by decide +kernel
theorem dX8_check_84 : decode cX8_check 84 = .ok (.getfield 19, 3) := by decide +kernel
theorem dX8_check_87 : decode cX8_check 87 = .ok (.getfield 141, 3) := by decide +kernel
theorem dX8_check_90 : decode cX8_check 90 = .ok (.invokevirtual 336, 3) := by decide +kernel
theorem dX8_check_93 : decode cX8_check 93 = .ok (.ifCond .ne 8, 3) := by decide +kernel
theorem dX8_check_96 : decode cX8_check 96 = .ok (.iconst 1, 1) := by decide +kernel
theorem dX8_check_97 : decode cX8_check 97 = .ok (.iload 4, 2) := by decide +kernel
theorem dX8_check_99 : decode cX8_check 99 = .ok (.iadd, 1) := by decide +kernel
theorem dX8_check_100 : decode cX8_check 100 = .ok (.ireturn, 1) := by decide +kernel
theorem dX8_check_101 : decode cX8_check 101 = .ok (.iinc 4 1, 3) := by decide +kernel
theorem dX8_check_104 : decode cX8_check 104 = .ok (.aload_n 0, 1) := by decide +kernel
theorem dX8_check_105 : decode cX8_check 105 = .ok (.iload 4, 2) := by decide +kernel
theorem dX8_check_107 : decode cX8_check 107 = .ok (.iload_n 2, 1) := by decide +kernel
theorem dX8_check_108 : decode cX8_check 108 = .ok (.aload_n 0, 1) := by decide +kernel
theorem dX8_check_109 : decode cX8_check 109 = .ok (.getfield 19, 3) := by decide +kernel
theorem dX8_check_112 : decode cX8_check 112 = .ok (.invokevirtual 181, 3) := by decide +kernel
theorem dX8_check_115 : decode cX8_check 115 = .ok (.invokevirtual 336, 3) := by decide +kernel
theorem dX8_check_118 : decode cX8_check 118 = .ok (.ifCond .ne 8, 3) := by decide +kernel
theorem dX8_check_121 : decode cX8_check 121 = .ok (.iconst 1, 1) := by decide +kernel
theorem dX8_check_122 : decode cX8_check 122 = .ok (.iload 4, 2) := by decide +kernel
theorem dX8_check_124 : decode cX8_check 124 = .ok (.iadd, 1) := by decide +kernel
theorem dX8_check_125 : decode cX8_check 125 = .ok (.ireturn, 1) := by decide +kernel
theorem dX8_check_126 : decode cX8_check 126 = .ok (.iinc 4 1, 3) := by decide +kernel
theorem dX8_check_129 : decode cX8_check 129 = .ok (.iinc 5 1, 3) := by decide +kernel
theorem dX8_check_132 : decode cX8_check 132 = .ok (.goto (-66), 3) := by decide +kernel
theorem dX8_check_135 : decode cX8_check 135 = .ok (.iload_n 2, 1) := by decide +kernel
theorem dX8_check_136 : decode cX8_check 136 = .ok (.iload 4, 2) := by decide +kernel
theorem dX8_check_138 : decode cX8_check 138 = .ok (.if_icmp .le 10, 3) := by decide +kernel
theorem dX8_check_141 : decode cX8_check 141 = .ok (.iconst 1, 1) := by decide +kernel
theorem dX8_check_142 : decode cX8_check 142 = .ok (.iload 4, 2) := by decide +kernel
theorem dX8_check_144 : decode cX8_check 144 = .ok (.iadd, 1) := by decide +kernel
theorem dX8_check_145 : decode cX8_check 145 = .ok (.goto 4, 3) := by decide +kernel
theorem dX8_check_148 : decode cX8_check 148 = .ok (.iconst 0, 1) := by decide +kernel
theorem dX8_check_149 : decode cX8_check 149 = .ok (.ireturn, 1) := by decide +kernel
theorem dX8_isTold_0 : decode cX8_isTold 0 = .ok (.iload_n 1, 1) := by decide +kernel
theorem dX8_isTold_1 : decode cX8_isTold 1 = .ok (.iload_n 2, 1) := by decide +kernel
theorem dX8_isTold_2 : decode cX8_isTold 2 = .ok (.if_icmp .ge 23, 3) := by decide +kernel
theorem dX8_isTold_5 : decode cX8_isTold 5 = .ok (.iload_n 1, 1) := by decide +kernel
theorem dX8_isTold_6 : decode cX8_isTold 6 = .ok (.bipush 60, 2) := by decide +kernel
theorem dX8_isTold_8 : decode cX8_isTold 8 = .ok (.if_icmp .ge 17, 3) := by decide +kernel
theorem dX8_isTold_11 : decode cX8_isTold 11 = .ok (.aload_n 0, 1) := by decide +kernel
theorem dX8_isTold_12 : decode cX8_isTold 12 = .ok (.getfield 61, 3) := by decide +kernel
theorem dX8_isTold_15 : decode cX8_isTold 15 = .ok (.iload_n 1, 1) := by decide +kernel
theorem dX8_isTold_16 : decode cX8_isTold 16 = .ok (.iaload, 1) := by decide +kernel
theorem dX8_isTold_17 : decode cX8_isTold 17 = .ok (.iload_n 3, 1) := by decide +kernel
theorem dX8_isTold_18 : decode cX8_isTold 18 = .ok (.if_icmp .ne 7, 3) := by decide +kernel
theorem dX8_isTold_21 : decode cX8_isTold 21 = .ok (.iconst 1, 1) := by decide +kernel
theorem dX8_isTold_22 : decode cX8_isTold 22 = .ok (.goto 4, 3) := by decide +kernel
theorem dX8_isTold_25 : decode cX8_isTold 25 = .ok (.iconst 0, 1) := by decide +kernel
theorem dX8_isTold_26 : decode cX8_isTold 26 = .ok (.ireturn, 1) := by decide +kernel
theorem dX8_keep_0 : decode cX8_keep 0 = .ok (.aload_n 0, 1) := by decide +kernel
theorem dX8_keep_1 : decode cX8_keep 1 = .ok (.getfield 16, 3) := by decide +kernel
theorem dX8_keep_4 : decode cX8_keep 4 = .ok (.aload_n 0, 1) := by decide +kernel
theorem dX8_keep_5 : decode cX8_keep 5 = .ok (.getfield 10, 3) := by decide +kernel
theorem dX8_keep_8 : decode cX8_keep 8 = .ok (.invokevirtual 213, 3) := by decide +kernel
theorem dX8_keep_11 : decode cX8_keep 11 = .ok (.aload_n 0, 1) := by decide +kernel
theorem dX8_keep_12 : decode cX8_keep 12 = .ok (.iconst 1, 1) := by decide +kernel
theorem dX8_keep_13 : decode cX8_keep 13 = .ok (.putfield 22, 3) := by decide +kernel
theorem dX8_keep_16 : decode cX8_keep 16 = .ok (.aload_n 0, 1) := by decide +kernel
theorem dX8_keep_17 : decode cX8_keep 17 = .ok (.getfield 10, 3) := by decide +kernel
theorem dX8_keep_20 : decode cX8_keep 20 = .ok (.getfield 79, 3) := by decide +kernel
theorem dX8_keep_23 : decode cX8_keep 23 = .ok (.ireturn, 1) := by decide +kernel
theorem dX8_back_0 : decode cX8_back 0 = .ok (.aload_n 0, 1) := by decide +kernel
theorem dX8_back_1 : decode cX8_back 1 = .ok (.getfield 22, 3) := by decide +kernel
theorem dX8_back_4 : decode cX8_back 4 = .ok (.ifCond .ne 6, 3) := by decide +kernel
theorem dX8_back_7 : decode cX8_back 7 = .ok (.ldc 140, 2) := by decide +kernel
theorem dX8_back_9 : decode cX8_back 9 = .ok (.ireturn, 1) := by decide +kernel
theorem dX8_back_10 : decode cX8_back 10 = .ok (.aload_n 0, 1) := by decide +kernel
theorem dX8_back_11 : decode cX8_back 11 = .ok (.getfield 10, 3) := by decide +kernel
theorem dX8_back_14 : decode cX8_back 14 = .ok (.aload_n 0, 1) := by decide +kernel
theorem dX8_back_15 : decode cX8_back 15 = .ok (.getfield 16, 3) := by decide +kernel
theorem dX8_back_18 : decode cX8_back 18 = .ok (.invokevirtual 213, 3) := by decide +kernel
theorem dX8_back_21 : decode cX8_back 21 = .ok (.aload_n 0, 1) := by decide +kernel
theorem dX8_back_22 : decode cX8_back 22 = .ok (.getfield 10, 3) := by decide +kernel
theorem dX8_back_25 : decode cX8_back 25 = .ok (.getfield 79, 3) := by decide +kernel
theorem dX8_back_28 : decode cX8_back 28 = .ok (.ireturn, 1) := by decide +kernel
theorem dX8_count_0 : decode cX8_count 0 = .ok (.iload_n 1, 1) := by decide +kernel
theorem dX8_count_1 : decode cX8_count 1 = .ok (.tableswitch 96 0 6 #[43, 51, 59, 67, 75, 80, 88], 43) := by decide +kernel
theorem dX8_count_44 : decode cX8_count 44 = .ok (.aload_n 0, 1) := by decide +kernel
theorem dX8_count_45 : decode cX8_count 45 = .ok (.getfield 10, 3) := by decide +kernel
theorem dX8_count_48 : decode cX8_count 48 = .ok (.getfield 79, 3) := by decide +kernel
theorem dX8_count_51 : decode cX8_count 51 = .ok (.ireturn, 1) := by decide +kernel
theorem dX8_count_52 : decode cX8_count 52 = .ok (.aload_n 0, 1) := by decide +kernel
theorem dX8_count_53 : decode cX8_count 53 = .ok (.getfield 10, 3) := by decide +kernel
theorem dX8_count_56 : decode cX8_count 56 = .ok (.getfield 165, 3) := by decide +kernel
theorem dX8_count_59 : decode cX8_count 59 = .ok (.ireturn, 1) := by decide +kernel
theorem dX8_count_60 : decode cX8_count 60 = .ok (.aload_n 0, 1) := by decide +kernel
theorem dX8_count_61 : decode cX8_count 61 = .ok (.getfield 10, 3) := by decide +kernel
theorem dX8_count_64 : decode cX8_count 64 = .ok (.invokevirtual 148, 3) := by decide +kernel
theorem dX8_count_67 : decode cX8_count 67 = .ok (.ireturn, 1) := by decide +kernel
theorem dX8_count_68 : decode cX8_count 68 = .ok (.aload_n 0, 1) := by decide +kernel
theorem dX8_count_69 : decode cX8_count 69 = .ok (.getfield 10, 3) := by decide +kernel
theorem dX8_count_72 : decode cX8_count 72 = .ok (.getfield 264, 3) := by decide +kernel
theorem dX8_count_75 : decode cX8_count 75 = .ok (.ireturn, 1) := by decide +kernel
theorem dX8_count_76 : decode cX8_count 76 = .ok (.aload_n 0, 1) := by decide +kernel
theorem dX8_count_77 : decode cX8_count 77 = .ok (.getfield 65, 3) := by decide +kernel
theorem dX8_count_80 : decode cX8_count 80 = .ok (.ireturn, 1) := by decide +kernel
theorem dX8_count_81 : decode cX8_count 81 = .ok (.aload_n 0, 1) := by decide +kernel
theorem dX8_count_82 : decode cX8_count 82 = .ok (.getfield 36, 3) := by decide +kernel
theorem dX8_count_85 : decode cX8_count 85 = .ok (.getfield 257, 3) := by decide +kernel
theorem dX8_count_88 : decode cX8_count 88 = .ok (.ireturn, 1) := by decide +kernel
theorem dX8_count_89 : decode cX8_count 89 = .ok (.aload_n 0, 1) := by decide +kernel
theorem dX8_count_90 : decode cX8_count 90 = .ok (.getfield 10, 3) := by decide +kernel
theorem dX8_count_93 : decode cX8_count 93 = .ok (.getfield 162, 3) := by decide +kernel
theorem dX8_count_96 : decode cX8_count 96 = .ok (.ireturn, 1) := by decide +kernel
theorem dX8_count_97 : decode cX8_count 97 = .ok (.ldc 78, 2) := by decide +kernel
theorem dX8_count_99 : decode cX8_count 99 = .ok (.ireturn, 1) := by decide +kernel
theorem dX8_isWithin_0 : decode cX8_isWithin 0 = .ok (.iload_n 0, 1) := by decide +kernel
theorem dX8_isWithin_1 : decode cX8_isWithin 1 = .ok (.iload_n 1, 1) := by decide +kernel
theorem dX8_isWithin_2 : decode cX8_isWithin 2 = .ok (.if_icmp .lt 12, 3) := by decide +kernel
theorem dX8_isWithin_5 : decode cX8_isWithin 5 = .ok (.iload_n 0, 1) := by decide +kernel
theorem dX8_isWithin_6 : decode cX8_isWithin 6 = .ok (.iload_n 2, 1) := by decide +kernel
theorem dX8_isWithin_7 : decode cX8_isWithin 7 = .ok (.if_icmp .gt 7, 3) := by decide +kernel
theorem dX8_isWithin_10 : decode cX8_isWithin 10 = .ok (.iconst 1, 1) := by decide +kernel
theorem dX8_isWithin_11 : decode cX8_isWithin 11 = .ok (.goto 4, 3) := by decide +kernel
theorem dX8_isWithin_14 : decode cX8_isWithin 14 = .ok (.iconst 0, 1) := by decide +kernel
theorem dX8_isWithin_15 : decode cX8_isWithin 15 = .ok (.ireturn, 1) := by decide +kernel
theorem dX8_isSheet_0 : decode cX8_isSheet 0 = .ok (.iload_n 0, 1) := by decide +kernel
theorem dX8_isSheet_1 : decode cX8_isSheet 1 = .ok (.iconst 0, 1) := by decide +kernel
theorem dX8_isSheet_2 : decode cX8_isSheet 2 = .ok (.iconst 3, 1) := by decide +kernel
theorem dX8_isSheet_3 : decode cX8_isSheet 3 = .ok (.invokestatic 74, 3) := by decide +kernel
theorem dX8_isSheet_6 : decode cX8_isSheet 6 = .ok (.ireturn, 1) := by decide +kernel
theorem dX8_isSlot_0 : decode cX8_isSlot 0 = .ok (.iload_n 0, 1) := by decide +kernel
theorem dX8_isSlot_1 : decode cX8_isSlot 1 = .ok (.iconst 0, 1) := by decide +kernel
theorem dX8_isSlot_2 : decode cX8_isSlot 2 = .ok (.iconst 4, 1) := by decide +kernel
theorem dX8_isSlot_3 : decode cX8_isSlot 3 = .ok (.invokestatic 74, 3) := by decide +kernel
theorem dX8_isSlot_6 : decode cX8_isSlot 6 = .ok (.ireturn, 1) := by decide +kernel
theorem dX8_held_0 : decode cX8_held 0 = .ok (.iconst 0, 1) := by decide +kernel
theorem dX8_held_1 : decode cX8_held 1 = .ok (.iload_n 0, 1) := by decide +kernel
theorem dX8_held_2 : decode cX8_held 2 = .ok (.iload_n 1, 1) := by decide +kernel
theorem dX8_held_3 : decode cX8_held 3 = .ok (.invokestatic 154, 3) := by decide +kernel
theorem dX8_held_6 : decode cX8_held 6 = .ok (.invokestatic 339, 3) := by decide +kernel
theorem dX8_held_9 : decode cX8_held 9 = .ok (.ireturn, 1) := by decide +kernel
theorem dX9_init_0 : decode cX9_init 0 = .ok (.aload_n 0, 1) := by decide +kernel
theorem dX9_init_1 : decode cX9_init 1 = .ok (.invokespecial 1, 3) := by decide +kernel
theorem dX9_init_4 : decode cX9_init 4 = .ok (.aload_n 0, 1) := by decide +kernel
theorem dX9_init_5 : decode cX9_init 5 = .ok (.sipush 1433, 3) := by decide +kernel
theorem dX9_init_8 : decode cX9_init 8 = .ok (.newarray .int, 2) := by decide +kernel
theorem dX9_init_10 : decode cX9_init 10 = .ok (.putfield 9, 3) := by decide +kernel
theorem dX9_init_13 : decode cX9_init 13 = .ok (.aload_n 0, 1) := by decide +kernel
theorem dX9_init_14 : decode cX9_init 14 = .ok (.sipush 1433, 3) := by decide +kernel
theorem dX9_init_17 : decode cX9_init 17 = .ok (.newarray .int, 2) := by decide +kernel
theorem dX9_init_19 : decode cX9_init 19 = .ok (.putfield 13, 3) := by decide +kernel
theorem dX9_init_22 : decode cX9_init 22 = .ok (.aload_n 0, 1) := by decide +kernel
theorem dX9_init_23 : decode cX9_init 23 = .ok (.sipush 1433, 3) := by decide +kernel
theorem dX9_init_26 : decode cX9_init 26 = .ok (.newarray .int, 2) := by decide +kernel
theorem dX9_init_28 : decode cX9_init 28 = .ok (.putfield 16, 3) := by decide +kernel
theorem dX9_init_31 : decode cX9_init 31 = .ok (.aload_n 0, 1) := by decide +kernel
theorem dX9_init_32 : decode cX9_init 32 = .ok (.sipush 512, 3) := by decide +kernel
theorem dX9_init_35 : decode cX9_init 35 = .ok (.newarray .int, 2) := by decide +kernel
theorem dX9_init_37 : decode cX9_init 37 = .ok (.putfield 19, 3) := by decide +kernel
theorem dX9_init_40 : decode cX9_init 40 = .ok (.aload_n 0, 1) := by decide +kernel
theorem dX9_init_41 : decode cX9_init 41 = .ok (.sipush 512, 3) := by decide +kernel
theorem dX9_init_44 : decode cX9_init 44 = .ok (.newarray .int, 2) := by decide +kernel
theorem dX9_init_46 : decode cX9_init 46 = .ok (.putfield 22, 3) := by decide +kernel
theorem dX9_init_49 : decode cX9_init 49 = .ok (.aload_n 0, 1) := by decide +kernel
theorem dX9_init_50 : decode cX9_init 50 = .ok (.bipush 9, 2) := by decide +kernel
theorem dX9_init_52 : decode cX9_init 52 = .ok (.newarray .int, 2) := by decide +kernel
theorem dX9_init_54 : decode cX9_init 54 = .ok (.putfield 25, 3) := by decide +kernel
theorem dX9_init_57 : decode cX9_init 57 = .ok (.aload_n 0, 1) := by decide +kernel
theorem dX9_init_58 : decode cX9_init 58 = .ok (.bipush 96, 2) := by decide +kernel
theorem dX9_init_60 : decode cX9_init 60 = .ok (.newarray .int, 2) := by decide +kernel
theorem dX9_init_62 : decode cX9_init 62 = .ok (.putfield 28, 3) := by decide +kernel
theorem dX9_init_65 : decode cX9_init 65 = .ok (.aload_n 0, 1) := by decide +kernel
theorem dX9_init_66 : decode cX9_init 66 = .ok (.bipush 12, 2) := by decide +kernel
theorem dX9_init_68 : decode cX9_init 68 = .ok (.newarray .char, 2) := by decide +kernel
theorem dX9_init_70 : decode cX9_init 70 = .ok (.dup, 1) := by decide +kernel
theorem dX9_init_71 : decode cX9_init 71 = .ok (.iconst 0, 1) := by decide +kernel
theorem dX9_init_72 : decode cX9_init 72 = .ok (.bipush 98, 2) := by decide +kernel
theorem dX9_init_74 : decode cX9_init 74 = .ok (.castore, 1) := by decide +kernel
theorem dX9_init_75 : decode cX9_init 75 = .ok (.dup, 1) := by decide +kernel
theorem dX9_init_76 : decode cX9_init 76 = .ok (.iconst 1, 1) := by decide +kernel
theorem dX9_init_77 : decode cX9_init 77 = .ok (.bipush 101, 2) := by decide +kernel
theorem dX9_init_79 : decode cX9_init 79 = .ok (.castore, 1) := by decide +kernel
theorem dX9_init_80 : decode cX9_init 80 = .ok (.dup, 1) := by decide +kernel
theorem dX9_init_81 : decode cX9_init 81 = .ok (.iconst 2, 1) := by decide +kernel
theorem dX9_init_82 : decode cX9_init 82 = .ok (.bipush 97, 2) := by decide +kernel
theorem dX9_init_84 : decode cX9_init 84 = .ok (.castore, 1) := by decide +kernel
theorem dX9_init_85 : decode cX9_init 85 = .ok (.dup, 1) := by decide +kernel
theorem dX9_init_86 : decode cX9_init 86 = .ok (.iconst 3, 1) := by decide +kernel
theorem dX9_init_87 : decode cX9_init 87 = .ok (.bipush 114, 2) := by decide +kernel
theorem dX9_init_89 : decode cX9_init 89 = .ok (.castore, 1) := by decide +kernel
theorem dX9_init_90 : decode cX9_init 90 = .ok (.dup, 1) := by decide +kernel
theorem dX9_init_91 : decode cX9_init 91 = .ok (.iconst 4, 1) := by decide +kernel
theorem dX9_init_92 : decode cX9_init 92 = .ok (.bipush 115, 2) := by decide +kernel
theorem dX9_init_94 : decode cX9_init 94 = .ok (.castore, 1) := by decide +kernel
theorem dX9_init_95 : decode cX9_init 95 = .ok (.dup, 1) := by decide +kernel
theorem dX9_init_96 : decode cX9_init 96 = .ok (.iconst 5, 1) := by decide +kernel
theorem dX9_init_97 : decode cX9_init 97 = .ok (.bipush 102, 2) := by decide +kernel
theorem dX9_init_99 : decode cX9_init 99 = .ok (.castore, 1) := by decide +kernel
theorem dX9_init_100 : decode cX9_init 100 = .ok (.dup, 1) := by decide +kernel
theorem dX9_init_101 : decode cX9_init 101 = .ok (.bipush 6, 2) := by decide +kernel
theorem dX9_init_103 : decode cX9_init 103 = .ok (.bipush 101, 2) := by decide +kernel
theorem dX9_init_105 : decode cX9_init 105 = .ok (.castore, 1) := by decide +kernel
theorem dX9_init_106 : decode cX9_init 106 = .ok (.dup, 1) := by decide +kernel
theorem dX9_init_107 : decode cX9_init 107 = .ok (.bipush 7, 2) := by decide +kernel
theorem dX9_init_109 : decode cX9_init 109 = .ok (.bipush 101, 2) := by decide +kernel
theorem dX9_init_111 : decode cX9_init 111 = .ok (.castore, 1) := by decide +kernel
theorem dX9_init_112 : decode cX9_init 112 = .ok (.dup, 1) := by decide +kernel
theorem dX9_init_113 : decode cX9_init 113 = .ok (.bipush 8, 2) := by decide +kernel
theorem dX9_init_115 : decode cX9_init 115 = .ok (.bipush 102, 2) := by decide +kernel
theorem dX9_init_117 : decode cX9_init 117 = .ok (.castore, 1) := by decide +kernel
theorem dX9_init_118 : decode cX9_init 118 = .ok (.dup, 1) := by decide +kernel
theorem dX9_init_119 : decode cX9_init 119 = .ok (.bipush 9, 2) := by decide +kernel
theorem dX9_init_121 : decode cX9_init 121 = .ok (.bipush 105, 2) := by decide +kernel
theorem dX9_init_123 : decode cX9_init 123 = .ok (.castore, 1) := by decide +kernel
theorem dX9_init_124 : decode cX9_init 124 = .ok (.dup, 1) := by decide +kernel
theorem dX9_init_125 : decode cX9_init 125 = .ok (.bipush 10, 2) := by decide +kernel
theorem dX9_init_127 : decode cX9_init 127 = .ok (.bipush 110, 2) := by decide +kernel
theorem dX9_init_129 : decode cX9_init 129 = .ok (.castore, 1) := by decide +kernel
theorem dX9_init_130 : decode cX9_init 130 = .ok (.dup, 1) := by decide +kernel
theorem dX9_init_131 : decode cX9_init 131 = .ok (.bipush 11, 2) := by decide +kernel
theorem dX9_init_133 : decode cX9_init 133 = .ok (.bipush 101, 2) := by decide +kernel
theorem dX9_init_135 : decode cX9_init 135 = .ok (.castore, 1) := by decide +kernel
theorem dX9_init_136 : decode cX9_init 136 = .ok (.putfield 31, 3) := by decide +kernel
theorem dX9_init_139 : decode cX9_init 139 = .ok (.aload_n 0, 1) := by decide +kernel
theorem dX9_init_140 : decode cX9_init 140 = .ok (.iconst 4, 1) := by decide +kernel
theorem dX9_init_141 : decode cX9_init 141 = .ok (.newarray .int, 2) := by decide +kernel
theorem dX9_init_143 : decode cX9_init 143 = .ok (.dup, 1) := by decide +kernel
theorem dX9_init_144 : decode cX9_init 144 = .ok (.iconst 0, 1) := by decide +kernel
theorem dX9_init_145 : decode cX9_init 145 = .ok (.iconst 0, 1) := by decide +kernel
theorem dX9_init_146 : decode cX9_init 146 = .ok (.iastore, 1) := by decide +kernel
theorem dX9_init_147 : decode cX9_init 147 = .ok (.dup, 1) := by decide +kernel
theorem dX9_init_148 : decode cX9_init 148 = .ok (.iconst 1, 1) := by decide +kernel
theorem dX9_init_149 : decode cX9_init 149 = .ok (.iconst 5, 1) := by decide +kernel
theorem dX9_init_150 : decode cX9_init 150 = .ok (.iastore, 1) := by decide +kernel
theorem dX9_init_151 : decode cX9_init 151 = .ok (.dup, 1) := by decide +kernel
theorem dX9_init_152 : decode cX9_init 152 = .ok (.iconst 2, 1) := by decide +kernel
theorem dX9_init_153 : decode cX9_init 153 = .ok (.bipush 8, 2) := by decide +kernel
theorem dX9_init_155 : decode cX9_init 155 = .ok (.iastore, 1) := by decide +kernel
theorem dX9_init_156 : decode cX9_init 156 = .ok (.dup, 1) := by decide +kernel
theorem dX9_init_157 : decode cX9_init 157 = .ok (.iconst 3, 1) := by decide +kernel
theorem dX9_init_158 : decode cX9_init 158 = .ok (.bipush 12, 2) := by decide +kernel
theorem dX9_init_160 : decode cX9_init 160 = .ok (.iastore, 1) := by decide +kernel
theorem dX9_init_161 : decode cX9_init 161 = .ok (.putfield 35, 3) := by decide +kernel
theorem dX9_init_164 : decode cX9_init 164 = .ok (.aload_n 0, 1) := by decide +kernel
theorem dX9_init_165 : decode cX9_init 165 = .ok (.bipush 96, 2) := by decide +kernel
theorem dX9_init_167 : decode cX9_init 167 = .ok (.newarray .int, 2) := by decide +kernel
theorem dX9_init_169 : decode cX9_init 169 = .ok (.putfield 38, 3) := by decide +kernel
theorem dX9_init_172 : decode cX9_init 172 = .ok (.aload_n 0, 1) := by decide +kernel
theorem dX9_init_173 : decode cX9_init 173 = .ok (.bipush 96, 2) := by decide +kernel
theorem dX9_init_175 : decode cX9_init 175 = .ok (.newarray .int, 2) := by decide +kernel
theorem dX9_init_177 : decode cX9_init 177 = .ok (.putfield 41, 3) := by decide +kernel
theorem dX9_init_180 : decode cX9_init 180 = .ok (.aload_n 0, 1) := by decide +kernel
theorem dX9_init_181 : decode cX9_init 181 = .ok (.bipush 10, 2) := by decide +kernel
theorem dX9_init_183 : decode cX9_init 183 = .ok (.newarray .boolean, 2) := by decide +kernel
theorem dX9_init_185 : decode cX9_init 185 = .ok (.putfield 44, 3) := by decide +kernel
theorem dX9_init_188 : decode cX9_init 188 = .ok (.aload_n 0, 1) := by decide +kernel
theorem dX9_init_189 : decode cX9_init 189 = .ok (.bipush 96, 2) := by decide +kernel
theorem dX9_init_191 : decode cX9_init 191 = .ok (.newarray .int, 2) := by decide +kernel
theorem dX9_init_193 : decode cX9_init 193 = .ok (.putfield 48, 3) := by decide +kernel
theorem dX9_init_196 : decode cX9_init 196 = .ok (.aload_n 0, 1) := by decide +kernel
theorem dX9_init_197 : decode cX9_init 197 = .ok (.iconst 4, 1) := by decide +kernel
theorem dX9_init_198 : decode cX9_init 198 = .ok (.newarray .int, 2) := by decide +kernel
theorem dX9_init_200 : decode cX9_init 200 = .ok (.putfield 51, 3) := by decide +kernel
theorem dX9_init_203 : decode cX9_init 203 = .ok (.aload_n 0, 1) := by decide +kernel
theorem dX9_init_204 : decode cX9_init 204 = .ok (.iconst 4, 1) := by decide +kernel
theorem dX9_init_205 : decode cX9_init 205 = .ok (.newarray .int, 2) := by decide +kernel
theorem dX9_init_207 : decode cX9_init 207 = .ok (.dup, 1) := by decide +kernel
theorem dX9_init_208 : decode cX9_init 208 = .ok (.iconst 0, 1) := by decide +kernel
theorem dX9_init_209 : decode cX9_init 209 = .ok (.iconst (-1), 1) := by decide +kernel
theorem dX9_init_210 : decode cX9_init 210 = .ok (.iastore, 1) := by decide +kernel
theorem dX9_init_211 : decode cX9_init 211 = .ok (.dup, 1) := by decide +kernel
theorem dX9_init_212 : decode cX9_init 212 = .ok (.iconst 1, 1) := by decide +kernel
theorem dX9_init_213 : decode cX9_init 213 = .ok (.iconst (-1), 1) := by decide +kernel
theorem dX9_init_214 : decode cX9_init 214 = .ok (.iastore, 1) := by decide +kernel
theorem dX9_init_215 : decode cX9_init 215 = .ok (.dup, 1) := by decide +kernel
theorem dX9_init_216 : decode cX9_init 216 = .ok (.iconst 2, 1) := by decide +kernel
theorem dX9_init_217 : decode cX9_init 217 = .ok (.iconst (-1), 1) := by decide +kernel
theorem dX9_init_218 : decode cX9_init 218 = .ok (.iastore, 1) := by decide +kernel
theorem dX9_init_219 : decode cX9_init 219 = .ok (.dup, 1) := by decide +kernel
theorem dX9_init_220 : decode cX9_init 220 = .ok (.iconst 3, 1) := by decide +kernel
theorem dX9_init_221 : decode cX9_init 221 = .ok (.iconst (-1), 1) := by decide +kernel
theorem dX9_init_222 : decode cX9_init 222 = .ok (.iastore, 1) := by decide +kernel
theorem dX9_init_223 : decode cX9_init 223 = .ok (.putfield 54, 3) := by decide +kernel
theorem dX9_init_226 : decode cX9_init 226 = .ok (.aload_n 0, 1) := by decide +kernel
theorem dX9_init_227 : decode cX9_init 227 = .ok (.iconst 4, 1) := by decide +kernel
theorem dX9_init_228 : decode cX9_init 228 = .ok (.newarray .int, 2) := by decide +kernel
theorem dX9_init_230 : decode cX9_init 230 = .ok (.putfield 57, 3) := by decide +kernel
theorem dX9_init_233 : decode cX9_init 233 = .ok (.aload_n 0, 1) := by decide +kernel
theorem dX9_init_234 : decode cX9_init 234 = .ok (.bipush 96, 2) := by decide +kernel
theorem dX9_init_236 : decode cX9_init 236 = .ok (.newarray .int, 2) := by decide +kernel
theorem dX9_init_238 : decode cX9_init 238 = .ok (.putfield 60, 3) := by decide +kernel
theorem dX9_init_241 : decode cX9_init 241 = .ok (.aload_n 0, 1) := by decide +kernel
theorem dX9_init_242 : decode cX9_init 242 = .ok (.iconst 5, 1) := by decide +kernel
theorem dX9_init_243 : decode cX9_init 243 = .ok (.newarray .int, 2) := by decide +kernel
theorem dX9_init_245 : decode cX9_init 245 = .ok (.putfield 63, 3) := by decide +kernel
theorem dX9_init_248 : decode cX9_init 248 = .ok (.aload_n 0, 1) := by decide +kernel
theorem dX9_init_249 : decode cX9_init 249 = .ok (.iconst 5, 1) := by decide +kernel
theorem dX9_init_250 : decode cX9_init 250 = .ok (.newarray .int, 2) := by decide +kernel
theorem dX9_init_252 : decode cX9_init 252 = .ok (.putfield 66, 3) := by decide +kernel
theorem dX9_init_255 : decode cX9_init 255 = .ok (.aload_n 0, 1) := by decide +kernel
theorem dX9_init_256 : decode cX9_init 256 = .ok (.iconst 5, 1) := by decide +kernel
theorem dX9_init_257 : decode cX9_init 257 = .ok (.newarray .int, 2) := by decide +kernel
theorem dX9_init_259 : decode cX9_init 259 = .ok (.putfield 69, 3) := by decide +kernel
theorem dX9_init_262 : decode cX9_init 262 = .ok (.aload_n 0, 1) := by decide +kernel
theorem dX9_init_263 : decode cX9_init 263 = .ok (.bipush 120, 2) := by decide +kernel
theorem dX9_init_265 : decode cX9_init 265 = .ok (.newarray .int, 2) := by decide +kernel
theorem dX9_init_267 : decode cX9_init 267 = .ok (.putfield 72, 3) := by decide +kernel
theorem dX9_init_270 : decode cX9_init 270 = .ok (.aload_n 0, 1) := by decide +kernel
theorem dX9_init_271 : decode cX9_init 271 = .ok (.bipush 24, 2) := by decide +kernel
theorem dX9_init_273 : decode cX9_init 273 = .ok (.newarray .int, 2) := by decide +kernel
theorem dX9_init_275 : decode cX9_init 275 = .ok (.putfield 75, 3) := by decide +kernel
theorem dX9_init_278 : decode cX9_init 278 = .ok (.aload_n 0, 1) := by decide +kernel
theorem dX9_init_279 : decode cX9_init 279 = .ok (.bipush 60, 2) := by decide +kernel
theorem dX9_init_281 : decode cX9_init 281 = .ok (.newarray .int, 2) := by decide +kernel
theorem dX9_init_283 : decode cX9_init 283 = .ok (.putfield 78, 3) := by decide +kernel
theorem dX9_init_286 : decode cX9_init 286 = .ok (.aload_n 0, 1) := by decide +kernel
theorem dX9_init_287 : decode cX9_init 287 = .ok (.getfield 9, 3) := by decide +kernel
theorem dX9_init_290 : decode cX9_init 290 = .ok (.iconst 0, 1) := by decide +kernel
theorem dX9_init_291 : decode cX9_init 291 = .ok (.iconst 1, 1) := by decide +kernel
theorem dX9_init_292 : decode cX9_init 292 = .ok (.iastore, 1) := by decide +kernel
theorem dX9_init_293 : decode cX9_init 293 = .ok (.return_, 1) := by decide +kernel
theorem dX9_in_0 : decode cX9_in 0 = .ok (.iload_n 0, 1) := by decide +kernel
theorem dX9_in_1 : decode cX9_in 1 = .ok (.iload_n 1, 1) := by decide +kernel
theorem dX9_in_2 : decode cX9_in 2 = .ok (.if_icmp .lt 12, 3) := by decide +kernel
theorem dX9_in_5 : decode cX9_in 5 = .ok (.iload_n 0, 1) := by decide +kernel
theorem dX9_in_6 : decode cX9_in 6 = .ok (.iload_n 2, 1) := by decide +kernel
theorem dX9_in_7 : decode cX9_in 7 = .ok (.if_icmp .gt 7, 3) := by decide +kernel
theorem dX9_in_10 : decode cX9_in 10 = .ok (.iconst 1, 1) := by decide +kernel
theorem dX9_in_11 : decode cX9_in 11 = .ok (.goto 4, 3) := by decide +kernel
theorem dX9_in_14 : decode cX9_in 14 = .ok (.iconst 0, 1) := by decide +kernel
theorem dX9_in_15 : decode cX9_in 15 = .ok (.ireturn, 1) := by decide +kernel
theorem dX9_within_0 : decode cX9_within 0 = .ok (.iload_n 0, 1) := by decide +kernel
theorem dX9_within_1 : decode cX9_within 1 = .ok (.iload_n 1, 1) := by decide +kernel
theorem dX9_within_2 : decode cX9_within 2 = .ok (.if_icmp .ge 7, 3) := by decide +kernel
theorem dX9_within_5 : decode cX9_within 5 = .ok (.iload_n 1, 1) := by decide +kernel
theorem dX9_within_6 : decode cX9_within 6 = .ok (.goto 13, 3) := by decide +kernel
theorem dX9_within_9 : decode cX9_within 9 = .ok (.iload_n 0, 1) := by decide +kernel
theorem dX9_within_10 : decode cX9_within 10 = .ok (.iload_n 2, 1) := by decide +kernel
theorem dX9_within_11 : decode cX9_within 11 = .ok (.if_icmp .le 7, 3) := by decide +kernel
theorem dX9_within_14 : decode cX9_within 14 = .ok (.iload_n 2, 1) := by decide +kernel
theorem dX9_within_15 : decode cX9_within 15 = .ok (.goto 4, 3) := by decide +kernel
theorem dX9_within_18 : decode cX9_within 18 = .ok (.iload_n 0, 1) := by decide +kernel
theorem dX9_within_19 : decode cX9_within 19 = .ok (.ireturn, 1) := by decide +kernel
theorem dX9_copyAll_0 : decode cX9_copyAll 0 = .ok (.iconst 0, 1) := by decide +kernel
theorem dX9_copyAll_1 : decode cX9_copyAll 1 = .ok (.istore_n 2, 1) := by decide +kernel
theorem dX9_copyAll_2 : decode cX9_copyAll 2 = .ok (.iload_n 2, 1) := by decide +kernel
theorem dX9_copyAll_3 : decode cX9_copyAll 3 = .ok (.sipush 1433, 3) := by decide +kernel
theorem dX9_copyAll_6 : decode cX9_copyAll 6 = .ok (.if_icmp .ge 15, 3) := by decide +kernel
theorem dX9_copyAll_9 : decode cX9_copyAll 9 = .ok (.aload_n 1, 1) := by decide +kernel
theorem dX9_copyAll_10 : decode cX9_copyAll 10 = .ok (.iload_n 2, 1) := by decide +kernel
theorem dX9_copyAll_11 : decode cX9_copyAll 11 = .ok (.aload_n 0, 1) := by decide +kernel
theorem dX9_copyAll_12 : decode cX9_copyAll 12 = .ok (.iload_n 2, 1) := by decide +kernel
theorem dX9_copyAll_13 : decode cX9_copyAll 13 = .ok (.iaload, 1) := by decide +kernel
theorem dX9_copyAll_14 : decode cX9_copyAll 14 = .ok (.iastore, 1) := by decide +kernel
theorem dX9_copyAll_15 : decode cX9_copyAll 15 = .ok (.iinc 2 1, 3) := by decide +kernel
theorem dX9_copyAll_18 : decode cX9_copyAll 18 = .ok (.goto (-16), 3) := by decide +kernel
theorem dX9_copyAll_21 : decode cX9_copyAll 21 = .ok (.return_, 1) := by decide +kernel
theorem dX9_bits_0 : decode cX9_bits 0 = .ok (.iconst 0, 1) := by decide +kernel
theorem dX9_bits_1 : decode cX9_bits 1 = .ok (.istore_n 1, 1) := by decide +kernel
theorem dX9_bits_2 : decode cX9_bits 2 = .ok (.iload_n 0, 1) := by decide +kernel
theorem dX9_bits_3 : decode cX9_bits 3 = .ok (.istore_n 2, 1) := by decide +kernel
theorem dX9_bits_4 : decode cX9_bits 4 = .ok (.iload_n 2, 1) := by decide +kernel
theorem dX9_bits_5 : decode cX9_bits 5 = .ok (.ifCond .eq 15, 3) := by decide +kernel
theorem dX9_bits_8 : decode cX9_bits 8 = .ok (.iinc 1 1, 3) := by decide +kernel
theorem dX9_bits_11 : decode cX9_bits 11 = .ok (.iload_n 2, 1) := by decide +kernel
theorem dX9_bits_12 : decode cX9_bits 12 = .ok (.iload_n 2, 1) := by decide +kernel
theorem dX9_bits_13 : decode cX9_bits 13 = .ok (.iconst 1, 1) := by decide +kernel
theorem dX9_bits_14 : decode cX9_bits 14 = .ok (.isub, 1) := by decide +kernel
theorem dX9_bits_15 : decode cX9_bits 15 = .ok (.iand, 1) := by decide +kernel
theorem dX9_bits_16 : decode cX9_bits 16 = .ok (.istore_n 2, 1) := by decide +kernel
theorem dX9_bits_17 : decode cX9_bits 17 = .ok (.goto (-13), 3) := by decide +kernel
theorem dX9_bits_20 : decode cX9_bits 20 = .ok (.iload_n 1, 1) := by decide +kernel
theorem dX9_bits_21 : decode cX9_bits 21 = .ok (.ireturn, 1) := by decide +kernel
theorem dX9_isMan_0 : decode cX9_isMan 0 = .ok (.iload_n 1, 1) := by decide +kernel
theorem dX9_isMan_1 : decode cX9_isMan 1 = .ok (.iconst 0, 1) := by decide +kernel
theorem dX9_isMan_2 : decode cX9_isMan 2 = .ok (.aload_n 0, 1) := by decide +kernel
theorem dX9_isMan_3 : decode cX9_isMan 3 = .ok (.getfield 9, 3) := by decide +kernel
theorem dX9_isMan_6 : decode cX9_isMan 6 = .ok (.iconst 1, 1) := by decide +kernel
theorem dX9_isMan_7 : decode cX9_isMan 7 = .ok (.iaload, 1) := by decide +kernel
theorem dX9_isMan_8 : decode cX9_isMan 8 = .ok (.iconst 1, 1) := by decide +kernel
theorem dX9_isMan_9 : decode cX9_isMan 9 = .ok (.isub, 1) := by decide +kernel
theorem dX9_isMan_10 : decode cX9_isMan 10 = .ok (.invokestatic 81, 3) := by decide +kernel
theorem dX9_isMan_13 : decode cX9_isMan 13 = .ok (.ireturn, 1) := by decide +kernel
theorem dX9_isTopic_0 : decode cX9_isTopic 0 = .ok (.iload_n 0, 1) := by decide +kernel
theorem dX9_isTopic_1 : decode cX9_isTopic 1 = .ok (.iconst 0, 1) := by decide +kernel
theorem dX9_isTopic_2 : decode cX9_isTopic 2 = .ok (.bipush 7, 2) := by decide +kernel
theorem dX9_isTopic_4 : decode cX9_isTopic 4 = .ok (.invokestatic 81, 3) := by decide +kernel
theorem dX9_isTopic_7 : decode cX9_isTopic 7 = .ok (.ireturn, 1) := by decide +kernel
theorem dX9_of_0 : decode cX9_of 0 = .ok (.aload_n 0, 1) := by decide +kernel
theorem dX9_of_1 : decode cX9_of 1 = .ok (.getfield 9, 3) := by decide +kernel
theorem dX9_of_4 : decode cX9_of 4 = .ok (.bipush 7, 2) := by decide +kernel
theorem dX9_of_6 : decode cX9_of 6 = .ok (.bipush 6, 2) := by decide +kernel
theorem dX9_of_8 : decode cX9_of 8 = .ok (.iload_n 1, 1) := by decide +kernel
theorem dX9_of_9 : decode cX9_of 9 = .ok (.imul, 1) := by decide +kernel
theorem dX9_of_10 : decode cX9_of 10 = .ok (.iadd, 1) := by decide +kernel
theorem dX9_of_11 : decode cX9_of 11 = .ok (.iload_n 2, 1) := by decide +kernel
theorem dX9_of_12 : decode cX9_of 12 = .ok (.iadd, 1) := by decide +kernel
theorem dX9_of_13 : decode cX9_of 13 = .ok (.iaload, 1) := by decide +kernel
theorem dX9_of_14 : decode cX9_of 14 = .ok (.ireturn, 1) := by decide +kernel
theorem dX9_put_0 : decode cX9_put 0 = .ok (.aload_n 0, 1) := by decide +kernel
theorem dX9_put_1 : decode cX9_put 1 = .ok (.getfield 9, 3) := by decide +kernel
theorem dX9_put_4 : decode cX9_put 4 = .ok (.bipush 7, 2) := by decide +kernel
theorem dX9_put_6 : decode cX9_put 6 = .ok (.bipush 6, 2) := by decide +kernel
theorem dX9_put_8 : decode cX9_put 8 = .ok (.iload_n 1, 1) := by decide +kernel
theorem dX9_put_9 : decode cX9_put 9 = .ok (.imul, 1) := by decide +kernel
theorem dX9_put_10 : decode cX9_put 10 = .ok (.iadd, 1) := by decide +kernel
theorem dX9_put_11 : decode cX9_put 11 = .ok (.iload_n 2, 1) := by decide +kernel
theorem dX9_put_12 : decode cX9_put 12 = .ok (.iadd, 1) := by decide +kernel
theorem dX9_put_13 : decode cX9_put 13 = .ok (.iload_n 3, 1) := by decide +kernel
theorem dX9_put_14 : decode cX9_put 14 = .ok (.iastore, 1) := by decide +kernel
theorem dX9_put_15 : decode cX9_put 15 = .ok (.return_, 1) := by decide +kernel
theorem dX9_swaps_0 : decode cX9_swaps 0 = .ok (.aload_n 0, 1) := by decide +kernel
theorem dX9_swaps_1 : decode cX9_swaps 1 = .ok (.getfield 9, 3) := by decide +kernel
theorem dX9_swaps_4 : decode cX9_swaps 4 = .ok (.iload_n 1, 1) := by decide +kernel
theorem dX9_swaps_5 : decode cX9_swaps 5 = .ok (.iaload, 1) := by decide +kernel
theorem dX9_swaps_6 : decode cX9_swaps 6 = .ok (.istore_n 3, 1) := by decide +kernel
theorem dX9_swaps_7 : decode cX9_swaps 7 = .ok (.aload_n 0, 1) := by decide +kernel
theorem dX9_swaps_8 : decode cX9_swaps 8 = .ok (.getfield 9, 3) := by decide +kernel
theorem dX9_swaps_11 : decode cX9_swaps 11 = .ok (.iload_n 1, 1) := by decide +kernel
theorem dX9_swaps_12 : decode cX9_swaps 12 = .ok (.iload_n 2, 1) := by decide +kernel
theorem dX9_swaps_13 : decode cX9_swaps 13 = .ok (.iastore, 1) := by decide +kernel
theorem dX9_swaps_14 : decode cX9_swaps 14 = .ok (.iload_n 3, 1) := by decide +kernel
theorem dX9_swaps_15 : decode cX9_swaps 15 = .ok (.ireturn, 1) := by decide +kernel
theorem dX9_off_0 : decode cX9_off 0 = .ok (.iload_n 0, 1) := by decide +kernel
theorem dX9_off_1 : decode cX9_off 1 = .ok (.ifCond .ge 8, 3) := by decide +kernel
theorem dX9_off_4 : decode cX9_off 4 = .ok (.iload_n 0, 1) := by decide +kernel
theorem dX9_off_5 : decode cX9_off 5 = .ok (.ineg, 1) := by decide +kernel
theorem dX9_off_6 : decode cX9_off 6 = .ok (.goto 4, 3) := by decide +kernel
theorem dX9_off_9 : decode cX9_off 9 = .ok (.iload_n 0, 1) := by decide +kernel
theorem dX9_off_10 : decode cX9_off 10 = .ok (.ireturn, 1) := by decide +kernel
theorem dX9_doesStand_0 : decode cX9_doesStand 0 = .ok (.aload_n 0, 1) := by decide +kernel
theorem dX9_doesStand_1 : decode cX9_doesStand 1 = .ok (.iload_n 1, 1) := by decide +kernel
theorem dX9_doesStand_2 : decode cX9_doesStand 2 = .ok (.invokevirtual 85, 3) := by decide +kernel
theorem dX9_doesStand_5 : decode cX9_doesStand 5 = .ok (.ifCond .eq 16, 3) := by decide +kernel
theorem dX9_doesStand_8 : decode cX9_doesStand 8 = .ok (.aload_n 0, 1) := by decide +kernel
theorem dX9_doesStand_9 : decode cX9_doesStand 9 = .ok (.iload_n 1, 1) := by decide +kernel
theorem dX9_doesStand_10 : decode cX9_doesStand 10 = .ok (.iconst 5, 1) := by decide +kernel
theorem dX9_doesStand_11 : decode cX9_doesStand 11 = .ok (.invokevirtual 89, 3) := by decide +kernel
theorem dX9_doesStand_14 : decode cX9_doesStand 14 = .ok (.ifCond .ne 7, 3) := by decide +kernel
theorem dX9_doesStand_17 : decode cX9_doesStand 17 = .ok (.iconst 1, 1) := by decide +kernel
theorem dX9_doesStand_18 : decode cX9_doesStand 18 = .ok (.goto 4, 3) := by decide +kernel
theorem dX9_doesStand_21 : decode cX9_doesStand 21 = .ok (.iconst 0, 1) := by decide +kernel
theorem dX9_doesStand_22 : decode cX9_doesStand 22 = .ok (.ireturn, 1) := by decide +kernel
theorem dX9_standing_0 : decode cX9_standing 0 = .ok (.iconst 0, 1) := by decide +kernel
theorem dX9_standing_1 : decode cX9_standing 1 = .ok (.istore_n 1, 1) := by decide +kernel
theorem dX9_standing_2 : decode cX9_standing 2 = .ok (.iconst 0, 1) := by decide +kernel
theorem dX9_standing_3 : decode cX9_standing 3 = .ok (.istore_n 2, 1) := by decide +kernel
theorem dX9_standing_4 : decode cX9_standing 4 = .ok (.iload_n 2, 1) := by decide +kernel
theorem dX9_standing_5 : decode cX9_standing 5 = .ok (.aload_n 0, 1) := by decide +kernel
theorem dX9_standing_6 : decode cX9_standing 6 = .ok (.getfield 9, 3) := by decide +kernel
theorem dX9_standing_9 : decode cX9_standing 9 = .ok (.iconst 1, 1) := by decide +kernel
theorem dX9_standing_10 : decode cX9_standing 10 = .ok (.iaload, 1) := by decide +kernel
theorem dX9_standing_11 : decode cX9_standing 11 = .ok (.if_icmp .ge 28, 3) := by decide +kernel
theorem dX9_standing_14 : decode cX9_standing 14 = .ok (.iload_n 1, 1) := by decide +kernel
theorem dX9_standing_15 : decode cX9_standing 15 = .ok (.aload_n 0, 1) := by decide +kernel
theorem dX9_standing_16 : decode cX9_standing 16 = .ok (.iload_n 2, 1) := by decide +kernel
theorem dX9_standing_17 : decode cX9_standing 17 = .ok (.iconst 5, 1) := by decide +kernel
theorem dX9_standing_18 : decode cX9_standing 18 = .ok (.invokevirtual 89, 3) := by decide +kernel
theorem dX9_standing_21 : decode cX9_standing 21 = .ok (.ifCond .ne 9, 3) := by decide +kernel
theorem dX9_standing_24 : decode cX9_standing 24 = .ok (.iconst 1, 1) := by decide +kernel
theorem dX9_standing_25 : decode cX9_standing 25 = .ok (.iload_n 2, 1) := by decide +kernel
theorem dX9_standing_26 : decode cX9_standing 26 = .ok (.ishl, 1) := by decide +kernel
theorem dX9_standing_27 : decode cX9_standing 27 = .ok (.goto 4, 3) := by decide +kernel
theorem dX9_standing_30 : decode cX9_standing 30 = .ok (.iconst 0, 1) := by decide +kernel
theorem dX9_standing_31 : decode cX9_standing 31 = .ok (.ior, 1) := by decide +kernel
theorem dX9_standing_32 : decode cX9_standing 32 = .ok (.istore_n 1, 1) := by decide +kernel
theorem dX9_standing_33 : decode cX9_standing 33 = .ok (.iinc 2 1, 3) := by decide +kernel
theorem dX9_standing_36 : decode cX9_standing 36 = .ok (.goto (-32), 3) := by decide +kernel
theorem dX9_standing_39 : decode cX9_standing 39 = .ok (.iload_n 1, 1) := by decide +kernel
theorem dX9_standing_40 : decode cX9_standing 40 = .ok (.ireturn, 1) := by decide +kernel
theorem dX9_plainBears_0 : decode cX9_plainBears 0 = .ok (.aload_n 0, 1) := by decide +kernel
theorem dX9_plainBears_1 : decode cX9_plainBears 1 = .ok (.iconst 0, 1) := by decide +kernel
theorem dX9_plainBears_2 : decode cX9_plainBears 2 = .ok (.invokevirtual 93, 3) := by decide +kernel
theorem dX9_plainBears_5 : decode cX9_plainBears 5 = .ok (.istore_n 2, 1) := by decide +kernel
theorem dX9_plainBears_6 : decode cX9_plainBears 6 = .ok (.aload_n 0, 1) := by decide +kernel
theorem dX9_plainBears_7 : decode cX9_plainBears 7 = .ok (.getfield 51, 3) := by decide +kernel
theorem dX9_plainBears_10 : decode cX9_plainBears 10 = .ok (.iconst 0, 1) := by decide +kernel
theorem dX9_plainBears_11 : decode cX9_plainBears 11 = .ok (.aload_n 0, 1) := by decide +kernel
theorem dX9_plainBears_12 : decode cX9_plainBears 12 = .ok (.iload_n 1, 1) := by decide +kernel
theorem dX9_plainBears_13 : decode cX9_plainBears 13 = .ok (.iconst 1, 1) := by decide +kernel
theorem dX9_plainBears_14 : decode cX9_plainBears 14 = .ok (.invokevirtual 89, 3) := by decide +kernel
theorem dX9_plainBears_17 : decode cX9_plainBears 17 = .ok (.iastore, 1) := by decide +kernel
theorem dX9_plainBears_18 : decode cX9_plainBears 18 = .ok (.aload_n 0, 1) := by decide +kernel
theorem dX9_plainBears_19 : decode cX9_plainBears 19 = .ok (.getfield 51, 3) := by decide +kernel
theorem dX9_plainBears_22 : decode cX9_plainBears 22 = .ok (.iconst 1, 1) := by decide +kernel
theorem dX9_plainBears_23 : decode cX9_plainBears 23 = .ok (.aload_n 0, 1) := by decide +kernel
theorem dX9_plainBears_24 : decode cX9_plainBears 24 = .ok (.iload_n 1, 1) := by decide +kernel
theorem dX9_plainBears_25 : decode cX9_plainBears 25 = .ok (.iconst 2, 1) := by decide +kernel
theorem dX9_plainBears_26 : decode cX9_plainBears 26 = .ok (.invokevirtual 89, 3) := by decide +kernel
theorem dX9_plainBears_29 : decode cX9_plainBears 29 = .ok (.iastore, 1) := by decide +kernel
theorem dX9_plainBears_30 : decode cX9_plainBears 30 = .ok (.aload_n 0, 1) := by decide +kernel
theorem dX9_plainBears_31 : decode cX9_plainBears 31 = .ok (.getfield 51, 3) := by decide +kernel
theorem dX9_plainBears_34 : decode cX9_plainBears 34 = .ok (.iconst 2, 1) := by decide +kernel
theorem dX9_plainBears_35 : decode cX9_plainBears 35 = .ok (.aload_n 0, 1) := by decide +kernel
theorem dX9_plainBears_36 : decode cX9_plainBears 36 = .ok (.iload_n 1, 1) := by decide +kernel
theorem dX9_plainBears_37 : decode cX9_plainBears 37 = .ok (.iconst 4, 1) := by decide +kernel
theorem dX9_plainBears_38 : decode cX9_plainBears 38 = .ok (.invokevirtual 89, 3) := by decide +kernel
theorem dX9_plainBears_41 : decode cX9_plainBears 41 = .ok (.iastore, 1) := by decide +kernel
theorem dX9_plainBears_42 : decode cX9_plainBears 42 = .ok (.aload_n 0, 1) := by decide +kernel
theorem dX9_plainBears_43 : decode cX9_plainBears 43 = .ok (.getfield 51, 3) := by decide +kernel
theorem dX9_plainBears_46 : decode cX9_plainBears 46 = .ok (.iconst 3, 1) := by decide +kernel
theorem dX9_plainBears_47 : decode cX9_plainBears 47 = .ok (.aload_n 0, 1) := by decide +kernel
theorem dX9_plainBears_48 : decode cX9_plainBears 48 = .ok (.invokevirtual 97, 3) := by decide +kernel
theorem dX9_plainBears_51 : decode cX9_plainBears 51 = .ok (.invokestatic 101, 3) := by decide +kernel
theorem dX9_plainBears_54 : decode cX9_plainBears 54 = .ok (.iastore, 1) := by decide +kernel
theorem dX9_plainBears_55 : decode cX9_plainBears 55 = .ok (.iload_n 2, 1) := by decide +kernel
theorem dX9_plainBears_56 : decode cX9_plainBears 56 = .ok (.ifCond .ge 12, 3) := by decide +kernel
theorem dX9_plainBears_59 : decode cX9_plainBears 59 = .ok (.aload_n 0, 1) := by decide +kernel
theorem dX9_plainBears_60 : decode cX9_plainBears 60 = .ok (.iload_n 1, 1) := by decide +kernel
theorem dX9_plainBears_61 : decode cX9_plainBears 61 = .ok (.iconst 1, 1) := by decide +kernel
theorem dX9_plainBears_62 : decode cX9_plainBears 62 = .ok (.invokevirtual 89, 3) := by decide +kernel
theorem dX9_plainBears_65 : decode cX9_plainBears 65 = .ok (.goto 8, 3) := by decide +kernel
theorem dX9_plainBears_68 : decode cX9_plainBears 68 = .ok (.aload_n 0, 1) := by decide +kernel
theorem dX9_plainBears_69 : decode cX9_plainBears 69 = .ok (.iload_n 2, 1) := by decide +kernel
theorem dX9_plainBears_70 : decode cX9_plainBears 70 = .ok (.invokevirtual 104, 3) := by decide +kernel
theorem dX9_plainBears_73 : decode cX9_plainBears 73 = .ok (.iconst 0, 1) := by decide +kernel
theorem dX9_plainBears_74 : decode cX9_plainBears 74 = .ok (.bipush 99, 2) := by decide +kernel
theorem dX9_plainBears_76 : decode cX9_plainBears 76 = .ok (.invokestatic 107, 3) := by decide +kernel
theorem dX9_plainBears_79 : decode cX9_plainBears 79 = .ok (.ireturn, 1) := by decide +kernel
theorem dX9_bearsOf_0 : decode cX9_bearsOf 0 = .ok (.aload_n 0, 1) := by decide +kernel
theorem dX9_bearsOf_1 : decode cX9_bearsOf 1 = .ok (.iload_n 1, 1) := by decide +kernel
theorem dX9_bearsOf_2 : decode cX9_bearsOf 2 = .ok (.invokevirtual 111, 3) := by decide +kernel
theorem dX9_bearsOf_5 : decode cX9_bearsOf 5 = .ok (.istore_n 3, 1) := by decide +kernel
theorem dX9_bearsOf_6 : decode cX9_bearsOf 6 = .ok (.iload_n 2, 1) := by decide +kernel
theorem dX9_bearsOf_7 : decode cX9_bearsOf 7 = .ok (.aload_n 0, 1) := by decide +kernel
theorem dX9_bearsOf_8 : decode cX9_bearsOf 8 = .ok (.iload_n 1, 1) := by decide +kernel
theorem dX9_bearsOf_9 : decode cX9_bearsOf 9 = .ok (.iconst 3, 1) := by decide +kernel
theorem dX9_bearsOf_10 : decode cX9_bearsOf 10 = .ok (.invokevirtual 89, 3) := by decide +kernel
theorem dX9_bearsOf_13 : decode cX9_bearsOf 13 = .ok (.if_icmp .ne 10, 3) := by decide +kernel
theorem dX9_bearsOf_16 : decode cX9_bearsOf 16 = .ok (.iload_n 3, 1) := by decide +kernel
theorem dX9_bearsOf_17 : decode cX9_bearsOf 17 = .ok (.bipush 20, 2) := by decide +kernel
theorem dX9_bearsOf_19 : decode cX9_bearsOf 19 = .ok (.isub, 1) := by decide +kernel
theorem dX9_bearsOf_20 : decode cX9_bearsOf 20 = .ok (.goto 4, 3) := by decide +kernel
theorem dX9_bearsOf_23 : decode cX9_bearsOf 23 = .ok (.iload_n 3, 1) := by decide +kernel
theorem dX9_bearsOf_24 : decode cX9_bearsOf 24 = .ok (.iconst 0, 1) := by decide +kernel
theorem dX9_bearsOf_25 : decode cX9_bearsOf 25 = .ok (.bipush 99, 2) := by decide +kernel
theorem dX9_bearsOf_27 : decode cX9_bearsOf 27 = .ok (.invokestatic 107, 3) := by decide +kernel
theorem dX9_bearsOf_30 : decode cX9_bearsOf 30 = .ok (.istore 4, 2) := by decide +kernel
theorem dX9_bearsOf_32 : decode cX9_bearsOf 32 = .ok (.iload 4, 2) := by decide +kernel
theorem dX9_bearsOf_34 : decode cX9_bearsOf 34 = .ok (.aload_n 0, 1) := by decide +kernel
theorem dX9_bearsOf_35 : decode cX9_bearsOf 35 = .ok (.iload_n 1, 1) := by decide +kernel
theorem dX9_bearsOf_36 : decode cX9_bearsOf 36 = .ok (.iconst 2, 1) := by decide +kernel
theorem dX9_bearsOf_37 : decode cX9_bearsOf 37 = .ok (.invokevirtual 89, 3) := by decide +kernel
theorem dX9_bearsOf_40 : decode cX9_bearsOf 40 = .ok (.bipush 10, 2) := by decide +kernel
theorem dX9_bearsOf_42 : decode cX9_bearsOf 42 = .ok (.idiv, 1) := by decide +kernel
theorem dX9_bearsOf_43 : decode cX9_bearsOf 43 = .ok (.iadd, 1) := by decide +kernel
theorem dX9_bearsOf_44 : decode cX9_bearsOf 44 = .ok (.istore 5, 2) := by decide +kernel
theorem dX9_bearsOf_46 : decode cX9_bearsOf 46 = .ok (.iload_n 2, 1) := by decide +kernel
theorem dX9_bearsOf_47 : decode cX9_bearsOf 47 = .ok (.ifCond .ne 8, 3) := by decide +kernel
theorem dX9_bearsOf_50 : decode cX9_bearsOf 50 = .ok (.bipush 99, 2) := by decide +kernel
theorem dX9_bearsOf_52 : decode cX9_bearsOf 52 = .ok (.goto 5, 3) := by decide +kernel
theorem dX9_bearsOf_55 : decode cX9_bearsOf 55 = .ok (.iload 4, 2) := by decide +kernel
theorem dX9_bearsOf_57 : decode cX9_bearsOf 57 = .ok (.istore 6, 2) := by decide +kernel
theorem dX9_bearsOf_59 : decode cX9_bearsOf 59 = .ok (.aload_n 0, 1) := by decide +kernel
theorem dX9_bearsOf_60 : decode cX9_bearsOf 60 = .ok (.iload_n 1, 1) := by decide +kernel
theorem dX9_bearsOf_61 : decode cX9_bearsOf 61 = .ok (.iconst 0, 1) := by decide +kernel
theorem dX9_bearsOf_62 : decode cX9_bearsOf 62 = .ok (.invokevirtual 89, 3) := by decide +kernel
theorem dX9_bearsOf_65 : decode cX9_bearsOf 65 = .ok (.tableswitch 75 1 5 #[35, 57, 38, 60, 72], 35) := by decide +kernel
theorem dX9_bearsOf_100 : decode cX9_bearsOf 100 = .ok (.iload 5, 2) := by decide +kernel
theorem dX9_bearsOf_102 : decode cX9_bearsOf 102 = .ok (.ireturn, 1) := by decide +kernel
theorem dX9_bearsOf_103 : decode cX9_bearsOf 103 = .ok (.iload 5, 2) := by decide +kernel
theorem dX9_bearsOf_105 : decode cX9_bearsOf 105 = .ok (.iconst 5, 1) := by decide +kernel
theorem dX9_bearsOf_106 : decode cX9_bearsOf 106 = .ok (.aload_n 0, 1) := by decide +kernel
theorem dX9_bearsOf_107 : decode cX9_bearsOf 107 = .ok (.invokevirtual 97, 3) := by decide +kernel
theorem dX9_bearsOf_110 : decode cX9_bearsOf 110 = .ok (.iconst 1, 1) := by decide +kernel
theorem dX9_bearsOf_111 : decode cX9_bearsOf 111 = .ok (.iload_n 1, 1) := by decide +kernel
theorem dX9_bearsOf_112 : decode cX9_bearsOf 112 = .ok (.ishl, 1) := by decide +kernel
theorem dX9_bearsOf_113 : decode cX9_bearsOf 113 = .ok (.iconst (-1), 1) := by decide +kernel
theorem dX9_bearsOf_114 : decode cX9_bearsOf 114 = .ok (.ixor, 1) := by decide +kernel
theorem dX9_bearsOf_115 : decode cX9_bearsOf 115 = .ok (.iand, 1) := by decide +kernel
theorem dX9_bearsOf_116 : decode cX9_bearsOf 116 = .ok (.invokestatic 101, 3) := by decide +kernel
theorem dX9_bearsOf_119 : decode cX9_bearsOf 119 = .ok (.imul, 1) := by decide +kernel
theorem dX9_bearsOf_120 : decode cX9_bearsOf 120 = .ok (.iadd, 1) := by decide +kernel
theorem dX9_bearsOf_121 : decode cX9_bearsOf 121 = .ok (.ireturn, 1) := by decide +kernel
theorem dX9_bearsOf_122 : decode cX9_bearsOf 122 = .ok (.iload 6, 2) := by decide +kernel
theorem dX9_bearsOf_124 : decode cX9_bearsOf 124 = .ok (.ireturn, 1) := by decide +kernel
theorem dX9_bearsOf_125 : decode cX9_bearsOf 125 = .ok (.iload 6, 2) := by decide +kernel
theorem dX9_bearsOf_127 : decode cX9_bearsOf 127 = .ok (.bipush 10, 2) := by decide +kernel
theorem dX9_bearsOf_129 : decode cX9_bearsOf 129 = .ok (.isub, 1) := by decide +kernel
theorem dX9_bearsOf_130 : decode cX9_bearsOf 130 = .ok (.iconst 0, 1) := by decide +kernel
theorem dX9_bearsOf_131 : decode cX9_bearsOf 131 = .ok (.bipush 99, 2) := by decide +kernel
theorem dX9_bearsOf_133 : decode cX9_bearsOf 133 = .ok (.invokestatic 107, 3) := by decide +kernel
theorem dX9_bearsOf_136 : decode cX9_bearsOf 136 = .ok (.ireturn, 1) := by decide +kernel
theorem dX9_bearsOf_137 : decode cX9_bearsOf 137 = .ok (.bipush 99, 2) := by decide +kernel
theorem dX9_bearsOf_139 : decode cX9_bearsOf 139 = .ok (.ireturn, 1) := by decide +kernel
theorem dX9_bearsOf_140 : decode cX9_bearsOf 140 = .ok (.iload 4, 2) := by decide +kernel
theorem dX9_bearsOf_142 : decode cX9_bearsOf 142 = .ok (.ireturn, 1) := by decide +kernel
theorem dX9_pushesOf_0 : decode cX9_pushesOf 0 = .ok (.aload_n 0, 1) := by decide +kernel
theorem dX9_pushesOf_1 : decode cX9_pushesOf 1 = .ok (.iload_n 1, 1) := by decide +kernel
theorem dX9_pushesOf_2 : decode cX9_pushesOf 2 = .ok (.iconst 2, 1) := by decide +kernel
theorem dX9_pushesOf_3 : decode cX9_pushesOf 3 = .ok (.invokevirtual 89, 3) := by decide +kernel
theorem dX9_pushesOf_6 : decode cX9_pushesOf 6 = .ok (.istore_n 2, 1) := by decide +kernel
theorem dX9_pushesOf_7 : decode cX9_pushesOf 7 = .ok (.aload_n 0, 1) := by decide +kernel
theorem dX9_pushesOf_8 : decode cX9_pushesOf 8 = .ok (.iload_n 1, 1) := by decide +kernel
theorem dX9_pushesOf_9 : decode cX9_pushesOf 9 = .ok (.iconst 0, 1) := by decide +kernel
theorem dX9_pushesOf_10 : decode cX9_pushesOf 10 = .ok (.invokevirtual 89, 3) := by decide +kernel
theorem dX9_pushesOf_13 : decode cX9_pushesOf 13 = .ok (.tableswitch 61 1 5 #[35, 47, 40, 52, 59], 35) := by decide +kernel
theorem dX9_pushesOf_48 : decode cX9_pushesOf 48 = .ok (.iload_n 2, 1) := by decide +kernel
theorem dX9_pushesOf_49 : decode cX9_pushesOf 49 = .ok (.bipush 15, 2) := by decide +kernel
theorem dX9_pushesOf_51 : decode cX9_pushesOf 51 = .ok (.iadd, 1) := by decide +kernel
theorem dX9_pushesOf_52 : decode cX9_pushesOf 52 = .ok (.ireturn, 1) := by decide +kernel
theorem dX9_pushesOf_53 : decode cX9_pushesOf 53 = .ok (.iload_n 2, 1) := by decide +kernel
theorem dX9_pushesOf_54 : decode cX9_pushesOf 54 = .ok (.bipush 15, 2) := by decide +kernel
theorem dX9_pushesOf_56 : decode cX9_pushesOf 56 = .ok (.iadd, 1) := by decide +kernel
theorem dX9_pushesOf_57 : decode cX9_pushesOf 57 = .ok (.iconst 2, 1) := by decide +kernel
theorem dX9_pushesOf_58 : decode cX9_pushesOf 58 = .ok (.idiv, 1) := by decide +kernel
theorem dX9_pushesOf_59 : decode cX9_pushesOf 59 = .ok (.ireturn, 1) := by decide +kernel
theorem dX9_pushesOf_60 : decode cX9_pushesOf 60 = .ok (.iload_n 2, 1) := by decide +kernel
theorem dX9_pushesOf_61 : decode cX9_pushesOf 61 = .ok (.bipush 10, 2) := by decide +kernel
theorem dX9_pushesOf_63 : decode cX9_pushesOf 63 = .ok (.isub, 1) := by decide +kernel
theorem dX9_pushesOf_64 : decode cX9_pushesOf 64 = .ok (.ireturn, 1) := by decide +kernel
theorem dX9_pushesOf_65 : decode cX9_pushesOf 65 = .ok (.iconst 2, 1) := by decide +kernel
theorem dX9_pushesOf_66 : decode cX9_pushesOf 66 = .ok (.iload_n 2, 1) := by decide +kernel
theorem dX9_pushesOf_67 : decode cX9_pushesOf 67 = .ok (.bipush 10, 2) := by decide +kernel
theorem dX9_pushesOf_69 : decode cX9_pushesOf 69 = .ok (.isub, 1) := by decide +kernel
theorem dX9_pushesOf_70 : decode cX9_pushesOf 70 = .ok (.imul, 1) := by decide +kernel
theorem dX9_pushesOf_71 : decode cX9_pushesOf 71 = .ok (.ireturn, 1) := by decide +kernel
theorem dX9_pushesOf_72 : decode cX9_pushesOf 72 = .ok (.iconst 0, 1) := by decide +kernel
theorem dX9_pushesOf_73 : decode cX9_pushesOf 73 = .ok (.ireturn, 1) := by decide +kernel
theorem dX9_pushesOf_74 : decode cX9_pushesOf 74 = .ok (.iload_n 2, 1) := by decide +kernel
theorem dX9_pushesOf_75 : decode cX9_pushesOf 75 = .ok (.ireturn, 1) := by decide +kernel
theorem dX9_worthOf_0 : decode cX9_worthOf 0 = .ok (.aload_n 0, 1) := by decide +kernel
theorem dX9_worthOf_1 : decode cX9_worthOf 1 = .ok (.iload_n 1, 1) := by decide +kernel
theorem dX9_worthOf_2 : decode cX9_worthOf 2 = .ok (.iconst 4, 1) := by decide +kernel
theorem dX9_worthOf_3 : decode cX9_worthOf 3 = .ok (.invokevirtual 89, 3) := by decide +kernel
theorem dX9_worthOf_6 : decode cX9_worthOf 6 = .ok (.aload_n 0, 1) := by decide +kernel
theorem dX9_worthOf_7 : decode cX9_worthOf 7 = .ok (.iload_n 1, 1) := by decide +kernel
theorem dX9_worthOf_8 : decode cX9_worthOf 8 = .ok (.iconst 2, 1) := by decide +kernel
theorem dX9_worthOf_9 : decode cX9_worthOf 9 = .ok (.invokevirtual 89, 3) := by decide +kernel
theorem dX9_worthOf_12 : decode cX9_worthOf 12 = .ok (.iadd, 1) := by decide +kernel
theorem dX9_worthOf_13 : decode cX9_worthOf 13 = .ok (.istore_n 2, 1) := by decide +kernel
theorem dX9_worthOf_14 : decode cX9_worthOf 14 = .ok (.bipush 99, 2) := by decide +kernel
theorem dX9_worthOf_16 : decode cX9_worthOf 16 = .ok (.aload_n 0, 1) := by decide +kernel
theorem dX9_worthOf_17 : decode cX9_worthOf 17 = .ok (.iload_n 1, 1) := by decide +kernel
theorem dX9_worthOf_18 : decode cX9_worthOf 18 = .ok (.iconst 1, 1) := by decide +kernel
theorem dX9_worthOf_19 : decode cX9_worthOf 19 = .ok (.invokevirtual 89, 3) := by decide +kernel
theorem dX9_worthOf_22 : decode cX9_worthOf 22 = .ok (.isub, 1) := by decide +kernel
theorem dX9_worthOf_23 : decode cX9_worthOf 23 = .ok (.istore_n 3, 1) := by decide +kernel
theorem dX9_worthOf_24 : decode cX9_worthOf 24 = .ok (.aload_n 0, 1) := by decide +kernel
theorem dX9_worthOf_25 : decode cX9_worthOf 25 = .ok (.iload_n 1, 1) := by decide +kernel
theorem dX9_worthOf_26 : decode cX9_worthOf 26 = .ok (.iconst 0, 1) := by decide +kernel
theorem dX9_worthOf_27 : decode cX9_worthOf 27 = .ok (.invokevirtual 89, 3) := by decide +kernel
theorem dX9_worthOf_30 : decode cX9_worthOf 30 = .ok (.tableswitch 50 1 5 #[34, 40, 36, 42, 46], 34) := by decide +kernel
theorem dX9_worthOf_64 : decode cX9_worthOf 64 = .ok (.iload_n 2, 1) := by decide +kernel
theorem dX9_worthOf_65 : decode cX9_worthOf 65 = .ok (.ireturn, 1) := by decide +kernel
theorem dX9_worthOf_66 : decode cX9_worthOf 66 = .ok (.iconst 5, 1) := by decide +kernel
theorem dX9_worthOf_67 : decode cX9_worthOf 67 = .ok (.iload_n 2, 1) := by decide +kernel
theorem dX9_worthOf_68 : decode cX9_worthOf 68 = .ok (.imul, 1) := by decide +kernel
theorem dX9_worthOf_69 : decode cX9_worthOf 69 = .ok (.ireturn, 1) := by decide +kernel
theorem dX9_worthOf_70 : decode cX9_worthOf 70 = .ok (.iload_n 3, 1) := by decide +kernel
theorem dX9_worthOf_71 : decode cX9_worthOf 71 = .ok (.ireturn, 1) := by decide +kernel
theorem dX9_worthOf_72 : decode cX9_worthOf 72 = .ok (.iload_n 3, 1) := by decide +kernel
theorem dX9_worthOf_73 : decode cX9_worthOf 73 = .ok (.iconst 2, 1) := by decide +kernel
theorem dX9_worthOf_74 : decode cX9_worthOf 74 = .ok (.idiv, 1) := by decide +kernel
theorem dX9_worthOf_75 : decode cX9_worthOf 75 = .ok (.ireturn, 1) := by decide +kernel
theorem dX9_worthOf_76 : decode cX9_worthOf 76 = .ok (.sipush 500, 3) := by decide +kernel
theorem dX9_worthOf_79 : decode cX9_worthOf 79 = .ok (.ireturn, 1) := by decide +kernel
theorem dX9_worthOf_80 : decode cX9_worthOf 80 = .ok (.aload_n 0, 1) := by decide +kernel
theorem dX9_worthOf_81 : decode cX9_worthOf 81 = .ok (.iload_n 1, 1) := by decide +kernel
theorem dX9_worthOf_82 : decode cX9_worthOf 82 = .ok (.iconst 4, 1) := by decide +kernel
theorem dX9_worthOf_83 : decode cX9_worthOf 83 = .ok (.invokevirtual 89, 3) := by decide +kernel
theorem dX9_worthOf_86 : decode cX9_worthOf 86 = .ok (.ireturn, 1) := by decide +kernel
theorem dX9_comes_0 : decode cX9_comes 0 = .ok (.aload_n 0, 1) := by decide +kernel
theorem dX9_comes_1 : decode cX9_comes 1 = .ok (.getfield 9, 3) := by decide +kernel
theorem dX9_comes_4 : decode cX9_comes 4 = .ok (.iconst 1, 1) := by decide +kernel
theorem dX9_comes_5 : decode cX9_comes 5 = .ok (.iaload, 1) := by decide +kernel
theorem dX9_comes_6 : decode cX9_comes 6 = .ok (.istore 5, 2) := by decide +kernel
theorem dX9_comes_8 : decode cX9_comes 8 = .ok (.aload_n 0, 1) := by decide +kernel
theorem dX9_comes_9 : decode cX9_comes 9 = .ok (.getfield 9, 3) := by decide +kernel
theorem dX9_comes_12 : decode cX9_comes 12 = .ok (.iconst 1, 1) := by decide +kernel
theorem dX9_comes_13 : decode cX9_comes 13 = .ok (.dup2, 1) := by decide +kernel
theorem dX9_comes_14 : decode cX9_comes 14 = .ok (.iaload, 1) := by decide +kernel
theorem dX9_comes_15 : decode cX9_comes 15 = .ok (.iconst 1, 1) := by decide +kernel
theorem dX9_comes_16 : decode cX9_comes 16 = .ok (.iadd, 1) := by decide +kernel
theorem dX9_comes_17 : decode cX9_comes 17 = .ok (.iastore, 1) := by decide +kernel
theorem dX9_comes_18 : decode cX9_comes 18 = .ok (.aload_n 0, 1) := by decide +kernel
theorem dX9_comes_19 : decode cX9_comes 19 = .ok (.iload 5, 2) := by decide +kernel
theorem dX9_comes_21 : decode cX9_comes 21 = .ok (.iconst 0, 1) := by decide +kernel
theorem dX9_comes_22 : decode cX9_comes 22 = .ok (.iload_n 1, 1) := by decide +kernel
theorem dX9_comes_23 : decode cX9_comes 23 = .ok (.invokevirtual 114, 3) := by decide +kernel
theorem dX9_comes_26 : decode cX9_comes 26 = .ok (.aload_n 0, 1) := by decide +kernel
theorem dX9_comes_27 : decode cX9_comes 27 = .ok (.iload 5, 2) := by decide +kernel
theorem dX9_comes_29 : decode cX9_comes 29 = .ok (.iconst 1, 1) := by decide +kernel
theorem dX9_comes_30 : decode cX9_comes 30 = .ok (.iload_n 2, 1) := by decide +kernel
theorem dX9_comes_31 : decode cX9_comes 31 = .ok (.invokevirtual 114, 3) := by decide +kernel
theorem dX9_comes_34 : decode cX9_comes 34 = .ok (.aload_n 0, 1) := by decide +kernel
theorem dX9_comes_35 : decode cX9_comes 35 = .ok (.iload 5, 2) := by decide +kernel
theorem dX9_comes_37 : decode cX9_comes 37 = .ok (.iconst 2, 1) := by decide +kernel
theorem dX9_comes_38 : decode cX9_comes 38 = .ok (.iload_n 3, 1) := by decide +kernel
theorem dX9_comes_39 : decode cX9_comes 39 = .ok (.invokevirtual 114, 3) := by decide +kernel
theorem dX9_comes_42 : decode cX9_comes 42 = .ok (.aload_n 0, 1) := by decide +kernel
theorem dX9_comes_43 : decode cX9_comes 43 = .ok (.iload 5, 2) := by decide +kernel
theorem dX9_comes_45 : decode cX9_comes 45 = .ok (.iconst 3, 1) := by decide +kernel
theorem dX9_comes_46 : decode cX9_comes 46 = .ok (.iload 4, 2) := by decide +kernel
theorem dX9_comes_48 : decode cX9_comes 48 = .ok (.invokevirtual 114, 3) := by decide +kernel
theorem dX9_comes_51 : decode cX9_comes 51 = .ok (.aload_n 0, 1) := by decide +kernel
theorem dX9_comes_52 : decode cX9_comes 52 = .ok (.iload 5, 2) := by decide +kernel
theorem dX9_comes_54 : decode cX9_comes 54 = .ok (.iconst 4, 1) := by decide +kernel
theorem dX9_comes_55 : decode cX9_comes 55 = .ok (.iconst 0, 1) := by decide +kernel
theorem dX9_comes_56 : decode cX9_comes 56 = .ok (.invokevirtual 114, 3) := by decide +kernel
theorem dX9_comes_59 : decode cX9_comes 59 = .ok (.aload_n 0, 1) := by decide +kernel
theorem dX9_comes_60 : decode cX9_comes 60 = .ok (.iload 5, 2) := by decide +kernel
theorem dX9_comes_62 : decode cX9_comes 62 = .ok (.iconst 5, 1) := by decide +kernel
theorem dX9_comes_63 : decode cX9_comes 63 = .ok (.iconst 0, 1) := by decide +kernel
theorem dX9_comes_64 : decode cX9_comes 64 = .ok (.invokevirtual 114, 3) := by decide +kernel
theorem dX9_comes_67 : decode cX9_comes 67 = .ok (.iload 5, 2) := by decide +kernel
theorem dX9_comes_69 : decode cX9_comes 69 = .ok (.ireturn, 1) := by decide +kernel
theorem dX9_man_0 : decode cX9_man 0 = .ok (.iload_n 1, 1) := by decide +kernel
theorem dX9_man_1 : decode cX9_man 1 = .ok (.iconst 0, 1) := by decide +kernel
theorem dX9_man_2 : decode cX9_man 2 = .ok (.iconst 5, 1) := by decide +kernel
theorem dX9_man_3 : decode cX9_man 3 = .ok (.invokestatic 81, 3) := by decide +kernel
theorem dX9_man_6 : decode cX9_man 6 = .ok (.ifCond .eq 31, 3) := by decide +kernel
theorem dX9_man_9 : decode cX9_man 9 = .ok (.iload_n 2, 1) := by decide +kernel
theorem dX9_man_10 : decode cX9_man 10 = .ok (.iconst 0, 1) := by decide +kernel
theorem dX9_man_11 : decode cX9_man 11 = .ok (.bipush 99, 2) := by decide +kernel
theorem dX9_man_13 : decode cX9_man 13 = .ok (.invokestatic 81, 3) := by decide +kernel
theorem dX9_man_16 : decode cX9_man 16 = .ok (.ifCond .eq 21, 3) := by decide +kernel
theorem dX9_man_19 : decode cX9_man 19 = .ok (.iload_n 3, 1) := by decide +kernel
theorem dX9_man_20 : decode cX9_man 20 = .ok (.iconst 0, 1) := by decide +kernel
theorem dX9_man_21 : decode cX9_man 21 = .ok (.bipush 99, 2) := by decide +kernel
theorem dX9_man_23 : decode cX9_man 23 = .ok (.invokestatic 81, 3) := by decide +kernel
theorem dX9_man_26 : decode cX9_man 26 = .ok (.ifCond .eq 11, 3) := by decide +kernel
theorem dX9_man_29 : decode cX9_man 29 = .ok (.iload 4, 2) := by decide +kernel
theorem dX9_man_31 : decode cX9_man 31 = .ok (.invokestatic 118, 3) := by decide +kernel
theorem dX9_man_34 : decode cX9_man 34 = .ok (.ifCond .ne 6, 3) := by decide +kernel
theorem dX9_man_37 : decode cX9_man 37 = .ok (.ldc 121, 2) := by decide +kernel
theorem dX9_man_39 : decode cX9_man 39 = .ok (.ireturn, 1) := by decide +kernel
theorem dX9_man_40 : decode cX9_man 40 = .ok (.aload_n 0, 1) := by decide +kernel
theorem dX9_man_41 : decode cX9_man 41 = .ok (.getfield 9, 3) := by decide +kernel
theorem dX9_man_44 : decode cX9_man 44 = .ok (.iconst 1, 1) := by decide +kernel
theorem dX9_man_45 : decode cX9_man 45 = .ok (.iaload, 1) := by decide +kernel
theorem dX9_man_46 : decode cX9_man 46 = .ok (.bipush 9, 2) := by decide +kernel
theorem dX9_man_48 : decode cX9_man 48 = .ok (.if_icmp .ne 8, 3) := by decide +kernel
theorem dX9_man_51 : decode cX9_man 51 = .ok (.ldc 122, 2) := by decide +kernel
theorem dX9_man_53 : decode cX9_man 53 = .ok (.goto 12, 3) := by decide +kernel
theorem dX9_man_56 : decode cX9_man 56 = .ok (.aload_n 0, 1) := by decide +kernel
theorem dX9_man_57 : decode cX9_man 57 = .ok (.iload_n 1, 1) := by decide +kernel
theorem dX9_man_58 : decode cX9_man 58 = .ok (.iload_n 2, 1) := by decide +kernel
theorem dX9_man_59 : decode cX9_man 59 = .ok (.iload_n 3, 1) := by decide +kernel
theorem dX9_man_60 : decode cX9_man 60 = .ok (.iload 4, 2) := by decide +kernel
theorem dX9_man_62 : decode cX9_man 62 = .ok (.invokevirtual 123, 3) := by decide +kernel
theorem dX9_man_65 : decode cX9_man 65 = .ok (.ireturn, 1) := by decide +kernel
theorem dX9_told_0 : decode cX9_told 0 = .ok (.aload_n 0, 1) := by decide +kernel
theorem dX9_told_1 : decode cX9_told 1 = .ok (.iload_n 1, 1) := by decide +kernel
theorem dX9_told_2 : decode cX9_told 2 = .ok (.invokevirtual 85, 3) := by decide +kernel
theorem dX9_told_5 : decode cX9_told 5 = .ok (.ifCond .eq 13, 3) := by decide +kernel
theorem dX9_told_8 : decode cX9_told 8 = .ok (.iload_n 2, 1) := by decide +kernel
theorem dX9_told_9 : decode cX9_told 9 = .ok (.iconst 0, 1) := by decide +kernel
theorem dX9_told_10 : decode cX9_told 10 = .ok (.bipush 7, 2) := by decide +kernel
theorem dX9_told_12 : decode cX9_told 12 = .ok (.invokestatic 81, 3) := by decide +kernel
theorem dX9_told_15 : decode cX9_told 15 = .ok (.ifCond .ne 6, 3) := by decide +kernel
theorem dX9_told_18 : decode cX9_told 18 = .ok (.ldc 121, 2) := by decide +kernel
theorem dX9_told_20 : decode cX9_told 20 = .ok (.ireturn, 1) := by decide +kernel
theorem dX9_told_21 : decode cX9_told 21 = .ok (.iload_n 2, 1) := by decide +kernel
theorem dX9_told_22 : decode cX9_told 22 = .ok (.bipush 6, 2) := by decide +kernel
theorem dX9_told_24 : decode cX9_told 24 = .ok (.if_icmp .ge 12, 3) := by decide +kernel
theorem dX9_told_27 : decode cX9_told 27 = .ok (.aload_n 0, 1) := by decide +kernel
theorem dX9_told_28 : decode cX9_told 28 = .ok (.iload_n 1, 1) := by decide +kernel
theorem dX9_told_29 : decode cX9_told 29 = .ok (.iload_n 2, 1) := by decide +kernel
theorem dX9_told_30 : decode cX9_told 30 = .ok (.invokevirtual 89, 3) := by decide +kernel
theorem dX9_told_33 : decode cX9_told 33 = .ok (.goto 22, 3) := by decide +kernel
theorem dX9_told_36 : decode cX9_told 36 = .ok (.iload_n 2, 1) := by decide +kernel
theorem dX9_told_37 : decode cX9_told 37 = .ok (.bipush 6, 2) := by decide +kernel
theorem dX9_told_39 : decode cX9_told 39 = .ok (.if_icmp .ne 11, 3) := by decide +kernel
theorem dX9_told_42 : decode cX9_told 42 = .ok (.aload_n 0, 1) := by decide +kernel
theorem dX9_told_43 : decode cX9_told 43 = .ok (.iload_n 1, 1) := by decide +kernel
theorem dX9_told_44 : decode cX9_told 44 = .ok (.invokevirtual 127, 3) := by decide +kernel
theorem dX9_told_47 : decode cX9_told 47 = .ok (.goto 8, 3) := by decide +kernel
theorem dX9_told_50 : decode cX9_told 50 = .ok (.aload_n 0, 1) := by decide +kernel
theorem dX9_told_51 : decode cX9_told 51 = .ok (.iload_n 1, 1) := by decide +kernel
theorem dX9_told_52 : decode cX9_told 52 = .ok (.invokevirtual 130, 3) := by decide +kernel
theorem dX9_told_55 : decode cX9_told 55 = .ok (.ireturn, 1) := by decide +kernel
theorem dX9_bears_0 : decode cX9_bears 0 = .ok (.aload_n 0, 1) := by decide +kernel
theorem dX9_bears_1 : decode cX9_bears 1 = .ok (.iload_n 1, 1) := by decide +kernel
theorem dX9_bears_2 : decode cX9_bears 2 = .ok (.invokevirtual 85, 3) := by decide +kernel
theorem dX9_bears_5 : decode cX9_bears 5 = .ok (.ifCond .eq 19, 3) := by decide +kernel
theorem dX9_bears_8 : decode cX9_bears 8 = .ok (.iload_n 2, 1) := by decide +kernel
theorem dX9_bears_9 : decode cX9_bears 9 = .ok (.invokestatic 118, 3) := by decide +kernel
theorem dX9_bears_12 : decode cX9_bears 12 = .ok (.ifCond .eq 12, 3) := by decide +kernel
theorem dX9_bears_15 : decode cX9_bears 15 = .ok (.aload_n 0, 1) := by decide +kernel
theorem dX9_bears_16 : decode cX9_bears 16 = .ok (.iload_n 1, 1) := by decide +kernel
theorem dX9_bears_17 : decode cX9_bears 17 = .ok (.iload_n 2, 1) := by decide +kernel
theorem dX9_bears_18 : decode cX9_bears 18 = .ok (.invokevirtual 133, 3) := by decide +kernel
theorem dX9_bears_21 : decode cX9_bears 21 = .ok (.goto 5, 3) := by decide +kernel
theorem dX9_bears_24 : decode cX9_bears 24 = .ok (.ldc 121, 2) := by decide +kernel
theorem dX9_bears_26 : decode cX9_bears 26 = .ok (.ireturn, 1) := by decide +kernel
end
section
theorem dX9_isUnder_0 : decode cX9_isUnder 0 = .ok (.iload_n 1, 1) := by decide +kernel
theorem dX9_isUnder_1 : decode cX9_isUnder 1 = .ok (.ifCond .eq 28, 3) := by decide +kernel
theorem dX9_isUnder_4 : decode cX9_isUnder 4 = .ok (.iload_n 0, 1) := by decide +kernel
theorem dX9_isUnder_5 : decode cX9_isUnder 5 = .ok (.iload_n 1, 1) := by decide +kernel
theorem dX9_isUnder_6 : decode cX9_isUnder 6 = .ok (.if_icmp .eq 23, 3) := by decide +kernel
theorem dX9_isUnder_9 : decode cX9_isUnder 9 = .ok (.iload_n 1, 1) := by decide +kernel
theorem dX9_isUnder_10 : decode cX9_isUnder 10 = .ok (.iconst 1, 1) := by decide +kernel
theorem dX9_isUnder_11 : decode cX9_isUnder 11 = .ok (.if_icmp .ne 8, 3) := by decide +kernel
theorem dX9_isUnder_14 : decode cX9_isUnder 14 = .ok (.iload_n 0, 1) := by decide +kernel
theorem dX9_isUnder_15 : decode cX9_isUnder 15 = .ok (.iconst 3, 1) := by decide +kernel
theorem dX9_isUnder_16 : decode cX9_isUnder 16 = .ok (.if_icmp .eq 13, 3) := by decide +kernel
theorem dX9_isUnder_19 : decode cX9_isUnder 19 = .ok (.iload_n 1, 1) := by decide +kernel
theorem dX9_isUnder_20 : decode cX9_isUnder 20 = .ok (.iconst 2, 1) := by decide +kernel
theorem dX9_isUnder_21 : decode cX9_isUnder 21 = .ok (.if_icmp .ne 12, 3) := by decide +kernel
theorem dX9_isUnder_24 : decode cX9_isUnder 24 = .ok (.iload_n 0, 1) := by decide +kernel
theorem dX9_isUnder_25 : decode cX9_isUnder 25 = .ok (.iconst 4, 1) := by decide +kernel
theorem dX9_isUnder_26 : decode cX9_isUnder 26 = .ok (.if_icmp .ne 7, 3) := by decide +kernel
theorem dX9_isUnder_29 : decode cX9_isUnder 29 = .ok (.iconst 1, 1) := by decide +kernel
theorem dX9_isUnder_30 : decode cX9_isUnder 30 = .ok (.goto 4, 3) := by decide +kernel
theorem dX9_isUnder_33 : decode cX9_isUnder 33 = .ok (.iconst 0, 1) := by decide +kernel
theorem dX9_isUnder_34 : decode cX9_isUnder 34 = .ok (.ireturn, 1) := by decide +kernel
theorem dX9_as_0 : decode cX9_as 0 = .ok (.aload_n 0, 1) := by decide +kernel
theorem dX9_as_1 : decode cX9_as 1 = .ok (.iload_n 1, 1) := by decide +kernel
theorem dX9_as_2 : decode cX9_as 2 = .ok (.invokevirtual 85, 3) := by decide +kernel
theorem dX9_as_5 : decode cX9_as 5 = .ok (.ifCond .eq 12, 3) := by decide +kernel
theorem dX9_as_8 : decode cX9_as 8 = .ok (.iload_n 2, 1) := by decide +kernel
theorem dX9_as_9 : decode cX9_as 9 = .ok (.iconst 0, 1) := by decide +kernel
theorem dX9_as_10 : decode cX9_as 10 = .ok (.iconst 5, 1) := by decide +kernel
theorem dX9_as_11 : decode cX9_as 11 = .ok (.invokestatic 81, 3) := by decide +kernel
theorem dX9_as_14 : decode cX9_as 14 = .ok (.ifCond .ne 6, 3) := by decide +kernel
theorem dX9_as_17 : decode cX9_as 17 = .ok (.ldc 121, 2) := by decide +kernel
theorem dX9_as_19 : decode cX9_as 19 = .ok (.ireturn, 1) := by decide +kernel
theorem dX9_as_20 : decode cX9_as 20 = .ok (.aload_n 0, 1) := by decide +kernel
theorem dX9_as_21 : decode cX9_as 21 = .ok (.iload_n 1, 1) := by decide +kernel
theorem dX9_as_22 : decode cX9_as 22 = .ok (.iconst 0, 1) := by decide +kernel
theorem dX9_as_23 : decode cX9_as 23 = .ok (.invokevirtual 89, 3) := by decide +kernel
theorem dX9_as_26 : decode cX9_as 26 = .ok (.iload_n 2, 1) := by decide +kernel
theorem dX9_as_27 : decode cX9_as 27 = .ok (.invokestatic 136, 3) := by decide +kernel
theorem dX9_as_30 : decode cX9_as 30 = .ok (.ifCond .eq 12, 3) := by decide +kernel
theorem dX9_as_33 : decode cX9_as 33 = .ok (.aload_n 0, 1) := by decide +kernel
theorem dX9_as_34 : decode cX9_as 34 = .ok (.iload_n 1, 1) := by decide +kernel
theorem dX9_as_35 : decode cX9_as 35 = .ok (.iconst 1, 1) := by decide +kernel
theorem dX9_as_36 : decode cX9_as 36 = .ok (.invokevirtual 89, 3) := by decide +kernel
theorem dX9_as_39 : decode cX9_as 39 = .ok (.goto 5, 3) := by decide +kernel
theorem dX9_as_42 : decode cX9_as 42 = .ok (.ldc 140, 2) := by decide +kernel
theorem dX9_as_44 : decode cX9_as 44 = .ok (.ireturn, 1) := by decide +kernel
theorem dX9_turns_0 : decode cX9_turns 0 = .ok (.aload_n 0, 1) := by decide +kernel
theorem dX9_turns_1 : decode cX9_turns 1 = .ok (.iload_n 1, 1) := by decide +kernel
theorem dX9_turns_2 : decode cX9_turns 2 = .ok (.invokevirtual 85, 3) := by decide +kernel
theorem dX9_turns_5 : decode cX9_turns 5 = .ok (.ifCond .eq 27, 3) := by decide +kernel
theorem dX9_turns_8 : decode cX9_turns 8 = .ok (.iload_n 2, 1) := by decide +kernel
theorem dX9_turns_9 : decode cX9_turns 9 = .ok (.iconst 0, 1) := by decide +kernel
theorem dX9_turns_10 : decode cX9_turns 10 = .ok (.iconst 5, 1) := by decide +kernel
theorem dX9_turns_11 : decode cX9_turns 11 = .ok (.invokestatic 81, 3) := by decide +kernel
theorem dX9_turns_14 : decode cX9_turns 14 = .ok (.ifCond .eq 18, 3) := by decide +kernel
theorem dX9_turns_17 : decode cX9_turns 17 = .ok (.aload_n 0, 1) := by decide +kernel
theorem dX9_turns_18 : decode cX9_turns 18 = .ok (.bipush 7, 2) := by decide +kernel
theorem dX9_turns_20 : decode cX9_turns 20 = .ok (.bipush 6, 2) := by decide +kernel
theorem dX9_turns_22 : decode cX9_turns 22 = .ok (.iload_n 1, 1) := by decide +kernel
theorem dX9_turns_23 : decode cX9_turns 23 = .ok (.imul, 1) := by decide +kernel
theorem dX9_turns_24 : decode cX9_turns 24 = .ok (.iadd, 1) := by decide +kernel
theorem dX9_turns_25 : decode cX9_turns 25 = .ok (.iload_n 2, 1) := by decide +kernel
theorem dX9_turns_26 : decode cX9_turns 26 = .ok (.invokevirtual 141, 3) := by decide +kernel
theorem dX9_turns_29 : decode cX9_turns 29 = .ok (.goto 5, 3) := by decide +kernel
theorem dX9_turns_32 : decode cX9_turns 32 = .ok (.ldc 121, 2) := by decide +kernel
theorem dX9_turns_34 : decode cX9_turns 34 = .ok (.ireturn, 1) := by decide +kernel
theorem dX9_mostOf_0 : decode cX9_mostOf 0 = .ok (.iload_n 0, 1) := by decide +kernel
theorem dX9_mostOf_1 : decode cX9_mostOf 1 = .ok (.iconst 3, 1) := by decide +kernel
theorem dX9_mostOf_2 : decode cX9_mostOf 2 = .ok (.if_icmp .ne 8, 3) := by decide +kernel
theorem dX9_mostOf_5 : decode cX9_mostOf 5 = .ok (.bipush 7, 2) := by decide +kernel
theorem dX9_mostOf_7 : decode cX9_mostOf 7 = .ok (.goto 25, 3) := by decide +kernel
theorem dX9_mostOf_10 : decode cX9_mostOf 10 = .ok (.iload_n 0, 1) := by decide +kernel
theorem dX9_mostOf_11 : decode cX9_mostOf 11 = .ok (.iconst 4, 1) := by decide +kernel
theorem dX9_mostOf_12 : decode cX9_mostOf 12 = .ok (.if_icmp .ne 9, 3) := by decide +kernel
theorem dX9_mostOf_15 : decode cX9_mostOf 15 = .ok (.sipush 9999, 3) := by decide +kernel
theorem dX9_mostOf_18 : decode cX9_mostOf 18 = .ok (.goto 14, 3) := by decide +kernel
theorem dX9_mostOf_21 : decode cX9_mostOf 21 = .ok (.iload_n 0, 1) := by decide +kernel
theorem dX9_mostOf_22 : decode cX9_mostOf 22 = .ok (.iconst 5, 1) := by decide +kernel
theorem dX9_mostOf_23 : decode cX9_mostOf 23 = .ok (.if_icmp .ne 7, 3) := by decide +kernel
theorem dX9_mostOf_26 : decode cX9_mostOf 26 = .ok (.iconst 1, 1) := by decide +kernel
theorem dX9_mostOf_27 : decode cX9_mostOf 27 = .ok (.goto 5, 3) := by decide +kernel
theorem dX9_mostOf_30 : decode cX9_mostOf 30 = .ok (.bipush 99, 2) := by decide +kernel
theorem dX9_mostOf_32 : decode cX9_mostOf 32 = .ok (.ireturn, 1) := by decide +kernel
theorem dX9_set_0 : decode cX9_set 0 = .ok (.aload_n 0, 1) := by decide +kernel
theorem dX9_set_1 : decode cX9_set 1 = .ok (.iload_n 1, 1) := by decide +kernel
theorem dX9_set_2 : decode cX9_set 2 = .ok (.invokevirtual 85, 3) := by decide +kernel
theorem dX9_set_5 : decode cX9_set 5 = .ok (.ifCond .eq 41, 3) := by decide +kernel
theorem dX9_set_8 : decode cX9_set 8 = .ok (.iload_n 2, 1) := by decide +kernel
theorem dX9_set_9 : decode cX9_set 9 = .ok (.iconst 1, 1) := by decide +kernel
theorem dX9_set_10 : decode cX9_set 10 = .ok (.iconst 5, 1) := by decide +kernel
theorem dX9_set_11 : decode cX9_set 11 = .ok (.invokestatic 81, 3) := by decide +kernel
theorem dX9_set_14 : decode cX9_set 14 = .ok (.ifCond .eq 32, 3) := by decide +kernel
theorem dX9_set_17 : decode cX9_set 17 = .ok (.iload_n 3, 1) := by decide +kernel
theorem dX9_set_18 : decode cX9_set 18 = .ok (.iconst 0, 1) := by decide +kernel
theorem dX9_set_19 : decode cX9_set 19 = .ok (.iload_n 2, 1) := by decide +kernel
theorem dX9_set_20 : decode cX9_set 20 = .ok (.invokestatic 144, 3) := by decide +kernel
theorem dX9_set_23 : decode cX9_set 23 = .ok (.invokestatic 81, 3) := by decide +kernel
theorem dX9_set_26 : decode cX9_set 26 = .ok (.ifCond .eq 20, 3) := by decide +kernel
theorem dX9_set_29 : decode cX9_set 29 = .ok (.aload_n 0, 1) := by decide +kernel
theorem dX9_set_30 : decode cX9_set 30 = .ok (.bipush 7, 2) := by decide +kernel
theorem dX9_set_32 : decode cX9_set 32 = .ok (.bipush 6, 2) := by decide +kernel
theorem dX9_set_34 : decode cX9_set 34 = .ok (.iload_n 1, 1) := by decide +kernel
theorem dX9_set_35 : decode cX9_set 35 = .ok (.imul, 1) := by decide +kernel
theorem dX9_set_36 : decode cX9_set 36 = .ok (.iadd, 1) := by decide +kernel
theorem dX9_set_37 : decode cX9_set 37 = .ok (.iload_n 2, 1) := by decide +kernel
theorem dX9_set_38 : decode cX9_set 38 = .ok (.iadd, 1) := by decide +kernel
theorem dX9_set_39 : decode cX9_set 39 = .ok (.iload_n 3, 1) := by decide +kernel
theorem dX9_set_40 : decode cX9_set 40 = .ok (.invokevirtual 141, 3) := by decide +kernel
theorem dX9_set_43 : decode cX9_set 43 = .ok (.goto 5, 3) := by decide +kernel
theorem dX9_set_46 : decode cX9_set 46 = .ok (.ldc 121, 2) := by decide +kernel
theorem dX9_set_48 : decode cX9_set 48 = .ok (.ireturn, 1) := by decide +kernel
theorem dX9_drops_0 : decode cX9_drops 0 = .ok (.aload_n 0, 1) := by decide +kernel
theorem dX9_drops_1 : decode cX9_drops 1 = .ok (.iload_n 1, 1) := by decide +kernel
theorem dX9_drops_2 : decode cX9_drops 2 = .ok (.iconst 5, 1) := by decide +kernel
theorem dX9_drops_3 : decode cX9_drops 3 = .ok (.iconst 1, 1) := by decide +kernel
theorem dX9_drops_4 : decode cX9_drops 4 = .ok (.invokevirtual 114, 3) := by decide +kernel
theorem dX9_drops_7 : decode cX9_drops 7 = .ok (.aload_n 0, 1) := by decide +kernel
theorem dX9_drops_8 : decode cX9_drops 8 = .ok (.iload_n 1, 1) := by decide +kernel
theorem dX9_drops_9 : decode cX9_drops 9 = .ok (.iconst 4, 1) := by decide +kernel
theorem dX9_drops_10 : decode cX9_drops 10 = .ok (.aload_n 0, 1) := by decide +kernel
theorem dX9_drops_11 : decode cX9_drops 11 = .ok (.iload_n 1, 1) := by decide +kernel
theorem dX9_drops_12 : decode cX9_drops 12 = .ok (.iconst 4, 1) := by decide +kernel
theorem dX9_drops_13 : decode cX9_drops 13 = .ok (.invokevirtual 89, 3) := by decide +kernel
theorem dX9_drops_16 : decode cX9_drops 16 = .ok (.iconst 1, 1) := by decide +kernel
theorem dX9_drops_17 : decode cX9_drops 17 = .ok (.iadd, 1) := by decide +kernel
theorem dX9_drops_18 : decode cX9_drops 18 = .ok (.iconst 0, 1) := by decide +kernel
theorem dX9_drops_19 : decode cX9_drops 19 = .ok (.sipush 9999, 3) := by decide +kernel
theorem dX9_drops_22 : decode cX9_drops 22 = .ok (.invokestatic 107, 3) := by decide +kernel
theorem dX9_drops_25 : decode cX9_drops 25 = .ok (.invokevirtual 114, 3) := by decide +kernel
theorem dX9_drops_28 : decode cX9_drops 28 = .ok (.aload_n 0, 1) := by decide +kernel
theorem dX9_drops_29 : decode cX9_drops 29 = .ok (.getfield 9, 3) := by decide +kernel
theorem dX9_drops_32 : decode cX9_drops 32 = .ok (.iconst 3, 1) := by decide +kernel
theorem dX9_drops_33 : decode cX9_drops 33 = .ok (.dup2, 1) := by decide +kernel
theorem dX9_drops_34 : decode cX9_drops 34 = .ok (.iaload, 1) := by decide +kernel
theorem dX9_drops_35 : decode cX9_drops 35 = .ok (.iconst 1, 1) := by decide +kernel
theorem dX9_drops_36 : decode cX9_drops 36 = .ok (.iadd, 1) := by decide +kernel
theorem dX9_drops_37 : decode cX9_drops 37 = .ok (.iastore, 1) := by decide +kernel
theorem dX9_drops_38 : decode cX9_drops 38 = .ok (.aload_n 0, 1) := by decide +kernel
theorem dX9_drops_39 : decode cX9_drops 39 = .ok (.iload_n 1, 1) := by decide +kernel
theorem dX9_drops_40 : decode cX9_drops 40 = .ok (.invokevirtual 127, 3) := by decide +kernel
theorem dX9_drops_43 : decode cX9_drops 43 = .ok (.istore 4, 2) := by decide +kernel
theorem dX9_drops_45 : decode cX9_drops 45 = .ok (.iload_n 3, 1) := by decide +kernel
theorem dX9_drops_46 : decode cX9_drops 46 = .ok (.iconst 1, 1) := by decide +kernel
theorem dX9_drops_47 : decode cX9_drops 47 = .ok (.if_icmp .eq 41, 3) := by decide +kernel
theorem dX9_drops_50 : decode cX9_drops 50 = .ok (.aload_n 0, 1) := by decide +kernel
theorem dX9_drops_51 : decode cX9_drops 51 = .ok (.getstatic 147, 3) := by decide +kernel
theorem dX9_drops_54 : decode cX9_drops 54 = .ok (.iload_n 1, 1) := by decide +kernel
theorem dX9_drops_55 : decode cX9_drops 55 = .ok (.iaload, 1) := by decide +kernel
theorem dX9_drops_56 : decode cX9_drops 56 = .ok (.invokevirtual 150, 3) := by decide +kernel
theorem dX9_drops_59 : decode cX9_drops 59 = .ok (.ifCond .eq 29, 3) := by decide +kernel
theorem dX9_drops_62 : decode cX9_drops 62 = .ok (.aload_n 0, 1) := by decide +kernel
theorem dX9_drops_63 : decode cX9_drops 63 = .ok (.getstatic 147, 3) := by decide +kernel
theorem dX9_drops_66 : decode cX9_drops 66 = .ok (.iload_n 1, 1) := by decide +kernel
theorem dX9_drops_67 : decode cX9_drops 67 = .ok (.iaload, 1) := by decide +kernel
theorem dX9_drops_68 : decode cX9_drops 68 = .ok (.iload_n 2, 1) := by decide +kernel
theorem dX9_drops_69 : decode cX9_drops 69 = .ok (.invokevirtual 133, 3) := by decide +kernel
theorem dX9_drops_72 : decode cX9_drops 72 = .ok (.iload 4, 2) := by decide +kernel
theorem dX9_drops_74 : decode cX9_drops 74 = .ok (.if_icmp .ge 14, 3) := by decide +kernel
theorem dX9_drops_77 : decode cX9_drops 77 = .ok (.aload_n 0, 1) := by decide +kernel
theorem dX9_drops_78 : decode cX9_drops 78 = .ok (.getstatic 147, 3) := by decide +kernel
theorem dX9_drops_81 : decode cX9_drops 81 = .ok (.iload_n 1, 1) := by decide +kernel
theorem dX9_drops_82 : decode cX9_drops 82 = .ok (.iaload, 1) := by decide +kernel
theorem dX9_drops_83 : decode cX9_drops 83 = .ok (.iload_n 2, 1) := by decide +kernel
theorem dX9_drops_84 : decode cX9_drops 84 = .ok (.iload_n 3, 1) := by decide +kernel
theorem dX9_drops_85 : decode cX9_drops 85 = .ok (.invokevirtual 153, 3) := by decide +kernel
theorem dX9_drops_88 : decode cX9_drops 88 = .ok (.iload_n 3, 1) := by decide +kernel
theorem dX9_drops_89 : decode cX9_drops 89 = .ok (.iconst (-1), 1) := by decide +kernel
theorem dX9_drops_90 : decode cX9_drops 90 = .ok (.if_icmp .eq 41, 3) := by decide +kernel
theorem dX9_drops_93 : decode cX9_drops 93 = .ok (.aload_n 0, 1) := by decide +kernel
theorem dX9_drops_94 : decode cX9_drops 94 = .ok (.getstatic 156, 3) := by decide +kernel
theorem dX9_drops_97 : decode cX9_drops 97 = .ok (.iload_n 1, 1) := by decide +kernel
theorem dX9_drops_98 : decode cX9_drops 98 = .ok (.iaload, 1) := by decide +kernel
theorem dX9_drops_99 : decode cX9_drops 99 = .ok (.invokevirtual 150, 3) := by decide +kernel
theorem dX9_drops_102 : decode cX9_drops 102 = .ok (.ifCond .eq 29, 3) := by decide +kernel
theorem dX9_drops_105 : decode cX9_drops 105 = .ok (.aload_n 0, 1) := by decide +kernel
theorem dX9_drops_106 : decode cX9_drops 106 = .ok (.getstatic 156, 3) := by decide +kernel
theorem dX9_drops_109 : decode cX9_drops 109 = .ok (.iload_n 1, 1) := by decide +kernel
theorem dX9_drops_110 : decode cX9_drops 110 = .ok (.iaload, 1) := by decide +kernel
theorem dX9_drops_111 : decode cX9_drops 111 = .ok (.iload_n 2, 1) := by decide +kernel
theorem dX9_drops_112 : decode cX9_drops 112 = .ok (.invokevirtual 133, 3) := by decide +kernel
theorem dX9_drops_115 : decode cX9_drops 115 = .ok (.iload 4, 2) := by decide +kernel
theorem dX9_drops_117 : decode cX9_drops 117 = .ok (.if_icmp .ge 14, 3) := by decide +kernel
theorem dX9_drops_120 : decode cX9_drops 120 = .ok (.aload_n 0, 1) := by decide +kernel
theorem dX9_drops_121 : decode cX9_drops 121 = .ok (.getstatic 156, 3) := by decide +kernel
theorem dX9_drops_124 : decode cX9_drops 124 = .ok (.iload_n 1, 1) := by decide +kernel
theorem dX9_drops_125 : decode cX9_drops 125 = .ok (.iaload, 1) := by decide +kernel
theorem dX9_drops_126 : decode cX9_drops 126 = .ok (.iload_n 2, 1) := by decide +kernel
theorem dX9_drops_127 : decode cX9_drops 127 = .ok (.iload_n 3, 1) := by decide +kernel
theorem dX9_drops_128 : decode cX9_drops 128 = .ok (.invokevirtual 153, 3) := by decide +kernel
theorem dX9_drops_131 : decode cX9_drops 131 = .ok (.return_, 1) := by decide +kernel
theorem dX9_said_0 : decode cX9_said 0 = .ok (.aload_n 0, 1) := by decide +kernel
theorem dX9_said_1 : decode cX9_said 1 = .ok (.getfield 9, 3) := by decide +kernel
theorem dX9_said_4 : decode cX9_said 4 = .ok (.iconst 3, 1) := by decide +kernel
theorem dX9_said_5 : decode cX9_said 5 = .ok (.iaload, 1) := by decide +kernel
theorem dX9_said_6 : decode cX9_said 6 = .ok (.istore 5, 2) := by decide +kernel
theorem dX9_said_8 : decode cX9_said 8 = .ok (.aload_n 0, 1) := by decide +kernel
theorem dX9_said_9 : decode cX9_said 9 = .ok (.iload_n 1, 1) := by decide +kernel
theorem dX9_said_10 : decode cX9_said 10 = .ok (.iload_n 2, 1) := by decide +kernel
theorem dX9_said_11 : decode cX9_said 11 = .ok (.invokevirtual 133, 3) := by decide +kernel
theorem dX9_said_14 : decode cX9_said 14 = .ok (.iload_n 3, 1) := by decide +kernel
theorem dX9_said_15 : decode cX9_said 15 = .ok (.if_icmp .ge 11, 3) := by decide +kernel
theorem dX9_said_18 : decode cX9_said 18 = .ok (.aload_n 0, 1) := by decide +kernel
theorem dX9_said_19 : decode cX9_said 19 = .ok (.iload_n 1, 1) := by decide +kernel
theorem dX9_said_20 : decode cX9_said 20 = .ok (.iload_n 2, 1) := by decide +kernel
theorem dX9_said_21 : decode cX9_said 21 = .ok (.iload 4, 2) := by decide +kernel
theorem dX9_said_23 : decode cX9_said 23 = .ok (.invokevirtual 153, 3) := by decide +kernel
theorem dX9_said_26 : decode cX9_said 26 = .ok (.aload_n 0, 1) := by decide +kernel
theorem dX9_said_27 : decode cX9_said 27 = .ok (.getfield 9, 3) := by decide +kernel
theorem dX9_said_30 : decode cX9_said 30 = .ok (.iconst 3, 1) := by decide +kernel
theorem dX9_said_31 : decode cX9_said 31 = .ok (.iaload, 1) := by decide +kernel
theorem dX9_said_32 : decode cX9_said 32 = .ok (.iload 5, 2) := by decide +kernel
theorem dX9_said_34 : decode cX9_said 34 = .ok (.isub, 1) := by decide +kernel
theorem dX9_said_35 : decode cX9_said 35 = .ok (.ireturn, 1) := by decide +kernel
theorem dX9_says_0 : decode cX9_says 0 = .ok (.aload_n 0, 1) := by decide +kernel
theorem dX9_says_1 : decode cX9_says 1 = .ok (.iload_n 1, 1) := by decide +kernel
theorem dX9_says_2 : decode cX9_says 2 = .ok (.invokevirtual 85, 3) := by decide +kernel
theorem dX9_says_5 : decode cX9_says 5 = .ok (.ifCond .eq 30, 3) := by decide +kernel
theorem dX9_says_8 : decode cX9_says 8 = .ok (.iload_n 2, 1) := by decide +kernel
theorem dX9_says_9 : decode cX9_says 9 = .ok (.invokestatic 118, 3) := by decide +kernel
theorem dX9_says_12 : decode cX9_says 12 = .ok (.ifCond .eq 23, 3) := by decide +kernel
theorem dX9_says_15 : decode cX9_says 15 = .ok (.iload_n 3, 1) := by decide +kernel
theorem dX9_says_16 : decode cX9_says 16 = .ok (.iconst 0, 1) := by decide +kernel
theorem dX9_says_17 : decode cX9_says 17 = .ok (.bipush 99, 2) := by decide +kernel
theorem dX9_says_19 : decode cX9_says 19 = .ok (.invokestatic 81, 3) := by decide +kernel
theorem dX9_says_22 : decode cX9_says 22 = .ok (.ifCond .eq 13, 3) := by decide +kernel
theorem dX9_says_25 : decode cX9_says 25 = .ok (.iload 4, 2) := by decide +kernel
theorem dX9_says_27 : decode cX9_says 27 = .ok (.iconst (-1), 1) := by decide +kernel
theorem dX9_says_28 : decode cX9_says 28 = .ok (.iconst 1, 1) := by decide +kernel
theorem dX9_says_29 : decode cX9_says 29 = .ok (.invokestatic 81, 3) := by decide +kernel
theorem dX9_says_32 : decode cX9_says 32 = .ok (.ifCond .ne 6, 3) := by decide +kernel
theorem dX9_says_35 : decode cX9_says 35 = .ok (.ldc 121, 2) := by decide +kernel
theorem dX9_says_37 : decode cX9_says 37 = .ok (.ireturn, 1) := by decide +kernel
theorem dX9_says_38 : decode cX9_says 38 = .ok (.aload_n 0, 1) := by decide +kernel
theorem dX9_says_39 : decode cX9_says 39 = .ok (.iload_n 1, 1) := by decide +kernel
theorem dX9_says_40 : decode cX9_says 40 = .ok (.invokevirtual 150, 3) := by decide +kernel
theorem dX9_says_43 : decode cX9_says 43 = .ok (.ifCond .eq 15, 3) := by decide +kernel
theorem dX9_says_46 : decode cX9_says 46 = .ok (.aload_n 0, 1) := by decide +kernel
theorem dX9_says_47 : decode cX9_says 47 = .ok (.iload_n 1, 1) := by decide +kernel
theorem dX9_says_48 : decode cX9_says 48 = .ok (.iload_n 2, 1) := by decide +kernel
theorem dX9_says_49 : decode cX9_says 49 = .ok (.iload_n 3, 1) := by decide +kernel
theorem dX9_says_50 : decode cX9_says 50 = .ok (.iload 4, 2) := by decide +kernel
theorem dX9_says_52 : decode cX9_says 52 = .ok (.invokevirtual 159, 3) := by decide +kernel
theorem dX9_says_55 : decode cX9_says 55 = .ok (.goto 5, 3) := by decide +kernel
theorem dX9_says_58 : decode cX9_says 58 = .ok (.ldc 162, 2) := by decide +kernel
theorem dX9_says_60 : decode cX9_says 60 = .ok (.ireturn, 1) := by decide +kernel
theorem dX9_setsUp_0 : decode cX9_setsUp 0 = .ok (.iconst 0, 1) := by decide +kernel
theorem dX9_setsUp_1 : decode cX9_setsUp 1 = .ok (.istore_n 1, 1) := by decide +kernel
theorem dX9_setsUp_2 : decode cX9_setsUp 2 = .ok (.iload_n 1, 1) := by decide +kernel
theorem dX9_setsUp_3 : decode cX9_setsUp 3 = .ok (.aload_n 0, 1) := by decide +kernel
theorem dX9_setsUp_4 : decode cX9_setsUp 4 = .ok (.getfield 9, 3) := by decide +kernel
theorem dX9_setsUp_7 : decode cX9_setsUp 7 = .ok (.iconst 1, 1) := by decide +kernel
theorem dX9_setsUp_8 : decode cX9_setsUp 8 = .ok (.iaload, 1) := by decide +kernel
theorem dX9_setsUp_9 : decode cX9_setsUp 9 = .ok (.if_icmp .ge 16, 3) := by decide +kernel
theorem dX9_setsUp_12 : decode cX9_setsUp 12 = .ok (.aload_n 0, 1) := by decide +kernel
theorem dX9_setsUp_13 : decode cX9_setsUp 13 = .ok (.iload_n 1, 1) := by decide +kernel
theorem dX9_setsUp_14 : decode cX9_setsUp 14 = .ok (.iconst 5, 1) := by decide +kernel
theorem dX9_setsUp_15 : decode cX9_setsUp 15 = .ok (.iconst 0, 1) := by decide +kernel
theorem dX9_setsUp_16 : decode cX9_setsUp 16 = .ok (.invokevirtual 114, 3) := by decide +kernel
theorem dX9_setsUp_19 : decode cX9_setsUp 19 = .ok (.iinc 1 1, 3) := by decide +kernel
theorem dX9_setsUp_22 : decode cX9_setsUp 22 = .ok (.goto (-20), 3) := by decide +kernel
theorem dX9_setsUp_25 : decode cX9_setsUp 25 = .ok (.aload_n 0, 1) := by decide +kernel
theorem dX9_setsUp_26 : decode cX9_setsUp 26 = .ok (.getfield 9, 3) := by decide +kernel
theorem dX9_setsUp_29 : decode cX9_setsUp 29 = .ok (.iconst 5, 1) := by decide +kernel
theorem dX9_setsUp_30 : decode cX9_setsUp 30 = .ok (.iconst 0, 1) := by decide +kernel
theorem dX9_setsUp_31 : decode cX9_setsUp 31 = .ok (.iastore, 1) := by decide +kernel
theorem dX9_setsUp_32 : decode cX9_setsUp 32 = .ok (.aload_n 0, 1) := by decide +kernel
theorem dX9_setsUp_33 : decode cX9_setsUp 33 = .ok (.getfield 9, 3) := by decide +kernel
theorem dX9_setsUp_36 : decode cX9_setsUp 36 = .ok (.iconst 4, 1) := by decide +kernel
theorem dX9_setsUp_37 : decode cX9_setsUp 37 = .ok (.dup2, 1) := by decide +kernel
theorem dX9_setsUp_38 : decode cX9_setsUp 38 = .ok (.iaload, 1) := by decide +kernel
theorem dX9_setsUp_39 : decode cX9_setsUp 39 = .ok (.iconst 1, 1) := by decide +kernel
theorem dX9_setsUp_40 : decode cX9_setsUp 40 = .ok (.iadd, 1) := by decide +kernel
theorem dX9_setsUp_41 : decode cX9_setsUp 41 = .ok (.iastore, 1) := by decide +kernel
theorem dX9_setsUp_42 : decode cX9_setsUp 42 = .ok (.return_, 1) := by decide +kernel
theorem dX9_sets_0 : decode cX9_sets 0 = .ok (.aload_n 0, 1) := by decide +kernel
theorem dX9_sets_1 : decode cX9_sets 1 = .ok (.getfield 9, 3) := by decide +kernel
theorem dX9_sets_4 : decode cX9_sets 4 = .ok (.iconst 1, 1) := by decide +kernel
theorem dX9_sets_5 : decode cX9_sets 5 = .ok (.iaload, 1) := by decide +kernel
theorem dX9_sets_6 : decode cX9_sets 6 = .ok (.aload_n 0, 1) := by decide +kernel
theorem dX9_sets_7 : decode cX9_sets 7 = .ok (.invokevirtual 97, 3) := by decide +kernel
theorem dX9_sets_10 : decode cX9_sets 10 = .ok (.invokestatic 101, 3) := by decide +kernel
theorem dX9_sets_13 : decode cX9_sets 13 = .ok (.isub, 1) := by decide +kernel
theorem dX9_sets_14 : decode cX9_sets 14 = .ok (.istore_n 1, 1) := by decide +kernel
theorem dX9_sets_15 : decode cX9_sets 15 = .ok (.aload_n 0, 1) := by decide +kernel
theorem dX9_sets_16 : decode cX9_sets 16 = .ok (.invokevirtual 163, 3) := by decide +kernel
theorem dX9_sets_19 : decode cX9_sets 19 = .ok (.iload_n 1, 1) := by decide +kernel
theorem dX9_sets_20 : decode cX9_sets 20 = .ok (.ireturn, 1) := by decide +kernel
theorem dX9_draw_0 : decode cX9_draw 0 = .ok (.aload_n 0, 1) := by decide +kernel
theorem dX9_draw_1 : decode cX9_draw 1 = .ok (.getfield 9, 3) := by decide +kernel
theorem dX9_draw_4 : decode cX9_draw 4 = .ok (.iconst 0, 1) := by decide +kernel
theorem dX9_draw_5 : decode cX9_draw 5 = .ok (.aload_n 0, 1) := by decide +kernel
theorem dX9_draw_6 : decode cX9_draw 6 = .ok (.getfield 9, 3) := by decide +kernel
theorem dX9_draw_9 : decode cX9_draw 9 = .ok (.iconst 0, 1) := by decide +kernel
theorem dX9_draw_10 : decode cX9_draw 10 = .ok (.iaload, 1) := by decide +kernel
theorem dX9_draw_11 : decode cX9_draw 11 = .ok (.ldc 166, 2) := by decide +kernel
theorem dX9_draw_13 : decode cX9_draw 13 = .ok (.imul, 1) := by decide +kernel
theorem dX9_draw_14 : decode cX9_draw 14 = .ok (.sipush 12345, 3) := by decide +kernel
theorem dX9_draw_17 : decode cX9_draw 17 = .ok (.iadd, 1) := by decide +kernel
theorem dX9_draw_18 : decode cX9_draw 18 = .ok (.iastore, 1) := by decide +kernel
theorem dX9_draw_19 : decode cX9_draw 19 = .ok (.aload_n 0, 1) := by decide +kernel
theorem dX9_draw_20 : decode cX9_draw 20 = .ok (.getfield 9, 3) := by decide +kernel
theorem dX9_draw_23 : decode cX9_draw 23 = .ok (.iconst 0, 1) := by decide +kernel
theorem dX9_draw_24 : decode cX9_draw 24 = .ok (.iaload, 1) := by decide +kernel
theorem dX9_draw_25 : decode cX9_draw 25 = .ok (.bipush 8, 2) := by decide +kernel
theorem dX9_draw_27 : decode cX9_draw 27 = .ok (.iushr, 1) := by decide +kernel
theorem dX9_draw_28 : decode cX9_draw 28 = .ok (.ireturn, 1) := by decide +kernel
theorem dX9_deal_0 : decode cX9_deal 0 = .ok (.iload_n 1, 1) := by decide +kernel
theorem dX9_deal_1 : decode cX9_deal 1 = .ok (.iconst 1, 1) := by decide +kernel
theorem dX9_deal_2 : decode cX9_deal 2 = .ok (.bipush 9, 2) := by decide +kernel
theorem dX9_deal_4 : decode cX9_deal 4 = .ok (.invokestatic 81, 3) := by decide +kernel
theorem dX9_deal_7 : decode cX9_deal 7 = .ok (.ifCond .ne 6, 3) := by decide +kernel
theorem dX9_deal_10 : decode cX9_deal 10 = .ok (.ldc 121, 2) := by decide +kernel
theorem dX9_deal_12 : decode cX9_deal 12 = .ok (.ireturn, 1) := by decide +kernel
theorem dX9_deal_13 : decode cX9_deal 13 = .ok (.iconst 0, 1) := by decide +kernel
theorem dX9_deal_14 : decode cX9_deal 14 = .ok (.istore_n 2, 1) := by decide +kernel
theorem dX9_deal_15 : decode cX9_deal 15 = .ok (.iload_n 2, 1) := by decide +kernel
theorem dX9_deal_16 : decode cX9_deal 16 = .ok (.iload_n 1, 1) := by decide +kernel
theorem dX9_deal_17 : decode cX9_deal 17 = .ok (.if_icmp .ge 64, 3) := by decide +kernel
theorem dX9_deal_20 : decode cX9_deal 20 = .ok (.aload_n 0, 1) := by decide +kernel
theorem dX9_deal_21 : decode cX9_deal 21 = .ok (.getfield 9, 3) := by decide +kernel
theorem dX9_deal_24 : decode cX9_deal 24 = .ok (.iconst 1, 1) := by decide +kernel
theorem dX9_deal_25 : decode cX9_deal 25 = .ok (.iaload, 1) := by decide +kernel
theorem dX9_deal_26 : decode cX9_deal 26 = .ok (.bipush 9, 2) := by decide +kernel
theorem dX9_deal_28 : decode cX9_deal 28 = .ok (.if_icmp .ge 53, 3) := by decide +kernel
theorem dX9_deal_31 : decode cX9_deal 31 = .ok (.aload_n 0, 1) := by decide +kernel
theorem dX9_deal_32 : decode cX9_deal 32 = .ok (.invokevirtual 167, 3) := by decide +kernel
theorem dX9_deal_35 : decode cX9_deal 35 = .ok (.bipush 6, 2) := by decide +kernel
theorem dX9_deal_37 : decode cX9_deal 37 = .ok (.irem, 1) := by decide +kernel
theorem dX9_deal_38 : decode cX9_deal 38 = .ok (.istore_n 3, 1) := by decide +kernel
theorem dX9_deal_39 : decode cX9_deal 39 = .ok (.aload_n 0, 1) := by decide +kernel
theorem dX9_deal_40 : decode cX9_deal 40 = .ok (.invokevirtual 167, 3) := by decide +kernel
theorem dX9_deal_43 : decode cX9_deal 43 = .ok (.bipush 100, 2) := by decide +kernel
theorem dX9_deal_45 : decode cX9_deal 45 = .ok (.irem, 1) := by decide +kernel
theorem dX9_deal_46 : decode cX9_deal 46 = .ok (.istore 4, 2) := by decide +kernel
theorem dX9_deal_48 : decode cX9_deal 48 = .ok (.aload_n 0, 1) := by decide +kernel
theorem dX9_deal_49 : decode cX9_deal 49 = .ok (.invokevirtual 167, 3) := by decide +kernel
theorem dX9_deal_52 : decode cX9_deal 52 = .ok (.bipush 100, 2) := by decide +kernel
theorem dX9_deal_54 : decode cX9_deal 54 = .ok (.irem, 1) := by decide +kernel
theorem dX9_deal_55 : decode cX9_deal 55 = .ok (.istore 5, 2) := by decide +kernel
theorem dX9_deal_57 : decode cX9_deal 57 = .ok (.aload_n 0, 1) := by decide +kernel
theorem dX9_deal_58 : decode cX9_deal 58 = .ok (.iload_n 3, 1) := by decide +kernel
theorem dX9_deal_59 : decode cX9_deal 59 = .ok (.iload 4, 2) := by decide +kernel
theorem dX9_deal_61 : decode cX9_deal 61 = .ok (.iload 5, 2) := by decide +kernel
theorem dX9_deal_63 : decode cX9_deal 63 = .ok (.aload_n 0, 1) := by decide +kernel
theorem dX9_deal_64 : decode cX9_deal 64 = .ok (.invokevirtual 167, 3) := by decide +kernel
theorem dX9_deal_67 : decode cX9_deal 67 = .ok (.bipush 8, 2) := by decide +kernel
theorem dX9_deal_69 : decode cX9_deal 69 = .ok (.irem, 1) := by decide +kernel
theorem dX9_deal_70 : decode cX9_deal 70 = .ok (.invokevirtual 123, 3) := by decide +kernel
theorem dX9_deal_73 : decode cX9_deal 73 = .ok (.istore 6, 2) := by decide +kernel
theorem dX9_deal_75 : decode cX9_deal 75 = .ok (.iinc 2 1, 3) := by decide +kernel
theorem dX9_deal_78 : decode cX9_deal 78 = .ok (.goto (-63), 3) := by decide +kernel
theorem dX9_deal_81 : decode cX9_deal 81 = .ok (.iload_n 2, 1) := by decide +kernel
theorem dX9_deal_82 : decode cX9_deal 82 = .ok (.ireturn, 1) := by decide +kernel
theorem dX9_seed_0 : decode cX9_seed 0 = .ok (.aload_n 0, 1) := by decide +kernel
theorem dX9_seed_1 : decode cX9_seed 1 = .ok (.iconst 0, 1) := by decide +kernel
theorem dX9_seed_2 : decode cX9_seed 2 = .ok (.iload_n 1, 1) := by decide +kernel
theorem dX9_seed_3 : decode cX9_seed 3 = .ok (.invokevirtual 141, 3) := by decide +kernel
theorem dX9_seed_6 : decode cX9_seed 6 = .ok (.ireturn, 1) := by decide +kernel
theorem dX9_aGo_0 : decode cX9_aGo 0 = .ok (.aload_n 0, 1) := by decide +kernel
theorem dX9_aGo_1 : decode cX9_aGo 1 = .ok (.getfield 9, 3) := by decide +kernel
theorem dX9_aGo_4 : decode cX9_aGo 4 = .ok (.iconst 5, 1) := by decide +kernel
theorem dX9_aGo_5 : decode cX9_aGo 5 = .ok (.iaload, 1) := by decide +kernel
theorem dX9_aGo_6 : decode cX9_aGo 6 = .ok (.iconst 3, 1) := by decide +kernel
theorem dX9_aGo_7 : decode cX9_aGo 7 = .ok (.if_icmp .eq 10, 3) := by decide +kernel
theorem dX9_aGo_10 : decode cX9_aGo 10 = .ok (.aload_n 0, 1) := by decide +kernel
theorem dX9_aGo_11 : decode cX9_aGo 11 = .ok (.invokevirtual 97, 3) := by decide +kernel
theorem dX9_aGo_14 : decode cX9_aGo 14 = .ok (.ifCond .ne 7, 3) := by decide +kernel
theorem dX9_aGo_17 : decode cX9_aGo 17 = .ok (.aload_n 0, 1) := by decide +kernel
theorem dX9_aGo_18 : decode cX9_aGo 18 = .ok (.invokevirtual 163, 3) := by decide +kernel
theorem dX9_aGo_21 : decode cX9_aGo 21 = .ok (.aload_n 0, 1) := by decide +kernel
theorem dX9_aGo_22 : decode cX9_aGo 22 = .ok (.invokevirtual 167, 3) := by decide +kernel
theorem dX9_aGo_25 : decode cX9_aGo 25 = .ok (.bipush 8, 2) := by decide +kernel
theorem dX9_aGo_27 : decode cX9_aGo 27 = .ok (.irem, 1) := by decide +kernel
theorem dX9_aGo_28 : decode cX9_aGo 28 = .ok (.istore_n 1, 1) := by decide +kernel
theorem dX9_aGo_29 : decode cX9_aGo 29 = .ok (.aload_n 0, 1) := by decide +kernel
theorem dX9_aGo_30 : decode cX9_aGo 30 = .ok (.invokevirtual 167, 3) := by decide +kernel
theorem dX9_aGo_33 : decode cX9_aGo 33 = .ok (.bipush 100, 2) := by decide +kernel
theorem dX9_aGo_35 : decode cX9_aGo 35 = .ok (.irem, 1) := by decide +kernel
theorem dX9_aGo_36 : decode cX9_aGo 36 = .ok (.istore_n 2, 1) := by decide +kernel
theorem dX9_aGo_37 : decode cX9_aGo 37 = .ok (.aload_n 0, 1) := by decide +kernel
theorem dX9_aGo_38 : decode cX9_aGo 38 = .ok (.invokevirtual 167, 3) := by decide +kernel
theorem dX9_aGo_41 : decode cX9_aGo 41 = .ok (.iconst 3, 1) := by decide +kernel
theorem dX9_aGo_42 : decode cX9_aGo 42 = .ok (.irem, 1) := by decide +kernel
theorem dX9_aGo_43 : decode cX9_aGo 43 = .ok (.iconst 1, 1) := by decide +kernel
theorem dX9_aGo_44 : decode cX9_aGo 44 = .ok (.isub, 1) := by decide +kernel
theorem dX9_aGo_45 : decode cX9_aGo 45 = .ok (.istore_n 3, 1) := by decide +kernel
theorem dX9_aGo_46 : decode cX9_aGo 46 = .ok (.aload_n 0, 1) := by decide +kernel
theorem dX9_aGo_47 : decode cX9_aGo 47 = .ok (.invokevirtual 167, 3) := by decide +kernel
theorem dX9_aGo_50 : decode cX9_aGo 50 = .ok (.istore 4, 2) := by decide +kernel
theorem dX9_aGo_52 : decode cX9_aGo 52 = .ok (.aload_n 0, 1) := by decide +kernel
theorem dX9_aGo_53 : decode cX9_aGo 53 = .ok (.getfield 9, 3) := by decide +kernel
theorem dX9_aGo_56 : decode cX9_aGo 56 = .ok (.iconst 1, 1) := by decide +kernel
theorem dX9_aGo_57 : decode cX9_aGo 57 = .ok (.iaload, 1) := by decide +kernel
theorem dX9_aGo_58 : decode cX9_aGo 58 = .ok (.ifCond .le 50, 3) := by decide +kernel
theorem dX9_aGo_61 : decode cX9_aGo 61 = .ok (.iload 4, 2) := by decide +kernel
theorem dX9_aGo_63 : decode cX9_aGo 63 = .ok (.aload_n 0, 1) := by decide +kernel
theorem dX9_aGo_64 : decode cX9_aGo 64 = .ok (.getfield 9, 3) := by decide +kernel
theorem dX9_aGo_67 : decode cX9_aGo 67 = .ok (.iconst 1, 1) := by decide +kernel
theorem dX9_aGo_68 : decode cX9_aGo 68 = .ok (.iaload, 1) := by decide +kernel
theorem dX9_aGo_69 : decode cX9_aGo 69 = .ok (.irem, 1) := by decide +kernel
theorem dX9_aGo_70 : decode cX9_aGo 70 = .ok (.istore 5, 2) := by decide +kernel
theorem dX9_aGo_72 : decode cX9_aGo 72 = .ok (.aload_n 0, 1) := by decide +kernel
theorem dX9_aGo_73 : decode cX9_aGo 73 = .ok (.iload 5, 2) := by decide +kernel
theorem dX9_aGo_75 : decode cX9_aGo 75 = .ok (.invokevirtual 150, 3) := by decide +kernel
theorem dX9_aGo_78 : decode cX9_aGo 78 = .ok (.ifCond .ne 19, 3) := by decide +kernel
theorem dX9_aGo_81 : decode cX9_aGo 81 = .ok (.iload 5, 2) := by decide +kernel
theorem dX9_aGo_83 : decode cX9_aGo 83 = .ok (.iconst 1, 1) := by decide +kernel
theorem dX9_aGo_84 : decode cX9_aGo 84 = .ok (.iadd, 1) := by decide +kernel
theorem dX9_aGo_85 : decode cX9_aGo 85 = .ok (.aload_n 0, 1) := by decide +kernel
theorem dX9_aGo_86 : decode cX9_aGo 86 = .ok (.getfield 9, 3) := by decide +kernel
theorem dX9_aGo_89 : decode cX9_aGo 89 = .ok (.iconst 1, 1) := by decide +kernel
theorem dX9_aGo_90 : decode cX9_aGo 90 = .ok (.iaload, 1) := by decide +kernel
theorem dX9_aGo_91 : decode cX9_aGo 91 = .ok (.irem, 1) := by decide +kernel
theorem dX9_aGo_92 : decode cX9_aGo 92 = .ok (.istore 5, 2) := by decide +kernel
theorem dX9_aGo_94 : decode cX9_aGo 94 = .ok (.goto (-22), 3) := by decide +kernel
theorem dX9_aGo_97 : decode cX9_aGo 97 = .ok (.aload_n 0, 1) := by decide +kernel
theorem dX9_aGo_98 : decode cX9_aGo 98 = .ok (.iload 5, 2) := by decide +kernel
theorem dX9_aGo_100 : decode cX9_aGo 100 = .ok (.iload_n 1, 1) := by decide +kernel
theorem dX9_aGo_101 : decode cX9_aGo 101 = .ok (.iload_n 2, 1) := by decide +kernel
theorem dX9_aGo_102 : decode cX9_aGo 102 = .ok (.iload_n 3, 1) := by decide +kernel
theorem dX9_aGo_103 : decode cX9_aGo 103 = .ok (.invokevirtual 159, 3) := by decide +kernel
theorem dX9_aGo_106 : decode cX9_aGo 106 = .ok (.istore 6, 2) := by decide +kernel
theorem dX9_aGo_108 : decode cX9_aGo 108 = .ok (.iconst 0, 1) := by decide +kernel
theorem dX9_aGo_109 : decode cX9_aGo 109 = .ok (.istore 5, 2) := by decide +kernel
theorem dX9_aGo_111 : decode cX9_aGo 111 = .ok (.iload 5, 2) := by decide +kernel
theorem dX9_aGo_113 : decode cX9_aGo 113 = .ok (.aload_n 0, 1) := by decide +kernel
theorem dX9_aGo_114 : decode cX9_aGo 114 = .ok (.getfield 9, 3) := by decide +kernel
theorem dX9_aGo_117 : decode cX9_aGo 117 = .ok (.iconst 1, 1) := by decide +kernel
theorem dX9_aGo_118 : decode cX9_aGo 118 = .ok (.iaload, 1) := by decide +kernel
theorem dX9_aGo_119 : decode cX9_aGo 119 = .ok (.if_icmp .ge 45, 3) := by decide +kernel
theorem dX9_aGo_122 : decode cX9_aGo 122 = .ok (.aload_n 0, 1) := by decide +kernel
theorem dX9_aGo_123 : decode cX9_aGo 123 = .ok (.iload 5, 2) := by decide +kernel
theorem dX9_aGo_125 : decode cX9_aGo 125 = .ok (.iconst 1, 1) := by decide +kernel
theorem dX9_aGo_126 : decode cX9_aGo 126 = .ok (.aload_n 0, 1) := by decide +kernel
theorem dX9_aGo_127 : decode cX9_aGo 127 = .ok (.iload 5, 2) := by decide +kernel
theorem dX9_aGo_129 : decode cX9_aGo 129 = .ok (.iconst 1, 1) := by decide +kernel
theorem dX9_aGo_130 : decode cX9_aGo 130 = .ok (.invokevirtual 89, 3) := by decide +kernel
theorem dX9_aGo_133 : decode cX9_aGo 133 = .ok (.aload_n 0, 1) := by decide +kernel
theorem dX9_aGo_134 : decode cX9_aGo 134 = .ok (.iload 5, 2) := by decide +kernel
theorem dX9_aGo_136 : decode cX9_aGo 136 = .ok (.iconst 5, 1) := by decide +kernel
theorem dX9_aGo_137 : decode cX9_aGo 137 = .ok (.invokevirtual 89, 3) := by decide +kernel
theorem dX9_aGo_140 : decode cX9_aGo 140 = .ok (.ifCond .ne 7, 3) := by decide +kernel
theorem dX9_aGo_143 : decode cX9_aGo 143 = .ok (.iconst 1, 1) := by decide +kernel
theorem dX9_aGo_144 : decode cX9_aGo 144 = .ok (.goto 4, 3) := by decide +kernel
theorem dX9_aGo_147 : decode cX9_aGo 147 = .ok (.iconst (-1), 1) := by decide +kernel
theorem dX9_aGo_148 : decode cX9_aGo 148 = .ok (.iadd, 1) := by decide +kernel
theorem dX9_aGo_149 : decode cX9_aGo 149 = .ok (.iconst 0, 1) := by decide +kernel
theorem dX9_aGo_150 : decode cX9_aGo 150 = .ok (.bipush 99, 2) := by decide +kernel
theorem dX9_aGo_152 : decode cX9_aGo 152 = .ok (.invokestatic 107, 3) := by decide +kernel
theorem dX9_aGo_155 : decode cX9_aGo 155 = .ok (.invokevirtual 114, 3) := by decide +kernel
theorem dX9_aGo_158 : decode cX9_aGo 158 = .ok (.iinc 5 1, 3) := by decide +kernel
theorem dX9_aGo_161 : decode cX9_aGo 161 = .ok (.goto (-50), 3) := by decide +kernel
theorem dX9_aGo_164 : decode cX9_aGo 164 = .ok (.aload_n 0, 1) := by decide +kernel
theorem dX9_aGo_165 : decode cX9_aGo 165 = .ok (.getfield 9, 3) := by decide +kernel
theorem dX9_aGo_168 : decode cX9_aGo 168 = .ok (.iconst 5, 1) := by decide +kernel
theorem dX9_aGo_169 : decode cX9_aGo 169 = .ok (.dup2, 1) := by decide +kernel
theorem dX9_aGo_170 : decode cX9_aGo 170 = .ok (.iaload, 1) := by decide +kernel
theorem dX9_aGo_171 : decode cX9_aGo 171 = .ok (.iconst 1, 1) := by decide +kernel
theorem dX9_aGo_172 : decode cX9_aGo 172 = .ok (.iadd, 1) := by decide +kernel
theorem dX9_aGo_173 : decode cX9_aGo 173 = .ok (.iastore, 1) := by decide +kernel
theorem dX9_aGo_174 : decode cX9_aGo 174 = .ok (.aload_n 0, 1) := by decide +kernel
theorem dX9_aGo_175 : decode cX9_aGo 175 = .ok (.getfield 9, 3) := by decide +kernel
theorem dX9_aGo_178 : decode cX9_aGo 178 = .ok (.iconst 2, 1) := by decide +kernel
theorem dX9_aGo_179 : decode cX9_aGo 179 = .ok (.dup2, 1) := by decide +kernel
theorem dX9_aGo_180 : decode cX9_aGo 180 = .ok (.iaload, 1) := by decide +kernel
theorem dX9_aGo_181 : decode cX9_aGo 181 = .ok (.iconst 1, 1) := by decide +kernel
theorem dX9_aGo_182 : decode cX9_aGo 182 = .ok (.iadd, 1) := by decide +kernel
theorem dX9_aGo_183 : decode cX9_aGo 183 = .ok (.iastore, 1) := by decide +kernel
theorem dX9_aGo_184 : decode cX9_aGo 184 = .ok (.return_, 1) := by decide +kernel
theorem dX9_goesOn_0 : decode cX9_goesOn 0 = .ok (.iconst 0, 1) := by decide +kernel
theorem dX9_goesOn_1 : decode cX9_goesOn 1 = .ok (.istore_n 2, 1) := by decide +kernel
theorem dX9_goesOn_2 : decode cX9_goesOn 2 = .ok (.iload_n 2, 1) := by decide +kernel
theorem dX9_goesOn_3 : decode cX9_goesOn 3 = .ok (.iload_n 1, 1) := by decide +kernel
theorem dX9_goesOn_4 : decode cX9_goesOn 4 = .ok (.if_icmp .ge 13, 3) := by decide +kernel
theorem dX9_goesOn_7 : decode cX9_goesOn 7 = .ok (.aload_n 0, 1) := by decide +kernel
theorem dX9_goesOn_8 : decode cX9_goesOn 8 = .ok (.invokevirtual 170, 3) := by decide +kernel
theorem dX9_goesOn_11 : decode cX9_goesOn 11 = .ok (.iinc 2 1, 3) := by decide +kernel
theorem dX9_goesOn_14 : decode cX9_goesOn 14 = .ok (.goto (-12), 3) := by decide +kernel
theorem dX9_goesOn_17 : decode cX9_goesOn 17 = .ok (.return_, 1) := by decide +kernel
theorem dX9_goes_0 : decode cX9_goes 0 = .ok (.iload_n 1, 1) := by decide +kernel
theorem dX9_goes_1 : decode cX9_goes 1 = .ok (.iconst 1, 1) := by decide +kernel
theorem dX9_goes_2 : decode cX9_goes 2 = .ok (.bipush 100, 2) := by decide +kernel
theorem dX9_goes_4 : decode cX9_goes 4 = .ok (.invokestatic 81, 3) := by decide +kernel
theorem dX9_goes_7 : decode cX9_goes 7 = .ok (.ifCond .ne 6, 3) := by decide +kernel
theorem dX9_goes_10 : decode cX9_goes 10 = .ok (.ldc 121, 2) := by decide +kernel
theorem dX9_goes_12 : decode cX9_goes 12 = .ok (.ireturn, 1) := by decide +kernel
theorem dX9_goes_13 : decode cX9_goes 13 = .ok (.aload_n 0, 1) := by decide +kernel
theorem dX9_goes_14 : decode cX9_goes 14 = .ok (.getfield 9, 3) := by decide +kernel
theorem dX9_goes_17 : decode cX9_goes 17 = .ok (.iconst 3, 1) := by decide +kernel
theorem dX9_goes_18 : decode cX9_goes 18 = .ok (.iaload, 1) := by decide +kernel
theorem dX9_goes_19 : decode cX9_goes 19 = .ok (.istore_n 2, 1) := by decide +kernel
theorem dX9_goes_20 : decode cX9_goes 20 = .ok (.aload_n 0, 1) := by decide +kernel
theorem dX9_goes_21 : decode cX9_goes 21 = .ok (.sipush 9999, 3) := by decide +kernel
theorem dX9_goes_24 : decode cX9_goes 24 = .ok (.aload_n 0, 1) := by decide +kernel
theorem dX9_goes_25 : decode cX9_goes 25 = .ok (.getfield 9, 3) := by decide +kernel
theorem dX9_goes_28 : decode cX9_goes 28 = .ok (.iconst 2, 1) := by decide +kernel
theorem dX9_goes_29 : decode cX9_goes 29 = .ok (.iaload, 1) := by decide +kernel
theorem dX9_goes_30 : decode cX9_goes 30 = .ok (.isub, 1) := by decide +kernel
theorem dX9_goes_31 : decode cX9_goes 31 = .ok (.iconst 0, 1) := by decide +kernel
theorem dX9_goes_32 : decode cX9_goes 32 = .ok (.iload_n 1, 1) := by decide +kernel
theorem dX9_goes_33 : decode cX9_goes 33 = .ok (.invokestatic 107, 3) := by decide +kernel
theorem dX9_goes_36 : decode cX9_goes 36 = .ok (.invokevirtual 173, 3) := by decide +kernel
theorem dX9_goes_39 : decode cX9_goes 39 = .ok (.aload_n 0, 1) := by decide +kernel
theorem dX9_goes_40 : decode cX9_goes 40 = .ok (.getfield 9, 3) := by decide +kernel
theorem dX9_goes_43 : decode cX9_goes 43 = .ok (.iconst 3, 1) := by decide +kernel
theorem dX9_goes_44 : decode cX9_goes 44 = .ok (.iaload, 1) := by decide +kernel
theorem dX9_goes_45 : decode cX9_goes 45 = .ok (.iload_n 2, 1) := by decide +kernel
theorem dX9_goes_46 : decode cX9_goes 46 = .ok (.isub, 1) := by decide +kernel
theorem dX9_goes_47 : decode cX9_goes 47 = .ok (.ireturn, 1) := by decide +kernel
theorem dX9_nerves_0 : decode cX9_nerves 0 = .ok (.iconst 0, 1) := by decide +kernel
theorem dX9_nerves_1 : decode cX9_nerves 1 = .ok (.istore_n 1, 1) := by decide +kernel
theorem dX9_nerves_2 : decode cX9_nerves 2 = .ok (.iconst 0, 1) := by decide +kernel
theorem dX9_nerves_3 : decode cX9_nerves 3 = .ok (.istore_n 2, 1) := by decide +kernel
theorem dX9_nerves_4 : decode cX9_nerves 4 = .ok (.iload_n 2, 1) := by decide +kernel
theorem dX9_nerves_5 : decode cX9_nerves 5 = .ok (.aload_n 0, 1) := by decide +kernel
theorem dX9_nerves_6 : decode cX9_nerves 6 = .ok (.getfield 9, 3) := by decide +kernel
theorem dX9_nerves_9 : decode cX9_nerves 9 = .ok (.iconst 1, 1) := by decide +kernel
theorem dX9_nerves_10 : decode cX9_nerves 10 = .ok (.iaload, 1) := by decide +kernel
theorem dX9_nerves_11 : decode cX9_nerves 11 = .ok (.if_icmp .ge 18, 3) := by decide +kernel
theorem dX9_nerves_14 : decode cX9_nerves 14 = .ok (.iload_n 1, 1) := by decide +kernel
theorem dX9_nerves_15 : decode cX9_nerves 15 = .ok (.aload_n 0, 1) := by decide +kernel
theorem dX9_nerves_16 : decode cX9_nerves 16 = .ok (.iload_n 2, 1) := by decide +kernel
theorem dX9_nerves_17 : decode cX9_nerves 17 = .ok (.iconst 1, 1) := by decide +kernel
theorem dX9_nerves_18 : decode cX9_nerves 18 = .ok (.invokevirtual 89, 3) := by decide +kernel
theorem dX9_nerves_21 : decode cX9_nerves 21 = .ok (.iadd, 1) := by decide +kernel
theorem dX9_nerves_22 : decode cX9_nerves 22 = .ok (.istore_n 1, 1) := by decide +kernel
theorem dX9_nerves_23 : decode cX9_nerves 23 = .ok (.iinc 2 1, 3) := by decide +kernel
theorem dX9_nerves_26 : decode cX9_nerves 26 = .ok (.goto (-22), 3) := by decide +kernel
theorem dX9_nerves_29 : decode cX9_nerves 29 = .ok (.iload_n 1, 1) := by decide +kernel
theorem dX9_nerves_30 : decode cX9_nerves 30 = .ok (.ireturn, 1) := by decide +kernel
theorem dX9_mostFelled_0 : decode cX9_mostFelled 0 = .ok (.iconst (-1), 1) := by decide +kernel
theorem dX9_mostFelled_1 : decode cX9_mostFelled 1 = .ok (.istore_n 1, 1) := by decide +kernel
theorem dX9_mostFelled_2 : decode cX9_mostFelled 2 = .ok (.iconst 0, 1) := by decide +kernel
theorem dX9_mostFelled_3 : decode cX9_mostFelled 3 = .ok (.istore_n 2, 1) := by decide +kernel
theorem dX9_mostFelled_4 : decode cX9_mostFelled 4 = .ok (.iload_n 2, 1) := by decide +kernel
theorem dX9_mostFelled_5 : decode cX9_mostFelled 5 = .ok (.aload_n 0, 1) := by decide +kernel
theorem dX9_mostFelled_6 : decode cX9_mostFelled 6 = .ok (.getfield 9, 3) := by decide +kernel
theorem dX9_mostFelled_9 : decode cX9_mostFelled 9 = .ok (.iconst 1, 1) := by decide +kernel
theorem dX9_mostFelled_10 : decode cX9_mostFelled 10 = .ok (.iaload, 1) := by decide +kernel
theorem dX9_mostFelled_11 : decode cX9_mostFelled 11 = .ok (.if_icmp .ge 34, 3) := by decide +kernel
theorem dX9_mostFelled_14 : decode cX9_mostFelled 14 = .ok (.iload_n 1, 1) := by decide +kernel
theorem dX9_mostFelled_15 : decode cX9_mostFelled 15 = .ok (.ifCond .lt 18, 3) := by decide +kernel
theorem dX9_mostFelled_18 : decode cX9_mostFelled 18 = .ok (.aload_n 0, 1) := by decide +kernel
theorem dX9_mostFelled_19 : decode cX9_mostFelled 19 = .ok (.iload_n 2, 1) := by decide +kernel
theorem dX9_mostFelled_20 : decode cX9_mostFelled 20 = .ok (.iconst 4, 1) := by decide +kernel
theorem dX9_mostFelled_21 : decode cX9_mostFelled 21 = .ok (.invokevirtual 89, 3) := by decide +kernel
theorem dX9_mostFelled_24 : decode cX9_mostFelled 24 = .ok (.aload_n 0, 1) := by decide +kernel
theorem dX9_mostFelled_25 : decode cX9_mostFelled 25 = .ok (.iload_n 1, 1) := by decide +kernel
theorem dX9_mostFelled_26 : decode cX9_mostFelled 26 = .ok (.iconst 4, 1) := by decide +kernel
theorem dX9_mostFelled_27 : decode cX9_mostFelled 27 = .ok (.invokevirtual 89, 3) := by decide +kernel
theorem dX9_mostFelled_30 : decode cX9_mostFelled 30 = .ok (.if_icmp .le 7, 3) := by decide +kernel
theorem dX9_mostFelled_33 : decode cX9_mostFelled 33 = .ok (.iload_n 2, 1) := by decide +kernel
theorem dX9_mostFelled_34 : decode cX9_mostFelled 34 = .ok (.goto 4, 3) := by decide +kernel
theorem dX9_mostFelled_37 : decode cX9_mostFelled 37 = .ok (.iload_n 1, 1) := by decide +kernel
theorem dX9_mostFelled_38 : decode cX9_mostFelled 38 = .ok (.istore_n 1, 1) := by decide +kernel
theorem dX9_mostFelled_39 : decode cX9_mostFelled 39 = .ok (.iinc 2 1, 3) := by decide +kernel
theorem dX9_mostFelled_42 : decode cX9_mostFelled 42 = .ok (.goto (-38), 3) := by decide +kernel
theorem dX9_mostFelled_45 : decode cX9_mostFelled 45 = .ok (.iload_n 1, 1) := by decide +kernel
theorem dX9_mostFelled_46 : decode cX9_mostFelled 46 = .ok (.ireturn, 1) := by decide +kernel
theorem dX9_alley_0 : decode cX9_alley 0 = .ok (.iload_n 1, 1) := by decide +kernel
theorem dX9_alley_1 : decode cX9_alley 1 = .ok (.tableswitch 77 0 5 #[39, 39, 39, 48, 53, 58], 39) := by decide +kernel
theorem dX9_alley_40 : decode cX9_alley 40 = .ok (.aload_n 0, 1) := by decide +kernel
theorem dX9_alley_41 : decode cX9_alley 41 = .ok (.getfield 9, 3) := by decide +kernel
theorem dX9_alley_44 : decode cX9_alley 44 = .ok (.iconst 3, 1) := by decide +kernel
theorem dX9_alley_45 : decode cX9_alley 45 = .ok (.iload_n 1, 1) := by decide +kernel
theorem dX9_alley_46 : decode cX9_alley 46 = .ok (.iadd, 1) := by decide +kernel
theorem dX9_alley_47 : decode cX9_alley 47 = .ok (.iaload, 1) := by decide +kernel
theorem dX9_alley_48 : decode cX9_alley 48 = .ok (.ireturn, 1) := by decide +kernel
theorem dX9_alley_49 : decode cX9_alley 49 = .ok (.aload_n 0, 1) := by decide +kernel
theorem dX9_alley_50 : decode cX9_alley 50 = .ok (.invokevirtual 97, 3) := by decide +kernel
theorem dX9_alley_53 : decode cX9_alley 53 = .ok (.ireturn, 1) := by decide +kernel
theorem dX9_alley_54 : decode cX9_alley 54 = .ok (.aload_n 0, 1) := by decide +kernel
theorem dX9_alley_55 : decode cX9_alley 55 = .ok (.invokevirtual 177, 3) := by decide +kernel
theorem dX9_alley_58 : decode cX9_alley 58 = .ok (.ireturn, 1) := by decide +kernel
theorem dX9_alley_59 : decode cX9_alley 59 = .ok (.aload_n 0, 1) := by decide +kernel
theorem dX9_alley_60 : decode cX9_alley 60 = .ok (.getfield 9, 3) := by decide +kernel
theorem dX9_alley_63 : decode cX9_alley 63 = .ok (.iconst 1, 1) := by decide +kernel
theorem dX9_alley_64 : decode cX9_alley 64 = .ok (.iaload, 1) := by decide +kernel
theorem dX9_alley_65 : decode cX9_alley 65 = .ok (.ifCond .ne 8, 3) := by decide +kernel
theorem dX9_alley_68 : decode cX9_alley 68 = .ok (.ldc 180, 2) := by decide +kernel
theorem dX9_alley_70 : decode cX9_alley 70 = .ok (.goto 7, 3) := by decide +kernel
theorem dX9_alley_73 : decode cX9_alley 73 = .ok (.aload_n 0, 1) := by decide +kernel
theorem dX9_alley_74 : decode cX9_alley 74 = .ok (.invokevirtual 181, 3) := by decide +kernel
theorem dX9_alley_77 : decode cX9_alley 77 = .ok (.ireturn, 1) := by decide +kernel
theorem dX9_alley_78 : decode cX9_alley 78 = .ok (.ldc 121, 2) := by decide +kernel
theorem dX9_alley_80 : decode cX9_alley 80 = .ok (.ireturn, 1) := by decide +kernel
theorem dX9_thinks_0 : decode cX9_thinks 0 = .ok (.aload_n 0, 1) := by decide +kernel
theorem dX9_thinks_1 : decode cX9_thinks 1 = .ok (.getfield 9, 3) := by decide +kernel
theorem dX9_thinks_4 : decode cX9_thinks 4 = .ok (.aload_n 0, 1) := by decide +kernel
theorem dX9_thinks_5 : decode cX9_thinks 5 = .ok (.getfield 16, 3) := by decide +kernel
theorem dX9_thinks_8 : decode cX9_thinks 8 = .ok (.invokestatic 184, 3) := by decide +kernel
theorem dX9_thinks_11 : decode cX9_thinks 11 = .ok (.return_, 1) := by decide +kernel
theorem dX9_putsBack_0 : decode cX9_putsBack 0 = .ok (.aload_n 0, 1) := by decide +kernel
theorem dX9_putsBack_1 : decode cX9_putsBack 1 = .ok (.getfield 16, 3) := by decide +kernel
theorem dX9_putsBack_4 : decode cX9_putsBack 4 = .ok (.aload_n 0, 1) := by decide +kernel
theorem dX9_putsBack_5 : decode cX9_putsBack 5 = .ok (.getfield 9, 3) := by decide +kernel
theorem dX9_putsBack_8 : decode cX9_putsBack 8 = .ok (.invokestatic 184, 3) := by decide +kernel
theorem dX9_putsBack_11 : decode cX9_putsBack 11 = .ok (.return_, 1) := by decide +kernel
theorem dX9_letsStand_0 : decode cX9_letsStand 0 = .ok (.iconst 0, 1) := by decide +kernel
theorem dX9_letsStand_1 : decode cX9_letsStand 1 = .ok (.istore_n 2, 1) := by decide +kernel
theorem dX9_letsStand_2 : decode cX9_letsStand 2 = .ok (.iload_n 2, 1) := by decide +kernel
theorem dX9_letsStand_3 : decode cX9_letsStand 3 = .ok (.aload_n 0, 1) := by decide +kernel
theorem dX9_letsStand_4 : decode cX9_letsStand 4 = .ok (.getfield 9, 3) := by decide +kernel
theorem dX9_letsStand_7 : decode cX9_letsStand 7 = .ok (.iconst 1, 1) := by decide +kernel
theorem dX9_letsStand_8 : decode cX9_letsStand 8 = .ok (.iaload, 1) := by decide +kernel
theorem dX9_letsStand_9 : decode cX9_letsStand 9 = .ok (.if_icmp .ge 73, 3) := by decide +kernel
theorem dX9_letsStand_12 : decode cX9_letsStand 12 = .ok (.iload_n 1, 1) := by decide +kernel
theorem dX9_letsStand_13 : decode cX9_letsStand 13 = .ok (.iload_n 2, 1) := by decide +kernel
theorem dX9_letsStand_14 : decode cX9_letsStand 14 = .ok (.ishr, 1) := by decide +kernel
theorem dX9_letsStand_15 : decode cX9_letsStand 15 = .ok (.iconst 1, 1) := by decide +kernel
theorem dX9_letsStand_16 : decode cX9_letsStand 16 = .ok (.iand, 1) := by decide +kernel
theorem dX9_letsStand_17 : decode cX9_letsStand 17 = .ok (.iconst 1, 1) := by decide +kernel
theorem dX9_letsStand_18 : decode cX9_letsStand 18 = .ok (.ixor, 1) := by decide +kernel
theorem dX9_letsStand_19 : decode cX9_letsStand 19 = .ok (.istore_n 3, 1) := by decide +kernel
theorem dX9_letsStand_20 : decode cX9_letsStand 20 = .ok (.bipush 7, 2) := by decide +kernel
theorem dX9_letsStand_22 : decode cX9_letsStand 22 = .ok (.bipush 6, 2) := by decide +kernel
theorem dX9_letsStand_24 : decode cX9_letsStand 24 = .ok (.iload_n 2, 1) := by decide +kernel
theorem dX9_letsStand_25 : decode cX9_letsStand 25 = .ok (.imul, 1) := by decide +kernel
theorem dX9_letsStand_26 : decode cX9_letsStand 26 = .ok (.iadd, 1) := by decide +kernel
theorem dX9_letsStand_27 : decode cX9_letsStand 27 = .ok (.istore 4, 2) := by decide +kernel
theorem dX9_letsStand_29 : decode cX9_letsStand 29 = .ok (.aload_n 0, 1) := by decide +kernel
theorem dX9_letsStand_30 : decode cX9_letsStand 30 = .ok (.iload_n 2, 1) := by decide +kernel
theorem dX9_letsStand_31 : decode cX9_letsStand 31 = .ok (.iconst 5, 1) := by decide +kernel
theorem dX9_letsStand_32 : decode cX9_letsStand 32 = .ok (.iload_n 3, 1) := by decide +kernel
theorem dX9_letsStand_33 : decode cX9_letsStand 33 = .ok (.invokevirtual 114, 3) := by decide +kernel
theorem dX9_letsStand_36 : decode cX9_letsStand 36 = .ok (.aload_n 0, 1) := by decide +kernel
theorem dX9_letsStand_37 : decode cX9_letsStand 37 = .ok (.iload_n 2, 1) := by decide +kernel
theorem dX9_letsStand_38 : decode cX9_letsStand 38 = .ok (.iconst 4, 1) := by decide +kernel
theorem dX9_letsStand_39 : decode cX9_letsStand 39 = .ok (.aload_n 0, 1) := by decide +kernel
theorem dX9_letsStand_40 : decode cX9_letsStand 40 = .ok (.getfield 16, 3) := by decide +kernel
theorem dX9_letsStand_43 : decode cX9_letsStand 43 = .ok (.iload 4, 2) := by decide +kernel
theorem dX9_letsStand_45 : decode cX9_letsStand 45 = .ok (.iconst 4, 1) := by decide +kernel
theorem dX9_letsStand_46 : decode cX9_letsStand 46 = .ok (.iadd, 1) := by decide +kernel
theorem dX9_letsStand_47 : decode cX9_letsStand 47 = .ok (.iaload, 1) := by decide +kernel
theorem dX9_letsStand_48 : decode cX9_letsStand 48 = .ok (.aload_n 0, 1) := by decide +kernel
theorem dX9_letsStand_49 : decode cX9_letsStand 49 = .ok (.getfield 16, 3) := by decide +kernel
theorem dX9_letsStand_52 : decode cX9_letsStand 52 = .ok (.iload 4, 2) := by decide +kernel
theorem dX9_letsStand_54 : decode cX9_letsStand 54 = .ok (.iconst 5, 1) := by decide +kernel
theorem dX9_letsStand_55 : decode cX9_letsStand 55 = .ok (.iadd, 1) := by decide +kernel
theorem dX9_letsStand_56 : decode cX9_letsStand 56 = .ok (.iaload, 1) := by decide +kernel
theorem dX9_letsStand_57 : decode cX9_letsStand 57 = .ok (.ifCond .ne 7, 3) := by decide +kernel
theorem dX9_letsStand_60 : decode cX9_letsStand 60 = .ok (.iload_n 3, 1) := by decide +kernel
theorem dX9_letsStand_61 : decode cX9_letsStand 61 = .ok (.goto 4, 3) := by decide +kernel
theorem dX9_letsStand_64 : decode cX9_letsStand 64 = .ok (.iconst 0, 1) := by decide +kernel
theorem dX9_letsStand_65 : decode cX9_letsStand 65 = .ok (.iadd, 1) := by decide +kernel
theorem dX9_letsStand_66 : decode cX9_letsStand 66 = .ok (.iconst 0, 1) := by decide +kernel
theorem dX9_letsStand_67 : decode cX9_letsStand 67 = .ok (.sipush 9999, 3) := by decide +kernel
theorem dX9_letsStand_70 : decode cX9_letsStand 70 = .ok (.invokestatic 107, 3) := by decide +kernel
theorem dX9_letsStand_73 : decode cX9_letsStand 73 = .ok (.invokevirtual 114, 3) := by decide +kernel
theorem dX9_letsStand_76 : decode cX9_letsStand 76 = .ok (.iinc 2 1, 3) := by decide +kernel
theorem dX9_letsStand_79 : decode cX9_letsStand 79 = .ok (.goto (-77), 3) := by decide +kernel
theorem dX9_letsStand_82 : decode cX9_letsStand 82 = .ok (.return_, 1) := by decide +kernel
theorem dX9_fellBy_0 : decode cX9_fellBy 0 = .ok (.iload_n 2, 1) := by decide +kernel
theorem dX9_fellBy_1 : decode cX9_fellBy 1 = .ok (.bipush 24, 2) := by decide +kernel
theorem dX9_fellBy_3 : decode cX9_fellBy 3 = .ok (.idiv, 1) := by decide +kernel
theorem dX9_fellBy_4 : decode cX9_fellBy 4 = .ok (.istore 4, 2) := by decide +kernel
theorem dX9_fellBy_6 : decode cX9_fellBy 6 = .ok (.aload_n 0, 1) := by decide +kernel
theorem dX9_fellBy_7 : decode cX9_fellBy 7 = .ok (.iload_n 1, 1) := by decide +kernel
theorem dX9_fellBy_8 : decode cX9_fellBy 8 = .ok (.putfield 188, 3) := by decide +kernel
theorem dX9_fellBy_11 : decode cX9_fellBy 11 = .ok (.iload_n 1, 1) := by decide +kernel
theorem dX9_fellBy_12 : decode cX9_fellBy 12 = .ok (.iload 4, 2) := by decide +kernel
theorem dX9_fellBy_14 : decode cX9_fellBy 14 = .ok (.ishr, 1) := by decide +kernel
theorem dX9_fellBy_15 : decode cX9_fellBy 15 = .ok (.iconst 1, 1) := by decide +kernel
theorem dX9_fellBy_16 : decode cX9_fellBy 16 = .ok (.iand, 1) := by decide +kernel
theorem dX9_fellBy_17 : decode cX9_fellBy 17 = .ok (.ifCond .ne 5, 3) := by decide +kernel
theorem dX9_fellBy_20 : decode cX9_fellBy 20 = .ok (.iconst 0, 1) := by decide +kernel
theorem dX9_fellBy_21 : decode cX9_fellBy 21 = .ok (.ireturn, 1) := by decide +kernel
theorem dX9_fellBy_22 : decode cX9_fellBy 22 = .ok (.aload_n 0, 1) := by decide +kernel
theorem dX9_fellBy_23 : decode cX9_fellBy 23 = .ok (.iload_n 1, 1) := by decide +kernel
theorem dX9_fellBy_24 : decode cX9_fellBy 24 = .ok (.invokevirtual 192, 3) := by decide +kernel
theorem dX9_fellBy_27 : decode cX9_fellBy 27 = .ok (.aload_n 0, 1) := by decide +kernel
theorem dX9_fellBy_28 : decode cX9_fellBy 28 = .ok (.iload 4, 2) := by decide +kernel
theorem dX9_fellBy_30 : decode cX9_fellBy 30 = .ok (.iload_n 2, 1) := by decide +kernel
theorem dX9_fellBy_31 : decode cX9_fellBy 31 = .ok (.iconst 3, 1) := by decide +kernel
theorem dX9_fellBy_32 : decode cX9_fellBy 32 = .ok (.idiv, 1) := by decide +kernel
theorem dX9_fellBy_33 : decode cX9_fellBy 33 = .ok (.bipush 8, 2) := by decide +kernel
theorem dX9_fellBy_35 : decode cX9_fellBy 35 = .ok (.irem, 1) := by decide +kernel
theorem dX9_fellBy_36 : decode cX9_fellBy 36 = .ok (.iload_n 3, 1) := by decide +kernel
theorem dX9_fellBy_37 : decode cX9_fellBy 37 = .ok (.iload_n 2, 1) := by decide +kernel
theorem dX9_fellBy_38 : decode cX9_fellBy 38 = .ok (.iconst 3, 1) := by decide +kernel
theorem dX9_fellBy_39 : decode cX9_fellBy 39 = .ok (.irem, 1) := by decide +kernel
theorem dX9_fellBy_40 : decode cX9_fellBy 40 = .ok (.iconst 1, 1) := by decide +kernel
theorem dX9_fellBy_41 : decode cX9_fellBy 41 = .ok (.isub, 1) := by decide +kernel
theorem dX9_fellBy_42 : decode cX9_fellBy 42 = .ok (.invokevirtual 159, 3) := by decide +kernel
theorem dX9_fellBy_45 : decode cX9_fellBy 45 = .ok (.istore 5, 2) := by decide +kernel
theorem dX9_fellBy_47 : decode cX9_fellBy 47 = .ok (.aload_n 0, 1) := by decide +kernel
theorem dX9_fellBy_48 : decode cX9_fellBy 48 = .ok (.aload_n 0, 1) := by decide +kernel
theorem dX9_fellBy_49 : decode cX9_fellBy 49 = .ok (.invokevirtual 97, 3) := by decide +kernel
theorem dX9_fellBy_52 : decode cX9_fellBy 52 = .ok (.putfield 188, 3) := by decide +kernel
theorem dX9_fellBy_55 : decode cX9_fellBy 55 = .ok (.iload 5, 2) := by decide +kernel
theorem dX9_fellBy_57 : decode cX9_fellBy 57 = .ok (.ireturn, 1) := by decide +kernel
theorem dX9_best_0 : decode cX9_best 0 = .ok (.iload_n 1, 1) := by decide +kernel
theorem dX9_best_1 : decode cX9_best 1 = .ok (.iconst 0, 1) := by decide +kernel
theorem dX9_best_2 : decode cX9_best 2 = .ok (.bipush 99, 2) := by decide +kernel
theorem dX9_best_4 : decode cX9_best 4 = .ok (.invokestatic 81, 3) := by decide +kernel
theorem dX9_best_7 : decode cX9_best 7 = .ok (.ifCond .eq 12, 3) := by decide +kernel
theorem dX9_best_10 : decode cX9_best 10 = .ok (.iload_n 2, 1) := by decide +kernel
theorem dX9_best_11 : decode cX9_best 11 = .ok (.iconst 0, 1) := by decide +kernel
theorem dX9_best_12 : decode cX9_best 12 = .ok (.iconst 3, 1) := by decide +kernel
theorem dX9_best_13 : decode cX9_best 13 = .ok (.invokestatic 81, 3) := by decide +kernel
theorem dX9_best_16 : decode cX9_best 16 = .ok (.ifCond .ne 6, 3) := by decide +kernel
theorem dX9_best_19 : decode cX9_best 19 = .ok (.ldc 121, 2) := by decide +kernel
theorem dX9_best_21 : decode cX9_best 21 = .ok (.ireturn, 1) := by decide +kernel
theorem dX9_best_22 : decode cX9_best 22 = .ok (.aload_n 0, 1) := by decide +kernel
theorem dX9_best_23 : decode cX9_best 23 = .ok (.invokevirtual 97, 3) := by decide +kernel
theorem dX9_best_26 : decode cX9_best 26 = .ok (.istore_n 3, 1) := by decide +kernel
theorem dX9_best_27 : decode cX9_best 27 = .ok (.iload_n 3, 1) := by decide +kernel
theorem dX9_best_28 : decode cX9_best 28 = .ok (.ifCond .ne 6, 3) := by decide +kernel
theorem dX9_best_31 : decode cX9_best 31 = .ok (.ldc 180, 2) := by decide +kernel
theorem dX9_best_33 : decode cX9_best 33 = .ok (.ireturn, 1) := by decide +kernel
theorem dX9_best_34 : decode cX9_best 34 = .ok (.aload_n 0, 1) := by decide +kernel
theorem dX9_best_35 : decode cX9_best 35 = .ok (.invokevirtual 195, 3) := by decide +kernel
theorem dX9_best_38 : decode cX9_best 38 = .ok (.iconst (-1), 1) := by decide +kernel
theorem dX9_best_39 : decode cX9_best 39 = .ok (.istore 4, 2) := by decide +kernel
theorem dX9_best_41 : decode cX9_best 41 = .ok (.iconst (-1), 1) := by decide +kernel
theorem dX9_best_42 : decode cX9_best 42 = .ok (.istore 5, 2) := by decide +kernel
theorem dX9_best_44 : decode cX9_best 44 = .ok (.iconst 0, 1) := by decide +kernel
theorem dX9_best_45 : decode cX9_best 45 = .ok (.istore 6, 2) := by decide +kernel
theorem dX9_best_47 : decode cX9_best 47 = .ok (.iload 6, 2) := by decide +kernel
theorem dX9_best_49 : decode cX9_best 49 = .ok (.bipush 24, 2) := by decide +kernel
theorem dX9_best_51 : decode cX9_best 51 = .ok (.aload_n 0, 1) := by decide +kernel
theorem dX9_best_52 : decode cX9_best 52 = .ok (.getfield 9, 3) := by decide +kernel
theorem dX9_best_55 : decode cX9_best 55 = .ok (.iconst 1, 1) := by decide +kernel
theorem dX9_best_56 : decode cX9_best 56 = .ok (.iaload, 1) := by decide +kernel
theorem dX9_best_57 : decode cX9_best 57 = .ok (.imul, 1) := by decide +kernel
theorem dX9_best_58 : decode cX9_best 58 = .ok (.if_icmp .ge 74, 3) := by decide +kernel
theorem dX9_best_61 : decode cX9_best 61 = .ok (.aload_n 0, 1) := by decide +kernel
theorem dX9_best_62 : decode cX9_best 62 = .ok (.iload_n 3, 1) := by decide +kernel
theorem dX9_best_63 : decode cX9_best 63 = .ok (.iload 6, 2) := by decide +kernel
theorem dX9_best_65 : decode cX9_best 65 = .ok (.iload_n 1, 1) := by decide +kernel
theorem dX9_best_66 : decode cX9_best 66 = .ok (.invokevirtual 198, 3) := by decide +kernel
theorem dX9_best_69 : decode cX9_best 69 = .ok (.istore 7, 2) := by decide +kernel
theorem dX9_best_71 : decode cX9_best 71 = .ok (.iload_n 3, 1) := by decide +kernel
theorem dX9_best_72 : decode cX9_best 72 = .ok (.iload 6, 2) := by decide +kernel
theorem dX9_best_74 : decode cX9_best 74 = .ok (.bipush 24, 2) := by decide +kernel
theorem dX9_best_76 : decode cX9_best 76 = .ok (.idiv, 1) := by decide +kernel
theorem dX9_best_77 : decode cX9_best 77 = .ok (.ishr, 1) := by decide +kernel
theorem dX9_best_78 : decode cX9_best 78 = .ok (.iconst 1, 1) := by decide +kernel
theorem dX9_best_79 : decode cX9_best 79 = .ok (.iand, 1) := by decide +kernel
theorem dX9_best_80 : decode cX9_best 80 = .ok (.iconst 1, 1) := by decide +kernel
theorem dX9_best_81 : decode cX9_best 81 = .ok (.if_icmp .ne 14, 3) := by decide +kernel
theorem dX9_best_84 : decode cX9_best 84 = .ok (.iload 7, 2) := by decide +kernel
theorem dX9_best_86 : decode cX9_best 86 = .ok (.iload 5, 2) := by decide +kernel
theorem dX9_best_88 : decode cX9_best 88 = .ok (.if_icmp .le 7, 3) := by decide +kernel
theorem dX9_best_91 : decode cX9_best 91 = .ok (.iconst 1, 1) := by decide +kernel
theorem dX9_best_92 : decode cX9_best 92 = .ok (.goto 4, 3) := by decide +kernel
theorem dX9_best_95 : decode cX9_best 95 = .ok (.iconst 0, 1) := by decide +kernel
theorem dX9_best_96 : decode cX9_best 96 = .ok (.istore 8, 2) := by decide +kernel
theorem dX9_best_98 : decode cX9_best 98 = .ok (.iload 8, 2) := by decide +kernel
theorem dX9_best_100 : decode cX9_best 100 = .ok (.ifCond .eq 8, 3) := by decide +kernel
theorem dX9_best_103 : decode cX9_best 103 = .ok (.iload 6, 2) := by decide +kernel
theorem dX9_best_105 : decode cX9_best 105 = .ok (.goto 5, 3) := by decide +kernel
theorem dX9_best_108 : decode cX9_best 108 = .ok (.iload 4, 2) := by decide +kernel
theorem dX9_best_110 : decode cX9_best 110 = .ok (.istore 4, 2) := by decide +kernel
theorem dX9_best_112 : decode cX9_best 112 = .ok (.iload 8, 2) := by decide +kernel
theorem dX9_best_114 : decode cX9_best 114 = .ok (.ifCond .eq 8, 3) := by decide +kernel
theorem dX9_best_117 : decode cX9_best 117 = .ok (.iload 7, 2) := by decide +kernel
theorem dX9_best_119 : decode cX9_best 119 = .ok (.goto 5, 3) := by decide +kernel
theorem dX9_best_122 : decode cX9_best 122 = .ok (.iload 5, 2) := by decide +kernel
theorem dX9_best_124 : decode cX9_best 124 = .ok (.istore 5, 2) := by decide +kernel
theorem dX9_best_126 : decode cX9_best 126 = .ok (.iinc 6 1, 3) := by decide +kernel
theorem dX9_best_129 : decode cX9_best 129 = .ok (.goto (-82), 3) := by decide +kernel
theorem dX9_best_132 : decode cX9_best 132 = .ok (.aload_n 0, 1) := by decide +kernel
theorem dX9_best_133 : decode cX9_best 133 = .ok (.invokevirtual 201, 3) := by decide +kernel
theorem dX9_best_136 : decode cX9_best 136 = .ok (.iload_n 2, 1) := by decide +kernel
theorem dX9_best_137 : decode cX9_best 137 = .ok (.ifCond .ne 8, 3) := by decide +kernel
theorem dX9_best_140 : decode cX9_best 140 = .ok (.iload 5, 2) := by decide +kernel
theorem dX9_best_142 : decode cX9_best 142 = .ok (.goto 35, 3) := by decide +kernel
theorem dX9_best_145 : decode cX9_best 145 = .ok (.iload_n 2, 1) := by decide +kernel
theorem dX9_best_146 : decode cX9_best 146 = .ok (.iconst 1, 1) := by decide +kernel
theorem dX9_best_147 : decode cX9_best 147 = .ok (.if_icmp .ne 11, 3) := by decide +kernel
theorem dX9_best_150 : decode cX9_best 150 = .ok (.iload 4, 2) := by decide +kernel
theorem dX9_best_152 : decode cX9_best 152 = .ok (.bipush 24, 2) := by decide +kernel
theorem dX9_best_154 : decode cX9_best 154 = .ok (.idiv, 1) := by decide +kernel
theorem dX9_best_155 : decode cX9_best 155 = .ok (.goto 22, 3) := by decide +kernel
theorem dX9_best_158 : decode cX9_best 158 = .ok (.iload_n 2, 1) := by decide +kernel
theorem dX9_best_159 : decode cX9_best 159 = .ok (.iconst 2, 1) := by decide +kernel
theorem dX9_best_160 : decode cX9_best 160 = .ok (.if_icmp .ne 13, 3) := by decide +kernel
theorem dX9_best_163 : decode cX9_best 163 = .ok (.iload 4, 2) := by decide +kernel
theorem dX9_best_165 : decode cX9_best 165 = .ok (.iconst 3, 1) := by decide +kernel
theorem dX9_best_166 : decode cX9_best 166 = .ok (.idiv, 1) := by decide +kernel
theorem dX9_best_167 : decode cX9_best 167 = .ok (.bipush 8, 2) := by decide +kernel
theorem dX9_best_169 : decode cX9_best 169 = .ok (.irem, 1) := by decide +kernel
theorem dX9_best_170 : decode cX9_best 170 = .ok (.goto 7, 3) := by decide +kernel
theorem dX9_best_173 : decode cX9_best 173 = .ok (.iload 4, 2) := by decide +kernel
theorem dX9_best_175 : decode cX9_best 175 = .ok (.iconst 3, 1) := by decide +kernel
theorem dX9_best_176 : decode cX9_best 176 = .ok (.irem, 1) := by decide +kernel
theorem dX9_best_177 : decode cX9_best 177 = .ok (.ireturn, 1) := by decide +kernel
theorem dX9_mostFrom_0 : decode cX9_mostFrom 0 = .ok (.aload_n 0, 1) := by decide +kernel
theorem dX9_mostFrom_1 : decode cX9_mostFrom 1 = .ok (.getfield 19, 3) := by decide +kernel
theorem dX9_mostFrom_4 : decode cX9_mostFrom 4 = .ok (.iload_n 1, 1) := by decide +kernel
theorem dX9_mostFrom_5 : decode cX9_mostFrom 5 = .ok (.iaload, 1) := by decide +kernel
theorem dX9_mostFrom_6 : decode cX9_mostFrom 6 = .ok (.ifCond .ge 58, 3) := by decide +kernel
theorem dX9_mostFrom_9 : decode cX9_mostFrom 9 = .ok (.iconst 0, 1) := by decide +kernel
theorem dX9_mostFrom_10 : decode cX9_mostFrom 10 = .ok (.istore_n 3, 1) := by decide +kernel
theorem dX9_mostFrom_11 : decode cX9_mostFrom 11 = .ok (.iconst 0, 1) := by decide +kernel
theorem dX9_mostFrom_12 : decode cX9_mostFrom 12 = .ok (.istore 4, 2) := by decide +kernel
theorem dX9_mostFrom_14 : decode cX9_mostFrom 14 = .ok (.iload 4, 2) := by decide +kernel
theorem dX9_mostFrom_16 : decode cX9_mostFrom 16 = .ok (.bipush 24, 2) := by decide +kernel
theorem dX9_mostFrom_18 : decode cX9_mostFrom 18 = .ok (.aload_n 0, 1) := by decide +kernel
theorem dX9_mostFrom_19 : decode cX9_mostFrom 19 = .ok (.getfield 9, 3) := by decide +kernel
theorem dX9_mostFrom_22 : decode cX9_mostFrom 22 = .ok (.iconst 1, 1) := by decide +kernel
theorem dX9_mostFrom_23 : decode cX9_mostFrom 23 = .ok (.iaload, 1) := by decide +kernel
theorem dX9_mostFrom_24 : decode cX9_mostFrom 24 = .ok (.imul, 1) := by decide +kernel
theorem dX9_mostFrom_25 : decode cX9_mostFrom 25 = .ok (.if_icmp .ge 32, 3) := by decide +kernel
theorem dX9_mostFrom_28 : decode cX9_mostFrom 28 = .ok (.aload_n 0, 1) := by decide +kernel
theorem dX9_mostFrom_29 : decode cX9_mostFrom 29 = .ok (.iload_n 1, 1) := by decide +kernel
theorem dX9_mostFrom_30 : decode cX9_mostFrom 30 = .ok (.iload 4, 2) := by decide +kernel
theorem dX9_mostFrom_32 : decode cX9_mostFrom 32 = .ok (.iload_n 2, 1) := by decide +kernel
theorem dX9_mostFrom_33 : decode cX9_mostFrom 33 = .ok (.invokevirtual 198, 3) := by decide +kernel
theorem dX9_mostFrom_36 : decode cX9_mostFrom 36 = .ok (.istore 5, 2) := by decide +kernel
theorem dX9_mostFrom_38 : decode cX9_mostFrom 38 = .ok (.iload 5, 2) := by decide +kernel
theorem dX9_mostFrom_40 : decode cX9_mostFrom 40 = .ok (.iload_n 3, 1) := by decide +kernel
theorem dX9_mostFrom_41 : decode cX9_mostFrom 41 = .ok (.if_icmp .le 8, 3) := by decide +kernel
theorem dX9_mostFrom_44 : decode cX9_mostFrom 44 = .ok (.iload 5, 2) := by decide +kernel
theorem dX9_mostFrom_46 : decode cX9_mostFrom 46 = .ok (.goto 4, 3) := by decide +kernel
theorem dX9_mostFrom_49 : decode cX9_mostFrom 49 = .ok (.iload_n 3, 1) := by decide +kernel
theorem dX9_mostFrom_50 : decode cX9_mostFrom 50 = .ok (.istore_n 3, 1) := by decide +kernel
theorem dX9_mostFrom_51 : decode cX9_mostFrom 51 = .ok (.iinc 4 1, 3) := by decide +kernel
theorem dX9_mostFrom_54 : decode cX9_mostFrom 54 = .ok (.goto (-40), 3) := by decide +kernel
theorem dX9_mostFrom_57 : decode cX9_mostFrom 57 = .ok (.aload_n 0, 1) := by decide +kernel
theorem dX9_mostFrom_58 : decode cX9_mostFrom 58 = .ok (.getfield 19, 3) := by decide +kernel
theorem dX9_mostFrom_61 : decode cX9_mostFrom 61 = .ok (.iload_n 1, 1) := by decide +kernel
theorem dX9_mostFrom_62 : decode cX9_mostFrom 62 = .ok (.iload_n 3, 1) := by decide +kernel
theorem dX9_mostFrom_63 : decode cX9_mostFrom 63 = .ok (.iastore, 1) := by decide +kernel
theorem dX9_mostFrom_64 : decode cX9_mostFrom 64 = .ok (.aload_n 0, 1) := by decide +kernel
theorem dX9_mostFrom_65 : decode cX9_mostFrom 65 = .ok (.getfield 19, 3) := by decide +kernel
theorem dX9_mostFrom_68 : decode cX9_mostFrom 68 = .ok (.iload_n 1, 1) := by decide +kernel
theorem dX9_mostFrom_69 : decode cX9_mostFrom 69 = .ok (.iaload, 1) := by decide +kernel
theorem dX9_mostFrom_70 : decode cX9_mostFrom 70 = .ok (.ireturn, 1) := by decide +kernel
theorem dX9_pair_0 : decode cX9_pair 0 = .ok (.iload_n 1, 1) := by decide +kernel
theorem dX9_pair_1 : decode cX9_pair 1 = .ok (.iconst 0, 1) := by decide +kernel
theorem dX9_pair_2 : decode cX9_pair 2 = .ok (.bipush 99, 2) := by decide +kernel
theorem dX9_pair_4 : decode cX9_pair 4 = .ok (.invokestatic 81, 3) := by decide +kernel
theorem dX9_pair_7 : decode cX9_pair 7 = .ok (.ifCond .ne 6, 3) := by decide +kernel
theorem dX9_pair_10 : decode cX9_pair 10 = .ok (.ldc 121, 2) := by decide +kernel
theorem dX9_pair_12 : decode cX9_pair 12 = .ok (.ireturn, 1) := by decide +kernel
theorem dX9_pair_13 : decode cX9_pair 13 = .ok (.aload_n 0, 1) := by decide +kernel
theorem dX9_pair_14 : decode cX9_pair 14 = .ok (.invokevirtual 97, 3) := by decide +kernel
theorem dX9_pair_17 : decode cX9_pair 17 = .ok (.istore_n 2, 1) := by decide +kernel
theorem dX9_pair_18 : decode cX9_pair 18 = .ok (.aload_n 0, 1) := by decide +kernel
theorem dX9_pair_19 : decode cX9_pair 19 = .ok (.invokevirtual 195, 3) := by decide +kernel
theorem dX9_pair_22 : decode cX9_pair 22 = .ok (.iconst 0, 1) := by decide +kernel
theorem dX9_pair_23 : decode cX9_pair 23 = .ok (.istore_n 3, 1) := by decide +kernel
theorem dX9_pair_24 : decode cX9_pair 24 = .ok (.iload_n 3, 1) := by decide +kernel
theorem dX9_pair_25 : decode cX9_pair 25 = .ok (.sipush 512, 3) := by decide +kernel
theorem dX9_pair_28 : decode cX9_pair 28 = .ok (.if_icmp .ge 16, 3) := by decide +kernel
theorem dX9_pair_31 : decode cX9_pair 31 = .ok (.aload_n 0, 1) := by decide +kernel
theorem dX9_pair_32 : decode cX9_pair 32 = .ok (.getfield 19, 3) := by decide +kernel
theorem dX9_pair_35 : decode cX9_pair 35 = .ok (.iload_n 3, 1) := by decide +kernel
theorem dX9_pair_36 : decode cX9_pair 36 = .ok (.iconst (-1), 1) := by decide +kernel
theorem dX9_pair_37 : decode cX9_pair 37 = .ok (.iastore, 1) := by decide +kernel
theorem dX9_pair_38 : decode cX9_pair 38 = .ok (.iinc 3 1, 3) := by decide +kernel
theorem dX9_pair_41 : decode cX9_pair 41 = .ok (.goto (-17), 3) := by decide +kernel
theorem dX9_pair_44 : decode cX9_pair 44 = .ok (.iconst 0, 1) := by decide +kernel
theorem dX9_pair_45 : decode cX9_pair 45 = .ok (.istore_n 3, 1) := by decide +kernel
theorem dX9_pair_46 : decode cX9_pair 46 = .ok (.iconst 0, 1) := by decide +kernel
theorem dX9_pair_47 : decode cX9_pair 47 = .ok (.istore 4, 2) := by decide +kernel
theorem dX9_pair_49 : decode cX9_pair 49 = .ok (.iload 4, 2) := by decide +kernel
theorem dX9_pair_51 : decode cX9_pair 51 = .ok (.bipush 24, 2) := by decide +kernel
theorem dX9_pair_53 : decode cX9_pair 53 = .ok (.aload_n 0, 1) := by decide +kernel
theorem dX9_pair_54 : decode cX9_pair 54 = .ok (.getfield 9, 3) := by decide +kernel
theorem dX9_pair_57 : decode cX9_pair 57 = .ok (.iconst 1, 1) := by decide +kernel
theorem dX9_pair_58 : decode cX9_pair 58 = .ok (.iaload, 1) := by decide +kernel
theorem dX9_pair_59 : decode cX9_pair 59 = .ok (.imul, 1) := by decide +kernel
theorem dX9_pair_60 : decode cX9_pair 60 = .ok (.if_icmp .ge 50, 3) := by decide +kernel
theorem dX9_pair_63 : decode cX9_pair 63 = .ok (.aload_n 0, 1) := by decide +kernel
theorem dX9_pair_64 : decode cX9_pair 64 = .ok (.iload_n 2, 1) := by decide +kernel
theorem dX9_pair_65 : decode cX9_pair 65 = .ok (.iload 4, 2) := by decide +kernel
theorem dX9_pair_67 : decode cX9_pair 67 = .ok (.iload_n 1, 1) := by decide +kernel
theorem dX9_pair_68 : decode cX9_pair 68 = .ok (.invokevirtual 198, 3) := by decide +kernel
theorem dX9_pair_71 : decode cX9_pair 71 = .ok (.istore 5, 2) := by decide +kernel
theorem dX9_pair_73 : decode cX9_pair 73 = .ok (.aload_n 0, 1) := by decide +kernel
theorem dX9_pair_74 : decode cX9_pair 74 = .ok (.getfield 188, 3) := by decide +kernel
theorem dX9_pair_77 : decode cX9_pair 77 = .ok (.istore 6, 2) := by decide +kernel
theorem dX9_pair_79 : decode cX9_pair 79 = .ok (.iload 5, 2) := by decide +kernel
theorem dX9_pair_81 : decode cX9_pair 81 = .ok (.aload_n 0, 1) := by decide +kernel
theorem dX9_pair_82 : decode cX9_pair 82 = .ok (.iload 6, 2) := by decide +kernel
theorem dX9_pair_84 : decode cX9_pair 84 = .ok (.iload_n 1, 1) := by decide +kernel
theorem dX9_pair_85 : decode cX9_pair 85 = .ok (.invokevirtual 204, 3) := by decide +kernel
theorem dX9_pair_88 : decode cX9_pair 88 = .ok (.iadd, 1) := by decide +kernel
theorem dX9_pair_89 : decode cX9_pair 89 = .ok (.istore 5, 2) := by decide +kernel
theorem dX9_pair_91 : decode cX9_pair 91 = .ok (.iload 5, 2) := by decide +kernel
theorem dX9_pair_93 : decode cX9_pair 93 = .ok (.iload_n 3, 1) := by decide +kernel
theorem dX9_pair_94 : decode cX9_pair 94 = .ok (.if_icmp .le 8, 3) := by decide +kernel
theorem dX9_pair_97 : decode cX9_pair 97 = .ok (.iload 5, 2) := by decide +kernel
theorem dX9_pair_99 : decode cX9_pair 99 = .ok (.goto 4, 3) := by decide +kernel
theorem dX9_pair_102 : decode cX9_pair 102 = .ok (.iload_n 3, 1) := by decide +kernel
theorem dX9_pair_103 : decode cX9_pair 103 = .ok (.istore_n 3, 1) := by decide +kernel
theorem dX9_pair_104 : decode cX9_pair 104 = .ok (.iinc 4 1, 3) := by decide +kernel
theorem dX9_pair_107 : decode cX9_pair 107 = .ok (.goto (-58), 3) := by decide +kernel
theorem dX9_pair_110 : decode cX9_pair 110 = .ok (.aload_n 0, 1) := by decide +kernel
theorem dX9_pair_111 : decode cX9_pair 111 = .ok (.invokevirtual 201, 3) := by decide +kernel
theorem dX9_pair_114 : decode cX9_pair 114 = .ok (.iload_n 3, 1) := by decide +kernel
theorem dX9_pair_115 : decode cX9_pair 115 = .ok (.ireturn, 1) := by decide +kernel
theorem dX9_goesFrom_0 : decode cX9_goesFrom 0 = .ok (.iconst 0, 1) := by decide +kernel
theorem dX9_goesFrom_1 : decode cX9_goesFrom 1 = .ok (.istore_n 3, 1) := by decide +kernel
theorem dX9_goesFrom_2 : decode cX9_goesFrom 2 = .ok (.iload_n 3, 1) := by decide +kernel
theorem dX9_goesFrom_3 : decode cX9_goesFrom 3 = .ok (.bipush 24, 2) := by decide +kernel
theorem dX9_goesFrom_5 : decode cX9_goesFrom 5 = .ok (.aload_n 0, 1) := by decide +kernel
theorem dX9_goesFrom_6 : decode cX9_goesFrom 6 = .ok (.getfield 9, 3) := by decide +kernel
theorem dX9_goesFrom_9 : decode cX9_goesFrom 9 = .ok (.iconst 1, 1) := by decide +kernel
theorem dX9_goesFrom_10 : decode cX9_goesFrom 10 = .ok (.iaload, 1) := by decide +kernel
theorem dX9_goesFrom_11 : decode cX9_goesFrom 11 = .ok (.imul, 1) := by decide +kernel
theorem dX9_goesFrom_12 : decode cX9_goesFrom 12 = .ok (.if_icmp .ge 59, 3) := by decide +kernel
theorem dX9_goesFrom_15 : decode cX9_goesFrom 15 = .ok (.aload_n 0, 1) := by decide +kernel
theorem dX9_goesFrom_16 : decode cX9_goesFrom 16 = .ok (.iload_n 1, 1) := by decide +kernel
theorem dX9_goesFrom_17 : decode cX9_goesFrom 17 = .ok (.iload_n 3, 1) := by decide +kernel
theorem dX9_goesFrom_18 : decode cX9_goesFrom 18 = .ok (.iload_n 2, 1) := by decide +kernel
theorem dX9_goesFrom_19 : decode cX9_goesFrom 19 = .ok (.invokevirtual 198, 3) := by decide +kernel
theorem dX9_goesFrom_22 : decode cX9_goesFrom 22 = .ok (.istore 4, 2) := by decide +kernel
theorem dX9_goesFrom_24 : decode cX9_goesFrom 24 = .ok (.aload_n 0, 1) := by decide +kernel
theorem dX9_goesFrom_25 : decode cX9_goesFrom 25 = .ok (.getfield 22, 3) := by decide +kernel
theorem dX9_goesFrom_28 : decode cX9_goesFrom 28 = .ok (.aload_n 0, 1) := by decide +kernel
theorem dX9_goesFrom_29 : decode cX9_goesFrom 29 = .ok (.getfield 188, 3) := by decide +kernel
theorem dX9_goesFrom_32 : decode cX9_goesFrom 32 = .ok (.aload_n 0, 1) := by decide +kernel
theorem dX9_goesFrom_33 : decode cX9_goesFrom 33 = .ok (.getfield 22, 3) := by decide +kernel
theorem dX9_goesFrom_36 : decode cX9_goesFrom 36 = .ok (.aload_n 0, 1) := by decide +kernel
theorem dX9_goesFrom_37 : decode cX9_goesFrom 37 = .ok (.getfield 188, 3) := by decide +kernel
theorem dX9_goesFrom_40 : decode cX9_goesFrom 40 = .ok (.iaload, 1) := by decide +kernel
theorem dX9_goesFrom_41 : decode cX9_goesFrom 41 = .ok (.ifCond .ge 14, 3) := by decide +kernel
theorem dX9_goesFrom_44 : decode cX9_goesFrom 44 = .ok (.aload_n 0, 1) := by decide +kernel
theorem dX9_goesFrom_45 : decode cX9_goesFrom 45 = .ok (.getfield 22, 3) := by decide +kernel
theorem dX9_goesFrom_48 : decode cX9_goesFrom 48 = .ok (.iload_n 1, 1) := by decide +kernel
theorem dX9_goesFrom_49 : decode cX9_goesFrom 49 = .ok (.iaload, 1) := by decide +kernel
theorem dX9_goesFrom_50 : decode cX9_goesFrom 50 = .ok (.iconst 1, 1) := by decide +kernel
theorem dX9_goesFrom_51 : decode cX9_goesFrom 51 = .ok (.iadd, 1) := by decide +kernel
theorem dX9_goesFrom_52 : decode cX9_goesFrom 52 = .ok (.goto 12, 3) := by decide +kernel
theorem dX9_goesFrom_55 : decode cX9_goesFrom 55 = .ok (.aload_n 0, 1) := by decide +kernel
theorem dX9_goesFrom_56 : decode cX9_goesFrom 56 = .ok (.getfield 22, 3) := by decide +kernel
theorem dX9_goesFrom_59 : decode cX9_goesFrom 59 = .ok (.aload_n 0, 1) := by decide +kernel
theorem dX9_goesFrom_60 : decode cX9_goesFrom 60 = .ok (.getfield 188, 3) := by decide +kernel
theorem dX9_goesFrom_63 : decode cX9_goesFrom 63 = .ok (.iaload, 1) := by decide +kernel
theorem dX9_goesFrom_64 : decode cX9_goesFrom 64 = .ok (.iastore, 1) := by decide +kernel
theorem dX9_goesFrom_65 : decode cX9_goesFrom 65 = .ok (.iinc 3 1, 3) := by decide +kernel
theorem dX9_goesFrom_68 : decode cX9_goesFrom 68 = .ok (.goto (-66), 3) := by decide +kernel
theorem dX9_goesFrom_71 : decode cX9_goesFrom 71 = .ok (.return_, 1) := by decide +kernel
theorem dX9_clear_0 : decode cX9_clear 0 = .ok (.iload_n 1, 1) := by decide +kernel
theorem dX9_clear_1 : decode cX9_clear 1 = .ok (.iconst 0, 1) := by decide +kernel
theorem dX9_clear_2 : decode cX9_clear 2 = .ok (.bipush 99, 2) := by decide +kernel
theorem dX9_clear_4 : decode cX9_clear 4 = .ok (.invokestatic 81, 3) := by decide +kernel
theorem dX9_clear_7 : decode cX9_clear 7 = .ok (.ifCond .ne 6, 3) := by decide +kernel
theorem dX9_clear_10 : decode cX9_clear 10 = .ok (.ldc 121, 2) := by decide +kernel
theorem dX9_clear_12 : decode cX9_clear 12 = .ok (.ireturn, 1) := by decide +kernel
theorem dX9_clear_13 : decode cX9_clear 13 = .ok (.aload_n 0, 1) := by decide +kernel
theorem dX9_clear_14 : decode cX9_clear 14 = .ok (.invokevirtual 97, 3) := by decide +kernel
theorem dX9_clear_17 : decode cX9_clear 17 = .ok (.istore_n 2, 1) := by decide +kernel
theorem dX9_clear_18 : decode cX9_clear 18 = .ok (.aload_n 0, 1) := by decide +kernel
theorem dX9_clear_19 : decode cX9_clear 19 = .ok (.invokevirtual 195, 3) := by decide +kernel
theorem dX9_clear_22 : decode cX9_clear 22 = .ok (.iconst 0, 1) := by decide +kernel
theorem dX9_clear_23 : decode cX9_clear 23 = .ok (.istore_n 3, 1) := by decide +kernel
theorem dX9_clear_24 : decode cX9_clear 24 = .ok (.iload_n 3, 1) := by decide +kernel
theorem dX9_clear_25 : decode cX9_clear 25 = .ok (.sipush 512, 3) := by decide +kernel
theorem dX9_clear_28 : decode cX9_clear 28 = .ok (.if_icmp .ge 16, 3) := by decide +kernel
theorem dX9_clear_31 : decode cX9_clear 31 = .ok (.aload_n 0, 1) := by decide +kernel
theorem dX9_clear_32 : decode cX9_clear 32 = .ok (.getfield 22, 3) := by decide +kernel
theorem dX9_clear_35 : decode cX9_clear 35 = .ok (.iload_n 3, 1) := by decide +kernel
theorem dX9_clear_36 : decode cX9_clear 36 = .ok (.iconst (-1), 1) := by decide +kernel
theorem dX9_clear_37 : decode cX9_clear 37 = .ok (.iastore, 1) := by decide +kernel
theorem dX9_clear_38 : decode cX9_clear 38 = .ok (.iinc 3 1, 3) := by decide +kernel
theorem dX9_clear_41 : decode cX9_clear 41 = .ok (.goto (-17), 3) := by decide +kernel
theorem dX9_clear_44 : decode cX9_clear 44 = .ok (.aload_n 0, 1) := by decide +kernel
theorem dX9_clear_45 : decode cX9_clear 45 = .ok (.getfield 22, 3) := by decide +kernel
theorem dX9_clear_48 : decode cX9_clear 48 = .ok (.iload_n 2, 1) := by decide +kernel
theorem dX9_clear_49 : decode cX9_clear 49 = .ok (.iconst 0, 1) := by decide +kernel
theorem dX9_clear_50 : decode cX9_clear 50 = .ok (.iastore, 1) := by decide +kernel
theorem dX9_clear_51 : decode cX9_clear 51 = .ok (.iconst 0, 1) := by decide +kernel
theorem dX9_clear_52 : decode cX9_clear 52 = .ok (.istore_n 3, 1) := by decide +kernel
theorem dX9_clear_53 : decode cX9_clear 53 = .ok (.iload_n 3, 1) := by decide +kernel
theorem dX9_clear_54 : decode cX9_clear 54 = .ok (.bipush 9, 2) := by decide +kernel
theorem dX9_clear_56 : decode cX9_clear 56 = .ok (.if_icmp .ge 50, 3) := by decide +kernel
theorem dX9_clear_59 : decode cX9_clear 59 = .ok (.aload_n 0, 1) := by decide +kernel
theorem dX9_clear_60 : decode cX9_clear 60 = .ok (.getfield 22, 3) := by decide +kernel
theorem dX9_clear_63 : decode cX9_clear 63 = .ok (.iconst 0, 1) := by decide +kernel
theorem dX9_clear_64 : decode cX9_clear 64 = .ok (.iaload, 1) := by decide +kernel
theorem dX9_clear_65 : decode cX9_clear 65 = .ok (.ifCond .ge 41, 3) := by decide +kernel
theorem dX9_clear_68 : decode cX9_clear 68 = .ok (.iload_n 2, 1) := by decide +kernel
theorem dX9_clear_69 : decode cX9_clear 69 = .ok (.istore 4, 2) := by decide +kernel
theorem dX9_clear_71 : decode cX9_clear 71 = .ok (.iload 4, 2) := by decide +kernel
theorem dX9_clear_73 : decode cX9_clear 73 = .ok (.ifCond .le 27, 3) := by decide +kernel
theorem dX9_clear_76 : decode cX9_clear 76 = .ok (.aload_n 0, 1) := by decide +kernel
theorem dX9_clear_77 : decode cX9_clear 77 = .ok (.getfield 22, 3) := by decide +kernel
theorem dX9_clear_80 : decode cX9_clear 80 = .ok (.iload 4, 2) := by decide +kernel
theorem dX9_clear_82 : decode cX9_clear 82 = .ok (.iaload, 1) := by decide +kernel
theorem dX9_clear_83 : decode cX9_clear 83 = .ok (.iload_n 3, 1) := by decide +kernel
theorem dX9_clear_84 : decode cX9_clear 84 = .ok (.if_icmp .ne 10, 3) := by decide +kernel
theorem dX9_clear_87 : decode cX9_clear 87 = .ok (.aload_n 0, 1) := by decide +kernel
theorem dX9_clear_88 : decode cX9_clear 88 = .ok (.iload 4, 2) := by decide +kernel
theorem dX9_clear_90 : decode cX9_clear 90 = .ok (.iload_n 1, 1) := by decide +kernel
theorem dX9_clear_91 : decode cX9_clear 91 = .ok (.invokevirtual 207, 3) := by decide +kernel
theorem dX9_clear_94 : decode cX9_clear 94 = .ok (.iinc 4 (-1), 3) := by decide +kernel
theorem dX9_clear_97 : decode cX9_clear 97 = .ok (.goto (-26), 3) := by decide +kernel
theorem dX9_clear_100 : decode cX9_clear 100 = .ok (.iinc 3 1, 3) := by decide +kernel
theorem dX9_clear_103 : decode cX9_clear 103 = .ok (.goto (-50), 3) := by decide +kernel
theorem dX9_clear_106 : decode cX9_clear 106 = .ok (.aload_n 0, 1) := by decide +kernel
theorem dX9_clear_107 : decode cX9_clear 107 = .ok (.invokevirtual 201, 3) := by decide +kernel
theorem dX9_clear_110 : decode cX9_clear 110 = .ok (.aload_n 0, 1) := by decide +kernel
theorem dX9_clear_111 : decode cX9_clear 111 = .ok (.getfield 22, 3) := by decide +kernel
theorem dX9_clear_114 : decode cX9_clear 114 = .ok (.iconst 0, 1) := by decide +kernel
theorem dX9_clear_115 : decode cX9_clear 115 = .ok (.iaload, 1) := by decide +kernel
theorem dX9_clear_116 : decode cX9_clear 116 = .ok (.ifCond .ge 8, 3) := by decide +kernel
theorem dX9_clear_119 : decode cX9_clear 119 = .ok (.ldc 180, 2) := by decide +kernel
theorem dX9_clear_121 : decode cX9_clear 121 = .ok (.goto 9, 3) := by decide +kernel
theorem dX9_clear_124 : decode cX9_clear 124 = .ok (.aload_n 0, 1) := by decide +kernel
theorem dX9_clear_125 : decode cX9_clear 125 = .ok (.getfield 22, 3) := by decide +kernel
theorem dX9_clear_128 : decode cX9_clear 128 = .ok (.iconst 0, 1) := by decide +kernel
theorem dX9_clear_129 : decode cX9_clear 129 = .ok (.iaload, 1) := by decide +kernel
theorem dX9_clear_130 : decode cX9_clear 130 = .ok (.ireturn, 1) := by decide +kernel
theorem dX9_force_0 : decode cX9_force 0 = .ok (.aload_n 0, 1) := by decide +kernel
theorem dX9_force_1 : decode cX9_force 1 = .ok (.iload_n 1, 1) := by decide +kernel
theorem dX9_force_2 : decode cX9_force 2 = .ok (.invokevirtual 85, 3) := by decide +kernel
theorem dX9_force_5 : decode cX9_force 5 = .ok (.ifCond .eq 10, 3) := by decide +kernel
theorem dX9_force_8 : decode cX9_force 8 = .ok (.iload_n 2, 1) := by decide +kernel
theorem dX9_force_9 : decode cX9_force 9 = .ok (.invokestatic 118, 3) := by decide +kernel
theorem dX9_force_12 : decode cX9_force 12 = .ok (.ifCond .ne 6, 3) := by decide +kernel
theorem dX9_force_15 : decode cX9_force 15 = .ok (.ldc 121, 2) := by decide +kernel
theorem dX9_force_17 : decode cX9_force 17 = .ok (.ireturn, 1) := by decide +kernel
theorem dX9_force_18 : decode cX9_force 18 = .ok (.aload_n 0, 1) := by decide +kernel
theorem dX9_force_19 : decode cX9_force 19 = .ok (.iload_n 1, 1) := by decide +kernel
theorem dX9_force_20 : decode cX9_force 20 = .ok (.invokevirtual 150, 3) := by decide +kernel
theorem dX9_force_23 : decode cX9_force 23 = .ok (.ifCond .ne 6, 3) := by decide +kernel
theorem dX9_force_26 : decode cX9_force 26 = .ok (.ldc 162, 2) := by decide +kernel
theorem dX9_force_28 : decode cX9_force 28 = .ok (.ireturn, 1) := by decide +kernel
theorem dX9_force_29 : decode cX9_force 29 = .ok (.aload_n 0, 1) := by decide +kernel
theorem dX9_force_30 : decode cX9_force 30 = .ok (.iload_n 1, 1) := by decide +kernel
theorem dX9_force_31 : decode cX9_force 31 = .ok (.iload_n 2, 1) := by decide +kernel
theorem dX9_force_32 : decode cX9_force 32 = .ok (.invokevirtual 133, 3) := by decide +kernel
theorem dX9_force_35 : decode cX9_force 35 = .ok (.istore_n 3, 1) := by decide +kernel
theorem dX9_force_36 : decode cX9_force 36 = .ok (.iload_n 3, 1) := by decide +kernel
theorem dX9_force_37 : decode cX9_force 37 = .ok (.bipush 99, 2) := by decide +kernel
theorem dX9_force_39 : decode cX9_force 39 = .ok (.if_icmp .ge 9, 3) := by decide +kernel
theorem dX9_force_42 : decode cX9_force 42 = .ok (.iload_n 3, 1) := by decide +kernel
theorem dX9_force_43 : decode cX9_force 43 = .ok (.iconst 1, 1) := by decide +kernel
theorem dX9_force_44 : decode cX9_force 44 = .ok (.iadd, 1) := by decide +kernel
theorem dX9_force_45 : decode cX9_force 45 = .ok (.goto 5, 3) := by decide +kernel
theorem dX9_force_48 : decode cX9_force 48 = .ok (.ldc 180, 2) := by decide +kernel
theorem dX9_force_50 : decode cX9_force 50 = .ok (.ireturn, 1) := by decide +kernel
theorem dX9_behind_0 : decode cX9_behind 0 = .ok (.iload_n 1, 1) := by decide +kernel
theorem dX9_behind_1 : decode cX9_behind 1 = .ok (.iconst 0, 1) := by decide +kernel
theorem dX9_behind_2 : decode cX9_behind 2 = .ok (.bipush 100, 2) := by decide +kernel
theorem dX9_behind_4 : decode cX9_behind 4 = .ok (.invokestatic 81, 3) := by decide +kernel
theorem dX9_behind_7 : decode cX9_behind 7 = .ok (.ifCond .eq 19, 3) := by decide +kernel
theorem dX9_behind_10 : decode cX9_behind 10 = .ok (.iload_n 2, 1) := by decide +kernel
theorem dX9_behind_11 : decode cX9_behind 11 = .ok (.iconst 0, 1) := by decide +kernel
theorem dX9_behind_12 : decode cX9_behind 12 = .ok (.iconst 2, 1) := by decide +kernel
theorem dX9_behind_13 : decode cX9_behind 13 = .ok (.aload_n 0, 1) := by decide +kernel
theorem dX9_behind_14 : decode cX9_behind 14 = .ok (.getfield 9, 3) := by decide +kernel
theorem dX9_behind_17 : decode cX9_behind 17 = .ok (.iconst 1, 1) := by decide +kernel
theorem dX9_behind_18 : decode cX9_behind 18 = .ok (.iaload, 1) := by decide +kernel
theorem dX9_behind_19 : decode cX9_behind 19 = .ok (.iadd, 1) := by decide +kernel
theorem dX9_behind_20 : decode cX9_behind 20 = .ok (.invokestatic 81, 3) := by decide +kernel
theorem dX9_behind_23 : decode cX9_behind 23 = .ok (.ifCond .ne 6, 3) := by decide +kernel
theorem dX9_behind_26 : decode cX9_behind 26 = .ok (.ldc 121, 2) := by decide +kernel
theorem dX9_behind_28 : decode cX9_behind 28 = .ok (.ireturn, 1) := by decide +kernel
theorem dX9_behind_29 : decode cX9_behind 29 = .ok (.aload_n 0, 1) := by decide +kernel
theorem dX9_behind_30 : decode cX9_behind 30 = .ok (.invokevirtual 195, 3) := by decide +kernel
theorem dX9_behind_33 : decode cX9_behind 33 = .ok (.aload_n 0, 1) := by decide +kernel
theorem dX9_behind_34 : decode cX9_behind 34 = .ok (.iload_n 1, 1) := by decide +kernel
theorem dX9_behind_35 : decode cX9_behind 35 = .ok (.invokevirtual 173, 3) := by decide +kernel
theorem dX9_behind_38 : decode cX9_behind 38 = .ok (.iload_n 2, 1) := by decide +kernel
theorem dX9_behind_39 : decode cX9_behind 39 = .ok (.iconst 2, 1) := by decide +kernel
theorem dX9_behind_40 : decode cX9_behind 40 = .ok (.if_icmp .ge 14, 3) := by decide +kernel
theorem dX9_behind_43 : decode cX9_behind 43 = .ok (.aload_n 0, 1) := by decide +kernel
theorem dX9_behind_44 : decode cX9_behind 44 = .ok (.getfield 9, 3) := by decide +kernel
theorem dX9_behind_47 : decode cX9_behind 47 = .ok (.iconst 3, 1) := by decide +kernel
theorem dX9_behind_48 : decode cX9_behind 48 = .ok (.iload_n 2, 1) := by decide +kernel
theorem dX9_behind_49 : decode cX9_behind 49 = .ok (.iadd, 1) := by decide +kernel
theorem dX9_behind_50 : decode cX9_behind 50 = .ok (.iaload, 1) := by decide +kernel
theorem dX9_behind_51 : decode cX9_behind 51 = .ok (.goto 26, 3) := by decide +kernel
theorem dX9_behind_54 : decode cX9_behind 54 = .ok (.iload_n 2, 1) := by decide +kernel
theorem dX9_behind_55 : decode cX9_behind 55 = .ok (.iconst 2, 1) := by decide +kernel
theorem dX9_behind_56 : decode cX9_behind 56 = .ok (.if_icmp .ne 13, 3) := by decide +kernel
theorem dX9_behind_59 : decode cX9_behind 59 = .ok (.aload_n 0, 1) := by decide +kernel
theorem dX9_behind_60 : decode cX9_behind 60 = .ok (.invokevirtual 97, 3) := by decide +kernel
theorem dX9_behind_63 : decode cX9_behind 63 = .ok (.invokestatic 101, 3) := by decide +kernel
theorem dX9_behind_66 : decode cX9_behind 66 = .ok (.goto 11, 3) := by decide +kernel
theorem dX9_behind_69 : decode cX9_behind 69 = .ok (.aload_n 0, 1) := by decide +kernel
theorem dX9_behind_70 : decode cX9_behind 70 = .ok (.iload_n 2, 1) := by decide +kernel
theorem dX9_behind_71 : decode cX9_behind 71 = .ok (.iconst 3, 1) := by decide +kernel
theorem dX9_behind_72 : decode cX9_behind 72 = .ok (.isub, 1) := by decide +kernel
theorem dX9_behind_73 : decode cX9_behind 73 = .ok (.iconst 4, 1) := by decide +kernel
theorem dX9_behind_74 : decode cX9_behind 74 = .ok (.invokevirtual 89, 3) := by decide +kernel
theorem dX9_behind_77 : decode cX9_behind 77 = .ok (.istore_n 3, 1) := by decide +kernel
theorem dX9_behind_78 : decode cX9_behind 78 = .ok (.aload_n 0, 1) := by decide +kernel
theorem dX9_behind_79 : decode cX9_behind 79 = .ok (.invokevirtual 201, 3) := by decide +kernel
theorem dX9_behind_82 : decode cX9_behind 82 = .ok (.iload_n 3, 1) := by decide +kernel
theorem dX9_behind_83 : decode cX9_behind 83 = .ok (.ireturn, 1) := by decide +kernel
theorem dX9_falls_0 : decode cX9_falls 0 = .ok (.aload_n 0, 1) := by decide +kernel
theorem dX9_falls_1 : decode cX9_falls 1 = .ok (.iload_n 1, 1) := by decide +kernel
theorem dX9_falls_2 : decode cX9_falls 2 = .ok (.invokevirtual 85, 3) := by decide +kernel
theorem dX9_falls_5 : decode cX9_falls 5 = .ok (.ifCond .ne 6, 3) := by decide +kernel
theorem dX9_falls_8 : decode cX9_falls 8 = .ok (.ldc 121, 2) := by decide +kernel
theorem dX9_falls_10 : decode cX9_falls 10 = .ok (.ireturn, 1) := by decide +kernel
theorem dX9_falls_11 : decode cX9_falls 11 = .ok (.aload_n 0, 1) := by decide +kernel
theorem dX9_falls_12 : decode cX9_falls 12 = .ok (.invokevirtual 195, 3) := by decide +kernel
theorem dX9_falls_15 : decode cX9_falls 15 = .ok (.aload_n 0, 1) := by decide +kernel
theorem dX9_falls_16 : decode cX9_falls 16 = .ok (.iload_n 1, 1) := by decide +kernel
theorem dX9_falls_17 : decode cX9_falls 17 = .ok (.iconst 4, 1) := by decide +kernel
theorem dX9_falls_18 : decode cX9_falls 18 = .ok (.invokevirtual 89, 3) := by decide +kernel
theorem dX9_falls_21 : decode cX9_falls 21 = .ok (.istore_n 2, 1) := by decide +kernel
theorem dX9_falls_22 : decode cX9_falls 22 = .ok (.iconst 0, 1) := by decide +kernel
theorem dX9_falls_23 : decode cX9_falls 23 = .ok (.istore_n 3, 1) := by decide +kernel
theorem dX9_falls_24 : decode cX9_falls 24 = .ok (.iload_n 3, 1) := by decide +kernel
theorem dX9_falls_25 : decode cX9_falls 25 = .ok (.sipush 200, 3) := by decide +kernel
theorem dX9_falls_28 : decode cX9_falls 28 = .ok (.if_icmp .gt 23, 3) := by decide +kernel
theorem dX9_falls_31 : decode cX9_falls 31 = .ok (.aload_n 0, 1) := by decide +kernel
theorem dX9_falls_32 : decode cX9_falls 32 = .ok (.iload_n 1, 1) := by decide +kernel
theorem dX9_falls_33 : decode cX9_falls 33 = .ok (.iconst 4, 1) := by decide +kernel
theorem dX9_falls_34 : decode cX9_falls 34 = .ok (.invokevirtual 89, 3) := by decide +kernel
theorem dX9_falls_37 : decode cX9_falls 37 = .ok (.iload_n 2, 1) := by decide +kernel
theorem dX9_falls_38 : decode cX9_falls 38 = .ok (.if_icmp .ne 13, 3) := by decide +kernel
theorem dX9_falls_41 : decode cX9_falls 41 = .ok (.aload_n 0, 1) := by decide +kernel
theorem dX9_falls_42 : decode cX9_falls 42 = .ok (.invokevirtual 170, 3) := by decide +kernel
theorem dX9_falls_45 : decode cX9_falls 45 = .ok (.iinc 3 1, 3) := by decide +kernel
theorem dX9_falls_48 : decode cX9_falls 48 = .ok (.goto (-24), 3) := by decide +kernel
theorem dX9_falls_51 : decode cX9_falls 51 = .ok (.aload_n 0, 1) := by decide +kernel
theorem dX9_falls_52 : decode cX9_falls 52 = .ok (.invokevirtual 201, 3) := by decide +kernel
theorem dX9_falls_55 : decode cX9_falls 55 = .ok (.iload_n 3, 1) := by decide +kernel
theorem dX9_falls_56 : decode cX9_falls 56 = .ok (.sipush 200, 3) := by decide +kernel
theorem dX9_falls_59 : decode cX9_falls 59 = .ok (.if_icmp .le 8, 3) := by decide +kernel
theorem dX9_falls_62 : decode cX9_falls 62 = .ok (.ldc 180, 2) := by decide +kernel
theorem dX9_falls_64 : decode cX9_falls 64 = .ok (.goto 4, 3) := by decide +kernel
theorem dX9_falls_67 : decode cX9_falls 67 = .ok (.iload_n 3, 1) := by decide +kernel
theorem dX9_falls_68 : decode cX9_falls 68 = .ok (.ireturn, 1) := by decide +kernel
theorem dX9_becomes_0 : decode cX9_becomes 0 = .ok (.aload_n 0, 1) := by decide +kernel
theorem dX9_becomes_1 : decode cX9_becomes 1 = .ok (.iload_n 1, 1) := by decide +kernel
theorem dX9_becomes_2 : decode cX9_becomes 2 = .ok (.invokevirtual 85, 3) := by decide +kernel
theorem dX9_becomes_5 : decode cX9_becomes 5 = .ok (.ifCond .eq 22, 3) := by decide +kernel
theorem dX9_becomes_8 : decode cX9_becomes 8 = .ok (.iload_n 2, 1) := by decide +kernel
theorem dX9_becomes_9 : decode cX9_becomes 9 = .ok (.iconst 1, 1) := by decide +kernel
theorem dX9_becomes_10 : decode cX9_becomes 10 = .ok (.bipush 60, 2) := by decide +kernel
theorem dX9_becomes_12 : decode cX9_becomes 12 = .ok (.invokestatic 81, 3) := by decide +kernel
theorem dX9_becomes_15 : decode cX9_becomes 15 = .ok (.ifCond .eq 12, 3) := by decide +kernel
theorem dX9_becomes_18 : decode cX9_becomes 18 = .ok (.iload_n 3, 1) := by decide +kernel
theorem dX9_becomes_19 : decode cX9_becomes 19 = .ok (.iconst 0, 1) := by decide +kernel
theorem dX9_becomes_20 : decode cX9_becomes 20 = .ok (.iconst 1, 1) := by decide +kernel
theorem dX9_becomes_21 : decode cX9_becomes 21 = .ok (.invokestatic 81, 3) := by decide +kernel
theorem dX9_becomes_24 : decode cX9_becomes 24 = .ok (.ifCond .ne 6, 3) := by decide +kernel
theorem dX9_becomes_27 : decode cX9_becomes 27 = .ok (.ldc 121, 2) := by decide +kernel
theorem dX9_becomes_29 : decode cX9_becomes 29 = .ok (.ireturn, 1) := by decide +kernel
theorem dX9_becomes_30 : decode cX9_becomes 30 = .ok (.aload_n 0, 1) := by decide +kernel
theorem dX9_becomes_31 : decode cX9_becomes 31 = .ok (.invokevirtual 195, 3) := by decide +kernel
theorem dX9_becomes_34 : decode cX9_becomes 34 = .ok (.iconst (-1), 1) := by decide +kernel
theorem dX9_becomes_35 : decode cX9_becomes 35 = .ok (.istore 4, 2) := by decide +kernel
theorem dX9_becomes_37 : decode cX9_becomes 37 = .ok (.iconst 0, 1) := by decide +kernel
theorem dX9_becomes_38 : decode cX9_becomes 38 = .ok (.istore 5, 2) := by decide +kernel
theorem dX9_becomes_40 : decode cX9_becomes 40 = .ok (.iconst 0, 1) := by decide +kernel
theorem dX9_becomes_41 : decode cX9_becomes 41 = .ok (.istore 6, 2) := by decide +kernel
theorem dX9_becomes_43 : decode cX9_becomes 43 = .ok (.iload 6, 2) := by decide +kernel
theorem dX9_becomes_45 : decode cX9_becomes 45 = .ok (.iconst 5, 1) := by decide +kernel
theorem dX9_becomes_46 : decode cX9_becomes 46 = .ok (.if_icmp .gt 81, 3) := by decide +kernel
theorem dX9_becomes_49 : decode cX9_becomes 49 = .ok (.aload_n 0, 1) := by decide +kernel
theorem dX9_becomes_50 : decode cX9_becomes 50 = .ok (.iload_n 1, 1) := by decide +kernel
theorem dX9_becomes_51 : decode cX9_becomes 51 = .ok (.iconst 0, 1) := by decide +kernel
theorem dX9_becomes_52 : decode cX9_becomes 52 = .ok (.iload 6, 2) := by decide +kernel
theorem dX9_becomes_54 : decode cX9_becomes 54 = .ok (.invokevirtual 114, 3) := by decide +kernel
theorem dX9_becomes_57 : decode cX9_becomes 57 = .ok (.aload_n 0, 1) := by decide +kernel
theorem dX9_becomes_58 : decode cX9_becomes 58 = .ok (.iload_n 2, 1) := by decide +kernel
theorem dX9_becomes_59 : decode cX9_becomes 59 = .ok (.invokevirtual 173, 3) := by decide +kernel
theorem dX9_becomes_62 : decode cX9_becomes 62 = .ok (.iload 4, 2) := by decide +kernel
theorem dX9_becomes_64 : decode cX9_becomes 64 = .ok (.ifCond .lt 14, 3) := by decide +kernel
theorem dX9_becomes_67 : decode cX9_becomes 67 = .ok (.aload_n 0, 1) := by decide +kernel
theorem dX9_becomes_68 : decode cX9_becomes 68 = .ok (.iload_n 1, 1) := by decide +kernel
theorem dX9_becomes_69 : decode cX9_becomes 69 = .ok (.iconst 4, 1) := by decide +kernel
theorem dX9_becomes_70 : decode cX9_becomes 70 = .ok (.invokevirtual 89, 3) := by decide +kernel
theorem dX9_becomes_73 : decode cX9_becomes 73 = .ok (.iload 5, 2) := by decide +kernel
theorem dX9_becomes_75 : decode cX9_becomes 75 = .ok (.if_icmp .ge 7, 3) := by decide +kernel
theorem dX9_becomes_78 : decode cX9_becomes 78 = .ok (.iconst 1, 1) := by decide +kernel
theorem dX9_becomes_79 : decode cX9_becomes 79 = .ok (.goto 4, 3) := by decide +kernel
theorem dX9_becomes_82 : decode cX9_becomes 82 = .ok (.iconst 0, 1) := by decide +kernel
theorem dX9_becomes_83 : decode cX9_becomes 83 = .ok (.istore 7, 2) := by decide +kernel
theorem dX9_becomes_85 : decode cX9_becomes 85 = .ok (.iload 7, 2) := by decide +kernel
theorem dX9_becomes_87 : decode cX9_becomes 87 = .ok (.ifCond .eq 8, 3) := by decide +kernel
theorem dX9_becomes_90 : decode cX9_becomes 90 = .ok (.iload 6, 2) := by decide +kernel
theorem dX9_becomes_92 : decode cX9_becomes 92 = .ok (.goto 5, 3) := by decide +kernel
theorem dX9_becomes_95 : decode cX9_becomes 95 = .ok (.iload 4, 2) := by decide +kernel
theorem dX9_becomes_97 : decode cX9_becomes 97 = .ok (.istore 4, 2) := by decide +kernel
theorem dX9_becomes_99 : decode cX9_becomes 99 = .ok (.iload 7, 2) := by decide +kernel
theorem dX9_becomes_101 : decode cX9_becomes 101 = .ok (.ifCond .eq 12, 3) := by decide +kernel
theorem dX9_becomes_104 : decode cX9_becomes 104 = .ok (.aload_n 0, 1) := by decide +kernel
theorem dX9_becomes_105 : decode cX9_becomes 105 = .ok (.iload_n 1, 1) := by decide +kernel
theorem dX9_becomes_106 : decode cX9_becomes 106 = .ok (.iconst 4, 1) := by decide +kernel
theorem dX9_becomes_107 : decode cX9_becomes 107 = .ok (.invokevirtual 89, 3) := by decide +kernel
theorem dX9_becomes_110 : decode cX9_becomes 110 = .ok (.goto 5, 3) := by decide +kernel
theorem dX9_becomes_113 : decode cX9_becomes 113 = .ok (.iload 5, 2) := by decide +kernel
theorem dX9_becomes_115 : decode cX9_becomes 115 = .ok (.istore 5, 2) := by decide +kernel
theorem dX9_becomes_117 : decode cX9_becomes 117 = .ok (.aload_n 0, 1) := by decide +kernel
theorem dX9_becomes_118 : decode cX9_becomes 118 = .ok (.invokevirtual 201, 3) := by decide +kernel
theorem dX9_becomes_121 : decode cX9_becomes 121 = .ok (.iinc 6 1, 3) := by decide +kernel
theorem dX9_becomes_124 : decode cX9_becomes 124 = .ok (.goto (-81), 3) := by decide +kernel
theorem dX9_becomes_127 : decode cX9_becomes 127 = .ok (.iload_n 3, 1) := by decide +kernel
theorem dX9_becomes_128 : decode cX9_becomes 128 = .ok (.ifCond .ne 8, 3) := by decide +kernel
theorem dX9_becomes_131 : decode cX9_becomes 131 = .ok (.iload 4, 2) := by decide +kernel
theorem dX9_becomes_133 : decode cX9_becomes 133 = .ok (.goto 5, 3) := by decide +kernel
theorem dX9_becomes_136 : decode cX9_becomes 136 = .ok (.iload 5, 2) := by decide +kernel
theorem dX9_becomes_138 : decode cX9_becomes 138 = .ok (.ireturn, 1) := by decide +kernel
theorem dX9_like_0 : decode cX9_like 0 = .ok (.iload_n 1, 1) := by decide +kernel
theorem dX9_like_1 : decode cX9_like 1 = .ok (.invokestatic 211, 3) := by decide +kernel
theorem dX9_like_4 : decode cX9_like 4 = .ok (.ifCond .eq 12, 3) := by decide +kernel
theorem dX9_like_7 : decode cX9_like 7 = .ok (.iload_n 2, 1) := by decide +kernel
theorem dX9_like_8 : decode cX9_like 8 = .ok (.iconst 0, 1) := by decide +kernel
theorem dX9_like_9 : decode cX9_like 9 = .ok (.iconst 1, 1) := by decide +kernel
theorem dX9_like_10 : decode cX9_like 10 = .ok (.invokestatic 81, 3) := by decide +kernel
theorem dX9_like_13 : decode cX9_like 13 = .ok (.ifCond .ne 6, 3) := by decide +kernel
theorem dX9_like_16 : decode cX9_like 16 = .ok (.ldc 121, 2) := by decide +kernel
theorem dX9_like_18 : decode cX9_like 18 = .ok (.ireturn, 1) := by decide +kernel
theorem dX9_like_19 : decode cX9_like 19 = .ok (.aload_n 0, 1) := by decide +kernel
theorem dX9_like_20 : decode cX9_like 20 = .ok (.getfield 54, 3) := by decide +kernel
theorem dX9_like_23 : decode cX9_like 23 = .ok (.iload_n 1, 1) := by decide +kernel
theorem dX9_like_24 : decode cX9_like 24 = .ok (.iaload, 1) := by decide +kernel
theorem dX9_like_25 : decode cX9_like 25 = .ok (.ifCond .ge 6, 3) := by decide +kernel
theorem dX9_like_28 : decode cX9_like 28 = .ok (.ldc 214, 2) := by decide +kernel
theorem dX9_like_30 : decode cX9_like 30 = .ok (.ireturn, 1) := by decide +kernel
theorem dX9_like_31 : decode cX9_like 31 = .ok (.aload_n 0, 1) := by decide +kernel
theorem dX9_like_32 : decode cX9_like 32 = .ok (.invokevirtual 195, 3) := by decide +kernel
theorem dX9_like_35 : decode cX9_like 35 = .ok (.aload_n 0, 1) := by decide +kernel
theorem dX9_like_36 : decode cX9_like 36 = .ok (.getfield 9, 3) := by decide +kernel
theorem dX9_like_39 : decode cX9_like 39 = .ok (.iconst 1, 1) := by decide +kernel
theorem dX9_like_40 : decode cX9_like 40 = .ok (.iaload, 1) := by decide +kernel
theorem dX9_like_41 : decode cX9_like 41 = .ok (.istore_n 3, 1) := by decide +kernel
theorem dX9_like_42 : decode cX9_like 42 = .ok (.iconst 0, 1) := by decide +kernel
theorem dX9_like_43 : decode cX9_like 43 = .ok (.istore 4, 2) := by decide +kernel
theorem dX9_like_45 : decode cX9_like 45 = .ok (.iload 4, 2) := by decide +kernel
theorem dX9_like_47 : decode cX9_like 47 = .ok (.iload_n 3, 1) := by decide +kernel
theorem dX9_like_48 : decode cX9_like 48 = .ok (.if_icmp .ge 17, 3) := by decide +kernel
theorem dX9_like_51 : decode cX9_like 51 = .ok (.aload_n 0, 1) := by decide +kernel
theorem dX9_like_52 : decode cX9_like 52 = .ok (.getfield 25, 3) := by decide +kernel
theorem dX9_like_55 : decode cX9_like 55 = .ok (.iload 4, 2) := by decide +kernel
theorem dX9_like_57 : decode cX9_like 57 = .ok (.iconst 0, 1) := by decide +kernel
theorem dX9_like_58 : decode cX9_like 58 = .ok (.iastore, 1) := by decide +kernel
theorem dX9_like_59 : decode cX9_like 59 = .ok (.iinc 4 1, 3) := by decide +kernel
theorem dX9_like_62 : decode cX9_like 62 = .ok (.goto (-17), 3) := by decide +kernel
theorem dX9_like_65 : decode cX9_like 65 = .ok (.iconst 0, 1) := by decide +kernel
theorem dX9_like_66 : decode cX9_like 66 = .ok (.istore 4, 2) := by decide +kernel
theorem dX9_like_68 : decode cX9_like 68 = .ok (.iload 4, 2) := by decide +kernel
theorem dX9_like_70 : decode cX9_like 70 = .ok (.aload_n 0, 1) := by decide +kernel
theorem dX9_like_71 : decode cX9_like 71 = .ok (.getfield 57, 3) := by decide +kernel
theorem dX9_like_74 : decode cX9_like 74 = .ok (.iload_n 1, 1) := by decide +kernel
theorem dX9_like_75 : decode cX9_like 75 = .ok (.iaload, 1) := by decide +kernel
theorem dX9_like_76 : decode cX9_like 76 = .ok (.if_icmp .ge 72, 3) := by decide +kernel
theorem dX9_like_79 : decode cX9_like 79 = .ok (.aload_n 0, 1) := by decide +kernel
theorem dX9_like_80 : decode cX9_like 80 = .ok (.getfield 60, 3) := by decide +kernel
theorem dX9_like_83 : decode cX9_like 83 = .ok (.bipush 24, 2) := by decide +kernel
theorem dX9_like_85 : decode cX9_like 85 = .ok (.iload_n 1, 1) := by decide +kernel
theorem dX9_like_86 : decode cX9_like 86 = .ok (.imul, 1) := by decide +kernel
theorem dX9_like_87 : decode cX9_like 87 = .ok (.iload 4, 2) := by decide +kernel
theorem dX9_like_89 : decode cX9_like 89 = .ok (.iadd, 1) := by decide +kernel
theorem dX9_like_90 : decode cX9_like 90 = .ok (.iaload, 1) := by decide +kernel
theorem dX9_like_91 : decode cX9_like 91 = .ok (.istore 5, 2) := by decide +kernel
theorem dX9_like_93 : decode cX9_like 93 = .ok (.iconst 0, 1) := by decide +kernel
theorem dX9_like_94 : decode cX9_like 94 = .ok (.istore 6, 2) := by decide +kernel
theorem dX9_like_96 : decode cX9_like 96 = .ok (.iload 6, 2) := by decide +kernel
theorem dX9_like_98 : decode cX9_like 98 = .ok (.iload_n 3, 1) := by decide +kernel
theorem dX9_like_99 : decode cX9_like 99 = .ok (.if_icmp .ge 39, 3) := by decide +kernel
theorem dX9_like_102 : decode cX9_like 102 = .ok (.iload 5, 2) := by decide +kernel
theorem dX9_like_104 : decode cX9_like 104 = .ok (.ldc 180, 2) := by decide +kernel
theorem dX9_like_106 : decode cX9_like 106 = .ok (.if_icmp .eq 32, 3) := by decide +kernel
theorem dX9_like_109 : decode cX9_like 109 = .ok (.aload_n 0, 1) := by decide +kernel
theorem dX9_like_110 : decode cX9_like 110 = .ok (.getfield 25, 3) := by decide +kernel
theorem dX9_like_113 : decode cX9_like 113 = .ok (.iload 6, 2) := by decide +kernel
theorem dX9_like_115 : decode cX9_like 115 = .ok (.dup2, 1) := by decide +kernel
theorem dX9_like_116 : decode cX9_like 116 = .ok (.iaload, 1) := by decide +kernel
theorem dX9_like_117 : decode cX9_like 117 = .ok (.iload 5, 2) := by decide +kernel
theorem dX9_like_119 : decode cX9_like 119 = .ok (.aload_n 0, 1) := by decide +kernel
theorem dX9_like_120 : decode cX9_like 120 = .ok (.iload 6, 2) := by decide +kernel
theorem dX9_like_122 : decode cX9_like 122 = .ok (.iconst 1, 1) := by decide +kernel
theorem dX9_like_123 : decode cX9_like 123 = .ok (.invokevirtual 89, 3) := by decide +kernel
theorem dX9_like_126 : decode cX9_like 126 = .ok (.isub, 1) := by decide +kernel
theorem dX9_like_127 : decode cX9_like 127 = .ok (.invokestatic 215, 3) := by decide +kernel
theorem dX9_like_130 : decode cX9_like 130 = .ok (.iadd, 1) := by decide +kernel
theorem dX9_like_131 : decode cX9_like 131 = .ok (.iastore, 1) := by decide +kernel
theorem dX9_like_132 : decode cX9_like 132 = .ok (.iinc 6 1, 3) := by decide +kernel
theorem dX9_like_135 : decode cX9_like 135 = .ok (.goto (-39), 3) := by decide +kernel
theorem dX9_like_138 : decode cX9_like 138 = .ok (.aload_n 0, 1) := by decide +kernel
theorem dX9_like_139 : decode cX9_like 139 = .ok (.invokevirtual 170, 3) := by decide +kernel
theorem dX9_like_142 : decode cX9_like 142 = .ok (.iinc 4 1, 3) := by decide +kernel
theorem dX9_like_145 : decode cX9_like 145 = .ok (.goto (-77), 3) := by decide +kernel
theorem dX9_like_148 : decode cX9_like 148 = .ok (.aload_n 0, 1) := by decide +kernel
theorem dX9_like_149 : decode cX9_like 149 = .ok (.invokevirtual 201, 3) := by decide +kernel
theorem dX9_like_152 : decode cX9_like 152 = .ok (.iconst 0, 1) := by decide +kernel
theorem dX9_like_153 : decode cX9_like 153 = .ok (.istore 4, 2) := by decide +kernel
theorem dX9_like_155 : decode cX9_like 155 = .ok (.iconst 1, 1) := by decide +kernel
theorem dX9_like_156 : decode cX9_like 156 = .ok (.istore 5, 2) := by decide +kernel
theorem dX9_like_158 : decode cX9_like 158 = .ok (.iload 5, 2) := by decide +kernel
theorem dX9_like_160 : decode cX9_like 160 = .ok (.iload_n 3, 1) := by decide +kernel
theorem dX9_like_161 : decode cX9_like 161 = .ok (.if_icmp .ge 35, 3) := by decide +kernel
theorem dX9_like_164 : decode cX9_like 164 = .ok (.aload_n 0, 1) := by decide +kernel
theorem dX9_like_165 : decode cX9_like 165 = .ok (.getfield 25, 3) := by decide +kernel
theorem dX9_like_168 : decode cX9_like 168 = .ok (.iload 5, 2) := by decide +kernel
theorem dX9_like_170 : decode cX9_like 170 = .ok (.iaload, 1) := by decide +kernel
theorem dX9_like_171 : decode cX9_like 171 = .ok (.aload_n 0, 1) := by decide +kernel
theorem dX9_like_172 : decode cX9_like 172 = .ok (.getfield 25, 3) := by decide +kernel
theorem dX9_like_175 : decode cX9_like 175 = .ok (.iload 4, 2) := by decide +kernel
theorem dX9_like_177 : decode cX9_like 177 = .ok (.iaload, 1) := by decide +kernel
theorem dX9_like_178 : decode cX9_like 178 = .ok (.if_icmp .ge 8, 3) := by decide +kernel
theorem dX9_like_181 : decode cX9_like 181 = .ok (.iload 5, 2) := by decide +kernel
theorem dX9_like_183 : decode cX9_like 183 = .ok (.goto 5, 3) := by decide +kernel
theorem dX9_like_186 : decode cX9_like 186 = .ok (.iload 4, 2) := by decide +kernel
theorem dX9_like_188 : decode cX9_like 188 = .ok (.istore 4, 2) := by decide +kernel
theorem dX9_like_190 : decode cX9_like 190 = .ok (.iinc 5 1, 3) := by decide +kernel
theorem dX9_like_193 : decode cX9_like 193 = .ok (.goto (-35), 3) := by decide +kernel
theorem dX9_like_196 : decode cX9_like 196 = .ok (.iload_n 3, 1) := by decide +kernel
theorem dX9_like_197 : decode cX9_like 197 = .ok (.ifCond .ne 8, 3) := by decide +kernel
theorem dX9_like_200 : decode cX9_like 200 = .ok (.ldc 180, 2) := by decide +kernel
theorem dX9_like_202 : decode cX9_like 202 = .ok (.goto 19, 3) := by decide +kernel
theorem dX9_like_205 : decode cX9_like 205 = .ok (.iload_n 2, 1) := by decide +kernel
theorem dX9_like_206 : decode cX9_like 206 = .ok (.ifCond .ne 8, 3) := by decide +kernel
theorem dX9_like_209 : decode cX9_like 209 = .ok (.iload 4, 2) := by decide +kernel
theorem dX9_like_211 : decode cX9_like 211 = .ok (.goto 10, 3) := by decide +kernel
theorem dX9_like_214 : decode cX9_like 214 = .ok (.aload_n 0, 1) := by decide +kernel
theorem dX9_like_215 : decode cX9_like 215 = .ok (.getfield 25, 3) := by decide +kernel
theorem dX9_like_218 : decode cX9_like 218 = .ok (.iload 4, 2) := by decide +kernel
theorem dX9_like_220 : decode cX9_like 220 = .ok (.iaload, 1) := by decide +kernel
theorem dX9_like_221 : decode cX9_like 221 = .ok (.ireturn, 1) := by decide +kernel
theorem dX9_fee_0 : decode cX9_fee 0 = .ok (.aload_n 0, 1) := by decide +kernel
theorem dX9_fee_1 : decode cX9_fee 1 = .ok (.iconst 1, 1) := by decide +kernel
theorem dX9_fee_2 : decode cX9_fee 2 = .ok (.invokevirtual 93, 3) := by decide +kernel
theorem dX9_fee_5 : decode cX9_fee 5 = .ok (.istore_n 1, 1) := by decide +kernel
theorem dX9_fee_6 : decode cX9_fee 6 = .ok (.aload_n 0, 1) := by decide +kernel
theorem dX9_fee_7 : decode cX9_fee 7 = .ok (.getfield 51, 3) := by decide +kernel
theorem dX9_fee_10 : decode cX9_fee 10 = .ok (.iconst 0, 1) := by decide +kernel
theorem dX9_fee_11 : decode cX9_fee 11 = .ok (.aload_n 0, 1) := by decide +kernel
theorem dX9_fee_12 : decode cX9_fee 12 = .ok (.getfield 9, 3) := by decide +kernel
theorem dX9_fee_15 : decode cX9_fee 15 = .ok (.iconst 3, 1) := by decide +kernel
theorem dX9_fee_16 : decode cX9_fee 16 = .ok (.iaload, 1) := by decide +kernel
theorem dX9_fee_17 : decode cX9_fee 17 = .ok (.iastore, 1) := by decide +kernel
theorem dX9_fee_18 : decode cX9_fee 18 = .ok (.aload_n 0, 1) := by decide +kernel
theorem dX9_fee_19 : decode cX9_fee 19 = .ok (.getfield 51, 3) := by decide +kernel
theorem dX9_fee_22 : decode cX9_fee 22 = .ok (.iconst 1, 1) := by decide +kernel
theorem dX9_fee_23 : decode cX9_fee 23 = .ok (.aload_n 0, 1) := by decide +kernel
theorem dX9_fee_24 : decode cX9_fee 24 = .ok (.getfield 9, 3) := by decide +kernel
theorem dX9_fee_27 : decode cX9_fee 27 = .ok (.iconst 4, 1) := by decide +kernel
theorem dX9_fee_28 : decode cX9_fee 28 = .ok (.iaload, 1) := by decide +kernel
theorem dX9_fee_29 : decode cX9_fee 29 = .ok (.iastore, 1) := by decide +kernel
theorem dX9_fee_30 : decode cX9_fee 30 = .ok (.iload_n 1, 1) := by decide +kernel
theorem dX9_fee_31 : decode cX9_fee 31 = .ok (.ifCond .ge 12, 3) := by decide +kernel
theorem dX9_fee_34 : decode cX9_fee 34 = .ok (.aload_n 0, 1) := by decide +kernel
theorem dX9_fee_35 : decode cX9_fee 35 = .ok (.getfield 9, 3) := by decide +kernel
theorem dX9_fee_38 : decode cX9_fee 38 = .ok (.iconst 3, 1) := by decide +kernel
theorem dX9_fee_39 : decode cX9_fee 39 = .ok (.iaload, 1) := by decide +kernel
theorem dX9_fee_40 : decode cX9_fee 40 = .ok (.goto 8, 3) := by decide +kernel
theorem dX9_fee_43 : decode cX9_fee 43 = .ok (.aload_n 0, 1) := by decide +kernel
theorem dX9_fee_44 : decode cX9_fee 44 = .ok (.iload_n 1, 1) := by decide +kernel
theorem dX9_fee_45 : decode cX9_fee 45 = .ok (.invokevirtual 104, 3) := by decide +kernel
theorem dX9_fee_48 : decode cX9_fee 48 = .ok (.ireturn, 1) := by decide +kernel
theorem dX9_fine_0 : decode cX9_fine 0 = .ok (.aload_n 0, 1) := by decide +kernel
theorem dX9_fine_1 : decode cX9_fine 1 = .ok (.iload_n 1, 1) := by decide +kernel
theorem dX9_fine_2 : decode cX9_fine 2 = .ok (.invokevirtual 85, 3) := by decide +kernel
theorem dX9_fine_5 : decode cX9_fine 5 = .ok (.ifCond .ne 6, 3) := by decide +kernel
theorem dX9_fine_8 : decode cX9_fine 8 = .ok (.ldc 121, 2) := by decide +kernel
theorem dX9_fine_10 : decode cX9_fine 10 = .ok (.ireturn, 1) := by decide +kernel
theorem dX9_fine_11 : decode cX9_fine 11 = .ok (.aload_n 0, 1) := by decide +kernel
theorem dX9_fine_12 : decode cX9_fine 12 = .ok (.iconst 2, 1) := by decide +kernel
theorem dX9_fine_13 : decode cX9_fine 13 = .ok (.invokevirtual 93, 3) := by decide +kernel
theorem dX9_fine_16 : decode cX9_fine 16 = .ok (.istore_n 2, 1) := by decide +kernel
theorem dX9_fine_17 : decode cX9_fine 17 = .ok (.aload_n 0, 1) := by decide +kernel
theorem dX9_fine_18 : decode cX9_fine 18 = .ok (.getfield 51, 3) := by decide +kernel
theorem dX9_fine_21 : decode cX9_fine 21 = .ok (.iconst 0, 1) := by decide +kernel
theorem dX9_fine_22 : decode cX9_fine 22 = .ok (.aload_n 0, 1) := by decide +kernel
theorem dX9_fine_23 : decode cX9_fine 23 = .ok (.iload_n 1, 1) := by decide +kernel
theorem dX9_fine_24 : decode cX9_fine 24 = .ok (.iconst 1, 1) := by decide +kernel
theorem dX9_fine_25 : decode cX9_fine 25 = .ok (.invokevirtual 89, 3) := by decide +kernel
theorem dX9_fine_28 : decode cX9_fine 28 = .ok (.iastore, 1) := by decide +kernel
theorem dX9_fine_29 : decode cX9_fine 29 = .ok (.aload_n 0, 1) := by decide +kernel
theorem dX9_fine_30 : decode cX9_fine 30 = .ok (.getfield 51, 3) := by decide +kernel
theorem dX9_fine_33 : decode cX9_fine 33 = .ok (.iconst 1, 1) := by decide +kernel
theorem dX9_fine_34 : decode cX9_fine 34 = .ok (.aload_n 0, 1) := by decide +kernel
theorem dX9_fine_35 : decode cX9_fine 35 = .ok (.iload_n 1, 1) := by decide +kernel
theorem dX9_fine_36 : decode cX9_fine 36 = .ok (.iconst 2, 1) := by decide +kernel
theorem dX9_fine_37 : decode cX9_fine 37 = .ok (.invokevirtual 89, 3) := by decide +kernel
theorem dX9_fine_40 : decode cX9_fine 40 = .ok (.iastore, 1) := by decide +kernel
theorem dX9_fine_41 : decode cX9_fine 41 = .ok (.iload_n 2, 1) := by decide +kernel
theorem dX9_fine_42 : decode cX9_fine 42 = .ok (.ifCond .ge 12, 3) := by decide +kernel
theorem dX9_fine_45 : decode cX9_fine 45 = .ok (.aload_n 0, 1) := by decide +kernel
theorem dX9_fine_46 : decode cX9_fine 46 = .ok (.iload_n 1, 1) := by decide +kernel
theorem dX9_fine_47 : decode cX9_fine 47 = .ok (.iconst 1, 1) := by decide +kernel
theorem dX9_fine_48 : decode cX9_fine 48 = .ok (.invokevirtual 89, 3) := by decide +kernel
theorem dX9_fine_51 : decode cX9_fine 51 = .ok (.goto 8, 3) := by decide +kernel
theorem dX9_fine_54 : decode cX9_fine 54 = .ok (.aload_n 0, 1) := by decide +kernel
theorem dX9_fine_55 : decode cX9_fine 55 = .ok (.iload_n 2, 1) := by decide +kernel
theorem dX9_fine_56 : decode cX9_fine 56 = .ok (.invokevirtual 104, 3) := by decide +kernel
theorem dX9_fine_59 : decode cX9_fine 59 = .ok (.ireturn, 1) := by decide +kernel
theorem dX9_feed_0 : decode cX9_feed 0 = .ok (.aload_n 0, 1) := by decide +kernel
theorem dX9_feed_1 : decode cX9_feed 1 = .ok (.getfield 218, 3) := by decide +kernel
theorem dX9_feed_4 : decode cX9_feed 4 = .ok (.bipush 12, 2) := by decide +kernel
theorem dX9_feed_6 : decode cX9_feed 6 = .ok (.iadd, 1) := by decide +kernel
theorem dX9_feed_7 : decode cX9_feed 7 = .ok (.bipush 96, 2) := by decide +kernel
theorem dX9_feed_9 : decode cX9_feed 9 = .ok (.if_icmp .le 6, 3) := by decide +kernel
theorem dX9_feed_12 : decode cX9_feed 12 = .ok (.ldc 122, 2) := by decide +kernel
theorem dX9_feed_14 : decode cX9_feed 14 = .ok (.ireturn, 1) := by decide +kernel
theorem dX9_feed_15 : decode cX9_feed 15 = .ok (.iconst 0, 1) := by decide +kernel
theorem dX9_feed_16 : decode cX9_feed 16 = .ok (.istore 4, 2) := by decide +kernel
theorem dX9_feed_18 : decode cX9_feed 18 = .ok (.iload 4, 2) := by decide +kernel
theorem dX9_feed_20 : decode cX9_feed 20 = .ok (.bipush 12, 2) := by decide +kernel
theorem dX9_feed_22 : decode cX9_feed 22 = .ok (.if_icmp .ge 62, 3) := by decide +kernel
theorem dX9_feed_25 : decode cX9_feed 25 = .ok (.iload 4, 2) := by decide +kernel
theorem dX9_feed_27 : decode cX9_feed 27 = .ok (.iconst 4, 1) := by decide +kernel
theorem dX9_feed_28 : decode cX9_feed 28 = .ok (.if_icmp .ge 7, 3) := by decide +kernel
theorem dX9_feed_31 : decode cX9_feed 31 = .ok (.iload_n 1, 1) := by decide +kernel
theorem dX9_feed_32 : decode cX9_feed 32 = .ok (.goto 15, 3) := by decide +kernel
theorem dX9_feed_35 : decode cX9_feed 35 = .ok (.iload 4, 2) := by decide +kernel
theorem dX9_feed_37 : decode cX9_feed 37 = .ok (.bipush 8, 2) := by decide +kernel
theorem dX9_feed_39 : decode cX9_feed 39 = .ok (.if_icmp .ge 7, 3) := by decide +kernel
theorem dX9_feed_42 : decode cX9_feed 42 = .ok (.iload_n 2, 1) := by decide +kernel
theorem dX9_feed_43 : decode cX9_feed 43 = .ok (.goto 4, 3) := by decide +kernel
theorem dX9_feed_46 : decode cX9_feed 46 = .ok (.iload_n 3, 1) := by decide +kernel
theorem dX9_feed_47 : decode cX9_feed 47 = .ok (.istore 5, 2) := by decide +kernel
theorem dX9_feed_49 : decode cX9_feed 49 = .ok (.aload_n 0, 1) := by decide +kernel
theorem dX9_feed_50 : decode cX9_feed 50 = .ok (.getfield 28, 3) := by decide +kernel
theorem dX9_feed_53 : decode cX9_feed 53 = .ok (.aload_n 0, 1) := by decide +kernel
theorem dX9_feed_54 : decode cX9_feed 54 = .ok (.getfield 218, 3) := by decide +kernel
theorem dX9_feed_57 : decode cX9_feed 57 = .ok (.iload 4, 2) := by decide +kernel
theorem dX9_feed_59 : decode cX9_feed 59 = .ok (.iadd, 1) := by decide +kernel
theorem dX9_feed_60 : decode cX9_feed 60 = .ok (.iload 5, 2) := by decide +kernel
theorem dX9_feed_62 : decode cX9_feed 62 = .ok (.bipush 24, 2) := by decide +kernel
theorem dX9_feed_64 : decode cX9_feed 64 = .ok (.bipush 8, 2) := by decide +kernel
theorem dX9_feed_66 : decode cX9_feed 66 = .ok (.iload 4, 2) := by decide +kernel
theorem dX9_feed_68 : decode cX9_feed 68 = .ok (.iconst 4, 1) := by decide +kernel
theorem dX9_feed_69 : decode cX9_feed 69 = .ok (.irem, 1) := by decide +kernel
theorem dX9_feed_70 : decode cX9_feed 70 = .ok (.imul, 1) := by decide +kernel
theorem dX9_feed_71 : decode cX9_feed 71 = .ok (.isub, 1) := by decide +kernel
theorem dX9_feed_72 : decode cX9_feed 72 = .ok (.ishr, 1) := by decide +kernel
theorem dX9_feed_73 : decode cX9_feed 73 = .ok (.sipush 255, 3) := by decide +kernel
theorem dX9_feed_76 : decode cX9_feed 76 = .ok (.iand, 1) := by decide +kernel
theorem dX9_feed_77 : decode cX9_feed 77 = .ok (.iastore, 1) := by decide +kernel
theorem dX9_feed_78 : decode cX9_feed 78 = .ok (.iinc 4 1, 3) := by decide +kernel
theorem dX9_feed_81 : decode cX9_feed 81 = .ok (.goto (-63), 3) := by decide +kernel
theorem dX9_feed_84 : decode cX9_feed 84 = .ok (.aload_n 0, 1) := by decide +kernel
theorem dX9_feed_85 : decode cX9_feed 85 = .ok (.dup, 1) := by decide +kernel
theorem dX9_feed_86 : decode cX9_feed 86 = .ok (.getfield 218, 3) := by decide +kernel
theorem dX9_feed_89 : decode cX9_feed 89 = .ok (.bipush 12, 2) := by decide +kernel
theorem dX9_feed_91 : decode cX9_feed 91 = .ok (.iadd, 1) := by decide +kernel
theorem dX9_feed_92 : decode cX9_feed 92 = .ok (.putfield 218, 3) := by decide +kernel
theorem dX9_feed_95 : decode cX9_feed 95 = .ok (.aload_n 0, 1) := by decide +kernel
theorem dX9_feed_96 : decode cX9_feed 96 = .ok (.getfield 218, 3) := by decide +kernel
theorem dX9_feed_99 : decode cX9_feed 99 = .ok (.ireturn, 1) := by decide +kernel
theorem dX9_trim_0 : decode cX9_trim 0 = .ok (.iload_n 1, 1) := by decide +kernel
theorem dX9_trim_1 : decode cX9_trim 1 = .ok (.iconst 0, 1) := by decide +kernel
theorem dX9_trim_2 : decode cX9_trim 2 = .ok (.aload_n 0, 1) := by decide +kernel
theorem dX9_trim_3 : decode cX9_trim 3 = .ok (.getfield 218, 3) := by decide +kernel
theorem dX9_trim_6 : decode cX9_trim 6 = .ok (.invokestatic 81, 3) := by decide +kernel
theorem dX9_trim_9 : decode cX9_trim 9 = .ok (.ifCond .ne 6, 3) := by decide +kernel
theorem dX9_trim_12 : decode cX9_trim 12 = .ok (.ldc 121, 2) := by decide +kernel
theorem dX9_trim_14 : decode cX9_trim 14 = .ok (.ireturn, 1) := by decide +kernel
theorem dX9_trim_15 : decode cX9_trim 15 = .ok (.aload_n 0, 1) := by decide +kernel
theorem dX9_trim_16 : decode cX9_trim 16 = .ok (.iload_n 1, 1) := by decide +kernel
theorem dX9_trim_17 : decode cX9_trim 17 = .ok (.putfield 218, 3) := by decide +kernel
theorem dX9_trim_20 : decode cX9_trim 20 = .ok (.iload_n 1, 1) := by decide +kernel
theorem dX9_trim_21 : decode cX9_trim 21 = .ok (.ireturn, 1) := by decide +kernel
theorem dX9_isLetter_0 : decode cX9_isLetter 0 = .ok (.iload_n 1, 1) := by decide +kernel
theorem dX9_isLetter_1 : decode cX9_isLetter 1 = .ok (.aload_n 0, 1) := by decide +kernel
theorem dX9_isLetter_2 : decode cX9_isLetter 2 = .ok (.getfield 218, 3) := by decide +kernel
theorem dX9_isLetter_5 : decode cX9_isLetter 5 = .ok (.if_icmp .ge 29, 3) := by decide +kernel
theorem dX9_isLetter_8 : decode cX9_isLetter 8 = .ok (.aload_n 0, 1) := by decide +kernel
theorem dX9_isLetter_9 : decode cX9_isLetter 9 = .ok (.getfield 28, 3) := by decide +kernel
theorem dX9_isLetter_12 : decode cX9_isLetter 12 = .ok (.iload_n 1, 1) := by decide +kernel
theorem dX9_isLetter_13 : decode cX9_isLetter 13 = .ok (.iaload, 1) := by decide +kernel
theorem dX9_isLetter_14 : decode cX9_isLetter 14 = .ok (.bipush 97, 2) := by decide +kernel
theorem dX9_isLetter_16 : decode cX9_isLetter 16 = .ok (.if_icmp .lt 18, 3) := by decide +kernel
theorem dX9_isLetter_19 : decode cX9_isLetter 19 = .ok (.aload_n 0, 1) := by decide +kernel
theorem dX9_isLetter_20 : decode cX9_isLetter 20 = .ok (.getfield 28, 3) := by decide +kernel
theorem dX9_isLetter_23 : decode cX9_isLetter 23 = .ok (.iload_n 1, 1) := by decide +kernel
theorem dX9_isLetter_24 : decode cX9_isLetter 24 = .ok (.iaload, 1) := by decide +kernel
theorem dX9_isLetter_25 : decode cX9_isLetter 25 = .ok (.bipush 122, 2) := by decide +kernel
theorem dX9_isLetter_27 : decode cX9_isLetter 27 = .ok (.if_icmp .gt 7, 3) := by decide +kernel
theorem dX9_isLetter_30 : decode cX9_isLetter 30 = .ok (.iconst 1, 1) := by decide +kernel
theorem dX9_isLetter_31 : decode cX9_isLetter 31 = .ok (.goto 4, 3) := by decide +kernel
theorem dX9_isLetter_34 : decode cX9_isLetter 34 = .ok (.iconst 0, 1) := by decide +kernel
theorem dX9_isLetter_35 : decode cX9_isLetter 35 = .ok (.ireturn, 1) := by decide +kernel
theorem dX9_isFigure_0 : decode cX9_isFigure 0 = .ok (.iload_n 1, 1) := by decide +kernel
theorem dX9_isFigure_1 : decode cX9_isFigure 1 = .ok (.aload_n 0, 1) := by decide +kernel
theorem dX9_isFigure_2 : decode cX9_isFigure 2 = .ok (.getfield 218, 3) := by decide +kernel
theorem dX9_isFigure_5 : decode cX9_isFigure 5 = .ok (.if_icmp .ge 29, 3) := by decide +kernel
theorem dX9_isFigure_8 : decode cX9_isFigure 8 = .ok (.aload_n 0, 1) := by decide +kernel
theorem dX9_isFigure_9 : decode cX9_isFigure 9 = .ok (.getfield 28, 3) := by decide +kernel
theorem dX9_isFigure_12 : decode cX9_isFigure 12 = .ok (.iload_n 1, 1) := by decide +kernel
theorem dX9_isFigure_13 : decode cX9_isFigure 13 = .ok (.iaload, 1) := by decide +kernel
theorem dX9_isFigure_14 : decode cX9_isFigure 14 = .ok (.bipush 48, 2) := by decide +kernel
theorem dX9_isFigure_16 : decode cX9_isFigure 16 = .ok (.if_icmp .lt 18, 3) := by decide +kernel
theorem dX9_isFigure_19 : decode cX9_isFigure 19 = .ok (.aload_n 0, 1) := by decide +kernel
theorem dX9_isFigure_20 : decode cX9_isFigure 20 = .ok (.getfield 28, 3) := by decide +kernel
theorem dX9_isFigure_23 : decode cX9_isFigure 23 = .ok (.iload_n 1, 1) := by decide +kernel
theorem dX9_isFigure_24 : decode cX9_isFigure 24 = .ok (.iaload, 1) := by decide +kernel
theorem dX9_isFigure_25 : decode cX9_isFigure 25 = .ok (.bipush 57, 2) := by decide +kernel
theorem dX9_isFigure_27 : decode cX9_isFigure 27 = .ok (.if_icmp .gt 7, 3) := by decide +kernel
theorem dX9_isFigure_30 : decode cX9_isFigure 30 = .ok (.iconst 1, 1) := by decide +kernel
theorem dX9_isFigure_31 : decode cX9_isFigure 31 = .ok (.goto 4, 3) := by decide +kernel
theorem dX9_isFigure_34 : decode cX9_isFigure 34 = .ok (.iconst 0, 1) := by decide +kernel
theorem dX9_isFigure_35 : decode cX9_isFigure 35 = .ok (.ireturn, 1) := by decide +kernel
theorem dX9_go_0 : decode cX9_go 0 = .ok (.aload_n 0, 1) := by decide +kernel
theorem dX9_go_1 : decode cX9_go 1 = .ok (.getfield 221, 3) := by decide +kernel
theorem dX9_go_4 : decode cX9_go 4 = .ok (.aload_n 0, 1) := by decide +kernel
theorem dX9_go_5 : decode cX9_go 5 = .ok (.getfield 218, 3) := by decide +kernel
theorem dX9_go_8 : decode cX9_go 8 = .ok (.if_icmp .ge 30, 3) := by decide +kernel
theorem dX9_go_11 : decode cX9_go 11 = .ok (.aload_n 0, 1) := by decide +kernel
theorem dX9_go_12 : decode cX9_go 12 = .ok (.getfield 28, 3) := by decide +kernel
theorem dX9_go_15 : decode cX9_go 15 = .ok (.aload_n 0, 1) := by decide +kernel
theorem dX9_go_16 : decode cX9_go 16 = .ok (.getfield 221, 3) := by decide +kernel
theorem dX9_go_19 : decode cX9_go 19 = .ok (.iaload, 1) := by decide +kernel
theorem dX9_go_20 : decode cX9_go 20 = .ok (.bipush 32, 2) := by decide +kernel
theorem dX9_go_22 : decode cX9_go 22 = .ok (.if_icmp .ne 16, 3) := by decide +kernel
theorem dX9_go_25 : decode cX9_go 25 = .ok (.aload_n 0, 1) := by decide +kernel
theorem dX9_go_26 : decode cX9_go 26 = .ok (.dup, 1) := by decide +kernel
theorem dX9_go_27 : decode cX9_go 27 = .ok (.getfield 221, 3) := by decide +kernel
theorem dX9_go_30 : decode cX9_go 30 = .ok (.iconst 1, 1) := by decide +kernel
theorem dX9_go_31 : decode cX9_go 31 = .ok (.iadd, 1) := by decide +kernel
theorem dX9_go_32 : decode cX9_go 32 = .ok (.putfield 221, 3) := by decide +kernel
theorem dX9_go_35 : decode cX9_go 35 = .ok (.goto (-35), 3) := by decide +kernel
theorem dX9_go_38 : decode cX9_go 38 = .ok (.aload_n 0, 1) := by decide +kernel
theorem dX9_go_39 : decode cX9_go 39 = .ok (.aload_n 0, 1) := by decide +kernel
theorem dX9_go_40 : decode cX9_go 40 = .ok (.getfield 221, 3) := by decide +kernel
theorem dX9_go_43 : decode cX9_go 43 = .ok (.putfield 224, 3) := by decide +kernel
theorem dX9_go_46 : decode cX9_go 46 = .ok (.aload_n 0, 1) := by decide +kernel
theorem dX9_go_47 : decode cX9_go 47 = .ok (.getfield 224, 3) := by decide +kernel
theorem dX9_go_50 : decode cX9_go 50 = .ok (.aload_n 0, 1) := by decide +kernel
theorem dX9_go_51 : decode cX9_go 51 = .ok (.getfield 227, 3) := by decide +kernel
theorem dX9_go_54 : decode cX9_go 54 = .ok (.if_icmp .ne 7, 3) := by decide +kernel
theorem dX9_go_57 : decode cX9_go 57 = .ok (.iconst 1, 1) := by decide +kernel
theorem dX9_go_58 : decode cX9_go 58 = .ok (.goto 4, 3) := by decide +kernel
theorem dX9_go_61 : decode cX9_go 61 = .ok (.iconst 0, 1) := by decide +kernel
theorem dX9_go_62 : decode cX9_go 62 = .ok (.istore_n 1, 1) := by decide +kernel
theorem dX9_go_63 : decode cX9_go 63 = .ok (.aload_n 0, 1) := by decide +kernel
theorem dX9_go_64 : decode cX9_go 64 = .ok (.getfield 224, 3) := by decide +kernel
theorem dX9_go_67 : decode cX9_go 67 = .ok (.aload_n 0, 1) := by decide +kernel
theorem dX9_go_68 : decode cX9_go 68 = .ok (.getfield 218, 3) := by decide +kernel
theorem dX9_go_71 : decode cX9_go 71 = .ok (.if_icmp .ne 11, 3) := by decide +kernel
theorem dX9_go_74 : decode cX9_go 74 = .ok (.aload_n 0, 1) := by decide +kernel
theorem dX9_go_75 : decode cX9_go 75 = .ok (.iconst 0, 1) := by decide +kernel
theorem dX9_go_76 : decode cX9_go 76 = .ok (.putfield 230, 3) := by decide +kernel
theorem dX9_go_79 : decode cX9_go 79 = .ok (.goto 224, 3) := by decide +kernel
theorem dX9_go_82 : decode cX9_go 82 = .ok (.aload_n 0, 1) := by decide +kernel
theorem dX9_go_83 : decode cX9_go 83 = .ok (.aload_n 0, 1) := by decide +kernel
theorem dX9_go_84 : decode cX9_go 84 = .ok (.getfield 224, 3) := by decide +kernel
theorem dX9_go_87 : decode cX9_go 87 = .ok (.invokevirtual 233, 3) := by decide +kernel
theorem dX9_go_90 : decode cX9_go 90 = .ok (.ifCond .eq 64, 3) := by decide +kernel
theorem dX9_go_93 : decode cX9_go 93 = .ok (.aload_n 0, 1) := by decide +kernel
theorem dX9_go_94 : decode cX9_go 94 = .ok (.aload_n 0, 1) := by decide +kernel
theorem dX9_go_95 : decode cX9_go 95 = .ok (.getfield 221, 3) := by decide +kernel
theorem dX9_go_98 : decode cX9_go 98 = .ok (.invokevirtual 233, 3) := by decide +kernel
theorem dX9_go_101 : decode cX9_go 101 = .ok (.ifCond .eq 16, 3) := by decide +kernel
theorem dX9_go_104 : decode cX9_go 104 = .ok (.aload_n 0, 1) := by decide +kernel
theorem dX9_go_105 : decode cX9_go 105 = .ok (.dup, 1) := by decide +kernel
theorem dX9_go_106 : decode cX9_go 106 = .ok (.getfield 221, 3) := by decide +kernel
theorem dX9_go_109 : decode cX9_go 109 = .ok (.iconst 1, 1) := by decide +kernel
theorem dX9_go_110 : decode cX9_go 110 = .ok (.iadd, 1) := by decide +kernel
theorem dX9_go_111 : decode cX9_go 111 = .ok (.putfield 221, 3) := by decide +kernel
theorem dX9_go_114 : decode cX9_go 114 = .ok (.goto (-21), 3) := by decide +kernel
theorem dX9_go_117 : decode cX9_go 117 = .ok (.aload_n 0, 1) := by decide +kernel
theorem dX9_go_118 : decode cX9_go 118 = .ok (.iload_n 1, 1) := by decide +kernel
theorem dX9_go_119 : decode cX9_go 119 = .ok (.ifCond .eq 7, 3) := by decide +kernel
theorem dX9_go_122 : decode cX9_go 122 = .ok (.iconst 4, 1) := by decide +kernel
theorem dX9_go_123 : decode cX9_go 123 = .ok (.goto 4, 3) := by decide +kernel
theorem dX9_go_126 : decode cX9_go 126 = .ok (.iconst 1, 1) := by decide +kernel
theorem dX9_go_127 : decode cX9_go 127 = .ok (.putfield 230, 3) := by decide +kernel
theorem dX9_go_130 : decode cX9_go 130 = .ok (.aload_n 0, 1) := by decide +kernel
theorem dX9_go_131 : decode cX9_go 131 = .ok (.aload_n 0, 1) := by decide +kernel
theorem dX9_go_132 : decode cX9_go 132 = .ok (.getfield 28, 3) := by decide +kernel
theorem dX9_go_135 : decode cX9_go 135 = .ok (.aload_n 0, 1) := by decide +kernel
theorem dX9_go_136 : decode cX9_go 136 = .ok (.getfield 224, 3) := by decide +kernel
theorem dX9_go_139 : decode cX9_go 139 = .ok (.iaload, 1) := by decide +kernel
theorem dX9_go_140 : decode cX9_go 140 = .ok (.putfield 236, 3) := by decide +kernel
theorem dX9_go_143 : decode cX9_go 143 = .ok (.aload_n 0, 1) := by decide +kernel
theorem dX9_go_144 : decode cX9_go 144 = .ok (.aload_n 0, 1) := by decide +kernel
theorem dX9_go_145 : decode cX9_go 145 = .ok (.getfield 221, 3) := by decide +kernel
theorem dX9_go_148 : decode cX9_go 148 = .ok (.putfield 227, 3) := by decide +kernel
theorem dX9_go_151 : decode cX9_go 151 = .ok (.goto 152, 3) := by decide +kernel
theorem dX9_go_154 : decode cX9_go 154 = .ok (.aload_n 0, 1) := by decide +kernel
theorem dX9_go_155 : decode cX9_go 155 = .ok (.aload_n 0, 1) := by decide +kernel
theorem dX9_go_156 : decode cX9_go 156 = .ok (.getfield 224, 3) := by decide +kernel
theorem dX9_go_159 : decode cX9_go 159 = .ok (.invokevirtual 239, 3) := by decide +kernel
theorem dX9_go_162 : decode cX9_go 162 = .ok (.ifCond .eq 113, 3) := by decide +kernel
theorem dX9_go_165 : decode cX9_go 165 = .ok (.aload_n 0, 1) := by decide +kernel
theorem dX9_go_166 : decode cX9_go 166 = .ok (.iconst 0, 1) := by decide +kernel
theorem dX9_go_167 : decode cX9_go 167 = .ok (.putfield 236, 3) := by decide +kernel
theorem dX9_go_170 : decode cX9_go 170 = .ok (.aload_n 0, 1) := by decide +kernel
theorem dX9_go_171 : decode cX9_go 171 = .ok (.aload_n 0, 1) := by decide +kernel
theorem dX9_go_172 : decode cX9_go 172 = .ok (.getfield 221, 3) := by decide +kernel
theorem dX9_go_175 : decode cX9_go 175 = .ok (.invokevirtual 239, 3) := by decide +kernel
theorem dX9_go_178 : decode cX9_go 178 = .ok (.ifCond .eq 60, 3) := by decide +kernel
theorem dX9_go_181 : decode cX9_go 181 = .ok (.aload_n 0, 1) := by decide +kernel
theorem dX9_go_182 : decode cX9_go 182 = .ok (.aload_n 0, 1) := by decide +kernel
theorem dX9_go_183 : decode cX9_go 183 = .ok (.getfield 221, 3) := by decide +kernel
theorem dX9_go_186 : decode cX9_go 186 = .ok (.aload_n 0, 1) := by decide +kernel
theorem dX9_go_187 : decode cX9_go 187 = .ok (.getfield 224, 3) := by decide +kernel
theorem dX9_go_190 : decode cX9_go 190 = .ok (.isub, 1) := by decide +kernel
theorem dX9_go_191 : decode cX9_go 191 = .ok (.iconst 4, 1) := by decide +kernel
theorem dX9_go_192 : decode cX9_go 192 = .ok (.if_icmp .ge 26, 3) := by decide +kernel
theorem dX9_go_195 : decode cX9_go 195 = .ok (.bipush 10, 2) := by decide +kernel
theorem dX9_go_197 : decode cX9_go 197 = .ok (.aload_n 0, 1) := by decide +kernel
theorem dX9_go_198 : decode cX9_go 198 = .ok (.getfield 236, 3) := by decide +kernel
theorem dX9_go_201 : decode cX9_go 201 = .ok (.imul, 1) := by decide +kernel
theorem dX9_go_202 : decode cX9_go 202 = .ok (.aload_n 0, 1) := by decide +kernel
theorem dX9_go_203 : decode cX9_go 203 = .ok (.getfield 28, 3) := by decide +kernel
theorem dX9_go_206 : decode cX9_go 206 = .ok (.aload_n 0, 1) := by decide +kernel
theorem dX9_go_207 : decode cX9_go 207 = .ok (.getfield 221, 3) := by decide +kernel
theorem dX9_go_210 : decode cX9_go 210 = .ok (.iaload, 1) := by decide +kernel
theorem dX9_go_211 : decode cX9_go 211 = .ok (.iadd, 1) := by decide +kernel
theorem dX9_go_212 : decode cX9_go 212 = .ok (.bipush 48, 2) := by decide +kernel
theorem dX9_go_214 : decode cX9_go 214 = .ok (.isub, 1) := by decide +kernel
theorem dX9_go_215 : decode cX9_go 215 = .ok (.goto 7, 3) := by decide +kernel
theorem dX9_go_218 : decode cX9_go 218 = .ok (.aload_n 0, 1) := by decide +kernel
theorem dX9_go_219 : decode cX9_go 219 = .ok (.getfield 236, 3) := by decide +kernel
theorem dX9_go_222 : decode cX9_go 222 = .ok (.putfield 236, 3) := by decide +kernel
theorem dX9_go_225 : decode cX9_go 225 = .ok (.aload_n 0, 1) := by decide +kernel
theorem dX9_go_226 : decode cX9_go 226 = .ok (.dup, 1) := by decide +kernel
theorem dX9_go_227 : decode cX9_go 227 = .ok (.getfield 221, 3) := by decide +kernel
theorem dX9_go_230 : decode cX9_go 230 = .ok (.iconst 1, 1) := by decide +kernel
theorem dX9_go_231 : decode cX9_go 231 = .ok (.iadd, 1) := by decide +kernel
theorem dX9_go_232 : decode cX9_go 232 = .ok (.putfield 221, 3) := by decide +kernel
theorem dX9_go_235 : decode cX9_go 235 = .ok (.goto (-65), 3) := by decide +kernel
theorem dX9_go_238 : decode cX9_go 238 = .ok (.aload_n 0, 1) := by decide +kernel
theorem dX9_go_239 : decode cX9_go 239 = .ok (.iload_n 1, 1) := by decide +kernel
theorem dX9_go_240 : decode cX9_go 240 = .ok (.ifCond .ne 16, 3) := by decide +kernel
theorem dX9_go_243 : decode cX9_go 243 = .ok (.aload_n 0, 1) := by decide +kernel
theorem dX9_go_244 : decode cX9_go 244 = .ok (.getfield 221, 3) := by decide +kernel
theorem dX9_go_247 : decode cX9_go 247 = .ok (.aload_n 0, 1) := by decide +kernel
theorem dX9_go_248 : decode cX9_go 248 = .ok (.getfield 224, 3) := by decide +kernel
theorem dX9_go_251 : decode cX9_go 251 = .ok (.isub, 1) := by decide +kernel
theorem dX9_go_252 : decode cX9_go 252 = .ok (.iconst 4, 1) := by decide +kernel
theorem dX9_go_253 : decode cX9_go 253 = .ok (.if_icmp .le 7, 3) := by decide +kernel
theorem dX9_go_256 : decode cX9_go 256 = .ok (.iconst 4, 1) := by decide +kernel
theorem dX9_go_257 : decode cX9_go 257 = .ok (.goto 4, 3) := by decide +kernel
theorem dX9_go_260 : decode cX9_go 260 = .ok (.iconst 2, 1) := by decide +kernel
theorem dX9_go_261 : decode cX9_go 261 = .ok (.putfield 230, 3) := by decide +kernel
theorem dX9_go_264 : decode cX9_go 264 = .ok (.aload_n 0, 1) := by decide +kernel
theorem dX9_go_265 : decode cX9_go 265 = .ok (.aload_n 0, 1) := by decide +kernel
theorem dX9_go_266 : decode cX9_go 266 = .ok (.getfield 221, 3) := by decide +kernel
theorem dX9_go_269 : decode cX9_go 269 = .ok (.putfield 227, 3) := by decide +kernel
theorem dX9_go_272 : decode cX9_go 272 = .ok (.goto 31, 3) := by decide +kernel
theorem dX9_go_275 : decode cX9_go 275 = .ok (.aload_n 0, 1) := by decide +kernel
theorem dX9_go_276 : decode cX9_go 276 = .ok (.iconst 3, 1) := by decide +kernel
theorem dX9_go_277 : decode cX9_go 277 = .ok (.putfield 230, 3) := by decide +kernel
theorem dX9_go_280 : decode cX9_go 280 = .ok (.aload_n 0, 1) := by decide +kernel
theorem dX9_go_281 : decode cX9_go 281 = .ok (.aload_n 0, 1) := by decide +kernel
theorem dX9_go_282 : decode cX9_go 282 = .ok (.getfield 28, 3) := by decide +kernel
theorem dX9_go_285 : decode cX9_go 285 = .ok (.aload_n 0, 1) := by decide +kernel
theorem dX9_go_286 : decode cX9_go 286 = .ok (.getfield 224, 3) := by decide +kernel
theorem dX9_go_289 : decode cX9_go 289 = .ok (.iaload, 1) := by decide +kernel
theorem dX9_go_290 : decode cX9_go 290 = .ok (.putfield 236, 3) := by decide +kernel
theorem dX9_go_293 : decode cX9_go 293 = .ok (.aload_n 0, 1) := by decide +kernel
theorem dX9_go_294 : decode cX9_go 294 = .ok (.dup, 1) := by decide +kernel
theorem dX9_go_295 : decode cX9_go 295 = .ok (.getfield 221, 3) := by decide +kernel
theorem dX9_go_298 : decode cX9_go 298 = .ok (.iconst 1, 1) := by decide +kernel
theorem dX9_go_299 : decode cX9_go 299 = .ok (.iadd, 1) := by decide +kernel
theorem dX9_go_300 : decode cX9_go 300 = .ok (.putfield 221, 3) := by decide +kernel
theorem dX9_go_303 : decode cX9_go 303 = .ok (.return_, 1) := by decide +kernel
end
section
theorem dX9_takesKey_0 : decode cX9_takesKey 0 = .ok (.aload_n 0, 1) := by decide +kernel
theorem dX9_takesKey_1 : decode cX9_takesKey 1 = .ok (.getfield 230, 3) := by decide +kernel
theorem dX9_takesKey_4 : decode cX9_takesKey 4 = .ok (.iconst 1, 1) := by decide +kernel
theorem dX9_takesKey_5 : decode cX9_takesKey 5 = .ok (.if_icmp .eq 5, 3) := by decide +kernel
theorem dX9_takesKey_8 : decode cX9_takesKey 8 = .ok (.iconst 0, 1) := by decide +kernel
theorem dX9_takesKey_9 : decode cX9_takesKey 9 = .ok (.ireturn, 1) := by decide +kernel
theorem dX9_takesKey_10 : decode cX9_takesKey 10 = .ok (.iconst 0, 1) := by decide +kernel
theorem dX9_takesKey_11 : decode cX9_takesKey 11 = .ok (.istore_n 1, 1) := by decide +kernel
theorem dX9_takesKey_12 : decode cX9_takesKey 12 = .ok (.iload_n 1, 1) := by decide +kernel
theorem dX9_takesKey_13 : decode cX9_takesKey 13 = .ok (.iconst 3, 1) := by decide +kernel
theorem dX9_takesKey_14 : decode cX9_takesKey 14 = .ok (.if_icmp .ge 113, 3) := by decide +kernel
theorem dX9_takesKey_17 : decode cX9_takesKey 17 = .ok (.aload_n 0, 1) := by decide +kernel
theorem dX9_takesKey_18 : decode cX9_takesKey 18 = .ok (.getfield 35, 3) := by decide +kernel
theorem dX9_takesKey_21 : decode cX9_takesKey 21 = .ok (.iload_n 1, 1) := by decide +kernel
theorem dX9_takesKey_22 : decode cX9_takesKey 22 = .ok (.iconst 1, 1) := by decide +kernel
theorem dX9_takesKey_23 : decode cX9_takesKey 23 = .ok (.iadd, 1) := by decide +kernel
theorem dX9_takesKey_24 : decode cX9_takesKey 24 = .ok (.iaload, 1) := by decide +kernel
theorem dX9_takesKey_25 : decode cX9_takesKey 25 = .ok (.aload_n 0, 1) := by decide +kernel
theorem dX9_takesKey_26 : decode cX9_takesKey 26 = .ok (.getfield 35, 3) := by decide +kernel
theorem dX9_takesKey_29 : decode cX9_takesKey 29 = .ok (.iload_n 1, 1) := by decide +kernel
theorem dX9_takesKey_30 : decode cX9_takesKey 30 = .ok (.iaload, 1) := by decide +kernel
theorem dX9_takesKey_31 : decode cX9_takesKey 31 = .ok (.isub, 1) := by decide +kernel
theorem dX9_takesKey_32 : decode cX9_takesKey 32 = .ok (.istore_n 2, 1) := by decide +kernel
theorem dX9_takesKey_33 : decode cX9_takesKey 33 = .ok (.iload_n 2, 1) := by decide +kernel
theorem dX9_takesKey_34 : decode cX9_takesKey 34 = .ok (.aload_n 0, 1) := by decide +kernel
theorem dX9_takesKey_35 : decode cX9_takesKey 35 = .ok (.getfield 221, 3) := by decide +kernel
theorem dX9_takesKey_38 : decode cX9_takesKey 38 = .ok (.aload_n 0, 1) := by decide +kernel
theorem dX9_takesKey_39 : decode cX9_takesKey 39 = .ok (.getfield 224, 3) := by decide +kernel
theorem dX9_takesKey_42 : decode cX9_takesKey 42 = .ok (.isub, 1) := by decide +kernel
theorem dX9_takesKey_43 : decode cX9_takesKey 43 = .ok (.if_icmp .ne 7, 3) := by decide +kernel
theorem dX9_takesKey_46 : decode cX9_takesKey 46 = .ok (.iconst 1, 1) := by decide +kernel
theorem dX9_takesKey_47 : decode cX9_takesKey 47 = .ok (.goto 4, 3) := by decide +kernel
theorem dX9_takesKey_50 : decode cX9_takesKey 50 = .ok (.iconst 0, 1) := by decide +kernel
theorem dX9_takesKey_51 : decode cX9_takesKey 51 = .ok (.istore_n 3, 1) := by decide +kernel
theorem dX9_takesKey_52 : decode cX9_takesKey 52 = .ok (.iconst 0, 1) := by decide +kernel
theorem dX9_takesKey_53 : decode cX9_takesKey 53 = .ok (.istore 4, 2) := by decide +kernel
theorem dX9_takesKey_55 : decode cX9_takesKey 55 = .ok (.iload 4, 2) := by decide +kernel
theorem dX9_takesKey_57 : decode cX9_takesKey 57 = .ok (.iload_n 2, 1) := by decide +kernel
theorem dX9_takesKey_58 : decode cX9_takesKey 58 = .ok (.if_icmp .ge 48, 3) := by decide +kernel
theorem dX9_takesKey_61 : decode cX9_takesKey 61 = .ok (.iload_n 3, 1) := by decide +kernel
theorem dX9_takesKey_62 : decode cX9_takesKey 62 = .ok (.ifCond .eq 44, 3) := by decide +kernel
theorem dX9_takesKey_65 : decode cX9_takesKey 65 = .ok (.aload_n 0, 1) := by decide +kernel
theorem dX9_takesKey_66 : decode cX9_takesKey 66 = .ok (.getfield 28, 3) := by decide +kernel
theorem dX9_takesKey_69 : decode cX9_takesKey 69 = .ok (.aload_n 0, 1) := by decide +kernel
theorem dX9_takesKey_70 : decode cX9_takesKey 70 = .ok (.getfield 224, 3) := by decide +kernel
theorem dX9_takesKey_73 : decode cX9_takesKey 73 = .ok (.iload 4, 2) := by decide +kernel
theorem dX9_takesKey_75 : decode cX9_takesKey 75 = .ok (.iadd, 1) := by decide +kernel
theorem dX9_takesKey_76 : decode cX9_takesKey 76 = .ok (.iaload, 1) := by decide +kernel
theorem dX9_takesKey_77 : decode cX9_takesKey 77 = .ok (.aload_n 0, 1) := by decide +kernel
theorem dX9_takesKey_78 : decode cX9_takesKey 78 = .ok (.getfield 31, 3) := by decide +kernel
theorem dX9_takesKey_81 : decode cX9_takesKey 81 = .ok (.aload_n 0, 1) := by decide +kernel
theorem dX9_takesKey_82 : decode cX9_takesKey 82 = .ok (.getfield 35, 3) := by decide +kernel
theorem dX9_takesKey_85 : decode cX9_takesKey 85 = .ok (.iload_n 1, 1) := by decide +kernel
theorem dX9_takesKey_86 : decode cX9_takesKey 86 = .ok (.iaload, 1) := by decide +kernel
theorem dX9_takesKey_87 : decode cX9_takesKey 87 = .ok (.iload 4, 2) := by decide +kernel
theorem dX9_takesKey_89 : decode cX9_takesKey 89 = .ok (.iadd, 1) := by decide +kernel
theorem dX9_takesKey_90 : decode cX9_takesKey 90 = .ok (.caload, 1) := by decide +kernel
theorem dX9_takesKey_91 : decode cX9_takesKey 91 = .ok (.if_icmp .ne 7, 3) := by decide +kernel
theorem dX9_takesKey_94 : decode cX9_takesKey 94 = .ok (.iconst 1, 1) := by decide +kernel
theorem dX9_takesKey_95 : decode cX9_takesKey 95 = .ok (.goto 4, 3) := by decide +kernel
theorem dX9_takesKey_98 : decode cX9_takesKey 98 = .ok (.iconst 0, 1) := by decide +kernel
theorem dX9_takesKey_99 : decode cX9_takesKey 99 = .ok (.istore_n 3, 1) := by decide +kernel
theorem dX9_takesKey_100 : decode cX9_takesKey 100 = .ok (.iinc 4 1, 3) := by decide +kernel
theorem dX9_takesKey_103 : decode cX9_takesKey 103 = .ok (.goto (-48), 3) := by decide +kernel
theorem dX9_takesKey_106 : decode cX9_takesKey 106 = .ok (.iload_n 3, 1) := by decide +kernel
theorem dX9_takesKey_107 : decode cX9_takesKey 107 = .ok (.ifCond .eq 14, 3) := by decide +kernel
theorem dX9_takesKey_110 : decode cX9_takesKey 110 = .ok (.aload_n 0, 1) := by decide +kernel
theorem dX9_takesKey_111 : decode cX9_takesKey 111 = .ok (.iload_n 1, 1) := by decide +kernel
theorem dX9_takesKey_112 : decode cX9_takesKey 112 = .ok (.putfield 242, 3) := by decide +kernel
theorem dX9_takesKey_115 : decode cX9_takesKey 115 = .ok (.aload_n 0, 1) := by decide +kernel
theorem dX9_takesKey_116 : decode cX9_takesKey 116 = .ok (.invokevirtual 245, 3) := by decide +kernel
theorem dX9_takesKey_119 : decode cX9_takesKey 119 = .ok (.iconst 1, 1) := by decide +kernel
theorem dX9_takesKey_120 : decode cX9_takesKey 120 = .ok (.ireturn, 1) := by decide +kernel
theorem dX9_takesKey_121 : decode cX9_takesKey 121 = .ok (.iinc 1 1, 3) := by decide +kernel
theorem dX9_takesKey_124 : decode cX9_takesKey 124 = .ok (.goto (-112), 3) := by decide +kernel
theorem dX9_takesKey_127 : decode cX9_takesKey 127 = .ok (.iconst 0, 1) := by decide +kernel
theorem dX9_takesKey_128 : decode cX9_takesKey 128 = .ok (.ireturn, 1) := by decide +kernel
theorem dX9_nameOf_0 : decode cX9_nameOf 0 = .ok (.aload_n 0, 1) := by decide +kernel
theorem dX9_nameOf_1 : decode cX9_nameOf 1 = .ok (.getfield 242, 3) := by decide +kernel
theorem dX9_nameOf_4 : decode cX9_nameOf 4 = .ok (.lookupswitch 92 #[(0, 28), (1, 70)], 28) := by decide +kernel
theorem dX9_nameOf_32 : decode cX9_nameOf 32 = .ok (.iload_n 1, 1) := by decide +kernel
theorem dX9_nameOf_33 : decode cX9_nameOf 33 = .ok (.bipush 110, 2) := by decide +kernel
theorem dX9_nameOf_35 : decode cX9_nameOf 35 = .ok (.if_icmp .ne 7, 3) := by decide +kernel
theorem dX9_nameOf_38 : decode cX9_nameOf 38 = .ok (.iconst 0, 1) := by decide +kernel
theorem dX9_nameOf_39 : decode cX9_nameOf 39 = .ok (.goto 34, 3) := by decide +kernel
theorem dX9_nameOf_42 : decode cX9_nameOf 42 = .ok (.iload_n 1, 1) := by decide +kernel
theorem dX9_nameOf_43 : decode cX9_nameOf 43 = .ok (.bipush 119, 2) := by decide +kernel
theorem dX9_nameOf_45 : decode cX9_nameOf 45 = .ok (.if_icmp .ne 7, 3) := by decide +kernel
theorem dX9_nameOf_48 : decode cX9_nameOf 48 = .ok (.iconst 1, 1) := by decide +kernel
theorem dX9_nameOf_49 : decode cX9_nameOf 49 = .ok (.goto 24, 3) := by decide +kernel
theorem dX9_nameOf_52 : decode cX9_nameOf 52 = .ok (.iload_n 1, 1) := by decide +kernel
theorem dX9_nameOf_53 : decode cX9_nameOf 53 = .ok (.bipush 102, 2) := by decide +kernel
theorem dX9_nameOf_55 : decode cX9_nameOf 55 = .ok (.if_icmp .ne 7, 3) := by decide +kernel
theorem dX9_nameOf_58 : decode cX9_nameOf 58 = .ok (.iconst 2, 1) := by decide +kernel
theorem dX9_nameOf_59 : decode cX9_nameOf 59 = .ok (.goto 14, 3) := by decide +kernel
theorem dX9_nameOf_62 : decode cX9_nameOf 62 = .ok (.iload_n 1, 1) := by decide +kernel
theorem dX9_nameOf_63 : decode cX9_nameOf 63 = .ok (.bipush 115, 2) := by decide +kernel
theorem dX9_nameOf_65 : decode cX9_nameOf 65 = .ok (.if_icmp .ne 7, 3) := by decide +kernel
theorem dX9_nameOf_68 : decode cX9_nameOf 68 = .ok (.iconst 3, 1) := by decide +kernel
theorem dX9_nameOf_69 : decode cX9_nameOf 69 = .ok (.goto 4, 3) := by decide +kernel
theorem dX9_nameOf_72 : decode cX9_nameOf 72 = .ok (.iconst (-1), 1) := by decide +kernel
theorem dX9_nameOf_73 : decode cX9_nameOf 73 = .ok (.ireturn, 1) := by decide +kernel
theorem dX9_nameOf_74 : decode cX9_nameOf 74 = .ok (.iload_n 1, 1) := by decide +kernel
theorem dX9_nameOf_75 : decode cX9_nameOf 75 = .ok (.bipush 102, 2) := by decide +kernel
theorem dX9_nameOf_77 : decode cX9_nameOf 77 = .ok (.if_icmp .ne 7, 3) := by decide +kernel
theorem dX9_nameOf_80 : decode cX9_nameOf 80 = .ok (.iconst 0, 1) := by decide +kernel
theorem dX9_nameOf_81 : decode cX9_nameOf 81 = .ok (.goto 14, 3) := by decide +kernel
theorem dX9_nameOf_84 : decode cX9_nameOf 84 = .ok (.iload_n 1, 1) := by decide +kernel
theorem dX9_nameOf_85 : decode cX9_nameOf 85 = .ok (.bipush 115, 2) := by decide +kernel
theorem dX9_nameOf_87 : decode cX9_nameOf 87 = .ok (.if_icmp .ne 7, 3) := by decide +kernel
theorem dX9_nameOf_90 : decode cX9_nameOf 90 = .ok (.iconst 1, 1) := by decide +kernel
theorem dX9_nameOf_91 : decode cX9_nameOf 91 = .ok (.goto 4, 3) := by decide +kernel
theorem dX9_nameOf_94 : decode cX9_nameOf 94 = .ok (.iconst (-1), 1) := by decide +kernel
theorem dX9_nameOf_95 : decode cX9_nameOf 95 = .ok (.ireturn, 1) := by decide +kernel
theorem dX9_nameOf_96 : decode cX9_nameOf 96 = .ok (.iload_n 1, 1) := by decide +kernel
theorem dX9_nameOf_97 : decode cX9_nameOf 97 = .ok (.bipush 110, 2) := by decide +kernel
theorem dX9_nameOf_99 : decode cX9_nameOf 99 = .ok (.if_icmp .ne 7, 3) := by decide +kernel
theorem dX9_nameOf_102 : decode cX9_nameOf 102 = .ok (.iconst 0, 1) := by decide +kernel
theorem dX9_nameOf_103 : decode cX9_nameOf 103 = .ok (.goto 14, 3) := by decide +kernel
theorem dX9_nameOf_106 : decode cX9_nameOf 106 = .ok (.iload_n 1, 1) := by decide +kernel
theorem dX9_nameOf_107 : decode cX9_nameOf 107 = .ok (.bipush 119, 2) := by decide +kernel
theorem dX9_nameOf_109 : decode cX9_nameOf 109 = .ok (.if_icmp .ne 7, 3) := by decide +kernel
theorem dX9_nameOf_112 : decode cX9_nameOf 112 = .ok (.iconst 1, 1) := by decide +kernel
theorem dX9_nameOf_113 : decode cX9_nameOf 113 = .ok (.goto 4, 3) := by decide +kernel
theorem dX9_nameOf_116 : decode cX9_nameOf 116 = .ok (.iconst (-1), 1) := by decide +kernel
theorem dX9_nameOf_117 : decode cX9_nameOf 117 = .ok (.ireturn, 1) := by decide +kernel
theorem dX9_rank_0 : decode cX9_rank 0 = .ok (.iload_n 0, 1) := by decide +kernel
theorem dX9_rank_1 : decode cX9_rank 1 = .ok (.iconst (-1), 1) := by decide +kernel
theorem dX9_rank_2 : decode cX9_rank 2 = .ok (.if_icmp .ne 7, 3) := by decide +kernel
theorem dX9_rank_5 : decode cX9_rank 5 = .ok (.iconst 1, 1) := by decide +kernel
theorem dX9_rank_6 : decode cX9_rank 6 = .ok (.goto 45, 3) := by decide +kernel
theorem dX9_rank_9 : decode cX9_rank 9 = .ok (.iload_n 0, 1) := by decide +kernel
theorem dX9_rank_10 : decode cX9_rank 10 = .ok (.bipush (-2), 2) := by decide +kernel
theorem dX9_rank_12 : decode cX9_rank 12 = .ok (.if_icmp .ne 7, 3) := by decide +kernel
theorem dX9_rank_15 : decode cX9_rank 15 = .ok (.iconst 2, 1) := by decide +kernel
theorem dX9_rank_16 : decode cX9_rank 16 = .ok (.goto 35, 3) := by decide +kernel
theorem dX9_rank_19 : decode cX9_rank 19 = .ok (.iload_n 0, 1) := by decide +kernel
theorem dX9_rank_20 : decode cX9_rank 20 = .ok (.bipush (-5), 2) := by decide +kernel
theorem dX9_rank_22 : decode cX9_rank 22 = .ok (.if_icmp .lt 7, 3) := by decide +kernel
theorem dX9_rank_25 : decode cX9_rank 25 = .ok (.iconst 3, 1) := by decide +kernel
theorem dX9_rank_26 : decode cX9_rank 26 = .ok (.goto 25, 3) := by decide +kernel
theorem dX9_rank_29 : decode cX9_rank 29 = .ok (.iload_n 0, 1) := by decide +kernel
theorem dX9_rank_30 : decode cX9_rank 30 = .ok (.bipush (-7), 2) := by decide +kernel
theorem dX9_rank_32 : decode cX9_rank 32 = .ok (.if_icmp .lt 7, 3) := by decide +kernel
theorem dX9_rank_35 : decode cX9_rank 35 = .ok (.iconst 4, 1) := by decide +kernel
theorem dX9_rank_36 : decode cX9_rank 36 = .ok (.goto 15, 3) := by decide +kernel
theorem dX9_rank_39 : decode cX9_rank 39 = .ok (.iload_n 0, 1) := by decide +kernel
theorem dX9_rank_40 : decode cX9_rank 40 = .ok (.bipush (-9), 2) := by decide +kernel
theorem dX9_rank_42 : decode cX9_rank 42 = .ok (.if_icmp .lt 7, 3) := by decide +kernel
theorem dX9_rank_45 : decode cX9_rank 45 = .ok (.iconst 5, 1) := by decide +kernel
theorem dX9_rank_46 : decode cX9_rank 46 = .ok (.goto 5, 3) := by decide +kernel
theorem dX9_rank_49 : decode cX9_rank 49 = .ok (.bipush 6, 2) := by decide +kernel
theorem dX9_rank_51 : decode cX9_rank 51 = .ok (.ireturn, 1) := by decide +kernel
theorem dX9_settle_0 : decode cX9_settle 0 = .ok (.aload_n 0, 1) := by decide +kernel
theorem dX9_settle_1 : decode cX9_settle 1 = .ok (.getfield 248, 3) := by decide +kernel
theorem dX9_settle_4 : decode cX9_settle 4 = .ok (.ifCond .le 78, 3) := by decide +kernel
theorem dX9_settle_7 : decode cX9_settle 7 = .ok (.aload_n 0, 1) := by decide +kernel
theorem dX9_settle_8 : decode cX9_settle 8 = .ok (.getfield 41, 3) := by decide +kernel
theorem dX9_settle_11 : decode cX9_settle 11 = .ok (.aload_n 0, 1) := by decide +kernel
theorem dX9_settle_12 : decode cX9_settle 12 = .ok (.getfield 248, 3) := by decide +kernel
theorem dX9_settle_15 : decode cX9_settle 15 = .ok (.iconst 1, 1) := by decide +kernel
theorem dX9_settle_16 : decode cX9_settle 16 = .ok (.isub, 1) := by decide +kernel
theorem dX9_settle_17 : decode cX9_settle 17 = .ok (.iaload, 1) := by decide +kernel
theorem dX9_settle_18 : decode cX9_settle 18 = .ok (.bipush (-11), 2) := by decide +kernel
theorem dX9_settle_20 : decode cX9_settle 20 = .ok (.if_icmp .eq 62, 3) := by decide +kernel
theorem dX9_settle_23 : decode cX9_settle 23 = .ok (.aload_n 0, 1) := by decide +kernel
theorem dX9_settle_24 : decode cX9_settle 24 = .ok (.getfield 41, 3) := by decide +kernel
theorem dX9_settle_27 : decode cX9_settle 27 = .ok (.aload_n 0, 1) := by decide +kernel
theorem dX9_settle_28 : decode cX9_settle 28 = .ok (.getfield 248, 3) := by decide +kernel
theorem dX9_settle_31 : decode cX9_settle 31 = .ok (.iconst 1, 1) := by decide +kernel
theorem dX9_settle_32 : decode cX9_settle 32 = .ok (.isub, 1) := by decide +kernel
theorem dX9_settle_33 : decode cX9_settle 33 = .ok (.iaload, 1) := by decide +kernel
theorem dX9_settle_34 : decode cX9_settle 34 = .ok (.invokestatic 251, 3) := by decide +kernel
theorem dX9_settle_37 : decode cX9_settle 37 = .ok (.iload_n 1, 1) := by decide +kernel
theorem dX9_settle_38 : decode cX9_settle 38 = .ok (.if_icmp .lt 44, 3) := by decide +kernel
theorem dX9_settle_41 : decode cX9_settle 41 = .ok (.aload_n 0, 1) := by decide +kernel
theorem dX9_settle_42 : decode cX9_settle 42 = .ok (.dup, 1) := by decide +kernel
theorem dX9_settle_43 : decode cX9_settle 43 = .ok (.getfield 248, 3) := by decide +kernel
theorem dX9_settle_46 : decode cX9_settle 46 = .ok (.iconst 1, 1) := by decide +kernel
theorem dX9_settle_47 : decode cX9_settle 47 = .ok (.isub, 1) := by decide +kernel
theorem dX9_settle_48 : decode cX9_settle 48 = .ok (.putfield 248, 3) := by decide +kernel
theorem dX9_settle_51 : decode cX9_settle 51 = .ok (.aload_n 0, 1) := by decide +kernel
theorem dX9_settle_52 : decode cX9_settle 52 = .ok (.getfield 38, 3) := by decide +kernel
theorem dX9_settle_55 : decode cX9_settle 55 = .ok (.aload_n 0, 1) := by decide +kernel
theorem dX9_settle_56 : decode cX9_settle 56 = .ok (.getfield 254, 3) := by decide +kernel
theorem dX9_settle_59 : decode cX9_settle 59 = .ok (.aload_n 0, 1) := by decide +kernel
theorem dX9_settle_60 : decode cX9_settle 60 = .ok (.getfield 41, 3) := by decide +kernel
theorem dX9_settle_63 : decode cX9_settle 63 = .ok (.aload_n 0, 1) := by decide +kernel
theorem dX9_settle_64 : decode cX9_settle 64 = .ok (.getfield 248, 3) := by decide +kernel
theorem dX9_settle_67 : decode cX9_settle 67 = .ok (.iaload, 1) := by decide +kernel
theorem dX9_settle_68 : decode cX9_settle 68 = .ok (.iastore, 1) := by decide +kernel
theorem dX9_settle_69 : decode cX9_settle 69 = .ok (.aload_n 0, 1) := by decide +kernel
theorem dX9_settle_70 : decode cX9_settle 70 = .ok (.dup, 1) := by decide +kernel
theorem dX9_settle_71 : decode cX9_settle 71 = .ok (.getfield 254, 3) := by decide +kernel
theorem dX9_settle_74 : decode cX9_settle 74 = .ok (.iconst 1, 1) := by decide +kernel
theorem dX9_settle_75 : decode cX9_settle 75 = .ok (.iadd, 1) := by decide +kernel
theorem dX9_settle_76 : decode cX9_settle 76 = .ok (.putfield 254, 3) := by decide +kernel
theorem dX9_settle_79 : decode cX9_settle 79 = .ok (.goto (-79), 3) := by decide +kernel
theorem dX9_settle_82 : decode cX9_settle 82 = .ok (.return_, 1) := by decide +kernel
theorem dX9_signHere_0 : decode cX9_signHere 0 = .ok (.aload_n 0, 1) := by decide +kernel
theorem dX9_signHere_1 : decode cX9_signHere 1 = .ok (.getfield 230, 3) := by decide +kernel
theorem dX9_signHere_4 : decode cX9_signHere 4 = .ok (.iconst 3, 1) := by decide +kernel
theorem dX9_signHere_5 : decode cX9_signHere 5 = .ok (.if_icmp .eq 5, 3) := by decide +kernel
theorem dX9_signHere_8 : decode cX9_signHere 8 = .ok (.iconst 0, 1) := by decide +kernel
theorem dX9_signHere_9 : decode cX9_signHere 9 = .ok (.ireturn, 1) := by decide +kernel
theorem dX9_signHere_10 : decode cX9_signHere 10 = .ok (.aload_n 0, 1) := by decide +kernel
theorem dX9_signHere_11 : decode cX9_signHere 11 = .ok (.getfield 236, 3) := by decide +kernel
theorem dX9_signHere_14 : decode cX9_signHere 14 = .ok (.lookupswitch 108 #[(38, 84), (42, 102), (43, 96), (45, 99), (47, 105), (60, 87), (61, 90), (62, 93), (124, 82)], 82) := by decide +kernel
theorem dX9_signHere_96 : decode cX9_signHere 96 = .ok (.iconst (-1), 1) := by decide +kernel
theorem dX9_signHere_97 : decode cX9_signHere 97 = .ok (.ireturn, 1) := by decide +kernel
theorem dX9_signHere_98 : decode cX9_signHere 98 = .ok (.bipush (-2), 2) := by decide +kernel
theorem dX9_signHere_100 : decode cX9_signHere 100 = .ok (.ireturn, 1) := by decide +kernel
theorem dX9_signHere_101 : decode cX9_signHere 101 = .ok (.bipush (-3), 2) := by decide +kernel
theorem dX9_signHere_103 : decode cX9_signHere 103 = .ok (.ireturn, 1) := by decide +kernel
theorem dX9_signHere_104 : decode cX9_signHere 104 = .ok (.bipush (-4), 2) := by decide +kernel
theorem dX9_signHere_106 : decode cX9_signHere 106 = .ok (.ireturn, 1) := by decide +kernel
theorem dX9_signHere_107 : decode cX9_signHere 107 = .ok (.bipush (-5), 2) := by decide +kernel
theorem dX9_signHere_109 : decode cX9_signHere 109 = .ok (.ireturn, 1) := by decide +kernel
theorem dX9_signHere_110 : decode cX9_signHere 110 = .ok (.bipush (-6), 2) := by decide +kernel
theorem dX9_signHere_112 : decode cX9_signHere 112 = .ok (.ireturn, 1) := by decide +kernel
theorem dX9_signHere_113 : decode cX9_signHere 113 = .ok (.bipush (-7), 2) := by decide +kernel
theorem dX9_signHere_115 : decode cX9_signHere 115 = .ok (.ireturn, 1) := by decide +kernel
theorem dX9_signHere_116 : decode cX9_signHere 116 = .ok (.bipush (-8), 2) := by decide +kernel
theorem dX9_signHere_118 : decode cX9_signHere 118 = .ok (.ireturn, 1) := by decide +kernel
theorem dX9_signHere_119 : decode cX9_signHere 119 = .ok (.bipush (-9), 2) := by decide +kernel
theorem dX9_signHere_121 : decode cX9_signHere 121 = .ok (.ireturn, 1) := by decide +kernel
theorem dX9_signHere_122 : decode cX9_signHere 122 = .ok (.iconst 0, 1) := by decide +kernel
theorem dX9_signHere_123 : decode cX9_signHere 123 = .ok (.ireturn, 1) := by decide +kernel
theorem dX9_takesPart_0 : decode cX9_takesPart 0 = .ok (.aload_n 0, 1) := by decide +kernel
theorem dX9_takesPart_1 : decode cX9_takesPart 1 = .ok (.getfield 230, 3) := by decide +kernel
theorem dX9_takesPart_4 : decode cX9_takesPart 4 = .ok (.iconst 1, 1) := by decide +kernel
theorem dX9_takesPart_5 : decode cX9_takesPart 5 = .ok (.if_icmp .ne 31, 3) := by decide +kernel
theorem dX9_takesPart_8 : decode cX9_takesPart 8 = .ok (.aload_n 0, 1) := by decide +kernel
theorem dX9_takesPart_9 : decode cX9_takesPart 9 = .ok (.getfield 221, 3) := by decide +kernel
theorem dX9_takesPart_12 : decode cX9_takesPart 12 = .ok (.aload_n 0, 1) := by decide +kernel
theorem dX9_takesPart_13 : decode cX9_takesPart 13 = .ok (.getfield 224, 3) := by decide +kernel
theorem dX9_takesPart_16 : decode cX9_takesPart 16 = .ok (.isub, 1) := by decide +kernel
theorem dX9_takesPart_17 : decode cX9_takesPart 17 = .ok (.iconst 1, 1) := by decide +kernel
theorem dX9_takesPart_18 : decode cX9_takesPart 18 = .ok (.if_icmp .ne 18, 3) := by decide +kernel
theorem dX9_takesPart_21 : decode cX9_takesPart 21 = .ok (.aload_n 0, 1) := by decide +kernel
theorem dX9_takesPart_22 : decode cX9_takesPart 22 = .ok (.aload_n 0, 1) := by decide +kernel
theorem dX9_takesPart_23 : decode cX9_takesPart 23 = .ok (.getfield 236, 3) := by decide +kernel
theorem dX9_takesPart_26 : decode cX9_takesPart 26 = .ok (.invokevirtual 257, 3) := by decide +kernel
theorem dX9_takesPart_29 : decode cX9_takesPart 29 = .ok (.ifCond .lt 7, 3) := by decide +kernel
theorem dX9_takesPart_32 : decode cX9_takesPart 32 = .ok (.iconst 1, 1) := by decide +kernel
theorem dX9_takesPart_33 : decode cX9_takesPart 33 = .ok (.goto 4, 3) := by decide +kernel
theorem dX9_takesPart_36 : decode cX9_takesPart 36 = .ok (.iconst 0, 1) := by decide +kernel
theorem dX9_takesPart_37 : decode cX9_takesPart 37 = .ok (.istore_n 1, 1) := by decide +kernel
theorem dX9_takesPart_38 : decode cX9_takesPart 38 = .ok (.aload_n 0, 1) := by decide +kernel
theorem dX9_takesPart_39 : decode cX9_takesPart 39 = .ok (.getfield 230, 3) := by decide +kernel
theorem dX9_takesPart_42 : decode cX9_takesPart 42 = .ok (.iconst 2, 1) := by decide +kernel
theorem dX9_takesPart_43 : decode cX9_takesPart 43 = .ok (.if_icmp .eq 9, 3) := by decide +kernel
theorem dX9_takesPart_46 : decode cX9_takesPart 46 = .ok (.iload_n 1, 1) := by decide +kernel
theorem dX9_takesPart_47 : decode cX9_takesPart 47 = .ok (.ifCond .ne 5, 3) := by decide +kernel
theorem dX9_takesPart_50 : decode cX9_takesPart 50 = .ok (.iconst 0, 1) := by decide +kernel
theorem dX9_takesPart_51 : decode cX9_takesPart 51 = .ok (.ireturn, 1) := by decide +kernel
theorem dX9_takesPart_52 : decode cX9_takesPart 52 = .ok (.aload_n 0, 1) := by decide +kernel
theorem dX9_takesPart_53 : decode cX9_takesPart 53 = .ok (.getfield 38, 3) := by decide +kernel
theorem dX9_takesPart_56 : decode cX9_takesPart 56 = .ok (.aload_n 0, 1) := by decide +kernel
theorem dX9_takesPart_57 : decode cX9_takesPart 57 = .ok (.getfield 254, 3) := by decide +kernel
theorem dX9_takesPart_60 : decode cX9_takesPart 60 = .ok (.aload_n 0, 1) := by decide +kernel
theorem dX9_takesPart_61 : decode cX9_takesPart 61 = .ok (.getfield 230, 3) := by decide +kernel
theorem dX9_takesPart_64 : decode cX9_takesPart 64 = .ok (.iconst 2, 1) := by decide +kernel
theorem dX9_takesPart_65 : decode cX9_takesPart 65 = .ok (.if_icmp .ne 10, 3) := by decide +kernel
theorem dX9_takesPart_68 : decode cX9_takesPart 68 = .ok (.aload_n 0, 1) := by decide +kernel
theorem dX9_takesPart_69 : decode cX9_takesPart 69 = .ok (.getfield 236, 3) := by decide +kernel
theorem dX9_takesPart_72 : decode cX9_takesPart 72 = .ok (.goto 15, 3) := by decide +kernel
theorem dX9_takesPart_75 : decode cX9_takesPart 75 = .ok (.sipush 10000, 3) := by decide +kernel
theorem dX9_takesPart_78 : decode cX9_takesPart 78 = .ok (.aload_n 0, 1) := by decide +kernel
theorem dX9_takesPart_79 : decode cX9_takesPart 79 = .ok (.aload_n 0, 1) := by decide +kernel
theorem dX9_takesPart_80 : decode cX9_takesPart 80 = .ok (.getfield 236, 3) := by decide +kernel
theorem dX9_takesPart_83 : decode cX9_takesPart 83 = .ok (.invokevirtual 257, 3) := by decide +kernel
theorem dX9_takesPart_86 : decode cX9_takesPart 86 = .ok (.iadd, 1) := by decide +kernel
theorem dX9_takesPart_87 : decode cX9_takesPart 87 = .ok (.iastore, 1) := by decide +kernel
theorem dX9_takesPart_88 : decode cX9_takesPart 88 = .ok (.aload_n 0, 1) := by decide +kernel
theorem dX9_takesPart_89 : decode cX9_takesPart 89 = .ok (.dup, 1) := by decide +kernel
theorem dX9_takesPart_90 : decode cX9_takesPart 90 = .ok (.getfield 254, 3) := by decide +kernel
theorem dX9_takesPart_93 : decode cX9_takesPart 93 = .ok (.iconst 1, 1) := by decide +kernel
theorem dX9_takesPart_94 : decode cX9_takesPart 94 = .ok (.iadd, 1) := by decide +kernel
theorem dX9_takesPart_95 : decode cX9_takesPart 95 = .ok (.putfield 254, 3) := by decide +kernel
theorem dX9_takesPart_98 : decode cX9_takesPart 98 = .ok (.aload_n 0, 1) := by decide +kernel
theorem dX9_takesPart_99 : decode cX9_takesPart 99 = .ok (.dup, 1) := by decide +kernel
theorem dX9_takesPart_100 : decode cX9_takesPart 100 = .ok (.getfield 260, 3) := by decide +kernel
theorem dX9_takesPart_103 : decode cX9_takesPart 103 = .ok (.iconst 1, 1) := by decide +kernel
theorem dX9_takesPart_104 : decode cX9_takesPart 104 = .ok (.iadd, 1) := by decide +kernel
theorem dX9_takesPart_105 : decode cX9_takesPart 105 = .ok (.putfield 260, 3) := by decide +kernel
theorem dX9_takesPart_108 : decode cX9_takesPart 108 = .ok (.aload_n 0, 1) := by decide +kernel
theorem dX9_takesPart_109 : decode cX9_takesPart 109 = .ok (.bipush 6, 2) := by decide +kernel
theorem dX9_takesPart_111 : decode cX9_takesPart 111 = .ok (.invokevirtual 263, 3) := by decide +kernel
theorem dX9_takesPart_114 : decode cX9_takesPart 114 = .ok (.aload_n 0, 1) := by decide +kernel
theorem dX9_takesPart_115 : decode cX9_takesPart 115 = .ok (.invokevirtual 245, 3) := by decide +kernel
theorem dX9_takesPart_118 : decode cX9_takesPart 118 = .ok (.iconst 1, 1) := by decide +kernel
theorem dX9_takesPart_119 : decode cX9_takesPart 119 = .ok (.ireturn, 1) := by decide +kernel
theorem dX9_takesE_0 : decode cX9_takesE 0 = .ok (.iconst 0, 1) := by decide +kernel
theorem dX9_takesE_1 : decode cX9_takesE 1 = .ok (.istore_n 1, 1) := by decide +kernel
theorem dX9_takesE_2 : decode cX9_takesE 2 = .ok (.iconst 0, 1) := by decide +kernel
theorem dX9_takesE_3 : decode cX9_takesE 3 = .ok (.istore_n 2, 1) := by decide +kernel
theorem dX9_takesE_4 : decode cX9_takesE 4 = .ok (.iconst 1, 1) := by decide +kernel
theorem dX9_takesE_5 : decode cX9_takesE 5 = .ok (.istore_n 3, 1) := by decide +kernel
theorem dX9_takesE_6 : decode cX9_takesE 6 = .ok (.aload_n 0, 1) := by decide +kernel
theorem dX9_takesE_7 : decode cX9_takesE 7 = .ok (.iconst 0, 1) := by decide +kernel
theorem dX9_takesE_8 : decode cX9_takesE 8 = .ok (.putfield 254, 3) := by decide +kernel
theorem dX9_takesE_11 : decode cX9_takesE 11 = .ok (.aload_n 0, 1) := by decide +kernel
theorem dX9_takesE_12 : decode cX9_takesE 12 = .ok (.iconst 0, 1) := by decide +kernel
theorem dX9_takesE_13 : decode cX9_takesE 13 = .ok (.putfield 260, 3) := by decide +kernel
theorem dX9_takesE_16 : decode cX9_takesE 16 = .ok (.aload_n 0, 1) := by decide +kernel
theorem dX9_takesE_17 : decode cX9_takesE 17 = .ok (.iconst 0, 1) := by decide +kernel
theorem dX9_takesE_18 : decode cX9_takesE 18 = .ok (.putfield 248, 3) := by decide +kernel
theorem dX9_takesE_21 : decode cX9_takesE 21 = .ok (.aload_n 0, 1) := by decide +kernel
theorem dX9_takesE_22 : decode cX9_takesE 22 = .ok (.getfield 44, 3) := by decide +kernel
theorem dX9_takesE_25 : decode cX9_takesE 25 = .ok (.iconst 0, 1) := by decide +kernel
theorem dX9_takesE_26 : decode cX9_takesE 26 = .ok (.iconst 0, 1) := by decide +kernel
theorem dX9_takesE_27 : decode cX9_takesE 27 = .ok (.bastore, 1) := by decide +kernel
theorem dX9_takesE_28 : decode cX9_takesE 28 = .ok (.iload_n 3, 1) := by decide +kernel
theorem dX9_takesE_29 : decode cX9_takesE 29 = .ok (.ifCond .ne 10, 3) := by decide +kernel
theorem dX9_takesE_32 : decode cX9_takesE 32 = .ok (.aload_n 0, 1) := by decide +kernel
theorem dX9_takesE_33 : decode cX9_takesE 33 = .ok (.getfield 230, 3) := by decide +kernel
theorem dX9_takesE_36 : decode cX9_takesE 36 = .ok (.ifCond .eq 309, 3) := by decide +kernel
theorem dX9_takesE_39 : decode cX9_takesE 39 = .ok (.iload_n 3, 1) := by decide +kernel
theorem dX9_takesE_40 : decode cX9_takesE 40 = .ok (.ifCond .eq 140, 3) := by decide +kernel
theorem dX9_takesE_43 : decode cX9_takesE 43 = .ok (.aload_n 0, 1) := by decide +kernel
theorem dX9_takesE_44 : decode cX9_takesE 44 = .ok (.getfield 230, 3) := by decide +kernel
theorem dX9_takesE_47 : decode cX9_takesE 47 = .ok (.iconst 3, 1) := by decide +kernel
theorem dX9_takesE_48 : decode cX9_takesE 48 = .ok (.if_icmp .ne 49, 3) := by decide +kernel
theorem dX9_takesE_51 : decode cX9_takesE 51 = .ok (.aload_n 0, 1) := by decide +kernel
theorem dX9_takesE_52 : decode cX9_takesE 52 = .ok (.getfield 236, 3) := by decide +kernel
theorem dX9_takesE_55 : decode cX9_takesE 55 = .ok (.bipush 33, 2) := by decide +kernel
theorem dX9_takesE_57 : decode cX9_takesE 57 = .ok (.if_icmp .ne 40, 3) := by decide +kernel
theorem dX9_takesE_60 : decode cX9_takesE 60 = .ok (.iload_n 2, 1) := by decide +kernel
theorem dX9_takesE_61 : decode cX9_takesE 61 = .ok (.bipush 8, 2) := by decide +kernel
theorem dX9_takesE_63 : decode cX9_takesE 63 = .ok (.if_icmp .ge 34, 3) := by decide +kernel
theorem dX9_takesE_66 : decode cX9_takesE 66 = .ok (.aload_n 0, 1) := by decide +kernel
theorem dX9_takesE_67 : decode cX9_takesE 67 = .ok (.getfield 41, 3) := by decide +kernel
theorem dX9_takesE_70 : decode cX9_takesE 70 = .ok (.aload_n 0, 1) := by decide +kernel
theorem dX9_takesE_71 : decode cX9_takesE 71 = .ok (.getfield 248, 3) := by decide +kernel
theorem dX9_takesE_74 : decode cX9_takesE 74 = .ok (.bipush (-10), 2) := by decide +kernel
theorem dX9_takesE_76 : decode cX9_takesE 76 = .ok (.iastore, 1) := by decide +kernel
theorem dX9_takesE_77 : decode cX9_takesE 77 = .ok (.aload_n 0, 1) := by decide +kernel
theorem dX9_takesE_78 : decode cX9_takesE 78 = .ok (.dup, 1) := by decide +kernel
theorem dX9_takesE_79 : decode cX9_takesE 79 = .ok (.getfield 248, 3) := by decide +kernel
theorem dX9_takesE_82 : decode cX9_takesE 82 = .ok (.iconst 1, 1) := by decide +kernel
theorem dX9_takesE_83 : decode cX9_takesE 83 = .ok (.iadd, 1) := by decide +kernel
theorem dX9_takesE_84 : decode cX9_takesE 84 = .ok (.putfield 248, 3) := by decide +kernel
theorem dX9_takesE_87 : decode cX9_takesE 87 = .ok (.iinc 2 1, 3) := by decide +kernel
theorem dX9_takesE_90 : decode cX9_takesE 90 = .ok (.aload_n 0, 1) := by decide +kernel
theorem dX9_takesE_91 : decode cX9_takesE 91 = .ok (.invokevirtual 245, 3) := by decide +kernel
theorem dX9_takesE_94 : decode cX9_takesE 94 = .ok (.goto 78, 3) := by decide +kernel
theorem dX9_takesE_97 : decode cX9_takesE 97 = .ok (.aload_n 0, 1) := by decide +kernel
theorem dX9_takesE_98 : decode cX9_takesE 98 = .ok (.getfield 230, 3) := by decide +kernel
theorem dX9_takesE_101 : decode cX9_takesE 101 = .ok (.iconst 3, 1) := by decide +kernel
theorem dX9_takesE_102 : decode cX9_takesE 102 = .ok (.if_icmp .ne 56, 3) := by decide +kernel
theorem dX9_takesE_105 : decode cX9_takesE 105 = .ok (.aload_n 0, 1) := by decide +kernel
theorem dX9_takesE_106 : decode cX9_takesE 106 = .ok (.getfield 236, 3) := by decide +kernel
theorem dX9_takesE_109 : decode cX9_takesE 109 = .ok (.bipush 40, 2) := by decide +kernel
theorem dX9_takesE_111 : decode cX9_takesE 111 = .ok (.if_icmp .ne 47, 3) := by decide +kernel
theorem dX9_takesE_114 : decode cX9_takesE 114 = .ok (.iload_n 1, 1) := by decide +kernel
theorem dX9_takesE_115 : decode cX9_takesE 115 = .ok (.bipush 8, 2) := by decide +kernel
theorem dX9_takesE_117 : decode cX9_takesE 117 = .ok (.if_icmp .ge 41, 3) := by decide +kernel
theorem dX9_takesE_120 : decode cX9_takesE 120 = .ok (.aload_n 0, 1) := by decide +kernel
theorem dX9_takesE_121 : decode cX9_takesE 121 = .ok (.getfield 41, 3) := by decide +kernel
theorem dX9_takesE_124 : decode cX9_takesE 124 = .ok (.aload_n 0, 1) := by decide +kernel
theorem dX9_takesE_125 : decode cX9_takesE 125 = .ok (.getfield 248, 3) := by decide +kernel
theorem dX9_takesE_128 : decode cX9_takesE 128 = .ok (.bipush (-11), 2) := by decide +kernel
theorem dX9_takesE_130 : decode cX9_takesE 130 = .ok (.iastore, 1) := by decide +kernel
theorem dX9_takesE_131 : decode cX9_takesE 131 = .ok (.aload_n 0, 1) := by decide +kernel
theorem dX9_takesE_132 : decode cX9_takesE 132 = .ok (.dup, 1) := by decide +kernel
theorem dX9_takesE_133 : decode cX9_takesE 133 = .ok (.getfield 248, 3) := by decide +kernel
theorem dX9_takesE_136 : decode cX9_takesE 136 = .ok (.iconst 1, 1) := by decide +kernel
theorem dX9_takesE_137 : decode cX9_takesE 137 = .ok (.iadd, 1) := by decide +kernel
theorem dX9_takesE_138 : decode cX9_takesE 138 = .ok (.putfield 248, 3) := by decide +kernel
theorem dX9_takesE_141 : decode cX9_takesE 141 = .ok (.iinc 1 1, 3) := by decide +kernel
theorem dX9_takesE_144 : decode cX9_takesE 144 = .ok (.aload_n 0, 1) := by decide +kernel
theorem dX9_takesE_145 : decode cX9_takesE 145 = .ok (.getfield 44, 3) := by decide +kernel
theorem dX9_takesE_148 : decode cX9_takesE 148 = .ok (.iload_n 1, 1) := by decide +kernel
theorem dX9_takesE_149 : decode cX9_takesE 149 = .ok (.iconst 0, 1) := by decide +kernel
theorem dX9_takesE_150 : decode cX9_takesE 150 = .ok (.bastore, 1) := by decide +kernel
theorem dX9_takesE_151 : decode cX9_takesE 151 = .ok (.aload_n 0, 1) := by decide +kernel
theorem dX9_takesE_152 : decode cX9_takesE 152 = .ok (.invokevirtual 245, 3) := by decide +kernel
theorem dX9_takesE_155 : decode cX9_takesE 155 = .ok (.goto 17, 3) := by decide +kernel
theorem dX9_takesE_158 : decode cX9_takesE 158 = .ok (.aload_n 0, 1) := by decide +kernel
theorem dX9_takesE_159 : decode cX9_takesE 159 = .ok (.invokevirtual 266, 3) := by decide +kernel
theorem dX9_takesE_162 : decode cX9_takesE 162 = .ok (.ifCond .eq 8, 3) := by decide +kernel
theorem dX9_takesE_165 : decode cX9_takesE 165 = .ok (.iconst 0, 1) := by decide +kernel
theorem dX9_takesE_166 : decode cX9_takesE 166 = .ok (.istore_n 3, 1) := by decide +kernel
theorem dX9_takesE_167 : decode cX9_takesE 167 = .ok (.goto 5, 3) := by decide +kernel
theorem dX9_takesE_170 : decode cX9_takesE 170 = .ok (.iconst 0, 1) := by decide +kernel
theorem dX9_takesE_171 : decode cX9_takesE 171 = .ok (.ireturn, 1) := by decide +kernel
theorem dX9_takesE_172 : decode cX9_takesE 172 = .ok (.aload_n 0, 1) := by decide +kernel
theorem dX9_takesE_173 : decode cX9_takesE 173 = .ok (.invokevirtual 270, 3) := by decide +kernel
theorem dX9_takesE_176 : decode cX9_takesE 176 = .ok (.istore_n 2, 1) := by decide +kernel
theorem dX9_takesE_177 : decode cX9_takesE 177 = .ok (.goto (-149), 3) := by decide +kernel
theorem dX9_takesE_180 : decode cX9_takesE 180 = .ok (.aload_n 0, 1) := by decide +kernel
theorem dX9_takesE_181 : decode cX9_takesE 181 = .ok (.getfield 230, 3) := by decide +kernel
theorem dX9_takesE_184 : decode cX9_takesE 184 = .ok (.iconst 3, 1) := by decide +kernel
theorem dX9_takesE_185 : decode cX9_takesE 185 = .ok (.if_icmp .ne 52, 3) := by decide +kernel
theorem dX9_takesE_188 : decode cX9_takesE 188 = .ok (.aload_n 0, 1) := by decide +kernel
theorem dX9_takesE_189 : decode cX9_takesE 189 = .ok (.getfield 236, 3) := by decide +kernel
theorem dX9_takesE_192 : decode cX9_takesE 192 = .ok (.bipush 41, 2) := by decide +kernel
theorem dX9_takesE_194 : decode cX9_takesE 194 = .ok (.if_icmp .ne 43, 3) := by decide +kernel
theorem dX9_takesE_197 : decode cX9_takesE 197 = .ok (.iload_n 1, 1) := by decide +kernel
theorem dX9_takesE_198 : decode cX9_takesE 198 = .ok (.ifCond .le 39, 3) := by decide +kernel
theorem dX9_takesE_201 : decode cX9_takesE 201 = .ok (.aload_n 0, 1) := by decide +kernel
theorem dX9_takesE_202 : decode cX9_takesE 202 = .ok (.iconst 0, 1) := by decide +kernel
theorem dX9_takesE_203 : decode cX9_takesE 203 = .ok (.invokevirtual 263, 3) := by decide +kernel
theorem dX9_takesE_206 : decode cX9_takesE 206 = .ok (.aload_n 0, 1) := by decide +kernel
theorem dX9_takesE_207 : decode cX9_takesE 207 = .ok (.dup, 1) := by decide +kernel
theorem dX9_takesE_208 : decode cX9_takesE 208 = .ok (.getfield 248, 3) := by decide +kernel
theorem dX9_takesE_211 : decode cX9_takesE 211 = .ok (.iconst 1, 1) := by decide +kernel
theorem dX9_takesE_212 : decode cX9_takesE 212 = .ok (.isub, 1) := by decide +kernel
theorem dX9_takesE_213 : decode cX9_takesE 213 = .ok (.putfield 248, 3) := by decide +kernel
theorem dX9_takesE_216 : decode cX9_takesE 216 = .ok (.iinc 1 (-1), 3) := by decide +kernel
theorem dX9_takesE_219 : decode cX9_takesE 219 = .ok (.aload_n 0, 1) := by decide +kernel
theorem dX9_takesE_220 : decode cX9_takesE 220 = .ok (.bipush 6, 2) := by decide +kernel
theorem dX9_takesE_222 : decode cX9_takesE 222 = .ok (.invokevirtual 263, 3) := by decide +kernel
theorem dX9_takesE_225 : decode cX9_takesE 225 = .ok (.aload_n 0, 1) := by decide +kernel
theorem dX9_takesE_226 : decode cX9_takesE 226 = .ok (.invokevirtual 270, 3) := by decide +kernel
theorem dX9_takesE_229 : decode cX9_takesE 229 = .ok (.istore_n 2, 1) := by decide +kernel
theorem dX9_takesE_230 : decode cX9_takesE 230 = .ok (.aload_n 0, 1) := by decide +kernel
theorem dX9_takesE_231 : decode cX9_takesE 231 = .ok (.invokevirtual 245, 3) := by decide +kernel
theorem dX9_takesE_234 : decode cX9_takesE 234 = .ok (.goto (-206), 3) := by decide +kernel
theorem dX9_takesE_237 : decode cX9_takesE 237 = .ok (.aload_n 0, 1) := by decide +kernel
theorem dX9_takesE_238 : decode cX9_takesE 238 = .ok (.invokevirtual 273, 3) := by decide +kernel
theorem dX9_takesE_241 : decode cX9_takesE 241 = .ok (.istore 4, 2) := by decide +kernel
theorem dX9_takesE_243 : decode cX9_takesE 243 = .ok (.iload 4, 2) := by decide +kernel
theorem dX9_takesE_245 : decode cX9_takesE 245 = .ok (.ifCond .eq 21, 3) := by decide +kernel
theorem dX9_takesE_248 : decode cX9_takesE 248 = .ok (.iload 4, 2) := by decide +kernel
theorem dX9_takesE_250 : decode cX9_takesE 250 = .ok (.invokestatic 251, 3) := by decide +kernel
theorem dX9_takesE_253 : decode cX9_takesE 253 = .ok (.iconst 3, 1) := by decide +kernel
theorem dX9_takesE_254 : decode cX9_takesE 254 = .ok (.if_icmp .ne 14, 3) := by decide +kernel
theorem dX9_takesE_257 : decode cX9_takesE 257 = .ok (.aload_n 0, 1) := by decide +kernel
theorem dX9_takesE_258 : decode cX9_takesE 258 = .ok (.getfield 44, 3) := by decide +kernel
theorem dX9_takesE_261 : decode cX9_takesE 261 = .ok (.iload_n 1, 1) := by decide +kernel
theorem dX9_takesE_262 : decode cX9_takesE 262 = .ok (.baload, 1) := by decide +kernel
theorem dX9_takesE_263 : decode cX9_takesE 263 = .ok (.ifCond .eq 5, 3) := by decide +kernel
theorem dX9_takesE_266 : decode cX9_takesE 266 = .ok (.iconst 0, 1) := by decide +kernel
theorem dX9_takesE_267 : decode cX9_takesE 267 = .ok (.ireturn, 1) := by decide +kernel
theorem dX9_takesE_268 : decode cX9_takesE 268 = .ok (.aload_n 0, 1) := by decide +kernel
theorem dX9_takesE_269 : decode cX9_takesE 269 = .ok (.getfield 44, 3) := by decide +kernel
theorem dX9_takesE_272 : decode cX9_takesE 272 = .ok (.iload_n 1, 1) := by decide +kernel
theorem dX9_takesE_273 : decode cX9_takesE 273 = .ok (.iload 4, 2) := by decide +kernel
theorem dX9_takesE_275 : decode cX9_takesE 275 = .ok (.invokestatic 251, 3) := by decide +kernel
theorem dX9_takesE_278 : decode cX9_takesE 278 = .ok (.iconst 3, 1) := by decide +kernel
theorem dX9_takesE_279 : decode cX9_takesE 279 = .ok (.if_icmp .eq 21, 3) := by decide +kernel
theorem dX9_takesE_282 : decode cX9_takesE 282 = .ok (.iload 4, 2) := by decide +kernel
theorem dX9_takesE_284 : decode cX9_takesE 284 = .ok (.invokestatic 251, 3) := by decide +kernel
theorem dX9_takesE_287 : decode cX9_takesE 287 = .ok (.iconst 3, 1) := by decide +kernel
theorem dX9_takesE_288 : decode cX9_takesE 288 = .ok (.if_icmp .le 16, 3) := by decide +kernel
theorem dX9_takesE_291 : decode cX9_takesE 291 = .ok (.aload_n 0, 1) := by decide +kernel
theorem dX9_takesE_292 : decode cX9_takesE 292 = .ok (.getfield 44, 3) := by decide +kernel
theorem dX9_takesE_295 : decode cX9_takesE 295 = .ok (.iload_n 1, 1) := by decide +kernel
theorem dX9_takesE_296 : decode cX9_takesE 296 = .ok (.baload, 1) := by decide +kernel
theorem dX9_takesE_297 : decode cX9_takesE 297 = .ok (.ifCond .eq 7, 3) := by decide +kernel
theorem dX9_takesE_300 : decode cX9_takesE 300 = .ok (.iconst 1, 1) := by decide +kernel
theorem dX9_takesE_301 : decode cX9_takesE 301 = .ok (.goto 4, 3) := by decide +kernel
theorem dX9_takesE_304 : decode cX9_takesE 304 = .ok (.iconst 0, 1) := by decide +kernel
theorem dX9_takesE_305 : decode cX9_takesE 305 = .ok (.bastore, 1) := by decide +kernel
theorem dX9_takesE_306 : decode cX9_takesE 306 = .ok (.aload_n 0, 1) := by decide +kernel
theorem dX9_takesE_307 : decode cX9_takesE 307 = .ok (.iload 4, 2) := by decide +kernel
theorem dX9_takesE_309 : decode cX9_takesE 309 = .ok (.invokestatic 251, 3) := by decide +kernel
theorem dX9_takesE_312 : decode cX9_takesE 312 = .ok (.invokevirtual 263, 3) := by decide +kernel
theorem dX9_takesE_315 : decode cX9_takesE 315 = .ok (.aload_n 0, 1) := by decide +kernel
theorem dX9_takesE_316 : decode cX9_takesE 316 = .ok (.getfield 41, 3) := by decide +kernel
theorem dX9_takesE_319 : decode cX9_takesE 319 = .ok (.aload_n 0, 1) := by decide +kernel
theorem dX9_takesE_320 : decode cX9_takesE 320 = .ok (.getfield 248, 3) := by decide +kernel
theorem dX9_takesE_323 : decode cX9_takesE 323 = .ok (.iload 4, 2) := by decide +kernel
theorem dX9_takesE_325 : decode cX9_takesE 325 = .ok (.iastore, 1) := by decide +kernel
theorem dX9_takesE_326 : decode cX9_takesE 326 = .ok (.aload_n 0, 1) := by decide +kernel
theorem dX9_takesE_327 : decode cX9_takesE 327 = .ok (.dup, 1) := by decide +kernel
theorem dX9_takesE_328 : decode cX9_takesE 328 = .ok (.getfield 248, 3) := by decide +kernel
theorem dX9_takesE_331 : decode cX9_takesE 331 = .ok (.iconst 1, 1) := by decide +kernel
theorem dX9_takesE_332 : decode cX9_takesE 332 = .ok (.iadd, 1) := by decide +kernel
theorem dX9_takesE_333 : decode cX9_takesE 333 = .ok (.putfield 248, 3) := by decide +kernel
theorem dX9_takesE_336 : decode cX9_takesE 336 = .ok (.iconst 1, 1) := by decide +kernel
theorem dX9_takesE_337 : decode cX9_takesE 337 = .ok (.istore_n 3, 1) := by decide +kernel
theorem dX9_takesE_338 : decode cX9_takesE 338 = .ok (.aload_n 0, 1) := by decide +kernel
theorem dX9_takesE_339 : decode cX9_takesE 339 = .ok (.invokevirtual 245, 3) := by decide +kernel
theorem dX9_takesE_342 : decode cX9_takesE 342 = .ok (.goto (-314), 3) := by decide +kernel
theorem dX9_takesE_345 : decode cX9_takesE 345 = .ok (.aload_n 0, 1) := by decide +kernel
theorem dX9_takesE_346 : decode cX9_takesE 346 = .ok (.iconst 0, 1) := by decide +kernel
theorem dX9_takesE_347 : decode cX9_takesE 347 = .ok (.invokevirtual 263, 3) := by decide +kernel
theorem dX9_takesE_350 : decode cX9_takesE 350 = .ok (.iload_n 1, 1) := by decide +kernel
theorem dX9_takesE_351 : decode cX9_takesE 351 = .ok (.ifCond .ne 7, 3) := by decide +kernel
theorem dX9_takesE_354 : decode cX9_takesE 354 = .ok (.iconst 1, 1) := by decide +kernel
theorem dX9_takesE_355 : decode cX9_takesE 355 = .ok (.goto 4, 3) := by decide +kernel
theorem dX9_takesE_358 : decode cX9_takesE 358 = .ok (.iconst 0, 1) := by decide +kernel
theorem dX9_takesE_359 : decode cX9_takesE 359 = .ok (.ireturn, 1) := by decide +kernel
theorem dX9_notsOpen_0 : decode cX9_notsOpen 0 = .ok (.iconst 0, 1) := by decide +kernel
theorem dX9_notsOpen_1 : decode cX9_notsOpen 1 = .ok (.istore_n 1, 1) := by decide +kernel
theorem dX9_notsOpen_2 : decode cX9_notsOpen 2 = .ok (.iconst 0, 1) := by decide +kernel
theorem dX9_notsOpen_3 : decode cX9_notsOpen 3 = .ok (.istore_n 2, 1) := by decide +kernel
theorem dX9_notsOpen_4 : decode cX9_notsOpen 4 = .ok (.iload_n 2, 1) := by decide +kernel
theorem dX9_notsOpen_5 : decode cX9_notsOpen 5 = .ok (.aload_n 0, 1) := by decide +kernel
theorem dX9_notsOpen_6 : decode cX9_notsOpen 6 = .ok (.getfield 248, 3) := by decide +kernel
theorem dX9_notsOpen_9 : decode cX9_notsOpen 9 = .ok (.if_icmp .ge 28, 3) := by decide +kernel
theorem dX9_notsOpen_12 : decode cX9_notsOpen 12 = .ok (.iload_n 1, 1) := by decide +kernel
theorem dX9_notsOpen_13 : decode cX9_notsOpen 13 = .ok (.aload_n 0, 1) := by decide +kernel
theorem dX9_notsOpen_14 : decode cX9_notsOpen 14 = .ok (.getfield 41, 3) := by decide +kernel
theorem dX9_notsOpen_17 : decode cX9_notsOpen 17 = .ok (.iload_n 2, 1) := by decide +kernel
theorem dX9_notsOpen_18 : decode cX9_notsOpen 18 = .ok (.iaload, 1) := by decide +kernel
theorem dX9_notsOpen_19 : decode cX9_notsOpen 19 = .ok (.bipush (-10), 2) := by decide +kernel
theorem dX9_notsOpen_21 : decode cX9_notsOpen 21 = .ok (.if_icmp .ne 7, 3) := by decide +kernel
theorem dX9_notsOpen_24 : decode cX9_notsOpen 24 = .ok (.iconst 1, 1) := by decide +kernel
theorem dX9_notsOpen_25 : decode cX9_notsOpen 25 = .ok (.goto 4, 3) := by decide +kernel
theorem dX9_notsOpen_28 : decode cX9_notsOpen 28 = .ok (.iconst 0, 1) := by decide +kernel
theorem dX9_notsOpen_29 : decode cX9_notsOpen 29 = .ok (.iadd, 1) := by decide +kernel
theorem dX9_notsOpen_30 : decode cX9_notsOpen 30 = .ok (.istore_n 1, 1) := by decide +kernel
theorem dX9_notsOpen_31 : decode cX9_notsOpen 31 = .ok (.iinc 2 1, 3) := by decide +kernel
theorem dX9_notsOpen_34 : decode cX9_notsOpen 34 = .ok (.goto (-30), 3) := by decide +kernel
theorem dX9_notsOpen_37 : decode cX9_notsOpen 37 = .ok (.iload_n 1, 1) := by decide +kernel
theorem dX9_notsOpen_38 : decode cX9_notsOpen 38 = .ok (.ireturn, 1) := by decide +kernel
theorem dX9_text_0 : decode cX9_text 0 = .ok (.aload_n 0, 1) := by decide +kernel
theorem dX9_text_1 : decode cX9_text 1 = .ok (.iconst 0, 1) := by decide +kernel
theorem dX9_text_2 : decode cX9_text 2 = .ok (.putfield 221, 3) := by decide +kernel
theorem dX9_text_5 : decode cX9_text 5 = .ok (.aload_n 0, 1) := by decide +kernel
theorem dX9_text_6 : decode cX9_text 6 = .ok (.iconst (-1), 1) := by decide +kernel
theorem dX9_text_7 : decode cX9_text 7 = .ok (.putfield 227, 3) := by decide +kernel
theorem dX9_text_10 : decode cX9_text 10 = .ok (.aload_n 0, 1) := by decide +kernel
theorem dX9_text_11 : decode cX9_text 11 = .ok (.invokevirtual 245, 3) := by decide +kernel
theorem dX9_text_14 : decode cX9_text 14 = .ok (.aload_n 0, 1) := by decide +kernel
theorem dX9_text_15 : decode cX9_text 15 = .ok (.invokevirtual 276, 3) := by decide +kernel
theorem dX9_text_18 : decode cX9_text 18 = .ok (.ifCond .eq 14, 3) := by decide +kernel
theorem dX9_text_21 : decode cX9_text 21 = .ok (.aload_n 0, 1) := by decide +kernel
theorem dX9_text_22 : decode cX9_text 22 = .ok (.invokevirtual 279, 3) := by decide +kernel
theorem dX9_text_25 : decode cX9_text 25 = .ok (.ifCond .eq 7, 3) := by decide +kernel
theorem dX9_text_28 : decode cX9_text 28 = .ok (.iconst 1, 1) := by decide +kernel
theorem dX9_text_29 : decode cX9_text 29 = .ok (.goto 4, 3) := by decide +kernel
theorem dX9_text_32 : decode cX9_text 32 = .ok (.iconst 0, 1) := by decide +kernel
theorem dX9_text_33 : decode cX9_text 33 = .ok (.istore_n 1, 1) := by decide +kernel
theorem dX9_text_34 : decode cX9_text 34 = .ok (.aload_n 0, 1) := by decide +kernel
theorem dX9_text_35 : decode cX9_text 35 = .ok (.iconst 0, 1) := by decide +kernel
theorem dX9_text_36 : decode cX9_text 36 = .ok (.putfield 218, 3) := by decide +kernel
theorem dX9_text_39 : decode cX9_text 39 = .ok (.iload_n 1, 1) := by decide +kernel
theorem dX9_text_40 : decode cX9_text 40 = .ok (.ifCond .ne 11, 3) := by decide +kernel
theorem dX9_text_43 : decode cX9_text 43 = .ok (.bipush (-100), 2) := by decide +kernel
theorem dX9_text_45 : decode cX9_text 45 = .ok (.aload_n 0, 1) := by decide +kernel
theorem dX9_text_46 : decode cX9_text 46 = .ok (.getfield 224, 3) := by decide +kernel
theorem dX9_text_49 : decode cX9_text 49 = .ok (.isub, 1) := by decide +kernel
theorem dX9_text_50 : decode cX9_text 50 = .ok (.ireturn, 1) := by decide +kernel
theorem dX9_text_51 : decode cX9_text 51 = .ok (.aload_n 0, 1) := by decide +kernel
theorem dX9_text_52 : decode cX9_text 52 = .ok (.getfield 9, 3) := by decide +kernel
theorem dX9_text_55 : decode cX9_text 55 = .ok (.bipush 6, 2) := by decide +kernel
theorem dX9_text_57 : decode cX9_text 57 = .ok (.iaload, 1) := by decide +kernel
theorem dX9_text_58 : decode cX9_text 58 = .ok (.bipush 14, 2) := by decide +kernel
theorem dX9_text_60 : decode cX9_text 60 = .ok (.if_icmp .ne 6, 3) := by decide +kernel
theorem dX9_text_63 : decode cX9_text 63 = .ok (.ldc 122, 2) := by decide +kernel
theorem dX9_text_65 : decode cX9_text 65 = .ok (.ireturn, 1) := by decide +kernel
theorem dX9_text_66 : decode cX9_text 66 = .ok (.aload_n 0, 1) := by decide +kernel
theorem dX9_text_67 : decode cX9_text 67 = .ok (.getfield 9, 3) := by decide +kernel
theorem dX9_text_70 : decode cX9_text 70 = .ok (.bipush 6, 2) := by decide +kernel
theorem dX9_text_72 : decode cX9_text 72 = .ok (.iaload, 1) := by decide +kernel
theorem dX9_text_73 : decode cX9_text 73 = .ok (.istore_n 2, 1) := by decide +kernel
theorem dX9_text_74 : decode cX9_text 74 = .ok (.aload_n 0, 1) := by decide +kernel
theorem dX9_text_75 : decode cX9_text 75 = .ok (.getfield 9, 3) := by decide +kernel
theorem dX9_text_78 : decode cX9_text 78 = .ok (.bipush 61, 2) := by decide +kernel
theorem dX9_text_80 : decode cX9_text 80 = .ok (.iconst 2, 1) := by decide +kernel
theorem dX9_text_81 : decode cX9_text 81 = .ok (.iload_n 2, 1) := by decide +kernel
theorem dX9_text_82 : decode cX9_text 82 = .ok (.imul, 1) := by decide +kernel
theorem dX9_text_83 : decode cX9_text 83 = .ok (.iadd, 1) := by decide +kernel
theorem dX9_text_84 : decode cX9_text 84 = .ok (.sipush 1000, 3) := by decide +kernel
theorem dX9_text_87 : decode cX9_text 87 = .ok (.aload_n 0, 1) := by decide +kernel
theorem dX9_text_88 : decode cX9_text 88 = .ok (.getfield 242, 3) := by decide +kernel
theorem dX9_text_91 : decode cX9_text 91 = .ok (.imul, 1) := by decide +kernel
theorem dX9_text_92 : decode cX9_text 92 = .ok (.aload_n 0, 1) := by decide +kernel
theorem dX9_text_93 : decode cX9_text 93 = .ok (.getfield 254, 3) := by decide +kernel
theorem dX9_text_96 : decode cX9_text 96 = .ok (.iadd, 1) := by decide +kernel
theorem dX9_text_97 : decode cX9_text 97 = .ok (.iastore, 1) := by decide +kernel
theorem dX9_text_98 : decode cX9_text 98 = .ok (.aload_n 0, 1) := by decide +kernel
theorem dX9_text_99 : decode cX9_text 99 = .ok (.getfield 9, 3) := by decide +kernel
theorem dX9_text_102 : decode cX9_text 102 = .ok (.bipush 61, 2) := by decide +kernel
theorem dX9_text_104 : decode cX9_text 104 = .ok (.iconst 2, 1) := by decide +kernel
theorem dX9_text_105 : decode cX9_text 105 = .ok (.iload_n 2, 1) := by decide +kernel
theorem dX9_text_106 : decode cX9_text 106 = .ok (.imul, 1) := by decide +kernel
theorem dX9_text_107 : decode cX9_text 107 = .ok (.iadd, 1) := by decide +kernel
theorem dX9_text_108 : decode cX9_text 108 = .ok (.iconst 1, 1) := by decide +kernel
theorem dX9_text_109 : decode cX9_text 109 = .ok (.iadd, 1) := by decide +kernel
theorem dX9_text_110 : decode cX9_text 110 = .ok (.aload_n 0, 1) := by decide +kernel
theorem dX9_text_111 : decode cX9_text 111 = .ok (.getfield 260, 3) := by decide +kernel
theorem dX9_text_114 : decode cX9_text 114 = .ok (.iastore, 1) := by decide +kernel
theorem dX9_text_115 : decode cX9_text 115 = .ok (.iconst 0, 1) := by decide +kernel
theorem dX9_text_116 : decode cX9_text 116 = .ok (.istore_n 3, 1) := by decide +kernel
theorem dX9_text_117 : decode cX9_text 117 = .ok (.iload_n 3, 1) := by decide +kernel
theorem dX9_text_118 : decode cX9_text 118 = .ok (.aload_n 0, 1) := by decide +kernel
theorem dX9_text_119 : decode cX9_text 119 = .ok (.getfield 254, 3) := by decide +kernel
theorem dX9_text_122 : decode cX9_text 122 = .ok (.if_icmp .ge 29, 3) := by decide +kernel
theorem dX9_text_125 : decode cX9_text 125 = .ok (.aload_n 0, 1) := by decide +kernel
theorem dX9_text_126 : decode cX9_text 126 = .ok (.getfield 9, 3) := by decide +kernel
theorem dX9_text_129 : decode cX9_text 129 = .ok (.bipush 89, 2) := by decide +kernel
theorem dX9_text_131 : decode cX9_text 131 = .ok (.bipush 96, 2) := by decide +kernel
theorem dX9_text_133 : decode cX9_text 133 = .ok (.iload_n 2, 1) := by decide +kernel
theorem dX9_text_134 : decode cX9_text 134 = .ok (.imul, 1) := by decide +kernel
theorem dX9_text_135 : decode cX9_text 135 = .ok (.iadd, 1) := by decide +kernel
theorem dX9_text_136 : decode cX9_text 136 = .ok (.iload_n 3, 1) := by decide +kernel
theorem dX9_text_137 : decode cX9_text 137 = .ok (.iadd, 1) := by decide +kernel
theorem dX9_text_138 : decode cX9_text 138 = .ok (.aload_n 0, 1) := by decide +kernel
theorem dX9_text_139 : decode cX9_text 139 = .ok (.getfield 38, 3) := by decide +kernel
theorem dX9_text_142 : decode cX9_text 142 = .ok (.iload_n 3, 1) := by decide +kernel
theorem dX9_text_143 : decode cX9_text 143 = .ok (.iaload, 1) := by decide +kernel
theorem dX9_text_144 : decode cX9_text 144 = .ok (.iastore, 1) := by decide +kernel
theorem dX9_text_145 : decode cX9_text 145 = .ok (.iinc 3 1, 3) := by decide +kernel
theorem dX9_text_148 : decode cX9_text 148 = .ok (.goto (-31), 3) := by decide +kernel
theorem dX9_text_151 : decode cX9_text 151 = .ok (.aload_n 0, 1) := by decide +kernel
theorem dX9_text_152 : decode cX9_text 152 = .ok (.getfield 9, 3) := by decide +kernel
theorem dX9_text_155 : decode cX9_text 155 = .ok (.bipush 6, 2) := by decide +kernel
theorem dX9_text_157 : decode cX9_text 157 = .ok (.dup2, 1) := by decide +kernel
theorem dX9_text_158 : decode cX9_text 158 = .ok (.iaload, 1) := by decide +kernel
theorem dX9_text_159 : decode cX9_text 159 = .ok (.iconst 1, 1) := by decide +kernel
theorem dX9_text_160 : decode cX9_text 160 = .ok (.iadd, 1) := by decide +kernel
theorem dX9_text_161 : decode cX9_text 161 = .ok (.iastore, 1) := by decide +kernel
theorem dX9_text_162 : decode cX9_text 162 = .ok (.iload_n 2, 1) := by decide +kernel
theorem dX9_text_163 : decode cX9_text 163 = .ok (.ireturn, 1) := by decide +kernel
theorem dX9_textTold_0 : decode cX9_textTold 0 = .ok (.iload_n 1, 1) := by decide +kernel
theorem dX9_textTold_1 : decode cX9_textTold 1 = .ok (.iconst 0, 1) := by decide +kernel
theorem dX9_textTold_2 : decode cX9_textTold 2 = .ok (.aload_n 0, 1) := by decide +kernel
theorem dX9_textTold_3 : decode cX9_textTold 3 = .ok (.getfield 9, 3) := by decide +kernel
theorem dX9_textTold_6 : decode cX9_textTold 6 = .ok (.bipush 6, 2) := by decide +kernel
theorem dX9_textTold_8 : decode cX9_textTold 8 = .ok (.iaload, 1) := by decide +kernel
theorem dX9_textTold_9 : decode cX9_textTold 9 = .ok (.iconst 1, 1) := by decide +kernel
theorem dX9_textTold_10 : decode cX9_textTold 10 = .ok (.isub, 1) := by decide +kernel
theorem dX9_textTold_11 : decode cX9_textTold 11 = .ok (.invokestatic 81, 3) := by decide +kernel
theorem dX9_textTold_14 : decode cX9_textTold 14 = .ok (.ifCond .eq 12, 3) := by decide +kernel
theorem dX9_textTold_17 : decode cX9_textTold 17 = .ok (.iload_n 2, 1) := by decide +kernel
theorem dX9_textTold_18 : decode cX9_textTold 18 = .ok (.iconst 0, 1) := by decide +kernel
theorem dX9_textTold_19 : decode cX9_textTold 19 = .ok (.iconst 1, 1) := by decide +kernel
theorem dX9_textTold_20 : decode cX9_textTold 20 = .ok (.invokestatic 81, 3) := by decide +kernel
theorem dX9_textTold_23 : decode cX9_textTold 23 = .ok (.ifCond .ne 6, 3) := by decide +kernel
theorem dX9_textTold_26 : decode cX9_textTold 26 = .ok (.ldc 121, 2) := by decide +kernel
theorem dX9_textTold_28 : decode cX9_textTold 28 = .ok (.ireturn, 1) := by decide +kernel
theorem dX9_textTold_29 : decode cX9_textTold 29 = .ok (.iload_n 2, 1) := by decide +kernel
theorem dX9_textTold_30 : decode cX9_textTold 30 = .ok (.ifCond .ne 21, 3) := by decide +kernel
theorem dX9_textTold_33 : decode cX9_textTold 33 = .ok (.aload_n 0, 1) := by decide +kernel
theorem dX9_textTold_34 : decode cX9_textTold 34 = .ok (.getfield 9, 3) := by decide +kernel
theorem dX9_textTold_37 : decode cX9_textTold 37 = .ok (.bipush 61, 2) := by decide +kernel
theorem dX9_textTold_39 : decode cX9_textTold 39 = .ok (.iconst 2, 1) := by decide +kernel
theorem dX9_textTold_40 : decode cX9_textTold 40 = .ok (.iload_n 1, 1) := by decide +kernel
theorem dX9_textTold_41 : decode cX9_textTold 41 = .ok (.imul, 1) := by decide +kernel
theorem dX9_textTold_42 : decode cX9_textTold 42 = .ok (.iadd, 1) := by decide +kernel
theorem dX9_textTold_43 : decode cX9_textTold 43 = .ok (.iaload, 1) := by decide +kernel
theorem dX9_textTold_44 : decode cX9_textTold 44 = .ok (.sipush 1000, 3) := by decide +kernel
theorem dX9_textTold_47 : decode cX9_textTold 47 = .ok (.idiv, 1) := by decide +kernel
theorem dX9_textTold_48 : decode cX9_textTold 48 = .ok (.goto 16, 3) := by decide +kernel
theorem dX9_textTold_51 : decode cX9_textTold 51 = .ok (.aload_n 0, 1) := by decide +kernel
theorem dX9_textTold_52 : decode cX9_textTold 52 = .ok (.getfield 9, 3) := by decide +kernel
theorem dX9_textTold_55 : decode cX9_textTold 55 = .ok (.bipush 61, 2) := by decide +kernel
theorem dX9_textTold_57 : decode cX9_textTold 57 = .ok (.iconst 2, 1) := by decide +kernel
theorem dX9_textTold_58 : decode cX9_textTold 58 = .ok (.iload_n 1, 1) := by decide +kernel
theorem dX9_textTold_59 : decode cX9_textTold 59 = .ok (.imul, 1) := by decide +kernel
theorem dX9_textTold_60 : decode cX9_textTold 60 = .ok (.iadd, 1) := by decide +kernel
theorem dX9_textTold_61 : decode cX9_textTold 61 = .ok (.iconst 1, 1) := by decide +kernel
theorem dX9_textTold_62 : decode cX9_textTold 62 = .ok (.iadd, 1) := by decide +kernel
theorem dX9_textTold_63 : decode cX9_textTold 63 = .ok (.iaload, 1) := by decide +kernel
theorem dX9_textTold_64 : decode cX9_textTold 64 = .ok (.ireturn, 1) := by decide +kernel
theorem dX9_counts_0 : decode cX9_counts 0 = .ok (.aload_n 0, 1) := by decide +kernel
theorem dX9_counts_1 : decode cX9_counts 1 = .ok (.getfield 9, 3) := by decide +kernel
theorem dX9_counts_4 : decode cX9_counts 4 = .ok (.bipush 6, 2) := by decide +kernel
theorem dX9_counts_6 : decode cX9_counts 6 = .ok (.iaload, 1) := by decide +kernel
theorem dX9_counts_7 : decode cX9_counts 7 = .ok (.iconst 1, 1) := by decide +kernel
theorem dX9_counts_8 : decode cX9_counts 8 = .ok (.isub, 1) := by decide +kernel
theorem dX9_counts_9 : decode cX9_counts 9 = .ok (.istore_n 2, 1) := by decide +kernel
theorem dX9_counts_10 : decode cX9_counts 10 = .ok (.iload_n 2, 1) := by decide +kernel
theorem dX9_counts_11 : decode cX9_counts 11 = .ok (.ifCond .lt 30, 3) := by decide +kernel
theorem dX9_counts_14 : decode cX9_counts 14 = .ok (.aload_n 0, 1) := by decide +kernel
theorem dX9_counts_15 : decode cX9_counts 15 = .ok (.getfield 9, 3) := by decide +kernel
theorem dX9_counts_18 : decode cX9_counts 18 = .ok (.bipush 61, 2) := by decide +kernel
theorem dX9_counts_20 : decode cX9_counts 20 = .ok (.iconst 2, 1) := by decide +kernel
theorem dX9_counts_21 : decode cX9_counts 21 = .ok (.iload_n 2, 1) := by decide +kernel
theorem dX9_counts_22 : decode cX9_counts 22 = .ok (.imul, 1) := by decide +kernel
theorem dX9_counts_23 : decode cX9_counts 23 = .ok (.iadd, 1) := by decide +kernel
theorem dX9_counts_24 : decode cX9_counts 24 = .ok (.iaload, 1) := by decide +kernel
theorem dX9_counts_25 : decode cX9_counts 25 = .ok (.sipush 1000, 3) := by decide +kernel
theorem dX9_counts_28 : decode cX9_counts 28 = .ok (.idiv, 1) := by decide +kernel
theorem dX9_counts_29 : decode cX9_counts 29 = .ok (.iload_n 1, 1) := by decide +kernel
theorem dX9_counts_30 : decode cX9_counts 30 = .ok (.if_icmp .ne 5, 3) := by decide +kernel
theorem dX9_counts_33 : decode cX9_counts 33 = .ok (.iload_n 2, 1) := by decide +kernel
theorem dX9_counts_34 : decode cX9_counts 34 = .ok (.ireturn, 1) := by decide +kernel
theorem dX9_counts_35 : decode cX9_counts 35 = .ok (.iinc 2 (-1), 3) := by decide +kernel
theorem dX9_counts_38 : decode cX9_counts 38 = .ok (.goto (-28), 3) := by decide +kernel
theorem dX9_counts_41 : decode cX9_counts 41 = .ok (.iconst (-1), 1) := by decide +kernel
theorem dX9_counts_42 : decode cX9_counts 42 = .ok (.ireturn, 1) := by decide +kernel
theorem dX9_why_0 : decode cX9_why 0 = .ok (.iload_n 1, 1) := by decide +kernel
theorem dX9_why_1 : decode cX9_why 1 = .ok (.iconst 0, 1) := by decide +kernel
theorem dX9_why_2 : decode cX9_why 2 = .ok (.iconst 2, 1) := by decide +kernel
theorem dX9_why_3 : decode cX9_why 3 = .ok (.invokestatic 81, 3) := by decide +kernel
theorem dX9_why_6 : decode cX9_why 6 = .ok (.ifCond .ne 6, 3) := by decide +kernel
theorem dX9_why_9 : decode cX9_why 9 = .ok (.ldc 121, 2) := by decide +kernel
theorem dX9_why_11 : decode cX9_why 11 = .ok (.ireturn, 1) := by decide +kernel
theorem dX9_why_12 : decode cX9_why 12 = .ok (.aload_n 0, 1) := by decide +kernel
theorem dX9_why_13 : decode cX9_why 13 = .ok (.iload_n 1, 1) := by decide +kernel
theorem dX9_why_14 : decode cX9_why 14 = .ok (.invokevirtual 93, 3) := by decide +kernel
theorem dX9_why_17 : decode cX9_why 17 = .ok (.istore_n 2, 1) := by decide +kernel
theorem dX9_why_18 : decode cX9_why 18 = .ok (.iload_n 2, 1) := by decide +kernel
theorem dX9_why_19 : decode cX9_why 19 = .ok (.ifCond .ge 8, 3) := by decide +kernel
theorem dX9_why_22 : decode cX9_why 22 = .ok (.ldc 180, 2) := by decide +kernel
theorem dX9_why_24 : decode cX9_why 24 = .ok (.goto 4, 3) := by decide +kernel
theorem dX9_why_27 : decode cX9_why 27 = .ok (.iload_n 2, 1) := by decide +kernel
theorem dX9_why_28 : decode cX9_why 28 = .ok (.ireturn, 1) := by decide +kernel
theorem dX9_two_0 : decode cX9_two 0 = .ok (.iload_n 0, 1) := by decide +kernel
theorem dX9_two_1 : decode cX9_two 1 = .ok (.tableswitch 120 (-8) (-1) #[116, 112, 108, 97, 86, 75, 61, 47], 47) := by decide +kernel
theorem dX9_two_48 : decode cX9_two 48 = .ok (.iload_n 1, 1) := by decide +kernel
theorem dX9_two_49 : decode cX9_two 49 = .ok (.ifCond .ne 7, 3) := by decide +kernel
theorem dX9_two_52 : decode cX9_two 52 = .ok (.iload_n 2, 1) := by decide +kernel
theorem dX9_two_53 : decode cX9_two 53 = .ok (.ifCond .eq 7, 3) := by decide +kernel
theorem dX9_two_56 : decode cX9_two 56 = .ok (.iconst 1, 1) := by decide +kernel
theorem dX9_two_57 : decode cX9_two 57 = .ok (.goto 4, 3) := by decide +kernel
theorem dX9_two_60 : decode cX9_two 60 = .ok (.iconst 0, 1) := by decide +kernel
theorem dX9_two_61 : decode cX9_two 61 = .ok (.ireturn, 1) := by decide +kernel
theorem dX9_two_62 : decode cX9_two 62 = .ok (.iload_n 1, 1) := by decide +kernel
theorem dX9_two_63 : decode cX9_two 63 = .ok (.ifCond .eq 11, 3) := by decide +kernel
theorem dX9_two_66 : decode cX9_two 66 = .ok (.iload_n 2, 1) := by decide +kernel
theorem dX9_two_67 : decode cX9_two 67 = .ok (.ifCond .eq 7, 3) := by decide +kernel
theorem dX9_two_70 : decode cX9_two 70 = .ok (.iconst 1, 1) := by decide +kernel
theorem dX9_two_71 : decode cX9_two 71 = .ok (.goto 4, 3) := by decide +kernel
theorem dX9_two_74 : decode cX9_two 74 = .ok (.iconst 0, 1) := by decide +kernel
theorem dX9_two_75 : decode cX9_two 75 = .ok (.ireturn, 1) := by decide +kernel
theorem dX9_two_76 : decode cX9_two 76 = .ok (.iload_n 1, 1) := by decide +kernel
theorem dX9_two_77 : decode cX9_two 77 = .ok (.iload_n 2, 1) := by decide +kernel
theorem dX9_two_78 : decode cX9_two 78 = .ok (.if_icmp .ge 7, 3) := by decide +kernel
theorem dX9_two_81 : decode cX9_two 81 = .ok (.iconst 1, 1) := by decide +kernel
theorem dX9_two_82 : decode cX9_two 82 = .ok (.goto 4, 3) := by decide +kernel
theorem dX9_two_85 : decode cX9_two 85 = .ok (.iconst 0, 1) := by decide +kernel
theorem dX9_two_86 : decode cX9_two 86 = .ok (.ireturn, 1) := by decide +kernel
theorem dX9_two_87 : decode cX9_two 87 = .ok (.iload_n 1, 1) := by decide +kernel
theorem dX9_two_88 : decode cX9_two 88 = .ok (.iload_n 2, 1) := by decide +kernel
theorem dX9_two_89 : decode cX9_two 89 = .ok (.if_icmp .ne 7, 3) := by decide +kernel
theorem dX9_two_92 : decode cX9_two 92 = .ok (.iconst 1, 1) := by decide +kernel
theorem dX9_two_93 : decode cX9_two 93 = .ok (.goto 4, 3) := by decide +kernel
theorem dX9_two_96 : decode cX9_two 96 = .ok (.iconst 0, 1) := by decide +kernel
theorem dX9_two_97 : decode cX9_two 97 = .ok (.ireturn, 1) := by decide +kernel
theorem dX9_two_98 : decode cX9_two 98 = .ok (.iload_n 1, 1) := by decide +kernel
theorem dX9_two_99 : decode cX9_two 99 = .ok (.iload_n 2, 1) := by decide +kernel
theorem dX9_two_100 : decode cX9_two 100 = .ok (.if_icmp .le 7, 3) := by decide +kernel
theorem dX9_two_103 : decode cX9_two 103 = .ok (.iconst 1, 1) := by decide +kernel
theorem dX9_two_104 : decode cX9_two 104 = .ok (.goto 4, 3) := by decide +kernel
theorem dX9_two_107 : decode cX9_two 107 = .ok (.iconst 0, 1) := by decide +kernel
theorem dX9_two_108 : decode cX9_two 108 = .ok (.ireturn, 1) := by decide +kernel
theorem dX9_two_109 : decode cX9_two 109 = .ok (.iload_n 1, 1) := by decide +kernel
theorem dX9_two_110 : decode cX9_two 110 = .ok (.iload_n 2, 1) := by decide +kernel
theorem dX9_two_111 : decode cX9_two 111 = .ok (.iadd, 1) := by decide +kernel
theorem dX9_two_112 : decode cX9_two 112 = .ok (.ireturn, 1) := by decide +kernel
theorem dX9_two_113 : decode cX9_two 113 = .ok (.iload_n 1, 1) := by decide +kernel
theorem dX9_two_114 : decode cX9_two 114 = .ok (.iload_n 2, 1) := by decide +kernel
theorem dX9_two_115 : decode cX9_two 115 = .ok (.isub, 1) := by decide +kernel
theorem dX9_two_116 : decode cX9_two 116 = .ok (.ireturn, 1) := by decide +kernel
theorem dX9_two_117 : decode cX9_two 117 = .ok (.iload_n 1, 1) := by decide +kernel
theorem dX9_two_118 : decode cX9_two 118 = .ok (.iload_n 2, 1) := by decide +kernel
theorem dX9_two_119 : decode cX9_two 119 = .ok (.imul, 1) := by decide +kernel
theorem dX9_two_120 : decode cX9_two 120 = .ok (.ireturn, 1) := by decide +kernel
theorem dX9_two_121 : decode cX9_two 121 = .ok (.iload_n 2, 1) := by decide +kernel
theorem dX9_two_122 : decode cX9_two 122 = .ok (.ifCond .ne 7, 3) := by decide +kernel
theorem dX9_two_125 : decode cX9_two 125 = .ok (.iconst 0, 1) := by decide +kernel
theorem dX9_two_126 : decode cX9_two 126 = .ok (.goto 6, 3) := by decide +kernel
theorem dX9_two_129 : decode cX9_two 129 = .ok (.iload_n 1, 1) := by decide +kernel
theorem dX9_two_130 : decode cX9_two 130 = .ok (.iload_n 2, 1) := by decide +kernel
theorem dX9_two_131 : decode cX9_two 131 = .ok (.idiv, 1) := by decide +kernel
theorem dX9_two_132 : decode cX9_two 132 = .ok (.ireturn, 1) := by decide +kernel
theorem dX9_worksOut_0 : decode cX9_worksOut 0 = .ok (.iconst 0, 1) := by decide +kernel
theorem dX9_worksOut_1 : decode cX9_worksOut 1 = .ok (.istore_n 2, 1) := by decide +kernel
theorem dX9_worksOut_2 : decode cX9_worksOut 2 = .ok (.aload_n 0, 1) := by decide +kernel
theorem dX9_worksOut_3 : decode cX9_worksOut 3 = .ok (.getfield 9, 3) := by decide +kernel
theorem dX9_worksOut_6 : decode cX9_worksOut 6 = .ok (.bipush 61, 2) := by decide +kernel
theorem dX9_worksOut_8 : decode cX9_worksOut 8 = .ok (.iconst 2, 1) := by decide +kernel
theorem dX9_worksOut_9 : decode cX9_worksOut 9 = .ok (.iload_n 1, 1) := by decide +kernel
theorem dX9_worksOut_10 : decode cX9_worksOut 10 = .ok (.imul, 1) := by decide +kernel
theorem dX9_worksOut_11 : decode cX9_worksOut 11 = .ok (.iadd, 1) := by decide +kernel
theorem dX9_worksOut_12 : decode cX9_worksOut 12 = .ok (.iaload, 1) := by decide +kernel
theorem dX9_worksOut_13 : decode cX9_worksOut 13 = .ok (.sipush 1000, 3) := by decide +kernel
theorem dX9_worksOut_16 : decode cX9_worksOut 16 = .ok (.irem, 1) := by decide +kernel
theorem dX9_worksOut_17 : decode cX9_worksOut 17 = .ok (.istore_n 3, 1) := by decide +kernel
theorem dX9_worksOut_18 : decode cX9_worksOut 18 = .ok (.iconst 0, 1) := by decide +kernel
theorem dX9_worksOut_19 : decode cX9_worksOut 19 = .ok (.istore 4, 2) := by decide +kernel
theorem dX9_worksOut_21 : decode cX9_worksOut 21 = .ok (.iload 4, 2) := by decide +kernel
theorem dX9_worksOut_23 : decode cX9_worksOut 23 = .ok (.iload_n 3, 1) := by decide +kernel
theorem dX9_worksOut_24 : decode cX9_worksOut 24 = .ok (.if_icmp .ge 131, 3) := by decide +kernel
theorem dX9_worksOut_27 : decode cX9_worksOut 27 = .ok (.aload_n 0, 1) := by decide +kernel
theorem dX9_worksOut_28 : decode cX9_worksOut 28 = .ok (.getfield 9, 3) := by decide +kernel
theorem dX9_worksOut_31 : decode cX9_worksOut 31 = .ok (.bipush 89, 2) := by decide +kernel
theorem dX9_worksOut_33 : decode cX9_worksOut 33 = .ok (.bipush 96, 2) := by decide +kernel
theorem dX9_worksOut_35 : decode cX9_worksOut 35 = .ok (.iload_n 1, 1) := by decide +kernel
theorem dX9_worksOut_36 : decode cX9_worksOut 36 = .ok (.imul, 1) := by decide +kernel
theorem dX9_worksOut_37 : decode cX9_worksOut 37 = .ok (.iadd, 1) := by decide +kernel
theorem dX9_worksOut_38 : decode cX9_worksOut 38 = .ok (.iload 4, 2) := by decide +kernel
theorem dX9_worksOut_40 : decode cX9_worksOut 40 = .ok (.iadd, 1) := by decide +kernel
theorem dX9_worksOut_41 : decode cX9_worksOut 41 = .ok (.iaload, 1) := by decide +kernel
theorem dX9_worksOut_42 : decode cX9_worksOut 42 = .ok (.istore 5, 2) := by decide +kernel
theorem dX9_worksOut_44 : decode cX9_worksOut 44 = .ok (.iload 5, 2) := by decide +kernel
theorem dX9_worksOut_46 : decode cX9_worksOut 46 = .ok (.ifCond .lt 39, 3) := by decide +kernel
theorem dX9_worksOut_49 : decode cX9_worksOut 49 = .ok (.aload_n 0, 1) := by decide +kernel
theorem dX9_worksOut_50 : decode cX9_worksOut 50 = .ok (.getfield 48, 3) := by decide +kernel
theorem dX9_worksOut_53 : decode cX9_worksOut 53 = .ok (.iload_n 2, 1) := by decide +kernel
theorem dX9_worksOut_54 : decode cX9_worksOut 54 = .ok (.iload 5, 2) := by decide +kernel
theorem dX9_worksOut_56 : decode cX9_worksOut 56 = .ok (.sipush 10000, 3) := by decide +kernel
theorem dX9_worksOut_59 : decode cX9_worksOut 59 = .ok (.if_icmp .ge 8, 3) := by decide +kernel
theorem dX9_worksOut_62 : decode cX9_worksOut 62 = .ok (.iload 5, 2) := by decide +kernel
theorem dX9_worksOut_64 : decode cX9_worksOut 64 = .ok (.goto 14, 3) := by decide +kernel
theorem dX9_worksOut_67 : decode cX9_worksOut 67 = .ok (.aload_n 0, 1) := by decide +kernel
theorem dX9_worksOut_68 : decode cX9_worksOut 68 = .ok (.getfield 51, 3) := by decide +kernel
theorem dX9_worksOut_71 : decode cX9_worksOut 71 = .ok (.iload 5, 2) := by decide +kernel
theorem dX9_worksOut_73 : decode cX9_worksOut 73 = .ok (.sipush 10000, 3) := by decide +kernel
theorem dX9_worksOut_76 : decode cX9_worksOut 76 = .ok (.isub, 1) := by decide +kernel
theorem dX9_worksOut_77 : decode cX9_worksOut 77 = .ok (.iaload, 1) := by decide +kernel
theorem dX9_worksOut_78 : decode cX9_worksOut 78 = .ok (.iastore, 1) := by decide +kernel
theorem dX9_worksOut_79 : decode cX9_worksOut 79 = .ok (.iinc 2 1, 3) := by decide +kernel
theorem dX9_worksOut_82 : decode cX9_worksOut 82 = .ok (.goto 67, 3) := by decide +kernel
theorem dX9_worksOut_85 : decode cX9_worksOut 85 = .ok (.iload 5, 2) := by decide +kernel
theorem dX9_worksOut_87 : decode cX9_worksOut 87 = .ok (.bipush (-10), 2) := by decide +kernel
theorem dX9_worksOut_89 : decode cX9_worksOut 89 = .ok (.if_icmp .ne 30, 3) := by decide +kernel
theorem dX9_worksOut_92 : decode cX9_worksOut 92 = .ok (.aload_n 0, 1) := by decide +kernel
theorem dX9_worksOut_93 : decode cX9_worksOut 93 = .ok (.getfield 48, 3) := by decide +kernel
theorem dX9_worksOut_96 : decode cX9_worksOut 96 = .ok (.iload_n 2, 1) := by decide +kernel
theorem dX9_worksOut_97 : decode cX9_worksOut 97 = .ok (.iconst 1, 1) := by decide +kernel
theorem dX9_worksOut_98 : decode cX9_worksOut 98 = .ok (.isub, 1) := by decide +kernel
theorem dX9_worksOut_99 : decode cX9_worksOut 99 = .ok (.aload_n 0, 1) := by decide +kernel
theorem dX9_worksOut_100 : decode cX9_worksOut 100 = .ok (.getfield 48, 3) := by decide +kernel
theorem dX9_worksOut_103 : decode cX9_worksOut 103 = .ok (.iload_n 2, 1) := by decide +kernel
theorem dX9_worksOut_104 : decode cX9_worksOut 104 = .ok (.iconst 1, 1) := by decide +kernel
theorem dX9_worksOut_105 : decode cX9_worksOut 105 = .ok (.isub, 1) := by decide +kernel
theorem dX9_worksOut_106 : decode cX9_worksOut 106 = .ok (.iaload, 1) := by decide +kernel
theorem dX9_worksOut_107 : decode cX9_worksOut 107 = .ok (.ifCond .ne 7, 3) := by decide +kernel
theorem dX9_worksOut_110 : decode cX9_worksOut 110 = .ok (.iconst 1, 1) := by decide +kernel
theorem dX9_worksOut_111 : decode cX9_worksOut 111 = .ok (.goto 4, 3) := by decide +kernel
theorem dX9_worksOut_114 : decode cX9_worksOut 114 = .ok (.iconst 0, 1) := by decide +kernel
theorem dX9_worksOut_115 : decode cX9_worksOut 115 = .ok (.iastore, 1) := by decide +kernel
theorem dX9_worksOut_116 : decode cX9_worksOut 116 = .ok (.goto 33, 3) := by decide +kernel
theorem dX9_worksOut_119 : decode cX9_worksOut 119 = .ok (.iinc 2 (-1), 3) := by decide +kernel
theorem dX9_worksOut_122 : decode cX9_worksOut 122 = .ok (.aload_n 0, 1) := by decide +kernel
theorem dX9_worksOut_123 : decode cX9_worksOut 123 = .ok (.getfield 48, 3) := by decide +kernel
theorem dX9_worksOut_126 : decode cX9_worksOut 126 = .ok (.iload_n 2, 1) := by decide +kernel
theorem dX9_worksOut_127 : decode cX9_worksOut 127 = .ok (.iconst 1, 1) := by decide +kernel
theorem dX9_worksOut_128 : decode cX9_worksOut 128 = .ok (.isub, 1) := by decide +kernel
theorem dX9_worksOut_129 : decode cX9_worksOut 129 = .ok (.iload 5, 2) := by decide +kernel
theorem dX9_worksOut_131 : decode cX9_worksOut 131 = .ok (.aload_n 0, 1) := by decide +kernel
theorem dX9_worksOut_132 : decode cX9_worksOut 132 = .ok (.getfield 48, 3) := by decide +kernel
theorem dX9_worksOut_135 : decode cX9_worksOut 135 = .ok (.iload_n 2, 1) := by decide +kernel
theorem dX9_worksOut_136 : decode cX9_worksOut 136 = .ok (.iconst 1, 1) := by decide +kernel
theorem dX9_worksOut_137 : decode cX9_worksOut 137 = .ok (.isub, 1) := by decide +kernel
theorem dX9_worksOut_138 : decode cX9_worksOut 138 = .ok (.iaload, 1) := by decide +kernel
theorem dX9_worksOut_139 : decode cX9_worksOut 139 = .ok (.aload_n 0, 1) := by decide +kernel
theorem dX9_worksOut_140 : decode cX9_worksOut 140 = .ok (.getfield 48, 3) := by decide +kernel
theorem dX9_worksOut_143 : decode cX9_worksOut 143 = .ok (.iload_n 2, 1) := by decide +kernel
theorem dX9_worksOut_144 : decode cX9_worksOut 144 = .ok (.iaload, 1) := by decide +kernel
theorem dX9_worksOut_145 : decode cX9_worksOut 145 = .ok (.invokestatic 282, 3) := by decide +kernel
theorem dX9_worksOut_148 : decode cX9_worksOut 148 = .ok (.iastore, 1) := by decide +kernel
theorem dX9_worksOut_149 : decode cX9_worksOut 149 = .ok (.iinc 4 1, 3) := by decide +kernel
theorem dX9_worksOut_152 : decode cX9_worksOut 152 = .ok (.goto (-131), 3) := by decide +kernel
theorem dX9_worksOut_155 : decode cX9_worksOut 155 = .ok (.aload_n 0, 1) := by decide +kernel
theorem dX9_worksOut_156 : decode cX9_worksOut 156 = .ok (.getfield 48, 3) := by decide +kernel
theorem dX9_worksOut_159 : decode cX9_worksOut 159 = .ok (.iconst 0, 1) := by decide +kernel
theorem dX9_worksOut_160 : decode cX9_worksOut 160 = .ok (.iaload, 1) := by decide +kernel
theorem dX9_worksOut_161 : decode cX9_worksOut 161 = .ok (.ireturn, 1) := by decide +kernel
theorem dX9_isSheet_0 : decode cX9_isSheet 0 = .ok (.iload_n 0, 1) := by decide +kernel
theorem dX9_isSheet_1 : decode cX9_isSheet 1 = .ok (.iconst 0, 1) := by decide +kernel
theorem dX9_isSheet_2 : decode cX9_isSheet 2 = .ok (.iconst 3, 1) := by decide +kernel
theorem dX9_isSheet_3 : decode cX9_isSheet 3 = .ok (.invokestatic 81, 3) := by decide +kernel
theorem dX9_isSheet_6 : decode cX9_isSheet 6 = .ok (.ireturn, 1) := by decide +kernel
theorem dX9_isSlot_0 : decode cX9_isSlot 0 = .ok (.iload_n 0, 1) := by decide +kernel
theorem dX9_isSlot_1 : decode cX9_isSlot 1 = .ok (.iconst 0, 1) := by decide +kernel
theorem dX9_isSlot_2 : decode cX9_isSlot 2 = .ok (.iconst 4, 1) := by decide +kernel
theorem dX9_isSlot_3 : decode cX9_isSlot 3 = .ok (.invokestatic 81, 3) := by decide +kernel
theorem dX9_isSlot_6 : decode cX9_isSlot 6 = .ok (.ireturn, 1) := by decide +kernel
theorem dX9_sheet_0 : decode cX9_sheet 0 = .ok (.iload_n 1, 1) := by decide +kernel
theorem dX9_sheet_1 : decode cX9_sheet 1 = .ok (.invokestatic 211, 3) := by decide +kernel
theorem dX9_sheet_4 : decode cX9_sheet 4 = .ok (.ifCond .eq 22, 3) := by decide +kernel
theorem dX9_sheet_7 : decode cX9_sheet 7 = .ok (.iload_n 2, 1) := by decide +kernel
theorem dX9_sheet_8 : decode cX9_sheet 8 = .ok (.iconst (-1), 1) := by decide +kernel
theorem dX9_sheet_9 : decode cX9_sheet 9 = .ok (.iconst 1, 1) := by decide +kernel
theorem dX9_sheet_10 : decode cX9_sheet 10 = .ok (.invokestatic 81, 3) := by decide +kernel
theorem dX9_sheet_13 : decode cX9_sheet 13 = .ok (.ifCond .eq 13, 3) := by decide +kernel
theorem dX9_sheet_16 : decode cX9_sheet 16 = .ok (.iload_n 2, 1) := by decide +kernel
theorem dX9_sheet_17 : decode cX9_sheet 17 = .ok (.ifCond .lt 12, 3) := by decide +kernel
theorem dX9_sheet_20 : decode cX9_sheet 20 = .ok (.iload_n 3, 1) := by decide +kernel
theorem dX9_sheet_21 : decode cX9_sheet 21 = .ok (.bipush 24, 2) := by decide +kernel
theorem dX9_sheet_23 : decode cX9_sheet 23 = .ok (.if_icmp .le 6, 3) := by decide +kernel
theorem dX9_sheet_26 : decode cX9_sheet 26 = .ok (.ldc 121, 2) := by decide +kernel
theorem dX9_sheet_28 : decode cX9_sheet 28 = .ok (.ireturn, 1) := by decide +kernel
theorem dX9_sheet_29 : decode cX9_sheet 29 = .ok (.iload_n 2, 1) := by decide +kernel
theorem dX9_sheet_30 : decode cX9_sheet 30 = .ok (.ifCond .lt 11, 3) := by decide +kernel
theorem dX9_sheet_33 : decode cX9_sheet 33 = .ok (.iload_n 3, 1) := by decide +kernel
theorem dX9_sheet_34 : decode cX9_sheet 34 = .ok (.ifCond .ge 7, 3) := by decide +kernel
theorem dX9_sheet_37 : decode cX9_sheet 37 = .ok (.ldc_w 285, 3) := by decide +kernel
theorem dX9_sheet_40 : decode cX9_sheet 40 = .ok (.ireturn, 1) := by decide +kernel
theorem dX9_sheet_41 : decode cX9_sheet 41 = .ok (.aload_n 0, 1) := by decide +kernel
theorem dX9_sheet_42 : decode cX9_sheet 42 = .ok (.getfield 54, 3) := by decide +kernel
theorem dX9_sheet_45 : decode cX9_sheet 45 = .ok (.iload_n 1, 1) := by decide +kernel
theorem dX9_sheet_46 : decode cX9_sheet 46 = .ok (.iload_n 2, 1) := by decide +kernel
theorem dX9_sheet_47 : decode cX9_sheet 47 = .ok (.iastore, 1) := by decide +kernel
theorem dX9_sheet_48 : decode cX9_sheet 48 = .ok (.aload_n 0, 1) := by decide +kernel
theorem dX9_sheet_49 : decode cX9_sheet 49 = .ok (.getfield 57, 3) := by decide +kernel
theorem dX9_sheet_52 : decode cX9_sheet 52 = .ok (.iload_n 1, 1) := by decide +kernel
theorem dX9_sheet_53 : decode cX9_sheet 53 = .ok (.iload_n 2, 1) := by decide +kernel
theorem dX9_sheet_54 : decode cX9_sheet 54 = .ok (.ifCond .ge 7, 3) := by decide +kernel
theorem dX9_sheet_57 : decode cX9_sheet 57 = .ok (.iconst 0, 1) := by decide +kernel
theorem dX9_sheet_58 : decode cX9_sheet 58 = .ok (.goto 4, 3) := by decide +kernel
theorem dX9_sheet_61 : decode cX9_sheet 61 = .ok (.iload_n 3, 1) := by decide +kernel
theorem dX9_sheet_62 : decode cX9_sheet 62 = .ok (.iastore, 1) := by decide +kernel
theorem dX9_sheet_63 : decode cX9_sheet 63 = .ok (.iconst 0, 1) := by decide +kernel
theorem dX9_sheet_64 : decode cX9_sheet 64 = .ok (.istore 4, 2) := by decide +kernel
theorem dX9_sheet_66 : decode cX9_sheet 66 = .ok (.iload 4, 2) := by decide +kernel
theorem dX9_sheet_68 : decode cX9_sheet 68 = .ok (.bipush 24, 2) := by decide +kernel
theorem dX9_sheet_70 : decode cX9_sheet 70 = .ok (.if_icmp .ge 22, 3) := by decide +kernel
theorem dX9_sheet_73 : decode cX9_sheet 73 = .ok (.aload_n 0, 1) := by decide +kernel
theorem dX9_sheet_74 : decode cX9_sheet 74 = .ok (.getfield 60, 3) := by decide +kernel
theorem dX9_sheet_77 : decode cX9_sheet 77 = .ok (.bipush 24, 2) := by decide +kernel
theorem dX9_sheet_79 : decode cX9_sheet 79 = .ok (.iload_n 1, 1) := by decide +kernel
theorem dX9_sheet_80 : decode cX9_sheet 80 = .ok (.imul, 1) := by decide +kernel
theorem dX9_sheet_81 : decode cX9_sheet 81 = .ok (.iload 4, 2) := by decide +kernel
theorem dX9_sheet_83 : decode cX9_sheet 83 = .ok (.iadd, 1) := by decide +kernel
theorem dX9_sheet_84 : decode cX9_sheet 84 = .ok (.iconst 0, 1) := by decide +kernel
theorem dX9_sheet_85 : decode cX9_sheet 85 = .ok (.iastore, 1) := by decide +kernel
theorem dX9_sheet_86 : decode cX9_sheet 86 = .ok (.iinc 4 1, 3) := by decide +kernel
theorem dX9_sheet_89 : decode cX9_sheet 89 = .ok (.goto (-23), 3) := by decide +kernel
theorem dX9_sheet_92 : decode cX9_sheet 92 = .ok (.aload_n 0, 1) := by decide +kernel
theorem dX9_sheet_93 : decode cX9_sheet 93 = .ok (.getfield 57, 3) := by decide +kernel
theorem dX9_sheet_96 : decode cX9_sheet 96 = .ok (.iload_n 1, 1) := by decide +kernel
theorem dX9_sheet_97 : decode cX9_sheet 97 = .ok (.iaload, 1) := by decide +kernel
theorem dX9_sheet_98 : decode cX9_sheet 98 = .ok (.ireturn, 1) := by decide +kernel
theorem dX9_mark_0 : decode cX9_mark 0 = .ok (.iload_n 1, 1) := by decide +kernel
theorem dX9_mark_1 : decode cX9_mark 1 = .ok (.invokestatic 211, 3) := by decide +kernel
theorem dX9_mark_4 : decode cX9_mark 4 = .ok (.ifCond .ne 6, 3) := by decide +kernel
theorem dX9_mark_7 : decode cX9_mark 7 = .ok (.ldc 121, 2) := by decide +kernel
theorem dX9_mark_9 : decode cX9_mark 9 = .ok (.ireturn, 1) := by decide +kernel
theorem dX9_mark_10 : decode cX9_mark 10 = .ok (.aload_n 0, 1) := by decide +kernel
theorem dX9_mark_11 : decode cX9_mark 11 = .ok (.getfield 54, 3) := by decide +kernel
theorem dX9_mark_14 : decode cX9_mark 14 = .ok (.iload_n 1, 1) := by decide +kernel
theorem dX9_mark_15 : decode cX9_mark 15 = .ok (.iaload, 1) := by decide +kernel
theorem dX9_mark_16 : decode cX9_mark 16 = .ok (.ifCond .ge 6, 3) := by decide +kernel
theorem dX9_mark_19 : decode cX9_mark 19 = .ok (.ldc 214, 2) := by decide +kernel
theorem dX9_mark_21 : decode cX9_mark 21 = .ok (.ireturn, 1) := by decide +kernel
theorem dX9_mark_22 : decode cX9_mark 22 = .ok (.iload_n 2, 1) := by decide +kernel
theorem dX9_mark_23 : decode cX9_mark 23 = .ok (.iconst 0, 1) := by decide +kernel
theorem dX9_mark_24 : decode cX9_mark 24 = .ok (.aload_n 0, 1) := by decide +kernel
theorem dX9_mark_25 : decode cX9_mark 25 = .ok (.getfield 57, 3) := by decide +kernel
theorem dX9_mark_28 : decode cX9_mark 28 = .ok (.iload_n 1, 1) := by decide +kernel
theorem dX9_mark_29 : decode cX9_mark 29 = .ok (.iaload, 1) := by decide +kernel
theorem dX9_mark_30 : decode cX9_mark 30 = .ok (.iconst 1, 1) := by decide +kernel
theorem dX9_mark_31 : decode cX9_mark 31 = .ok (.isub, 1) := by decide +kernel
theorem dX9_mark_32 : decode cX9_mark 32 = .ok (.invokestatic 81, 3) := by decide +kernel
theorem dX9_mark_35 : decode cX9_mark 35 = .ok (.ifCond .ne 7, 3) := by decide +kernel
theorem dX9_mark_38 : decode cX9_mark 38 = .ok (.ldc_w 286, 3) := by decide +kernel
theorem dX9_mark_41 : decode cX9_mark 41 = .ok (.ireturn, 1) := by decide +kernel
theorem dX9_mark_42 : decode cX9_mark 42 = .ok (.aload_n 0, 1) := by decide +kernel
theorem dX9_mark_43 : decode cX9_mark 43 = .ok (.getfield 54, 3) := by decide +kernel
theorem dX9_mark_46 : decode cX9_mark 46 = .ok (.iload_n 1, 1) := by decide +kernel
theorem dX9_mark_47 : decode cX9_mark 47 = .ok (.iaload, 1) := by decide +kernel
theorem dX9_mark_48 : decode cX9_mark 48 = .ok (.ifCond .ne 12, 3) := by decide +kernel
theorem dX9_mark_51 : decode cX9_mark 51 = .ok (.iload_n 3, 1) := by decide +kernel
theorem dX9_mark_52 : decode cX9_mark 52 = .ok (.ldc 180, 2) := by decide +kernel
theorem dX9_mark_54 : decode cX9_mark 54 = .ok (.if_icmp .ne 6, 3) := by decide +kernel
theorem dX9_mark_57 : decode cX9_mark 57 = .ok (.ldc 140, 2) := by decide +kernel
theorem dX9_mark_59 : decode cX9_mark 59 = .ok (.ireturn, 1) := by decide +kernel
theorem dX9_mark_60 : decode cX9_mark 60 = .ok (.aload_n 0, 1) := by decide +kernel
theorem dX9_mark_61 : decode cX9_mark 61 = .ok (.getfield 54, 3) := by decide +kernel
theorem dX9_mark_64 : decode cX9_mark 64 = .ok (.iload_n 1, 1) := by decide +kernel
theorem dX9_mark_65 : decode cX9_mark 65 = .ok (.iaload, 1) := by decide +kernel
theorem dX9_mark_66 : decode cX9_mark 66 = .ok (.iconst 1, 1) := by decide +kernel
theorem dX9_mark_67 : decode cX9_mark 67 = .ok (.if_icmp .ne 25, 3) := by decide +kernel
theorem dX9_mark_70 : decode cX9_mark 70 = .ok (.iload_n 3, 1) := by decide +kernel
theorem dX9_mark_71 : decode cX9_mark 71 = .ok (.ldc 180, 2) := by decide +kernel
theorem dX9_mark_73 : decode cX9_mark 73 = .ok (.if_icmp .eq 19, 3) := by decide +kernel
theorem dX9_mark_76 : decode cX9_mark 76 = .ok (.iload_n 3, 1) := by decide +kernel
theorem dX9_mark_77 : decode cX9_mark 77 = .ok (.ldc_w 287, 3) := by decide +kernel
theorem dX9_mark_80 : decode cX9_mark 80 = .ok (.ldc_w 288, 3) := by decide +kernel
theorem dX9_mark_83 : decode cX9_mark 83 = .ok (.invokestatic 81, 3) := by decide +kernel
theorem dX9_mark_86 : decode cX9_mark 86 = .ok (.ifCond .ne 6, 3) := by decide +kernel
theorem dX9_mark_89 : decode cX9_mark 89 = .ok (.ldc 121, 2) := by decide +kernel
theorem dX9_mark_91 : decode cX9_mark 91 = .ok (.ireturn, 1) := by decide +kernel
theorem dX9_mark_92 : decode cX9_mark 92 = .ok (.aload_n 0, 1) := by decide +kernel
theorem dX9_mark_93 : decode cX9_mark 93 = .ok (.getfield 60, 3) := by decide +kernel
theorem dX9_mark_96 : decode cX9_mark 96 = .ok (.bipush 24, 2) := by decide +kernel
theorem dX9_mark_98 : decode cX9_mark 98 = .ok (.iload_n 1, 1) := by decide +kernel
theorem dX9_mark_99 : decode cX9_mark 99 = .ok (.imul, 1) := by decide +kernel
theorem dX9_mark_100 : decode cX9_mark 100 = .ok (.iload_n 2, 1) := by decide +kernel
theorem dX9_mark_101 : decode cX9_mark 101 = .ok (.iadd, 1) := by decide +kernel
theorem dX9_mark_102 : decode cX9_mark 102 = .ok (.aload_n 0, 1) := by decide +kernel
theorem dX9_mark_103 : decode cX9_mark 103 = .ok (.getfield 54, 3) := by decide +kernel
theorem dX9_mark_106 : decode cX9_mark 106 = .ok (.iload_n 1, 1) := by decide +kernel
theorem dX9_mark_107 : decode cX9_mark 107 = .ok (.iaload, 1) := by decide +kernel
theorem dX9_mark_108 : decode cX9_mark 108 = .ok (.ifCond .ne 8, 3) := by decide +kernel
theorem dX9_mark_111 : decode cX9_mark 111 = .ok (.iload_n 3, 1) := by decide +kernel
theorem dX9_mark_112 : decode cX9_mark 112 = .ok (.i2s, 1) := by decide +kernel
theorem dX9_mark_113 : decode cX9_mark 113 = .ok (.goto 4, 3) := by decide +kernel
theorem dX9_mark_116 : decode cX9_mark 116 = .ok (.iload_n 3, 1) := by decide +kernel
theorem dX9_mark_117 : decode cX9_mark 117 = .ok (.iastore, 1) := by decide +kernel
theorem dX9_mark_118 : decode cX9_mark 118 = .ok (.iconst 1, 1) := by decide +kernel
theorem dX9_mark_119 : decode cX9_mark 119 = .ok (.ireturn, 1) := by decide +kernel
theorem dX9_pour_0 : decode cX9_pour 0 = .ok (.iload_n 1, 1) := by decide +kernel
theorem dX9_pour_1 : decode cX9_pour 1 = .ok (.invokestatic 211, 3) := by decide +kernel
theorem dX9_pour_4 : decode cX9_pour 4 = .ok (.ifCond .ne 6, 3) := by decide +kernel
theorem dX9_pour_7 : decode cX9_pour 7 = .ok (.ldc 121, 2) := by decide +kernel
theorem dX9_pour_9 : decode cX9_pour 9 = .ok (.ireturn, 1) := by decide +kernel
theorem dX9_pour_10 : decode cX9_pour 10 = .ok (.aload_n 0, 1) := by decide +kernel
theorem dX9_pour_11 : decode cX9_pour 11 = .ok (.getfield 54, 3) := by decide +kernel
theorem dX9_pour_14 : decode cX9_pour 14 = .ok (.iload_n 1, 1) := by decide +kernel
theorem dX9_pour_15 : decode cX9_pour 15 = .ok (.iaload, 1) := by decide +kernel
theorem dX9_pour_16 : decode cX9_pour 16 = .ok (.ifCond .ge 6, 3) := by decide +kernel
theorem dX9_pour_19 : decode cX9_pour 19 = .ok (.ldc 214, 2) := by decide +kernel
theorem dX9_pour_21 : decode cX9_pour 21 = .ok (.ireturn, 1) := by decide +kernel
theorem dX9_pour_22 : decode cX9_pour 22 = .ok (.iconst 0, 1) := by decide +kernel
theorem dX9_pour_23 : decode cX9_pour 23 = .ok (.istore_n 2, 1) := by decide +kernel
theorem dX9_pour_24 : decode cX9_pour 24 = .ok (.iconst 0, 1) := by decide +kernel
theorem dX9_pour_25 : decode cX9_pour 25 = .ok (.istore_n 3, 1) := by decide +kernel
theorem dX9_pour_26 : decode cX9_pour 26 = .ok (.iload_n 3, 1) := by decide +kernel
theorem dX9_pour_27 : decode cX9_pour 27 = .ok (.aload_n 0, 1) := by decide +kernel
theorem dX9_pour_28 : decode cX9_pour 28 = .ok (.getfield 57, 3) := by decide +kernel
theorem dX9_pour_31 : decode cX9_pour 31 = .ok (.iload_n 1, 1) := by decide +kernel
theorem dX9_pour_32 : decode cX9_pour 32 = .ok (.iaload, 1) := by decide +kernel
theorem dX9_pour_33 : decode cX9_pour 33 = .ok (.if_icmp .ge 86, 3) := by decide +kernel
theorem dX9_pour_36 : decode cX9_pour 36 = .ok (.iload_n 3, 1) := by decide +kernel
theorem dX9_pour_37 : decode cX9_pour 37 = .ok (.aload_n 0, 1) := by decide +kernel
theorem dX9_pour_38 : decode cX9_pour 38 = .ok (.getfield 9, 3) := by decide +kernel
theorem dX9_pour_41 : decode cX9_pour 41 = .ok (.iconst 1, 1) := by decide +kernel
theorem dX9_pour_42 : decode cX9_pour 42 = .ok (.iaload, 1) := by decide +kernel
theorem dX9_pour_43 : decode cX9_pour 43 = .ok (.if_icmp .ge 76, 3) := by decide +kernel
theorem dX9_pour_46 : decode cX9_pour 46 = .ok (.aload_n 0, 1) := by decide +kernel
theorem dX9_pour_47 : decode cX9_pour 47 = .ok (.getfield 60, 3) := by decide +kernel
theorem dX9_pour_50 : decode cX9_pour 50 = .ok (.bipush 24, 2) := by decide +kernel
theorem dX9_pour_52 : decode cX9_pour 52 = .ok (.iload_n 1, 1) := by decide +kernel
theorem dX9_pour_53 : decode cX9_pour 53 = .ok (.imul, 1) := by decide +kernel
theorem dX9_pour_54 : decode cX9_pour 54 = .ok (.iload_n 3, 1) := by decide +kernel
theorem dX9_pour_55 : decode cX9_pour 55 = .ok (.iadd, 1) := by decide +kernel
theorem dX9_pour_56 : decode cX9_pour 56 = .ok (.iaload, 1) := by decide +kernel
theorem dX9_pour_57 : decode cX9_pour 57 = .ok (.istore 4, 2) := by decide +kernel
theorem dX9_pour_59 : decode cX9_pour 59 = .ok (.iload 4, 2) := by decide +kernel
theorem dX9_pour_61 : decode cX9_pour 61 = .ok (.ldc 180, 2) := by decide +kernel
theorem dX9_pour_63 : decode cX9_pour 63 = .ok (.if_icmp .ne 12, 3) := by decide +kernel
theorem dX9_pour_66 : decode cX9_pour 66 = .ok (.aload_n 0, 1) := by decide +kernel
theorem dX9_pour_67 : decode cX9_pour 67 = .ok (.iload_n 3, 1) := by decide +kernel
theorem dX9_pour_68 : decode cX9_pour 68 = .ok (.iconst 1, 1) := by decide +kernel
theorem dX9_pour_69 : decode cX9_pour 69 = .ok (.invokevirtual 89, 3) := by decide +kernel
theorem dX9_pour_72 : decode cX9_pour 72 = .ok (.goto 11, 3) := by decide +kernel
theorem dX9_pour_75 : decode cX9_pour 75 = .ok (.iload 4, 2) := by decide +kernel
theorem dX9_pour_77 : decode cX9_pour 77 = .ok (.iconst 0, 1) := by decide +kernel
theorem dX9_pour_78 : decode cX9_pour 78 = .ok (.bipush 99, 2) := by decide +kernel
theorem dX9_pour_80 : decode cX9_pour 80 = .ok (.invokestatic 107, 3) := by decide +kernel
theorem dX9_pour_83 : decode cX9_pour 83 = .ok (.istore 5, 2) := by decide +kernel
theorem dX9_pour_85 : decode cX9_pour 85 = .ok (.iload_n 2, 1) := by decide +kernel
theorem dX9_pour_86 : decode cX9_pour 86 = .ok (.aload_n 0, 1) := by decide +kernel
theorem dX9_pour_87 : decode cX9_pour 87 = .ok (.bipush 7, 2) := by decide +kernel
theorem dX9_pour_89 : decode cX9_pour 89 = .ok (.bipush 6, 2) := by decide +kernel
theorem dX9_pour_91 : decode cX9_pour 91 = .ok (.iload_n 3, 1) := by decide +kernel
theorem dX9_pour_92 : decode cX9_pour 92 = .ok (.imul, 1) := by decide +kernel
theorem dX9_pour_93 : decode cX9_pour 93 = .ok (.iadd, 1) := by decide +kernel
theorem dX9_pour_94 : decode cX9_pour 94 = .ok (.iconst 1, 1) := by decide +kernel
theorem dX9_pour_95 : decode cX9_pour 95 = .ok (.iadd, 1) := by decide +kernel
theorem dX9_pour_96 : decode cX9_pour 96 = .ok (.iload 5, 2) := by decide +kernel
theorem dX9_pour_98 : decode cX9_pour 98 = .ok (.invokevirtual 141, 3) := by decide +kernel
theorem dX9_pour_101 : decode cX9_pour 101 = .ok (.iload 5, 2) := by decide +kernel
theorem dX9_pour_103 : decode cX9_pour 103 = .ok (.if_icmp .ne 7, 3) := by decide +kernel
theorem dX9_pour_106 : decode cX9_pour 106 = .ok (.iconst 0, 1) := by decide +kernel
theorem dX9_pour_107 : decode cX9_pour 107 = .ok (.goto 4, 3) := by decide +kernel
theorem dX9_pour_110 : decode cX9_pour 110 = .ok (.iconst 1, 1) := by decide +kernel
theorem dX9_pour_111 : decode cX9_pour 111 = .ok (.iadd, 1) := by decide +kernel
theorem dX9_pour_112 : decode cX9_pour 112 = .ok (.istore_n 2, 1) := by decide +kernel
theorem dX9_pour_113 : decode cX9_pour 113 = .ok (.iinc 3 1, 3) := by decide +kernel
theorem dX9_pour_116 : decode cX9_pour 116 = .ok (.goto (-90), 3) := by decide +kernel
theorem dX9_pour_119 : decode cX9_pour 119 = .ok (.iload_n 2, 1) := by decide +kernel
theorem dX9_pour_120 : decode cX9_pour 120 = .ok (.ireturn, 1) := by decide +kernel
theorem dX9_reads_0 : decode cX9_reads 0 = .ok (.iload_n 1, 1) := by decide +kernel
theorem dX9_reads_1 : decode cX9_reads 1 = .ok (.invokestatic 211, 3) := by decide +kernel
theorem dX9_reads_4 : decode cX9_reads 4 = .ok (.ifCond .ne 6, 3) := by decide +kernel
theorem dX9_reads_7 : decode cX9_reads 7 = .ok (.ldc 121, 2) := by decide +kernel
theorem dX9_reads_9 : decode cX9_reads 9 = .ok (.ireturn, 1) := by decide +kernel
theorem dX9_reads_10 : decode cX9_reads 10 = .ok (.aload_n 0, 1) := by decide +kernel
theorem dX9_reads_11 : decode cX9_reads 11 = .ok (.getfield 54, 3) := by decide +kernel
theorem dX9_reads_14 : decode cX9_reads 14 = .ok (.iload_n 1, 1) := by decide +kernel
theorem dX9_reads_15 : decode cX9_reads 15 = .ok (.iaload, 1) := by decide +kernel
theorem dX9_reads_16 : decode cX9_reads 16 = .ok (.ifCond .ge 6, 3) := by decide +kernel
theorem dX9_reads_19 : decode cX9_reads 19 = .ok (.ldc 214, 2) := by decide +kernel
theorem dX9_reads_21 : decode cX9_reads 21 = .ok (.ireturn, 1) := by decide +kernel
theorem dX9_reads_22 : decode cX9_reads 22 = .ok (.iconst 0, 1) := by decide +kernel
theorem dX9_reads_23 : decode cX9_reads 23 = .ok (.istore_n 2, 1) := by decide +kernel
theorem dX9_reads_24 : decode cX9_reads 24 = .ok (.iload_n 2, 1) := by decide +kernel
theorem dX9_reads_25 : decode cX9_reads 25 = .ok (.aload_n 0, 1) := by decide +kernel
theorem dX9_reads_26 : decode cX9_reads 26 = .ok (.getfield 57, 3) := by decide +kernel
theorem dX9_reads_29 : decode cX9_reads 29 = .ok (.iload_n 1, 1) := by decide +kernel
theorem dX9_reads_30 : decode cX9_reads 30 = .ok (.iaload, 1) := by decide +kernel
theorem dX9_reads_31 : decode cX9_reads 31 = .ok (.if_icmp .ge 47, 3) := by decide +kernel
theorem dX9_reads_34 : decode cX9_reads 34 = .ok (.aload_n 0, 1) := by decide +kernel
theorem dX9_reads_35 : decode cX9_reads 35 = .ok (.getfield 60, 3) := by decide +kernel
theorem dX9_reads_38 : decode cX9_reads 38 = .ok (.bipush 24, 2) := by decide +kernel
theorem dX9_reads_40 : decode cX9_reads 40 = .ok (.iload_n 1, 1) := by decide +kernel
theorem dX9_reads_41 : decode cX9_reads 41 = .ok (.imul, 1) := by decide +kernel
theorem dX9_reads_42 : decode cX9_reads 42 = .ok (.iload_n 2, 1) := by decide +kernel
theorem dX9_reads_43 : decode cX9_reads 43 = .ok (.iadd, 1) := by decide +kernel
theorem dX9_reads_44 : decode cX9_reads 44 = .ok (.iaload, 1) := by decide +kernel
theorem dX9_reads_45 : decode cX9_reads 45 = .ok (.istore_n 3, 1) := by decide +kernel
theorem dX9_reads_46 : decode cX9_reads 46 = .ok (.iload_n 3, 1) := by decide +kernel
theorem dX9_reads_47 : decode cX9_reads 47 = .ok (.ldc 180, 2) := by decide +kernel
theorem dX9_reads_49 : decode cX9_reads 49 = .ok (.if_icmp .eq 23, 3) := by decide +kernel
theorem dX9_reads_52 : decode cX9_reads 52 = .ok (.aload_n 0, 1) := by decide +kernel
theorem dX9_reads_53 : decode cX9_reads 53 = .ok (.iload_n 2, 1) := by decide +kernel
theorem dX9_reads_54 : decode cX9_reads 54 = .ok (.invokevirtual 85, 3) := by decide +kernel
theorem dX9_reads_57 : decode cX9_reads 57 = .ok (.ifCond .eq 13, 3) := by decide +kernel
theorem dX9_reads_60 : decode cX9_reads 60 = .ok (.iload_n 3, 1) := by decide +kernel
theorem dX9_reads_61 : decode cX9_reads 61 = .ok (.aload_n 0, 1) := by decide +kernel
theorem dX9_reads_62 : decode cX9_reads 62 = .ok (.iload_n 2, 1) := by decide +kernel
theorem dX9_reads_63 : decode cX9_reads 63 = .ok (.iconst 2, 1) := by decide +kernel
theorem dX9_reads_64 : decode cX9_reads 64 = .ok (.invokevirtual 89, 3) := by decide +kernel
theorem dX9_reads_67 : decode cX9_reads 67 = .ok (.if_icmp .eq 5, 3) := by decide +kernel
theorem dX9_reads_70 : decode cX9_reads 70 = .ok (.iload_n 2, 1) := by decide +kernel
theorem dX9_reads_71 : decode cX9_reads 71 = .ok (.ireturn, 1) := by decide +kernel
theorem dX9_reads_72 : decode cX9_reads 72 = .ok (.iinc 2 1, 3) := by decide +kernel
theorem dX9_reads_75 : decode cX9_reads 75 = .ok (.goto (-51), 3) := by decide +kernel
theorem dX9_reads_78 : decode cX9_reads 78 = .ok (.ldc 180, 2) := by decide +kernel
theorem dX9_reads_80 : decode cX9_reads 80 = .ok (.ireturn, 1) := by decide +kernel
theorem dX9_copy_0 : decode cX9_copy 0 = .ok (.iload_n 1, 1) := by decide +kernel
theorem dX9_copy_1 : decode cX9_copy 1 = .ok (.invokestatic 211, 3) := by decide +kernel
theorem dX9_copy_4 : decode cX9_copy 4 = .ok (.ifCond .eq 10, 3) := by decide +kernel
theorem dX9_copy_7 : decode cX9_copy 7 = .ok (.iload_n 3, 1) := by decide +kernel
theorem dX9_copy_8 : decode cX9_copy 8 = .ok (.invokestatic 211, 3) := by decide +kernel
theorem dX9_copy_11 : decode cX9_copy 11 = .ok (.ifCond .ne 6, 3) := by decide +kernel
theorem dX9_copy_14 : decode cX9_copy 14 = .ok (.ldc 121, 2) := by decide +kernel
theorem dX9_copy_16 : decode cX9_copy 16 = .ok (.ireturn, 1) := by decide +kernel
theorem dX9_copy_17 : decode cX9_copy 17 = .ok (.aload_n 0, 1) := by decide +kernel
theorem dX9_copy_18 : decode cX9_copy 18 = .ok (.getfield 54, 3) := by decide +kernel
theorem dX9_copy_21 : decode cX9_copy 21 = .ok (.iload_n 1, 1) := by decide +kernel
theorem dX9_copy_22 : decode cX9_copy 22 = .ok (.iaload, 1) := by decide +kernel
theorem dX9_copy_23 : decode cX9_copy 23 = .ok (.ifCond .lt 12, 3) := by decide +kernel
theorem dX9_copy_26 : decode cX9_copy 26 = .ok (.aload_n 0, 1) := by decide +kernel
theorem dX9_copy_27 : decode cX9_copy 27 = .ok (.getfield 54, 3) := by decide +kernel
theorem dX9_copy_30 : decode cX9_copy 30 = .ok (.iload_n 3, 1) := by decide +kernel
theorem dX9_copy_31 : decode cX9_copy 31 = .ok (.iaload, 1) := by decide +kernel
theorem dX9_copy_32 : decode cX9_copy 32 = .ok (.ifCond .ge 6, 3) := by decide +kernel
theorem dX9_copy_35 : decode cX9_copy 35 = .ok (.ldc 214, 2) := by decide +kernel
theorem dX9_copy_37 : decode cX9_copy 37 = .ok (.ireturn, 1) := by decide +kernel
theorem dX9_copy_38 : decode cX9_copy 38 = .ok (.aload_n 0, 1) := by decide +kernel
theorem dX9_copy_39 : decode cX9_copy 39 = .ok (.getfield 54, 3) := by decide +kernel
theorem dX9_copy_42 : decode cX9_copy 42 = .ok (.iload_n 1, 1) := by decide +kernel
theorem dX9_copy_43 : decode cX9_copy 43 = .ok (.iaload, 1) := by decide +kernel
theorem dX9_copy_44 : decode cX9_copy 44 = .ok (.aload_n 0, 1) := by decide +kernel
theorem dX9_copy_45 : decode cX9_copy 45 = .ok (.getfield 54, 3) := by decide +kernel
theorem dX9_copy_48 : decode cX9_copy 48 = .ok (.iload_n 3, 1) := by decide +kernel
theorem dX9_copy_49 : decode cX9_copy 49 = .ok (.iaload, 1) := by decide +kernel
theorem dX9_copy_50 : decode cX9_copy 50 = .ok (.if_icmp .eq 6, 3) := by decide +kernel
theorem dX9_copy_53 : decode cX9_copy 53 = .ok (.ldc 140, 2) := by decide +kernel
theorem dX9_copy_55 : decode cX9_copy 55 = .ok (.ireturn, 1) := by decide +kernel
theorem dX9_copy_56 : decode cX9_copy 56 = .ok (.iload_n 2, 1) := by decide +kernel
theorem dX9_copy_57 : decode cX9_copy 57 = .ok (.ifCond .lt 40, 3) := by decide +kernel
theorem dX9_copy_60 : decode cX9_copy 60 = .ok (.iload 4, 2) := by decide +kernel
theorem dX9_copy_62 : decode cX9_copy 62 = .ok (.ifCond .lt 35, 3) := by decide +kernel
theorem dX9_copy_65 : decode cX9_copy 65 = .ok (.iload 5, 2) := by decide +kernel
theorem dX9_copy_67 : decode cX9_copy 67 = .ok (.ifCond .lt 30, 3) := by decide +kernel
theorem dX9_copy_70 : decode cX9_copy 70 = .ok (.iload_n 2, 1) := by decide +kernel
theorem dX9_copy_71 : decode cX9_copy 71 = .ok (.aload_n 0, 1) := by decide +kernel
theorem dX9_copy_72 : decode cX9_copy 72 = .ok (.getfield 57, 3) := by decide +kernel
theorem dX9_copy_75 : decode cX9_copy 75 = .ok (.iload_n 1, 1) := by decide +kernel
theorem dX9_copy_76 : decode cX9_copy 76 = .ok (.iaload, 1) := by decide +kernel
theorem dX9_copy_77 : decode cX9_copy 77 = .ok (.iload 5, 2) := by decide +kernel
theorem dX9_copy_79 : decode cX9_copy 79 = .ok (.isub, 1) := by decide +kernel
theorem dX9_copy_80 : decode cX9_copy 80 = .ok (.if_icmp .gt 17, 3) := by decide +kernel
theorem dX9_copy_83 : decode cX9_copy 83 = .ok (.iload 4, 2) := by decide +kernel
theorem dX9_copy_85 : decode cX9_copy 85 = .ok (.aload_n 0, 1) := by decide +kernel
theorem dX9_copy_86 : decode cX9_copy 86 = .ok (.getfield 57, 3) := by decide +kernel
theorem dX9_copy_89 : decode cX9_copy 89 = .ok (.iload_n 3, 1) := by decide +kernel
theorem dX9_copy_90 : decode cX9_copy 90 = .ok (.iaload, 1) := by decide +kernel
theorem dX9_copy_91 : decode cX9_copy 91 = .ok (.iload 5, 2) := by decide +kernel
theorem dX9_copy_93 : decode cX9_copy 93 = .ok (.isub, 1) := by decide +kernel
theorem dX9_copy_94 : decode cX9_copy 94 = .ok (.if_icmp .le 7, 3) := by decide +kernel
theorem dX9_copy_97 : decode cX9_copy 97 = .ok (.ldc_w 286, 3) := by decide +kernel
theorem dX9_copy_100 : decode cX9_copy 100 = .ok (.ireturn, 1) := by decide +kernel
theorem dX9_copy_101 : decode cX9_copy 101 = .ok (.iconst 0, 1) := by decide +kernel
theorem dX9_copy_102 : decode cX9_copy 102 = .ok (.istore 6, 2) := by decide +kernel
theorem dX9_copy_104 : decode cX9_copy 104 = .ok (.iload 6, 2) := by decide +kernel
theorem dX9_copy_106 : decode cX9_copy 106 = .ok (.iload 5, 2) := by decide +kernel
theorem dX9_copy_108 : decode cX9_copy 108 = .ok (.if_icmp .ge 30, 3) := by decide +kernel
theorem dX9_copy_111 : decode cX9_copy 111 = .ok (.aload_n 0, 1) := by decide +kernel
theorem dX9_copy_112 : decode cX9_copy 112 = .ok (.getfield 75, 3) := by decide +kernel
theorem dX9_copy_115 : decode cX9_copy 115 = .ok (.iload 6, 2) := by decide +kernel
theorem dX9_copy_117 : decode cX9_copy 117 = .ok (.aload_n 0, 1) := by decide +kernel
theorem dX9_copy_118 : decode cX9_copy 118 = .ok (.getfield 60, 3) := by decide +kernel
theorem dX9_copy_121 : decode cX9_copy 121 = .ok (.bipush 24, 2) := by decide +kernel
theorem dX9_copy_123 : decode cX9_copy 123 = .ok (.iload_n 1, 1) := by decide +kernel
theorem dX9_copy_124 : decode cX9_copy 124 = .ok (.imul, 1) := by decide +kernel
theorem dX9_copy_125 : decode cX9_copy 125 = .ok (.iload_n 2, 1) := by decide +kernel
theorem dX9_copy_126 : decode cX9_copy 126 = .ok (.iadd, 1) := by decide +kernel
theorem dX9_copy_127 : decode cX9_copy 127 = .ok (.iload 6, 2) := by decide +kernel
theorem dX9_copy_129 : decode cX9_copy 129 = .ok (.iadd, 1) := by decide +kernel
theorem dX9_copy_130 : decode cX9_copy 130 = .ok (.iaload, 1) := by decide +kernel
theorem dX9_copy_131 : decode cX9_copy 131 = .ok (.iastore, 1) := by decide +kernel
theorem dX9_copy_132 : decode cX9_copy 132 = .ok (.iinc 6 1, 3) := by decide +kernel
theorem dX9_copy_135 : decode cX9_copy 135 = .ok (.goto (-31), 3) := by decide +kernel
theorem dX9_copy_138 : decode cX9_copy 138 = .ok (.iconst 0, 1) := by decide +kernel
theorem dX9_copy_139 : decode cX9_copy 139 = .ok (.istore 6, 2) := by decide +kernel
theorem dX9_copy_141 : decode cX9_copy 141 = .ok (.iload 6, 2) := by decide +kernel
theorem dX9_copy_143 : decode cX9_copy 143 = .ok (.iload 5, 2) := by decide +kernel
theorem dX9_copy_145 : decode cX9_copy 145 = .ok (.if_icmp .ge 31, 3) := by decide +kernel
theorem dX9_copy_148 : decode cX9_copy 148 = .ok (.aload_n 0, 1) := by decide +kernel
theorem dX9_copy_149 : decode cX9_copy 149 = .ok (.getfield 60, 3) := by decide +kernel
theorem dX9_copy_152 : decode cX9_copy 152 = .ok (.bipush 24, 2) := by decide +kernel
theorem dX9_copy_154 : decode cX9_copy 154 = .ok (.iload_n 3, 1) := by decide +kernel
theorem dX9_copy_155 : decode cX9_copy 155 = .ok (.imul, 1) := by decide +kernel
theorem dX9_copy_156 : decode cX9_copy 156 = .ok (.iload 4, 2) := by decide +kernel
theorem dX9_copy_158 : decode cX9_copy 158 = .ok (.iadd, 1) := by decide +kernel
theorem dX9_copy_159 : decode cX9_copy 159 = .ok (.iload 6, 2) := by decide +kernel
theorem dX9_copy_161 : decode cX9_copy 161 = .ok (.iadd, 1) := by decide +kernel
theorem dX9_copy_162 : decode cX9_copy 162 = .ok (.aload_n 0, 1) := by decide +kernel
theorem dX9_copy_163 : decode cX9_copy 163 = .ok (.getfield 75, 3) := by decide +kernel
theorem dX9_copy_166 : decode cX9_copy 166 = .ok (.iload 6, 2) := by decide +kernel
theorem dX9_copy_168 : decode cX9_copy 168 = .ok (.iaload, 1) := by decide +kernel
theorem dX9_copy_169 : decode cX9_copy 169 = .ok (.iastore, 1) := by decide +kernel
theorem dX9_copy_170 : decode cX9_copy 170 = .ok (.iinc 6 1, 3) := by decide +kernel
theorem dX9_copy_173 : decode cX9_copy 173 = .ok (.goto (-32), 3) := by decide +kernel
theorem dX9_copy_176 : decode cX9_copy 176 = .ok (.iload 5, 2) := by decide +kernel
theorem dX9_copy_178 : decode cX9_copy 178 = .ok (.ireturn, 1) := by decide +kernel
theorem dX9_lay_0 : decode cX9_lay 0 = .ok (.iload_n 1, 1) := by decide +kernel
theorem dX9_lay_1 : decode cX9_lay 1 = .ok (.invokestatic 289, 3) := by decide +kernel
theorem dX9_lay_4 : decode cX9_lay 4 = .ok (.ifCond .eq 37, 3) := by decide +kernel
theorem dX9_lay_7 : decode cX9_lay 7 = .ok (.iload_n 2, 1) := by decide +kernel
theorem dX9_lay_8 : decode cX9_lay 8 = .ok (.iconst 0, 1) := by decide +kernel
theorem dX9_lay_9 : decode cX9_lay 9 = .ok (.iconst 3, 1) := by decide +kernel
theorem dX9_lay_10 : decode cX9_lay 10 = .ok (.invokestatic 81, 3) := by decide +kernel
theorem dX9_lay_13 : decode cX9_lay 13 = .ok (.ifCond .eq 28, 3) := by decide +kernel
theorem dX9_lay_16 : decode cX9_lay 16 = .ok (.iload_n 2, 1) := by decide +kernel
theorem dX9_lay_17 : decode cX9_lay 17 = .ok (.iconst 1, 1) := by decide +kernel
theorem dX9_lay_18 : decode cX9_lay 18 = .ok (.if_icmp .ne 11, 3) := by decide +kernel
theorem dX9_lay_21 : decode cX9_lay 21 = .ok (.aload_n 0, 1) := by decide +kernel
theorem dX9_lay_22 : decode cX9_lay 22 = .ok (.iload_n 3, 1) := by decide +kernel
theorem dX9_lay_23 : decode cX9_lay 23 = .ok (.invokevirtual 85, 3) := by decide +kernel
theorem dX9_lay_26 : decode cX9_lay 26 = .ok (.ifCond .eq 15, 3) := by decide +kernel
theorem dX9_lay_29 : decode cX9_lay 29 = .ok (.iload_n 2, 1) := by decide +kernel
theorem dX9_lay_30 : decode cX9_lay 30 = .ok (.iconst 2, 1) := by decide +kernel
theorem dX9_lay_31 : decode cX9_lay 31 = .ok (.if_icmp .ne 13, 3) := by decide +kernel
theorem dX9_lay_34 : decode cX9_lay 34 = .ok (.iload_n 3, 1) := by decide +kernel
theorem dX9_lay_35 : decode cX9_lay 35 = .ok (.invokestatic 211, 3) := by decide +kernel
theorem dX9_lay_38 : decode cX9_lay 38 = .ok (.ifCond .ne 6, 3) := by decide +kernel
theorem dX9_lay_41 : decode cX9_lay 41 = .ok (.ldc 121, 2) := by decide +kernel
theorem dX9_lay_43 : decode cX9_lay 43 = .ok (.ireturn, 1) := by decide +kernel
theorem dX9_lay_44 : decode cX9_lay 44 = .ok (.iload_n 2, 1) := by decide +kernel
theorem dX9_lay_45 : decode cX9_lay 45 = .ok (.iconst 2, 1) := by decide +kernel
theorem dX9_lay_46 : decode cX9_lay 46 = .ok (.if_icmp .ne 15, 3) := by decide +kernel
theorem dX9_lay_49 : decode cX9_lay 49 = .ok (.aload_n 0, 1) := by decide +kernel
theorem dX9_lay_50 : decode cX9_lay 50 = .ok (.getfield 54, 3) := by decide +kernel
theorem dX9_lay_53 : decode cX9_lay 53 = .ok (.iload_n 3, 1) := by decide +kernel
theorem dX9_lay_54 : decode cX9_lay 54 = .ok (.iaload, 1) := by decide +kernel
theorem dX9_lay_55 : decode cX9_lay 55 = .ok (.ifCond .ge 6, 3) := by decide +kernel
theorem dX9_lay_58 : decode cX9_lay 58 = .ok (.ldc 214, 2) := by decide +kernel
theorem dX9_lay_60 : decode cX9_lay 60 = .ok (.ireturn, 1) := by decide +kernel
theorem dX9_lay_61 : decode cX9_lay 61 = .ok (.aload_n 0, 1) := by decide +kernel
theorem dX9_lay_62 : decode cX9_lay 62 = .ok (.getfield 63, 3) := by decide +kernel
theorem dX9_lay_65 : decode cX9_lay 65 = .ok (.iload_n 1, 1) := by decide +kernel
theorem dX9_lay_66 : decode cX9_lay 66 = .ok (.iaload, 1) := by decide +kernel
theorem dX9_lay_67 : decode cX9_lay 67 = .ok (.istore 4, 2) := by decide +kernel
theorem dX9_lay_69 : decode cX9_lay 69 = .ok (.aload_n 0, 1) := by decide +kernel
theorem dX9_lay_70 : decode cX9_lay 70 = .ok (.getfield 63, 3) := by decide +kernel
theorem dX9_lay_73 : decode cX9_lay 73 = .ok (.iload_n 1, 1) := by decide +kernel
theorem dX9_lay_74 : decode cX9_lay 74 = .ok (.iload_n 2, 1) := by decide +kernel
theorem dX9_lay_75 : decode cX9_lay 75 = .ok (.iastore, 1) := by decide +kernel
theorem dX9_lay_76 : decode cX9_lay 76 = .ok (.aload_n 0, 1) := by decide +kernel
theorem dX9_lay_77 : decode cX9_lay 77 = .ok (.getfield 66, 3) := by decide +kernel
theorem dX9_lay_80 : decode cX9_lay 80 = .ok (.iload_n 1, 1) := by decide +kernel
theorem dX9_lay_81 : decode cX9_lay 81 = .ok (.iload_n 2, 1) := by decide +kernel
theorem dX9_lay_82 : decode cX9_lay 82 = .ok (.iconst 1, 1) := by decide +kernel
theorem dX9_lay_83 : decode cX9_lay 83 = .ok (.if_icmp .ne 12, 3) := by decide +kernel
theorem dX9_lay_86 : decode cX9_lay 86 = .ok (.aload_n 0, 1) := by decide +kernel
theorem dX9_lay_87 : decode cX9_lay 87 = .ok (.iload_n 3, 1) := by decide +kernel
theorem dX9_lay_88 : decode cX9_lay 88 = .ok (.iconst 0, 1) := by decide +kernel
theorem dX9_lay_89 : decode cX9_lay 89 = .ok (.invokevirtual 89, 3) := by decide +kernel
theorem dX9_lay_92 : decode cX9_lay 92 = .ok (.goto 18, 3) := by decide +kernel
theorem dX9_lay_95 : decode cX9_lay 95 = .ok (.iload_n 2, 1) := by decide +kernel
theorem dX9_lay_96 : decode cX9_lay 96 = .ok (.iconst 2, 1) := by decide +kernel
theorem dX9_lay_97 : decode cX9_lay 97 = .ok (.if_icmp .ne 12, 3) := by decide +kernel
theorem dX9_lay_100 : decode cX9_lay 100 = .ok (.aload_n 0, 1) := by decide +kernel
theorem dX9_lay_101 : decode cX9_lay 101 = .ok (.getfield 57, 3) := by decide +kernel
theorem dX9_lay_104 : decode cX9_lay 104 = .ok (.iload_n 3, 1) := by decide +kernel
theorem dX9_lay_105 : decode cX9_lay 105 = .ok (.iaload, 1) := by decide +kernel
theorem dX9_lay_106 : decode cX9_lay 106 = .ok (.goto 4, 3) := by decide +kernel
theorem dX9_lay_109 : decode cX9_lay 109 = .ok (.iload_n 3, 1) := by decide +kernel
theorem dX9_lay_110 : decode cX9_lay 110 = .ok (.iastore, 1) := by decide +kernel
theorem dX9_lay_111 : decode cX9_lay 111 = .ok (.aload_n 0, 1) := by decide +kernel
theorem dX9_lay_112 : decode cX9_lay 112 = .ok (.getfield 69, 3) := by decide +kernel
theorem dX9_lay_115 : decode cX9_lay 115 = .ok (.iload_n 1, 1) := by decide +kernel
theorem dX9_lay_116 : decode cX9_lay 116 = .ok (.iload_n 2, 1) := by decide +kernel
theorem dX9_lay_117 : decode cX9_lay 117 = .ok (.iconst 1, 1) := by decide +kernel
theorem dX9_lay_118 : decode cX9_lay 118 = .ok (.if_icmp .ne 11, 3) := by decide +kernel
theorem dX9_lay_121 : decode cX9_lay 121 = .ok (.aload_n 0, 1) := by decide +kernel
theorem dX9_lay_122 : decode cX9_lay 122 = .ok (.iload_n 3, 1) := by decide +kernel
theorem dX9_lay_123 : decode cX9_lay 123 = .ok (.invokevirtual 130, 3) := by decide +kernel
theorem dX9_lay_126 : decode cX9_lay 126 = .ok (.goto 4, 3) := by decide +kernel
theorem dX9_lay_129 : decode cX9_lay 129 = .ok (.iconst 0, 1) := by decide +kernel
theorem dX9_lay_130 : decode cX9_lay 130 = .ok (.iastore, 1) := by decide +kernel
theorem dX9_lay_131 : decode cX9_lay 131 = .ok (.iconst 0, 1) := by decide +kernel
theorem dX9_lay_132 : decode cX9_lay 132 = .ok (.istore 5, 2) := by decide +kernel
theorem dX9_lay_134 : decode cX9_lay 134 = .ok (.iload 5, 2) := by decide +kernel
theorem dX9_lay_136 : decode cX9_lay 136 = .ok (.bipush 24, 2) := by decide +kernel
theorem dX9_lay_138 : decode cX9_lay 138 = .ok (.if_icmp .ge 38, 3) := by decide +kernel
theorem dX9_lay_141 : decode cX9_lay 141 = .ok (.iload_n 2, 1) := by decide +kernel
theorem dX9_lay_142 : decode cX9_lay 142 = .ok (.iconst 2, 1) := by decide +kernel
theorem dX9_lay_143 : decode cX9_lay 143 = .ok (.if_icmp .ne 33, 3) := by decide +kernel
theorem dX9_lay_146 : decode cX9_lay 146 = .ok (.aload_n 0, 1) := by decide +kernel
theorem dX9_lay_147 : decode cX9_lay 147 = .ok (.getfield 72, 3) := by decide +kernel
theorem dX9_lay_150 : decode cX9_lay 150 = .ok (.bipush 24, 2) := by decide +kernel
theorem dX9_lay_152 : decode cX9_lay 152 = .ok (.iload_n 1, 1) := by decide +kernel
theorem dX9_lay_153 : decode cX9_lay 153 = .ok (.imul, 1) := by decide +kernel
theorem dX9_lay_154 : decode cX9_lay 154 = .ok (.iload 5, 2) := by decide +kernel
theorem dX9_lay_156 : decode cX9_lay 156 = .ok (.iadd, 1) := by decide +kernel
theorem dX9_lay_157 : decode cX9_lay 157 = .ok (.aload_n 0, 1) := by decide +kernel
theorem dX9_lay_158 : decode cX9_lay 158 = .ok (.getfield 60, 3) := by decide +kernel
theorem dX9_lay_161 : decode cX9_lay 161 = .ok (.bipush 24, 2) := by decide +kernel
theorem dX9_lay_163 : decode cX9_lay 163 = .ok (.iload_n 3, 1) := by decide +kernel
theorem dX9_lay_164 : decode cX9_lay 164 = .ok (.imul, 1) := by decide +kernel
theorem dX9_lay_165 : decode cX9_lay 165 = .ok (.iload 5, 2) := by decide +kernel
theorem dX9_lay_167 : decode cX9_lay 167 = .ok (.iadd, 1) := by decide +kernel
theorem dX9_lay_168 : decode cX9_lay 168 = .ok (.iaload, 1) := by decide +kernel
theorem dX9_lay_169 : decode cX9_lay 169 = .ok (.iastore, 1) := by decide +kernel
theorem dX9_lay_170 : decode cX9_lay 170 = .ok (.iinc 5 1, 3) := by decide +kernel
theorem dX9_lay_173 : decode cX9_lay 173 = .ok (.goto (-39), 3) := by decide +kernel
theorem dX9_lay_176 : decode cX9_lay 176 = .ok (.iload 4, 2) := by decide +kernel
theorem dX9_lay_178 : decode cX9_lay 178 = .ok (.ireturn, 1) := by decide +kernel
theorem dX9_ask_0 : decode cX9_ask 0 = .ok (.iload_n 1, 1) := by decide +kernel
theorem dX9_ask_1 : decode cX9_ask 1 = .ok (.invokestatic 289, 3) := by decide +kernel
theorem dX9_ask_4 : decode cX9_ask 4 = .ok (.ifCond .eq 12, 3) := by decide +kernel
theorem dX9_ask_7 : decode cX9_ask 7 = .ok (.iload_n 2, 1) := by decide +kernel
theorem dX9_ask_8 : decode cX9_ask 8 = .ok (.iconst 0, 1) := by decide +kernel
theorem dX9_ask_9 : decode cX9_ask 9 = .ok (.iconst 5, 1) := by decide +kernel
theorem dX9_ask_10 : decode cX9_ask 10 = .ok (.invokestatic 81, 3) := by decide +kernel
theorem dX9_ask_13 : decode cX9_ask 13 = .ok (.ifCond .ne 6, 3) := by decide +kernel
theorem dX9_ask_16 : decode cX9_ask 16 = .ok (.ldc 121, 2) := by decide +kernel
theorem dX9_ask_18 : decode cX9_ask 18 = .ok (.ireturn, 1) := by decide +kernel
theorem dX9_ask_19 : decode cX9_ask 19 = .ok (.aload_n 0, 1) := by decide +kernel
theorem dX9_ask_20 : decode cX9_ask 20 = .ok (.getfield 63, 3) := by decide +kernel
theorem dX9_ask_23 : decode cX9_ask 23 = .ok (.iload_n 1, 1) := by decide +kernel
theorem dX9_ask_24 : decode cX9_ask 24 = .ok (.iaload, 1) := by decide +kernel
theorem dX9_ask_25 : decode cX9_ask 25 = .ok (.ifCond .ne 6, 3) := by decide +kernel
theorem dX9_ask_28 : decode cX9_ask 28 = .ok (.ldc 214, 2) := by decide +kernel
theorem dX9_ask_30 : decode cX9_ask 30 = .ok (.ireturn, 1) := by decide +kernel
theorem dX9_ask_31 : decode cX9_ask 31 = .ok (.aload_n 0, 1) := by decide +kernel
theorem dX9_ask_32 : decode cX9_ask 32 = .ok (.getfield 63, 3) := by decide +kernel
theorem dX9_ask_35 : decode cX9_ask 35 = .ok (.iload_n 1, 1) := by decide +kernel
theorem dX9_ask_36 : decode cX9_ask 36 = .ok (.iaload, 1) := by decide +kernel
theorem dX9_ask_37 : decode cX9_ask 37 = .ok (.iconst 1, 1) := by decide +kernel
theorem dX9_ask_38 : decode cX9_ask 38 = .ok (.if_icmp .ne 25, 3) := by decide +kernel
theorem dX9_ask_41 : decode cX9_ask 41 = .ok (.aload_n 0, 1) := by decide +kernel
theorem dX9_ask_42 : decode cX9_ask 42 = .ok (.getfield 66, 3) := by decide +kernel
theorem dX9_ask_45 : decode cX9_ask 45 = .ok (.iload_n 1, 1) := by decide +kernel
theorem dX9_ask_46 : decode cX9_ask 46 = .ok (.iaload, 1) := by decide +kernel
theorem dX9_ask_47 : decode cX9_ask 47 = .ok (.iload_n 2, 1) := by decide +kernel
theorem dX9_ask_48 : decode cX9_ask 48 = .ok (.invokestatic 136, 3) := by decide +kernel
theorem dX9_ask_51 : decode cX9_ask 51 = .ok (.ifCond .eq 12, 3) := by decide +kernel
theorem dX9_ask_54 : decode cX9_ask 54 = .ok (.aload_n 0, 1) := by decide +kernel
theorem dX9_ask_55 : decode cX9_ask 55 = .ok (.getfield 69, 3) := by decide +kernel
theorem dX9_ask_58 : decode cX9_ask 58 = .ok (.iload_n 1, 1) := by decide +kernel
theorem dX9_ask_59 : decode cX9_ask 59 = .ok (.iaload, 1) := by decide +kernel
theorem dX9_ask_60 : decode cX9_ask 60 = .ok (.goto 5, 3) := by decide +kernel
theorem dX9_ask_63 : decode cX9_ask 63 = .ok (.ldc 140, 2) := by decide +kernel
theorem dX9_ask_65 : decode cX9_ask 65 = .ok (.ireturn, 1) := by decide +kernel
theorem dX9_item_0 : decode cX9_item 0 = .ok (.iload_n 1, 1) := by decide +kernel
theorem dX9_item_1 : decode cX9_item 1 = .ok (.invokestatic 289, 3) := by decide +kernel
theorem dX9_item_4 : decode cX9_item 4 = .ok (.ifCond .ne 6, 3) := by decide +kernel
theorem dX9_item_7 : decode cX9_item 7 = .ok (.ldc 121, 2) := by decide +kernel
theorem dX9_item_9 : decode cX9_item 9 = .ok (.ireturn, 1) := by decide +kernel
theorem dX9_item_10 : decode cX9_item 10 = .ok (.aload_n 0, 1) := by decide +kernel
theorem dX9_item_11 : decode cX9_item 11 = .ok (.getfield 63, 3) := by decide +kernel
theorem dX9_item_14 : decode cX9_item 14 = .ok (.iload_n 1, 1) := by decide +kernel
theorem dX9_item_15 : decode cX9_item 15 = .ok (.iaload, 1) := by decide +kernel
theorem dX9_item_16 : decode cX9_item 16 = .ok (.ifCond .ne 6, 3) := by decide +kernel
theorem dX9_item_19 : decode cX9_item 19 = .ok (.ldc 214, 2) := by decide +kernel
theorem dX9_item_21 : decode cX9_item 21 = .ok (.ireturn, 1) := by decide +kernel
theorem dX9_item_22 : decode cX9_item 22 = .ok (.aload_n 0, 1) := by decide +kernel
theorem dX9_item_23 : decode cX9_item 23 = .ok (.getfield 63, 3) := by decide +kernel
theorem dX9_item_26 : decode cX9_item 26 = .ok (.iload_n 1, 1) := by decide +kernel
theorem dX9_item_27 : decode cX9_item 27 = .ok (.iaload, 1) := by decide +kernel
theorem dX9_item_28 : decode cX9_item 28 = .ok (.iconst 2, 1) := by decide +kernel
theorem dX9_item_29 : decode cX9_item 29 = .ok (.if_icmp .eq 6, 3) := by decide +kernel
theorem dX9_item_32 : decode cX9_item 32 = .ok (.ldc 140, 2) := by decide +kernel
theorem dX9_item_34 : decode cX9_item 34 = .ok (.ireturn, 1) := by decide +kernel
theorem dX9_item_35 : decode cX9_item 35 = .ok (.iload_n 2, 1) := by decide +kernel
theorem dX9_item_36 : decode cX9_item 36 = .ok (.iconst 0, 1) := by decide +kernel
theorem dX9_item_37 : decode cX9_item 37 = .ok (.aload_n 0, 1) := by decide +kernel
theorem dX9_item_38 : decode cX9_item 38 = .ok (.getfield 66, 3) := by decide +kernel
theorem dX9_item_41 : decode cX9_item 41 = .ok (.iload_n 1, 1) := by decide +kernel
theorem dX9_item_42 : decode cX9_item 42 = .ok (.iaload, 1) := by decide +kernel
theorem dX9_item_43 : decode cX9_item 43 = .ok (.iconst 1, 1) := by decide +kernel
theorem dX9_item_44 : decode cX9_item 44 = .ok (.isub, 1) := by decide +kernel
theorem dX9_item_45 : decode cX9_item 45 = .ok (.invokestatic 81, 3) := by decide +kernel
theorem dX9_item_48 : decode cX9_item 48 = .ok (.ifCond .ne 7, 3) := by decide +kernel
theorem dX9_item_51 : decode cX9_item 51 = .ok (.ldc_w 286, 3) := by decide +kernel
theorem dX9_item_54 : decode cX9_item 54 = .ok (.ireturn, 1) := by decide +kernel
theorem dX9_item_55 : decode cX9_item 55 = .ok (.aload_n 0, 1) := by decide +kernel
theorem dX9_item_56 : decode cX9_item 56 = .ok (.getfield 72, 3) := by decide +kernel
theorem dX9_item_59 : decode cX9_item 59 = .ok (.bipush 24, 2) := by decide +kernel
theorem dX9_item_61 : decode cX9_item 61 = .ok (.iload_n 1, 1) := by decide +kernel
theorem dX9_item_62 : decode cX9_item 62 = .ok (.imul, 1) := by decide +kernel
theorem dX9_item_63 : decode cX9_item 63 = .ok (.iload_n 2, 1) := by decide +kernel
theorem dX9_item_64 : decode cX9_item 64 = .ok (.iadd, 1) := by decide +kernel
theorem dX9_item_65 : decode cX9_item 65 = .ok (.iaload, 1) := by decide +kernel
theorem dX9_item_66 : decode cX9_item 66 = .ok (.istore_n 3, 1) := by decide +kernel
theorem dX9_item_67 : decode cX9_item 67 = .ok (.iload_n 3, 1) := by decide +kernel
theorem dX9_item_68 : decode cX9_item 68 = .ok (.ldc 180, 2) := by decide +kernel
theorem dX9_item_70 : decode cX9_item 70 = .ok (.if_icmp .ne 8, 3) := by decide +kernel
theorem dX9_item_73 : decode cX9_item 73 = .ok (.ldc 140, 2) := by decide +kernel
theorem dX9_item_75 : decode cX9_item 75 = .ok (.goto 4, 3) := by decide +kernel
theorem dX9_item_78 : decode cX9_item 78 = .ok (.iload_n 3, 1) := by decide +kernel
theorem dX9_item_79 : decode cX9_item 79 = .ok (.ireturn, 1) := by decide +kernel
theorem dX9_rest_0 : decode cX9_rest 0 = .ok (.iload_n 1, 1) := by decide +kernel
theorem dX9_rest_1 : decode cX9_rest 1 = .ok (.invokestatic 289, 3) := by decide +kernel
theorem dX9_rest_4 : decode cX9_rest 4 = .ok (.ifCond .ne 6, 3) := by decide +kernel
theorem dX9_rest_7 : decode cX9_rest 7 = .ok (.ldc 121, 2) := by decide +kernel
theorem dX9_rest_9 : decode cX9_rest 9 = .ok (.ireturn, 1) := by decide +kernel
theorem dX9_rest_10 : decode cX9_rest 10 = .ok (.aload_n 0, 1) := by decide +kernel
theorem dX9_rest_11 : decode cX9_rest 11 = .ok (.getfield 63, 3) := by decide +kernel
theorem dX9_rest_14 : decode cX9_rest 14 = .ok (.iload_n 1, 1) := by decide +kernel
theorem dX9_rest_15 : decode cX9_rest 15 = .ok (.iaload, 1) := by decide +kernel
theorem dX9_rest_16 : decode cX9_rest 16 = .ok (.ifCond .ne 6, 3) := by decide +kernel
theorem dX9_rest_19 : decode cX9_rest 19 = .ok (.ldc 214, 2) := by decide +kernel
theorem dX9_rest_21 : decode cX9_rest 21 = .ok (.ireturn, 1) := by decide +kernel
theorem dX9_rest_22 : decode cX9_rest 22 = .ok (.aload_n 0, 1) := by decide +kernel
theorem dX9_rest_23 : decode cX9_rest 23 = .ok (.getfield 63, 3) := by decide +kernel
theorem dX9_rest_26 : decode cX9_rest 26 = .ok (.iload_n 1, 1) := by decide +kernel
theorem dX9_rest_27 : decode cX9_rest 27 = .ok (.iaload, 1) := by decide +kernel
theorem dX9_rest_28 : decode cX9_rest 28 = .ok (.iconst 3, 1) := by decide +kernel
theorem dX9_rest_29 : decode cX9_rest 29 = .ok (.if_icmp .eq 6, 3) := by decide +kernel
theorem dX9_rest_32 : decode cX9_rest 32 = .ok (.ldc 140, 2) := by decide +kernel
theorem dX9_rest_34 : decode cX9_rest 34 = .ok (.ireturn, 1) := by decide +kernel
theorem dX9_rest_35 : decode cX9_rest 35 = .ok (.iload_n 2, 1) := by decide +kernel
theorem dX9_rest_36 : decode cX9_rest 36 = .ok (.ifCond .ne 8, 3) := by decide +kernel
theorem dX9_rest_39 : decode cX9_rest 39 = .ok (.ldc 162, 2) := by decide +kernel
theorem dX9_rest_41 : decode cX9_rest 41 = .ok (.goto 20, 3) := by decide +kernel
theorem dX9_rest_44 : decode cX9_rest 44 = .ok (.iload_n 2, 1) := by decide +kernel
theorem dX9_rest_45 : decode cX9_rest 45 = .ok (.iconst (-1), 1) := by decide +kernel
theorem dX9_rest_46 : decode cX9_rest 46 = .ok (.if_icmp .ne 7, 3) := by decide +kernel
theorem dX9_rest_49 : decode cX9_rest 49 = .ok (.iconst 0, 1) := by decide +kernel
theorem dX9_rest_50 : decode cX9_rest 50 = .ok (.goto 11, 3) := by decide +kernel
theorem dX9_rest_53 : decode cX9_rest 53 = .ok (.aload_n 0, 1) := by decide +kernel
theorem dX9_rest_54 : decode cX9_rest 54 = .ok (.getfield 66, 3) := by decide +kernel
theorem dX9_rest_57 : decode cX9_rest 57 = .ok (.iload_n 1, 1) := by decide +kernel
theorem dX9_rest_58 : decode cX9_rest 58 = .ok (.iaload, 1) := by decide +kernel
theorem dX9_rest_59 : decode cX9_rest 59 = .ok (.iload_n 2, 1) := by decide +kernel
theorem dX9_rest_60 : decode cX9_rest 60 = .ok (.irem, 1) := by decide +kernel
theorem dX9_rest_61 : decode cX9_rest 61 = .ok (.ireturn, 1) := by decide +kernel
theorem dX9_tell_0 : decode cX9_tell 0 = .ok (.aload_n 0, 1) := by decide +kernel
theorem dX9_tell_1 : decode cX9_tell 1 = .ok (.getfield 292, 3) := by decide +kernel
theorem dX9_tell_4 : decode cX9_tell 4 = .ok (.bipush 60, 2) := by decide +kernel
theorem dX9_tell_6 : decode cX9_tell 6 = .ok (.if_icmp .ne 6, 3) := by decide +kernel
theorem dX9_tell_9 : decode cX9_tell 9 = .ok (.ldc 122, 2) := by decide +kernel
theorem dX9_tell_11 : decode cX9_tell 11 = .ok (.ireturn, 1) := by decide +kernel
theorem dX9_tell_12 : decode cX9_tell 12 = .ok (.aload_n 0, 1) := by decide +kernel
theorem dX9_tell_13 : decode cX9_tell 13 = .ok (.getfield 78, 3) := by decide +kernel
theorem dX9_tell_16 : decode cX9_tell 16 = .ok (.aload_n 0, 1) := by decide +kernel
theorem dX9_tell_17 : decode cX9_tell 17 = .ok (.getfield 292, 3) := by decide +kernel
theorem dX9_tell_20 : decode cX9_tell 20 = .ok (.iload_n 1, 1) := by decide +kernel
theorem dX9_tell_21 : decode cX9_tell 21 = .ok (.iastore, 1) := by decide +kernel
theorem dX9_tell_22 : decode cX9_tell 22 = .ok (.aload_n 0, 1) := by decide +kernel
theorem dX9_tell_23 : decode cX9_tell 23 = .ok (.dup, 1) := by decide +kernel
theorem dX9_tell_24 : decode cX9_tell 24 = .ok (.getfield 292, 3) := by decide +kernel
theorem dX9_tell_27 : decode cX9_tell 27 = .ok (.iconst 1, 1) := by decide +kernel
theorem dX9_tell_28 : decode cX9_tell 28 = .ok (.iadd, 1) := by decide +kernel
theorem dX9_tell_29 : decode cX9_tell 29 = .ok (.putfield 292, 3) := by decide +kernel
theorem dX9_tell_32 : decode cX9_tell 32 = .ok (.aload_n 0, 1) := by decide +kernel
theorem dX9_tell_33 : decode cX9_tell 33 = .ok (.getfield 292, 3) := by decide +kernel
theorem dX9_tell_36 : decode cX9_tell 36 = .ok (.ireturn, 1) := by decide +kernel
theorem dX9_check_0 : decode cX9_check 0 = .ok (.aload_n 0, 1) := by decide +kernel
theorem dX9_check_1 : decode cX9_check 1 = .ok (.getfield 292, 3) := by decide +kernel
theorem dX9_check_4 : decode cX9_check 4 = .ok (.istore_n 2, 1) := by decide +kernel
theorem dX9_check_5 : decode cX9_check 5 = .ok (.aload_n 0, 1) := by decide +kernel
theorem dX9_check_6 : decode cX9_check 6 = .ok (.iconst 0, 1) := by decide +kernel
theorem dX9_check_7 : decode cX9_check 7 = .ok (.putfield 292, 3) := by decide +kernel
theorem dX9_check_10 : decode cX9_check 10 = .ok (.iload_n 1, 1) := by decide +kernel
theorem dX9_check_11 : decode cX9_check 11 = .ok (.iconst 1, 1) := by decide +kernel
theorem dX9_check_12 : decode cX9_check 12 = .ok (.bipush 30, 2) := by decide +kernel
theorem dX9_check_14 : decode cX9_check 14 = .ok (.invokestatic 81, 3) := by decide +kernel
theorem dX9_check_17 : decode cX9_check 17 = .ok (.ifCond .ne 6, 3) := by decide +kernel
theorem dX9_check_20 : decode cX9_check 20 = .ok (.ldc 121, 2) := by decide +kernel
theorem dX9_check_22 : decode cX9_check 22 = .ok (.ireturn, 1) := by decide +kernel
theorem dX9_check_23 : decode cX9_check 23 = .ok (.aload_n 0, 1) := by decide +kernel
theorem dX9_check_24 : decode cX9_check 24 = .ok (.getfield 295, 3) := by decide +kernel
theorem dX9_check_27 : decode cX9_check 27 = .ok (.ifCond .ne 6, 3) := by decide +kernel
theorem dX9_check_30 : decode cX9_check 30 = .ok (.ldc 162, 2) := by decide +kernel
theorem dX9_check_32 : decode cX9_check 32 = .ok (.ireturn, 1) := by decide +kernel
theorem dX9_check_33 : decode cX9_check 33 = .ok (.aload_n 0, 1) := by decide +kernel
theorem dX9_check_34 : decode cX9_check 34 = .ok (.getfield 9, 3) := by decide +kernel
theorem dX9_check_37 : decode cX9_check 37 = .ok (.aload_n 0, 1) := by decide +kernel
theorem dX9_check_38 : decode cX9_check 38 = .ok (.getfield 16, 3) := by decide +kernel
theorem dX9_check_41 : decode cX9_check 41 = .ok (.invokestatic 184, 3) := by decide +kernel
theorem dX9_check_44 : decode cX9_check 44 = .ok (.aload_n 0, 1) := by decide +kernel
theorem dX9_check_45 : decode cX9_check 45 = .ok (.getfield 13, 3) := by decide +kernel
theorem dX9_check_48 : decode cX9_check 48 = .ok (.aload_n 0, 1) := by decide +kernel
theorem dX9_check_49 : decode cX9_check 49 = .ok (.getfield 9, 3) := by decide +kernel
theorem dX9_check_52 : decode cX9_check 52 = .ok (.invokestatic 184, 3) := by decide +kernel
theorem dX9_check_55 : decode cX9_check 55 = .ok (.iconst 2, 1) := by decide +kernel
theorem dX9_check_56 : decode cX9_check 56 = .ok (.sipush 9999, 3) := by decide +kernel
theorem dX9_check_59 : decode cX9_check 59 = .ok (.aload_n 0, 1) := by decide +kernel
theorem dX9_check_60 : decode cX9_check 60 = .ok (.getfield 9, 3) := by decide +kernel
theorem dX9_check_63 : decode cX9_check 63 = .ok (.iconst 2, 1) := by decide +kernel
theorem dX9_check_64 : decode cX9_check 64 = .ok (.iaload, 1) := by decide +kernel
theorem dX9_check_65 : decode cX9_check 65 = .ok (.isub, 1) := by decide +kernel
theorem dX9_check_66 : decode cX9_check 66 = .ok (.iconst 0, 1) := by decide +kernel
theorem dX9_check_67 : decode cX9_check 67 = .ok (.iload_n 1, 1) := by decide +kernel
theorem dX9_check_68 : decode cX9_check 68 = .ok (.invokestatic 107, 3) := by decide +kernel
theorem dX9_check_71 : decode cX9_check 71 = .ok (.imul, 1) := by decide +kernel
theorem dX9_check_72 : decode cX9_check 72 = .ok (.istore_n 3, 1) := by decide +kernel
theorem dX9_check_73 : decode cX9_check 73 = .ok (.iconst 0, 1) := by decide +kernel
theorem dX9_check_74 : decode cX9_check 74 = .ok (.istore 4, 2) := by decide +kernel
theorem dX9_check_76 : decode cX9_check 76 = .ok (.iconst 0, 1) := by decide +kernel
theorem dX9_check_77 : decode cX9_check 77 = .ok (.istore 5, 2) := by decide +kernel
theorem dX9_check_79 : decode cX9_check 79 = .ok (.iconst 2, 1) := by decide +kernel
theorem dX9_check_80 : decode cX9_check 80 = .ok (.iload 5, 2) := by decide +kernel
theorem dX9_check_82 : decode cX9_check 82 = .ok (.imul, 1) := by decide +kernel
theorem dX9_check_83 : decode cX9_check 83 = .ok (.iload_n 3, 1) := by decide +kernel
theorem dX9_check_84 : decode cX9_check 84 = .ok (.if_icmp .ge 95, 3) := by decide +kernel
theorem dX9_check_87 : decode cX9_check 87 = .ok (.iload 4, 2) := by decide +kernel
theorem dX9_check_89 : decode cX9_check 89 = .ok (.iconst 2, 1) := by decide +kernel
theorem dX9_check_90 : decode cX9_check 90 = .ok (.iload 5, 2) := by decide +kernel
theorem dX9_check_92 : decode cX9_check 92 = .ok (.imul, 1) := by decide +kernel
theorem dX9_check_93 : decode cX9_check 93 = .ok (.if_icmp .ne 86, 3) := by decide +kernel
theorem dX9_check_96 : decode cX9_check 96 = .ok (.aload_n 0, 1) := by decide +kernel
theorem dX9_check_97 : decode cX9_check 97 = .ok (.invokevirtual 170, 3) := by decide +kernel
theorem dX9_check_100 : decode cX9_check 100 = .ok (.iload 4, 2) := by decide +kernel
theorem dX9_check_102 : decode cX9_check 102 = .ok (.iload 4, 2) := by decide +kernel
theorem dX9_check_104 : decode cX9_check 104 = .ok (.iload_n 2, 1) := by decide +kernel
theorem dX9_check_105 : decode cX9_check 105 = .ok (.if_icmp .ge 23, 3) := by decide +kernel
theorem dX9_check_108 : decode cX9_check 108 = .ok (.aload_n 0, 1) := by decide +kernel
theorem dX9_check_109 : decode cX9_check 109 = .ok (.getfield 78, 3) := by decide +kernel
theorem dX9_check_112 : decode cX9_check 112 = .ok (.iload 4, 2) := by decide +kernel
theorem dX9_check_114 : decode cX9_check 114 = .ok (.iaload, 1) := by decide +kernel
theorem dX9_check_115 : decode cX9_check 115 = .ok (.aload_n 0, 1) := by decide +kernel
theorem dX9_check_116 : decode cX9_check 116 = .ok (.getfield 9, 3) := by decide +kernel
theorem dX9_check_119 : decode cX9_check 119 = .ok (.iconst 3, 1) := by decide +kernel
theorem dX9_check_120 : decode cX9_check 120 = .ok (.iaload, 1) := by decide +kernel
theorem dX9_check_121 : decode cX9_check 121 = .ok (.if_icmp .ne 7, 3) := by decide +kernel
theorem dX9_check_124 : decode cX9_check 124 = .ok (.iconst 1, 1) := by decide +kernel
theorem dX9_check_125 : decode cX9_check 125 = .ok (.goto 4, 3) := by decide +kernel
theorem dX9_check_128 : decode cX9_check 128 = .ok (.iconst 0, 1) := by decide +kernel
theorem dX9_check_129 : decode cX9_check 129 = .ok (.iadd, 1) := by decide +kernel
theorem dX9_check_130 : decode cX9_check 130 = .ok (.istore 4, 2) := by decide +kernel
theorem dX9_check_132 : decode cX9_check 132 = .ok (.iload 4, 2) := by decide +kernel
theorem dX9_check_134 : decode cX9_check 134 = .ok (.iload 4, 2) := by decide +kernel
theorem dX9_check_136 : decode cX9_check 136 = .ok (.iconst 2, 1) := by decide +kernel
theorem dX9_check_137 : decode cX9_check 137 = .ok (.iload 5, 2) := by decide +kernel
theorem dX9_check_139 : decode cX9_check 139 = .ok (.imul, 1) := by decide +kernel
theorem dX9_check_140 : decode cX9_check 140 = .ok (.iconst 1, 1) := by decide +kernel
theorem dX9_check_141 : decode cX9_check 141 = .ok (.iadd, 1) := by decide +kernel
theorem dX9_check_142 : decode cX9_check 142 = .ok (.if_icmp .ne 27, 3) := by decide +kernel
theorem dX9_check_145 : decode cX9_check 145 = .ok (.iload 4, 2) := by decide +kernel
theorem dX9_check_147 : decode cX9_check 147 = .ok (.iload_n 2, 1) := by decide +kernel
theorem dX9_check_148 : decode cX9_check 148 = .ok (.if_icmp .ge 21, 3) := by decide +kernel
theorem dX9_check_151 : decode cX9_check 151 = .ok (.aload_n 0, 1) := by decide +kernel
theorem dX9_check_152 : decode cX9_check 152 = .ok (.getfield 78, 3) := by decide +kernel
theorem dX9_check_155 : decode cX9_check 155 = .ok (.iload 4, 2) := by decide +kernel
theorem dX9_check_157 : decode cX9_check 157 = .ok (.iaload, 1) := by decide +kernel
theorem dX9_check_158 : decode cX9_check 158 = .ok (.aload_n 0, 1) := by decide +kernel
theorem dX9_check_159 : decode cX9_check 159 = .ok (.invokevirtual 177, 3) := by decide +kernel
theorem dX9_check_162 : decode cX9_check 162 = .ok (.if_icmp .ne 7, 3) := by decide +kernel
theorem dX9_check_165 : decode cX9_check 165 = .ok (.iconst 1, 1) := by decide +kernel
theorem dX9_check_166 : decode cX9_check 166 = .ok (.goto 4, 3) := by decide +kernel
theorem dX9_check_169 : decode cX9_check 169 = .ok (.iconst 0, 1) := by decide +kernel
theorem dX9_check_170 : decode cX9_check 170 = .ok (.iadd, 1) := by decide +kernel
theorem dX9_check_171 : decode cX9_check 171 = .ok (.istore 4, 2) := by decide +kernel
theorem dX9_check_173 : decode cX9_check 173 = .ok (.iinc 5 1, 3) := by decide +kernel
theorem dX9_check_176 : decode cX9_check 176 = .ok (.goto (-97), 3) := by decide +kernel
theorem dX9_check_179 : decode cX9_check 179 = .ok (.aload_n 0, 1) := by decide +kernel
theorem dX9_check_180 : decode cX9_check 180 = .ok (.getfield 16, 3) := by decide +kernel
theorem dX9_check_183 : decode cX9_check 183 = .ok (.aload_n 0, 1) := by decide +kernel
theorem dX9_check_184 : decode cX9_check 184 = .ok (.getfield 9, 3) := by decide +kernel
theorem dX9_check_187 : decode cX9_check 187 = .ok (.invokestatic 184, 3) := by decide +kernel
theorem dX9_check_190 : decode cX9_check 190 = .ok (.iload 4, 2) := by decide +kernel
theorem dX9_check_192 : decode cX9_check 192 = .ok (.iload_n 2, 1) := by decide +kernel
theorem dX9_check_193 : decode cX9_check 193 = .ok (.if_icmp .ne 13, 3) := by decide +kernel
theorem dX9_check_196 : decode cX9_check 196 = .ok (.iload 4, 2) := by decide +kernel
theorem dX9_check_198 : decode cX9_check 198 = .ok (.iload_n 3, 1) := by decide +kernel
theorem dX9_check_199 : decode cX9_check 199 = .ok (.if_icmp .ne 7, 3) := by decide +kernel
theorem dX9_check_202 : decode cX9_check 202 = .ok (.iconst 0, 1) := by decide +kernel
theorem dX9_check_203 : decode cX9_check 203 = .ok (.goto 7, 3) := by decide +kernel
theorem dX9_check_206 : decode cX9_check 206 = .ok (.iconst 1, 1) := by decide +kernel
theorem dX9_check_207 : decode cX9_check 207 = .ok (.iload 4, 2) := by decide +kernel
theorem dX9_check_209 : decode cX9_check 209 = .ok (.iadd, 1) := by decide +kernel
theorem dX9_check_210 : decode cX9_check 210 = .ok (.ireturn, 1) := by decide +kernel
end
section
theorem dX9_keep_0 : decode cX9_keep 0 = .ok (.aload_n 0, 1) := by decide +kernel
theorem dX9_keep_1 : decode cX9_keep 1 = .ok (.getfield 9, 3) := by decide +kernel
theorem dX9_keep_4 : decode cX9_keep 4 = .ok (.aload_n 0, 1) := by decide +kernel
theorem dX9_keep_5 : decode cX9_keep 5 = .ok (.getfield 13, 3) := by decide +kernel
theorem dX9_keep_8 : decode cX9_keep 8 = .ok (.invokestatic 184, 3) := by decide +kernel
theorem dX9_keep_11 : decode cX9_keep 11 = .ok (.aload_n 0, 1) := by decide +kernel
theorem dX9_keep_12 : decode cX9_keep 12 = .ok (.iconst 1, 1) := by decide +kernel
theorem dX9_keep_13 : decode cX9_keep 13 = .ok (.putfield 295, 3) := by decide +kernel
theorem dX9_keep_16 : decode cX9_keep 16 = .ok (.aload_n 0, 1) := by decide +kernel
theorem dX9_keep_17 : decode cX9_keep 17 = .ok (.getfield 9, 3) := by decide +kernel
theorem dX9_keep_20 : decode cX9_keep 20 = .ok (.iconst 1, 1) := by decide +kernel
theorem dX9_keep_21 : decode cX9_keep 21 = .ok (.iaload, 1) := by decide +kernel
theorem dX9_keep_22 : decode cX9_keep 22 = .ok (.ireturn, 1) := by decide +kernel
theorem dX9_back_0 : decode cX9_back 0 = .ok (.aload_n 0, 1) := by decide +kernel
theorem dX9_back_1 : decode cX9_back 1 = .ok (.getfield 295, 3) := by decide +kernel
theorem dX9_back_4 : decode cX9_back 4 = .ok (.ifCond .ne 6, 3) := by decide +kernel
theorem dX9_back_7 : decode cX9_back 7 = .ok (.ldc 162, 2) := by decide +kernel
theorem dX9_back_9 : decode cX9_back 9 = .ok (.ireturn, 1) := by decide +kernel
theorem dX9_back_10 : decode cX9_back 10 = .ok (.aload_n 0, 1) := by decide +kernel
theorem dX9_back_11 : decode cX9_back 11 = .ok (.getfield 13, 3) := by decide +kernel
theorem dX9_back_14 : decode cX9_back 14 = .ok (.aload_n 0, 1) := by decide +kernel
theorem dX9_back_15 : decode cX9_back 15 = .ok (.getfield 9, 3) := by decide +kernel
theorem dX9_back_18 : decode cX9_back 18 = .ok (.invokestatic 184, 3) := by decide +kernel
theorem dX9_back_21 : decode cX9_back 21 = .ok (.aload_n 0, 1) := by decide +kernel
theorem dX9_back_22 : decode cX9_back 22 = .ok (.getfield 9, 3) := by decide +kernel
theorem dX9_back_25 : decode cX9_back 25 = .ok (.iconst 1, 1) := by decide +kernel
theorem dX9_back_26 : decode cX9_back 26 = .ok (.iaload, 1) := by decide +kernel
theorem dX9_back_27 : decode cX9_back 27 = .ok (.ireturn, 1) := by decide +kernel
theorem dX9_count_0 : decode cX9_count 0 = .ok (.iload_n 1, 1) := by decide +kernel
theorem dX9_count_1 : decode cX9_count 1 = .ok (.tableswitch 90 0 6 #[43, 50, 57, 65, 73, 78, 83], 43) := by decide +kernel
theorem dX9_count_44 : decode cX9_count 44 = .ok (.aload_n 0, 1) := by decide +kernel
theorem dX9_count_45 : decode cX9_count 45 = .ok (.getfield 9, 3) := by decide +kernel
theorem dX9_count_48 : decode cX9_count 48 = .ok (.iconst 1, 1) := by decide +kernel
theorem dX9_count_49 : decode cX9_count 49 = .ok (.iaload, 1) := by decide +kernel
theorem dX9_count_50 : decode cX9_count 50 = .ok (.ireturn, 1) := by decide +kernel
theorem dX9_count_51 : decode cX9_count 51 = .ok (.aload_n 0, 1) := by decide +kernel
theorem dX9_count_52 : decode cX9_count 52 = .ok (.getfield 9, 3) := by decide +kernel
theorem dX9_count_55 : decode cX9_count 55 = .ok (.iconst 2, 1) := by decide +kernel
theorem dX9_count_56 : decode cX9_count 56 = .ok (.iaload, 1) := by decide +kernel
theorem dX9_count_57 : decode cX9_count 57 = .ok (.ireturn, 1) := by decide +kernel
theorem dX9_count_58 : decode cX9_count 58 = .ok (.aload_n 0, 1) := by decide +kernel
theorem dX9_count_59 : decode cX9_count 59 = .ok (.invokevirtual 97, 3) := by decide +kernel
theorem dX9_count_62 : decode cX9_count 62 = .ok (.invokestatic 101, 3) := by decide +kernel
theorem dX9_count_65 : decode cX9_count 65 = .ok (.ireturn, 1) := by decide +kernel
theorem dX9_count_66 : decode cX9_count 66 = .ok (.aload_n 0, 1) := by decide +kernel
theorem dX9_count_67 : decode cX9_count 67 = .ok (.getfield 9, 3) := by decide +kernel
theorem dX9_count_70 : decode cX9_count 70 = .ok (.bipush 6, 2) := by decide +kernel
theorem dX9_count_72 : decode cX9_count 72 = .ok (.iaload, 1) := by decide +kernel
theorem dX9_count_73 : decode cX9_count 73 = .ok (.ireturn, 1) := by decide +kernel
theorem dX9_count_74 : decode cX9_count 74 = .ok (.aload_n 0, 1) := by decide +kernel
theorem dX9_count_75 : decode cX9_count 75 = .ok (.getfield 292, 3) := by decide +kernel
theorem dX9_count_78 : decode cX9_count 78 = .ok (.ireturn, 1) := by decide +kernel
theorem dX9_count_79 : decode cX9_count 79 = .ok (.aload_n 0, 1) := by decide +kernel
theorem dX9_count_80 : decode cX9_count 80 = .ok (.getfield 218, 3) := by decide +kernel
theorem dX9_count_83 : decode cX9_count 83 = .ok (.ireturn, 1) := by decide +kernel
theorem dX9_count_84 : decode cX9_count 84 = .ok (.aload_n 0, 1) := by decide +kernel
theorem dX9_count_85 : decode cX9_count 85 = .ok (.getfield 9, 3) := by decide +kernel
theorem dX9_count_88 : decode cX9_count 88 = .ok (.iconst 0, 1) := by decide +kernel
theorem dX9_count_89 : decode cX9_count 89 = .ok (.iaload, 1) := by decide +kernel
theorem dX9_count_90 : decode cX9_count 90 = .ok (.ireturn, 1) := by decide +kernel
theorem dX9_count_91 : decode cX9_count 91 = .ok (.ldc 121, 2) := by decide +kernel
theorem dX9_count_93 : decode cX9_count 93 = .ok (.ireturn, 1) := by decide +kernel
theorem dJ11_isValidCodePoint_9a6ad_0 : decode cJ11_isValidCodePoint_9a6ad 0 = .ok (.iload_n 0, 1) := by decide +kernel
theorem dJ11_isValidCodePoint_9a6ad_1 : decode cJ11_isValidCodePoint_9a6ad 1 = .ok (.bipush 16, 2) := by decide +kernel
theorem dJ11_isValidCodePoint_9a6ad_3 : decode cJ11_isValidCodePoint_9a6ad 3 = .ok (.iushr, 1) := by decide +kernel
theorem dJ11_isValidCodePoint_9a6ad_4 : decode cJ11_isValidCodePoint_9a6ad 4 = .ok (.istore_n 1, 1) := by decide +kernel
theorem dJ11_isValidCodePoint_9a6ad_5 : decode cJ11_isValidCodePoint_9a6ad 5 = .ok (.iload_n 1, 1) := by decide +kernel
theorem dJ11_isValidCodePoint_9a6ad_6 : decode cJ11_isValidCodePoint_9a6ad 6 = .ok (.bipush 17, 2) := by decide +kernel
theorem dJ11_isValidCodePoint_9a6ad_8 : decode cJ11_isValidCodePoint_9a6ad 8 = .ok (.if_icmp .ge 7, 3) := by decide +kernel
theorem dJ11_isValidCodePoint_9a6ad_11 : decode cJ11_isValidCodePoint_9a6ad 11 = .ok (.iconst 1, 1) := by decide +kernel
theorem dJ11_isValidCodePoint_9a6ad_12 : decode cJ11_isValidCodePoint_9a6ad 12 = .ok (.goto 4, 3) := by decide +kernel
theorem dJ11_isValidCodePoint_9a6ad_15 : decode cJ11_isValidCodePoint_9a6ad 15 = .ok (.iconst 0, 1) := by decide +kernel
theorem dJ11_isValidCodePoint_9a6ad_16 : decode cJ11_isValidCodePoint_9a6ad 16 = .ok (.ireturn, 1) := by decide +kernel
theorem dJ11_highSurrogate_5068e_0 : decode cJ11_highSurrogate_5068e 0 = .ok (.iload_n 0, 1) := by decide +kernel
theorem dJ11_highSurrogate_5068e_1 : decode cJ11_highSurrogate_5068e 1 = .ok (.bipush 10, 2) := by decide +kernel
theorem dJ11_highSurrogate_5068e_3 : decode cJ11_highSurrogate_5068e 3 = .ok (.iushr, 1) := by decide +kernel
theorem dJ11_highSurrogate_5068e_4 : decode cJ11_highSurrogate_5068e 4 = .ok (.ldc 110, 2) := by decide +kernel
theorem dJ11_highSurrogate_5068e_6 : decode cJ11_highSurrogate_5068e 6 = .ok (.iadd, 1) := by decide +kernel
theorem dJ11_highSurrogate_5068e_7 : decode cJ11_highSurrogate_5068e 7 = .ok (.i2c, 1) := by decide +kernel
theorem dJ11_highSurrogate_5068e_8 : decode cJ11_highSurrogate_5068e 8 = .ok (.ireturn, 1) := by decide +kernel
theorem dJ11_lowSurrogate_5068e_0 : decode cJ11_lowSurrogate_5068e 0 = .ok (.iload_n 0, 1) := by decide +kernel
theorem dJ11_lowSurrogate_5068e_1 : decode cJ11_lowSurrogate_5068e 1 = .ok (.sipush 1023, 3) := by decide +kernel
theorem dJ11_lowSurrogate_5068e_4 : decode cJ11_lowSurrogate_5068e 4 = .ok (.iand, 1) := by decide +kernel
theorem dJ11_lowSurrogate_5068e_5 : decode cJ11_lowSurrogate_5068e 5 = .ok (.ldc 76, 2) := by decide +kernel
theorem dJ11_lowSurrogate_5068e_7 : decode cJ11_lowSurrogate_5068e 7 = .ok (.iadd, 1) := by decide +kernel
theorem dJ11_lowSurrogate_5068e_8 : decode cJ11_lowSurrogate_5068e 8 = .ok (.i2c, 1) := by decide +kernel
theorem dJ11_lowSurrogate_5068e_9 : decode cJ11_lowSurrogate_5068e 9 = .ok (.ireturn, 1) := by decide +kernel
theorem dJ6_bitCount_0f7a4_0 : decode cJ6_bitCount_0f7a4 0 = .ok (.iload_n 0, 1) := by decide +kernel
theorem dJ6_bitCount_0f7a4_1 : decode cJ6_bitCount_0f7a4 1 = .ok (.iload_n 0, 1) := by decide +kernel
theorem dJ6_bitCount_0f7a4_2 : decode cJ6_bitCount_0f7a4 2 = .ok (.iconst 1, 1) := by decide +kernel
theorem dJ6_bitCount_0f7a4_3 : decode cJ6_bitCount_0f7a4 3 = .ok (.iushr, 1) := by decide +kernel
theorem dJ6_bitCount_0f7a4_4 : decode cJ6_bitCount_0f7a4 4 = .ok (.ldc_w 265, 3) := by decide +kernel
theorem dJ6_bitCount_0f7a4_7 : decode cJ6_bitCount_0f7a4 7 = .ok (.iand, 1) := by decide +kernel
theorem dJ6_bitCount_0f7a4_8 : decode cJ6_bitCount_0f7a4 8 = .ok (.isub, 1) := by decide +kernel
theorem dJ6_bitCount_0f7a4_9 : decode cJ6_bitCount_0f7a4 9 = .ok (.istore_n 0, 1) := by decide +kernel
theorem dJ6_bitCount_0f7a4_10 : decode cJ6_bitCount_0f7a4 10 = .ok (.iload_n 0, 1) := by decide +kernel
theorem dJ6_bitCount_0f7a4_11 : decode cJ6_bitCount_0f7a4 11 = .ok (.ldc_w 266, 3) := by decide +kernel
theorem dJ6_bitCount_0f7a4_14 : decode cJ6_bitCount_0f7a4 14 = .ok (.iand, 1) := by decide +kernel
theorem dJ6_bitCount_0f7a4_15 : decode cJ6_bitCount_0f7a4 15 = .ok (.iload_n 0, 1) := by decide +kernel
theorem dJ6_bitCount_0f7a4_16 : decode cJ6_bitCount_0f7a4 16 = .ok (.iconst 2, 1) := by decide +kernel
theorem dJ6_bitCount_0f7a4_17 : decode cJ6_bitCount_0f7a4 17 = .ok (.iushr, 1) := by decide +kernel
theorem dJ6_bitCount_0f7a4_18 : decode cJ6_bitCount_0f7a4 18 = .ok (.ldc_w 266, 3) := by decide +kernel
theorem dJ6_bitCount_0f7a4_21 : decode cJ6_bitCount_0f7a4 21 = .ok (.iand, 1) := by decide +kernel
theorem dJ6_bitCount_0f7a4_22 : decode cJ6_bitCount_0f7a4 22 = .ok (.iadd, 1) := by decide +kernel
theorem dJ6_bitCount_0f7a4_23 : decode cJ6_bitCount_0f7a4 23 = .ok (.istore_n 0, 1) := by decide +kernel
theorem dJ6_bitCount_0f7a4_24 : decode cJ6_bitCount_0f7a4 24 = .ok (.iload_n 0, 1) := by decide +kernel
theorem dJ6_bitCount_0f7a4_25 : decode cJ6_bitCount_0f7a4 25 = .ok (.iload_n 0, 1) := by decide +kernel
theorem dJ6_bitCount_0f7a4_26 : decode cJ6_bitCount_0f7a4 26 = .ok (.iconst 4, 1) := by decide +kernel
theorem dJ6_bitCount_0f7a4_27 : decode cJ6_bitCount_0f7a4 27 = .ok (.iushr, 1) := by decide +kernel
theorem dJ6_bitCount_0f7a4_28 : decode cJ6_bitCount_0f7a4 28 = .ok (.iadd, 1) := by decide +kernel
theorem dJ6_bitCount_0f7a4_29 : decode cJ6_bitCount_0f7a4 29 = .ok (.ldc_w 267, 3) := by decide +kernel
theorem dJ6_bitCount_0f7a4_32 : decode cJ6_bitCount_0f7a4 32 = .ok (.iand, 1) := by decide +kernel
theorem dJ6_bitCount_0f7a4_33 : decode cJ6_bitCount_0f7a4 33 = .ok (.istore_n 0, 1) := by decide +kernel
theorem dJ6_bitCount_0f7a4_34 : decode cJ6_bitCount_0f7a4 34 = .ok (.iload_n 0, 1) := by decide +kernel
theorem dJ6_bitCount_0f7a4_35 : decode cJ6_bitCount_0f7a4 35 = .ok (.iload_n 0, 1) := by decide +kernel
theorem dJ6_bitCount_0f7a4_36 : decode cJ6_bitCount_0f7a4 36 = .ok (.bipush 8, 2) := by decide +kernel
theorem dJ6_bitCount_0f7a4_38 : decode cJ6_bitCount_0f7a4 38 = .ok (.iushr, 1) := by decide +kernel
theorem dJ6_bitCount_0f7a4_39 : decode cJ6_bitCount_0f7a4 39 = .ok (.iadd, 1) := by decide +kernel
theorem dJ6_bitCount_0f7a4_40 : decode cJ6_bitCount_0f7a4 40 = .ok (.istore_n 0, 1) := by decide +kernel
theorem dJ6_bitCount_0f7a4_41 : decode cJ6_bitCount_0f7a4 41 = .ok (.iload_n 0, 1) := by decide +kernel
theorem dJ6_bitCount_0f7a4_42 : decode cJ6_bitCount_0f7a4 42 = .ok (.iload_n 0, 1) := by decide +kernel
theorem dJ6_bitCount_0f7a4_43 : decode cJ6_bitCount_0f7a4 43 = .ok (.bipush 16, 2) := by decide +kernel
theorem dJ6_bitCount_0f7a4_45 : decode cJ6_bitCount_0f7a4 45 = .ok (.iushr, 1) := by decide +kernel
theorem dJ6_bitCount_0f7a4_46 : decode cJ6_bitCount_0f7a4 46 = .ok (.iadd, 1) := by decide +kernel
theorem dJ6_bitCount_0f7a4_47 : decode cJ6_bitCount_0f7a4 47 = .ok (.istore_n 0, 1) := by decide +kernel
theorem dJ6_bitCount_0f7a4_48 : decode cJ6_bitCount_0f7a4 48 = .ok (.iload_n 0, 1) := by decide +kernel
theorem dJ6_bitCount_0f7a4_49 : decode cJ6_bitCount_0f7a4 49 = .ok (.bipush 63, 2) := by decide +kernel
theorem dJ6_bitCount_0f7a4_51 : decode cJ6_bitCount_0f7a4 51 = .ok (.iand, 1) := by decide +kernel
theorem dJ6_bitCount_0f7a4_52 : decode cJ6_bitCount_0f7a4 52 = .ok (.ireturn, 1) := by decide +kernel
theorem dJ9_abs_0f7a4_0 : decode cJ9_abs_0f7a4 0 = .ok (.iload_n 0, 1) := by decide +kernel
theorem dJ9_abs_0f7a4_1 : decode cJ9_abs_0f7a4 1 = .ok (.ifCond .ge 8, 3) := by decide +kernel
theorem dJ9_abs_0f7a4_4 : decode cJ9_abs_0f7a4 4 = .ok (.iload_n 0, 1) := by decide +kernel
theorem dJ9_abs_0f7a4_5 : decode cJ9_abs_0f7a4 5 = .ok (.ineg, 1) := by decide +kernel
theorem dJ9_abs_0f7a4_6 : decode cJ9_abs_0f7a4 6 = .ok (.goto 4, 3) := by decide +kernel
theorem dJ9_abs_0f7a4_9 : decode cJ9_abs_0f7a4 9 = .ok (.iload_n 0, 1) := by decide +kernel
theorem dJ9_abs_0f7a4_10 : decode cJ9_abs_0f7a4 10 = .ok (.ireturn, 1) := by decide +kernel
theorem dJ9_max_7cf53_0 : decode cJ9_max_7cf53 0 = .ok (.iload_n 0, 1) := by decide +kernel
theorem dJ9_max_7cf53_1 : decode cJ9_max_7cf53 1 = .ok (.iload_n 1, 1) := by decide +kernel
theorem dJ9_max_7cf53_2 : decode cJ9_max_7cf53 2 = .ok (.if_icmp .lt 7, 3) := by decide +kernel
theorem dJ9_max_7cf53_5 : decode cJ9_max_7cf53 5 = .ok (.iload_n 0, 1) := by decide +kernel
theorem dJ9_max_7cf53_6 : decode cJ9_max_7cf53 6 = .ok (.goto 4, 3) := by decide +kernel
theorem dJ9_max_7cf53_9 : decode cJ9_max_7cf53 9 = .ok (.iload_n 1, 1) := by decide +kernel
theorem dJ9_max_7cf53_10 : decode cJ9_max_7cf53 10 = .ok (.ireturn, 1) := by decide +kernel
theorem dJ9_min_7cf53_0 : decode cJ9_min_7cf53 0 = .ok (.iload_n 0, 1) := by decide +kernel
theorem dJ9_min_7cf53_1 : decode cJ9_min_7cf53 1 = .ok (.iload_n 1, 1) := by decide +kernel
theorem dJ9_min_7cf53_2 : decode cJ9_min_7cf53 2 = .ok (.if_icmp .gt 7, 3) := by decide +kernel
theorem dJ9_min_7cf53_5 : decode cJ9_min_7cf53 5 = .ok (.iload_n 0, 1) := by decide +kernel
theorem dJ9_min_7cf53_6 : decode cJ9_min_7cf53 6 = .ok (.goto 4, 3) := by decide +kernel
theorem dJ9_min_7cf53_9 : decode cJ9_min_7cf53 9 = .ok (.iload_n 1, 1) := by decide +kernel
theorem dJ9_min_7cf53_10 : decode cJ9_min_7cf53 10 = .ok (.ireturn, 1) := by decide +kernel
theorem dJ0_length_8abf5_0 : decode cJ0_length_8abf5 0 = .ok (.aload_n 0, 1) := by decide +kernel
theorem dJ0_length_8abf5_1 : decode cJ0_length_8abf5 1 = .ok (.getfield 9, 3) := by decide +kernel
theorem dJ0_length_8abf5_4 : decode cJ0_length_8abf5 4 = .ok (.arraylength, 1) := by decide +kernel
theorem dJ0_length_8abf5_5 : decode cJ0_length_8abf5 5 = .ok (.aload_n 0, 1) := by decide +kernel
theorem dJ0_length_8abf5_6 : decode cJ0_length_8abf5 6 = .ok (.invokevirtual 335, 3) := by decide +kernel
theorem dJ0_length_8abf5_9 : decode cJ0_length_8abf5 9 = .ok (.ishr, 1) := by decide +kernel
theorem dJ0_length_8abf5_10 : decode cJ0_length_8abf5 10 = .ok (.ireturn, 1) := by decide +kernel
theorem dJ0_charAt_5068e_0 : decode cJ0_charAt_5068e 0 = .ok (.aload_n 0, 1) := by decide +kernel
theorem dJ0_charAt_5068e_1 : decode cJ0_charAt_5068e 1 = .ok (.invokevirtual 492, 3) := by decide +kernel
theorem dJ0_charAt_5068e_4 : decode cJ0_charAt_5068e 4 = .ok (.ifCond .eq 12, 3) := by decide +kernel
theorem dJ0_charAt_5068e_7 : decode cJ0_charAt_5068e 7 = .ok (.aload_n 0, 1) := by decide +kernel
theorem dJ0_charAt_5068e_8 : decode cJ0_charAt_5068e 8 = .ok (.getfield 9, 3) := by decide +kernel
theorem dJ0_charAt_5068e_11 : decode cJ0_charAt_5068e 11 = .ok (.iload_n 1, 1) := by decide +kernel
theorem dJ0_charAt_5068e_12 : decode cJ0_charAt_5068e 12 = .ok (.invokestatic 495, 3) := by decide +kernel
theorem dJ0_charAt_5068e_15 : decode cJ0_charAt_5068e 15 = .ok (.ireturn, 1) := by decide +kernel
theorem dJ0_charAt_5068e_16 : decode cJ0_charAt_5068e 16 = .ok (.aload_n 0, 1) := by decide +kernel
theorem dJ0_charAt_5068e_17 : decode cJ0_charAt_5068e 17 = .ok (.getfield 9, 3) := by decide +kernel
theorem dJ0_charAt_5068e_20 : decode cJ0_charAt_5068e 20 = .ok (.iload_n 1, 1) := by decide +kernel
theorem dJ0_charAt_5068e_21 : decode cJ0_charAt_5068e 21 = .ok (.invokestatic 498, 3) := by decide +kernel
theorem dJ0_charAt_5068e_24 : decode cJ0_charAt_5068e 24 = .ok (.ireturn, 1) := by decide +kernel
theorem dJ0_indexOf_0f7a4_0 : decode cJ0_indexOf_0f7a4 0 = .ok (.aload_n 0, 1) := by decide +kernel
theorem dJ0_indexOf_0f7a4_1 : decode cJ0_indexOf_0f7a4 1 = .ok (.iload_n 1, 1) := by decide +kernel
theorem dJ0_indexOf_0f7a4_2 : decode cJ0_indexOf_0f7a4 2 = .ok (.iconst 0, 1) := by decide +kernel
theorem dJ0_indexOf_0f7a4_3 : decode cJ0_indexOf_0f7a4 3 = .ok (.invokevirtual 633, 3) := by decide +kernel
theorem dJ0_indexOf_0f7a4_6 : decode cJ0_indexOf_0f7a4 6 = .ok (.ireturn, 1) := by decide +kernel
theorem dJ0_indexOf_7cf53_0 : decode cJ0_indexOf_7cf53 0 = .ok (.aload_n 0, 1) := by decide +kernel
theorem dJ0_indexOf_7cf53_1 : decode cJ0_indexOf_7cf53 1 = .ok (.invokevirtual 492, 3) := by decide +kernel
theorem dJ0_indexOf_7cf53_4 : decode cJ0_indexOf_7cf53 4 = .ok (.ifCond .eq 19, 3) := by decide +kernel
theorem dJ0_indexOf_7cf53_7 : decode cJ0_indexOf_7cf53 7 = .ok (.aload_n 0, 1) := by decide +kernel
theorem dJ0_indexOf_7cf53_8 : decode cJ0_indexOf_7cf53 8 = .ok (.getfield 9, 3) := by decide +kernel
theorem dJ0_indexOf_7cf53_11 : decode cJ0_indexOf_7cf53 11 = .ok (.iload_n 1, 1) := by decide +kernel
theorem dJ0_indexOf_7cf53_12 : decode cJ0_indexOf_7cf53 12 = .ok (.iload_n 2, 1) := by decide +kernel
theorem dJ0_indexOf_7cf53_13 : decode cJ0_indexOf_7cf53 13 = .ok (.aload_n 0, 1) := by decide +kernel
theorem dJ0_indexOf_7cf53_14 : decode cJ0_indexOf_7cf53 14 = .ok (.invokevirtual 505, 3) := by decide +kernel
theorem dJ0_indexOf_7cf53_17 : decode cJ0_indexOf_7cf53 17 = .ok (.invokestatic 637, 3) := by decide +kernel
theorem dJ0_indexOf_7cf53_20 : decode cJ0_indexOf_7cf53 20 = .ok (.goto 16, 3) := by decide +kernel
theorem dJ0_indexOf_7cf53_23 : decode cJ0_indexOf_7cf53 23 = .ok (.aload_n 0, 1) := by decide +kernel
theorem dJ0_indexOf_7cf53_24 : decode cJ0_indexOf_7cf53 24 = .ok (.getfield 9, 3) := by decide +kernel
theorem dJ0_indexOf_7cf53_27 : decode cJ0_indexOf_7cf53 27 = .ok (.iload_n 1, 1) := by decide +kernel
theorem dJ0_indexOf_7cf53_28 : decode cJ0_indexOf_7cf53 28 = .ok (.iload_n 2, 1) := by decide +kernel
theorem dJ0_indexOf_7cf53_29 : decode cJ0_indexOf_7cf53 29 = .ok (.aload_n 0, 1) := by decide +kernel
theorem dJ0_indexOf_7cf53_30 : decode cJ0_indexOf_7cf53 30 = .ok (.invokevirtual 505, 3) := by decide +kernel
theorem dJ0_indexOf_7cf53_33 : decode cJ0_indexOf_7cf53 33 = .ok (.invokestatic 640, 3) := by decide +kernel
theorem dJ0_indexOf_7cf53_36 : decode cJ0_indexOf_7cf53 36 = .ok (.ireturn, 1) := by decide +kernel
theorem dJ0_coder_7d493_0 : decode cJ0_coder_7d493 0 = .ok (.getstatic 38, 3) := by decide +kernel
theorem dJ0_coder_7d493_3 : decode cJ0_coder_7d493 3 = .ok (.ifCond .eq 10, 3) := by decide +kernel
theorem dJ0_coder_7d493_6 : decode cJ0_coder_7d493 6 = .ok (.aload_n 0, 1) := by decide +kernel
theorem dJ0_coder_7d493_7 : decode cJ0_coder_7d493 7 = .ok (.getfield 15, 3) := by decide +kernel
theorem dJ0_coder_7d493_10 : decode cJ0_coder_7d493 10 = .ok (.goto 4, 3) := by decide +kernel
theorem dJ0_coder_7d493_13 : decode cJ0_coder_7d493 13 = .ok (.iconst 1, 1) := by decide +kernel
theorem dJ0_coder_7d493_14 : decode cJ0_coder_7d493 14 = .ok (.ireturn, 1) := by decide +kernel
theorem dJ0_isLatin1_aae02_0 : decode cJ0_isLatin1_aae02 0 = .ok (.getstatic 38, 3) := by decide +kernel
theorem dJ0_isLatin1_aae02_3 : decode cJ0_isLatin1_aae02 3 = .ok (.ifCond .eq 14, 3) := by decide +kernel
theorem dJ0_isLatin1_aae02_6 : decode cJ0_isLatin1_aae02 6 = .ok (.aload_n 0, 1) := by decide +kernel
theorem dJ0_isLatin1_aae02_7 : decode cJ0_isLatin1_aae02 7 = .ok (.getfield 15, 3) := by decide +kernel
theorem dJ0_isLatin1_aae02_10 : decode cJ0_isLatin1_aae02 10 = .ok (.ifCond .ne 7, 3) := by decide +kernel
theorem dJ0_isLatin1_aae02_13 : decode cJ0_isLatin1_aae02 13 = .ok (.iconst 1, 1) := by decide +kernel
theorem dJ0_isLatin1_aae02_14 : decode cJ0_isLatin1_aae02 14 = .ok (.goto 4, 3) := by decide +kernel
theorem dJ0_isLatin1_aae02_17 : decode cJ0_isLatin1_aae02 17 = .ok (.iconst 0, 1) := by decide +kernel
theorem dJ0_isLatin1_aae02_18 : decode cJ0_isLatin1_aae02 18 = .ok (.ireturn, 1) := by decide +kernel
theorem dJ0_checkIndex_df160_0 : decode cJ0_checkIndex_df160 0 = .ok (.iload_n 0, 1) := by decide +kernel
theorem dJ0_checkIndex_df160_1 : decode cJ0_checkIndex_df160 1 = .ok (.iload_n 1, 1) := by decide +kernel
theorem dJ0_checkIndex_df160_2 : decode cJ0_checkIndex_df160 2 = .ok (.getstatic 1053, 3) := by decide +kernel
theorem dJ0_checkIndex_df160_5 : decode cJ0_checkIndex_df160 5 = .ok (.invokestatic 1059, 3) := by decide +kernel
theorem dJ0_checkIndex_df160_8 : decode cJ0_checkIndex_df160 8 = .ok (.pop, 1) := by decide +kernel
theorem dJ0_checkIndex_df160_9 : decode cJ0_checkIndex_df160 9 = .ok (.return_, 1) := by decide +kernel
theorem dJ0_checkBoundsBeginEnd_23922_0 : decode cJ0_checkBoundsBeginEnd_23922 0 = .ok (.iload_n 0, 1) := by decide +kernel
theorem dJ0_checkBoundsBeginEnd_23922_1 : decode cJ0_checkBoundsBeginEnd_23922 1 = .ok (.iload_n 1, 1) := by decide +kernel
theorem dJ0_checkBoundsBeginEnd_23922_2 : decode cJ0_checkBoundsBeginEnd_23922 2 = .ok (.iload_n 2, 1) := by decide +kernel
theorem dJ0_checkBoundsBeginEnd_23922_3 : decode cJ0_checkBoundsBeginEnd_23922 3 = .ok (.getstatic 1053, 3) := by decide +kernel
theorem dJ0_checkBoundsBeginEnd_23922_6 : decode cJ0_checkBoundsBeginEnd_23922 6 = .ok (.invokestatic 1062, 3) := by decide +kernel
theorem dJ0_checkBoundsBeginEnd_23922_9 : decode cJ0_checkBoundsBeginEnd_23922 9 = .ok (.pop, 1) := by decide +kernel
theorem dJ0_checkBoundsBeginEnd_23922_10 : decode cJ0_checkBoundsBeginEnd_23922 10 = .ok (.return_, 1) := by decide +kernel
theorem dJ1_charAt_3b067_0 : decode cJ1_charAt_3b067 0 = .ok (.iload_n 1, 1) := by decide +kernel
theorem dJ1_charAt_3b067_1 : decode cJ1_charAt_3b067 1 = .ok (.aload_n 0, 1) := by decide +kernel
theorem dJ1_charAt_3b067_2 : decode cJ1_charAt_3b067 2 = .ok (.arraylength, 1) := by decide +kernel
theorem dJ1_charAt_3b067_3 : decode cJ1_charAt_3b067 3 = .ok (.invokestatic 9, 3) := by decide +kernel
theorem dJ1_charAt_3b067_6 : decode cJ1_charAt_3b067 6 = .ok (.aload_n 0, 1) := by decide +kernel
theorem dJ1_charAt_3b067_7 : decode cJ1_charAt_3b067 7 = .ok (.iload_n 1, 1) := by decide +kernel
theorem dJ1_charAt_3b067_8 : decode cJ1_charAt_3b067 8 = .ok (.baload, 1) := by decide +kernel
theorem dJ1_charAt_3b067_9 : decode cJ1_charAt_3b067 9 = .ok (.sipush 255, 3) := by decide +kernel
theorem dJ1_charAt_3b067_12 : decode cJ1_charAt_3b067 12 = .ok (.iand, 1) := by decide +kernel
theorem dJ1_charAt_3b067_13 : decode cJ1_charAt_3b067 13 = .ok (.i2c, 1) := by decide +kernel
theorem dJ1_charAt_3b067_14 : decode cJ1_charAt_3b067 14 = .ok (.ireturn, 1) := by decide +kernel
theorem dJ1_canEncode_9a6ad_0 : decode cJ1_canEncode_9a6ad 0 = .ok (.iload_n 0, 1) := by decide +kernel
theorem dJ1_canEncode_9a6ad_1 : decode cJ1_canEncode_9a6ad 1 = .ok (.ifCond .lt 14, 3) := by decide +kernel
theorem dJ1_canEncode_9a6ad_4 : decode cJ1_canEncode_9a6ad 4 = .ok (.iload_n 0, 1) := by decide +kernel
theorem dJ1_canEncode_9a6ad_5 : decode cJ1_canEncode_9a6ad 5 = .ok (.sipush 255, 3) := by decide +kernel
theorem dJ1_canEncode_9a6ad_8 : decode cJ1_canEncode_9a6ad 8 = .ok (.if_icmp .gt 7, 3) := by decide +kernel
theorem dJ1_canEncode_9a6ad_11 : decode cJ1_canEncode_9a6ad 11 = .ok (.iconst 1, 1) := by decide +kernel
theorem dJ1_canEncode_9a6ad_12 : decode cJ1_canEncode_9a6ad 12 = .ok (.goto 4, 3) := by decide +kernel
theorem dJ1_canEncode_9a6ad_15 : decode cJ1_canEncode_9a6ad 15 = .ok (.iconst 0, 1) := by decide +kernel
theorem dJ1_canEncode_9a6ad_16 : decode cJ1_canEncode_9a6ad 16 = .ok (.ireturn, 1) := by decide +kernel
theorem dJ1_indexOf_4cfef_0 : decode cJ1_indexOf_4cfef 0 = .ok (.iload_n 1, 1) := by decide +kernel
theorem dJ1_indexOf_4cfef_1 : decode cJ1_indexOf_4cfef 1 = .ok (.invokestatic 88, 3) := by decide +kernel
theorem dJ1_indexOf_4cfef_4 : decode cJ1_indexOf_4cfef 4 = .ok (.ifCond .ne 5, 3) := by decide +kernel
theorem dJ1_indexOf_4cfef_7 : decode cJ1_indexOf_4cfef 7 = .ok (.iconst (-1), 1) := by decide +kernel
theorem dJ1_indexOf_4cfef_8 : decode cJ1_indexOf_4cfef 8 = .ok (.ireturn, 1) := by decide +kernel
theorem dJ1_indexOf_4cfef_9 : decode cJ1_indexOf_4cfef 9 = .ok (.iload_n 2, 1) := by decide +kernel
theorem dJ1_indexOf_4cfef_10 : decode cJ1_indexOf_4cfef 10 = .ok (.iconst 0, 1) := by decide +kernel
theorem dJ1_indexOf_4cfef_11 : decode cJ1_indexOf_4cfef 11 = .ok (.invokestatic 92, 3) := by decide +kernel
theorem dJ1_indexOf_4cfef_14 : decode cJ1_indexOf_4cfef 14 = .ok (.istore_n 2, 1) := by decide +kernel
theorem dJ1_indexOf_4cfef_15 : decode cJ1_indexOf_4cfef 15 = .ok (.iload_n 3, 1) := by decide +kernel
theorem dJ1_indexOf_4cfef_16 : decode cJ1_indexOf_4cfef 16 = .ok (.aload_n 0, 1) := by decide +kernel
theorem dJ1_indexOf_4cfef_17 : decode cJ1_indexOf_4cfef 17 = .ok (.arraylength, 1) := by decide +kernel
theorem dJ1_indexOf_4cfef_18 : decode cJ1_indexOf_4cfef 18 = .ok (.invokestatic 38, 3) := by decide +kernel
theorem dJ1_indexOf_4cfef_21 : decode cJ1_indexOf_4cfef 21 = .ok (.istore_n 3, 1) := by decide +kernel
theorem dJ1_indexOf_4cfef_22 : decode cJ1_indexOf_4cfef 22 = .ok (.iload_n 2, 1) := by decide +kernel
theorem dJ1_indexOf_4cfef_23 : decode cJ1_indexOf_4cfef 23 = .ok (.iload_n 3, 1) := by decide +kernel
theorem dJ1_indexOf_4cfef_24 : decode cJ1_indexOf_4cfef 24 = .ok (.if_icmp .lt 5, 3) := by decide +kernel
theorem dJ1_indexOf_4cfef_27 : decode cJ1_indexOf_4cfef 27 = .ok (.iconst (-1), 1) := by decide +kernel
theorem dJ1_indexOf_4cfef_28 : decode cJ1_indexOf_4cfef 28 = .ok (.ireturn, 1) := by decide +kernel
theorem dJ1_indexOf_4cfef_29 : decode cJ1_indexOf_4cfef 29 = .ok (.aload_n 0, 1) := by decide +kernel
theorem dJ1_indexOf_4cfef_30 : decode cJ1_indexOf_4cfef 30 = .ok (.iload_n 1, 1) := by decide +kernel
theorem dJ1_indexOf_4cfef_31 : decode cJ1_indexOf_4cfef 31 = .ok (.iload_n 2, 1) := by decide +kernel
theorem dJ1_indexOf_4cfef_32 : decode cJ1_indexOf_4cfef 32 = .ok (.iload_n 3, 1) := by decide +kernel
theorem dJ1_indexOf_4cfef_33 : decode cJ1_indexOf_4cfef 33 = .ok (.invokestatic 95, 3) := by decide +kernel
theorem dJ1_indexOf_4cfef_36 : decode cJ1_indexOf_4cfef 36 = .ok (.ireturn, 1) := by decide +kernel
theorem dJ1_indexOfChar_4cfef_0 : decode cJ1_indexOfChar_4cfef 0 = .ok (.iload_n 1, 1) := by decide +kernel
theorem dJ1_indexOfChar_4cfef_1 : decode cJ1_indexOfChar_4cfef 1 = .ok (.i2b, 1) := by decide +kernel
theorem dJ1_indexOfChar_4cfef_2 : decode cJ1_indexOfChar_4cfef 2 = .ok (.istore 4, 2) := by decide +kernel
theorem dJ1_indexOfChar_4cfef_4 : decode cJ1_indexOfChar_4cfef 4 = .ok (.iload_n 2, 1) := by decide +kernel
theorem dJ1_indexOfChar_4cfef_5 : decode cJ1_indexOfChar_4cfef 5 = .ok (.istore 5, 2) := by decide +kernel
theorem dJ1_indexOfChar_4cfef_7 : decode cJ1_indexOfChar_4cfef 7 = .ok (.iload 5, 2) := by decide +kernel
theorem dJ1_indexOfChar_4cfef_9 : decode cJ1_indexOfChar_4cfef 9 = .ok (.iload_n 3, 1) := by decide +kernel
theorem dJ1_indexOfChar_4cfef_10 : decode cJ1_indexOfChar_4cfef 10 = .ok (.if_icmp .ge 21, 3) := by decide +kernel
theorem dJ1_indexOfChar_4cfef_13 : decode cJ1_indexOfChar_4cfef 13 = .ok (.aload_n 0, 1) := by decide +kernel
theorem dJ1_indexOfChar_4cfef_14 : decode cJ1_indexOfChar_4cfef 14 = .ok (.iload 5, 2) := by decide +kernel
theorem dJ1_indexOfChar_4cfef_16 : decode cJ1_indexOfChar_4cfef 16 = .ok (.baload, 1) := by decide +kernel
theorem dJ1_indexOfChar_4cfef_17 : decode cJ1_indexOfChar_4cfef 17 = .ok (.iload 4, 2) := by decide +kernel
theorem dJ1_indexOfChar_4cfef_19 : decode cJ1_indexOfChar_4cfef 19 = .ok (.if_icmp .ne 6, 3) := by decide +kernel
theorem dJ1_indexOfChar_4cfef_22 : decode cJ1_indexOfChar_4cfef 22 = .ok (.iload 5, 2) := by decide +kernel
theorem dJ1_indexOfChar_4cfef_24 : decode cJ1_indexOfChar_4cfef 24 = .ok (.ireturn, 1) := by decide +kernel
theorem dJ1_indexOfChar_4cfef_25 : decode cJ1_indexOfChar_4cfef 25 = .ok (.iinc 5 1, 3) := by decide +kernel
theorem dJ1_indexOfChar_4cfef_28 : decode cJ1_indexOfChar_4cfef 28 = .ok (.goto (-21), 3) := by decide +kernel
theorem dJ1_indexOfChar_4cfef_31 : decode cJ1_indexOfChar_4cfef 31 = .ok (.iconst (-1), 1) := by decide +kernel
theorem dJ1_indexOfChar_4cfef_32 : decode cJ1_indexOfChar_4cfef 32 = .ok (.ireturn, 1) := by decide +kernel
theorem dJ2_getChar_3b067_0 : decode cJ2_getChar_3b067 0 = .ok (.getstatic 44, 3) := by decide +kernel
theorem dJ2_getChar_3b067_3 : decode cJ2_getChar_3b067 3 = .ok (.ifCond .ne 25, 3) := by decide +kernel
theorem dJ2_getChar_3b067_6 : decode cJ2_getChar_3b067 6 = .ok (.iload_n 1, 1) := by decide +kernel
theorem dJ2_getChar_3b067_7 : decode cJ2_getChar_3b067 7 = .ok (.ifCond .lt 11, 3) := by decide +kernel
theorem dJ2_getChar_3b067_10 : decode cJ2_getChar_3b067 10 = .ok (.iload_n 1, 1) := by decide +kernel
theorem dJ2_getChar_3b067_11 : decode cJ2_getChar_3b067 11 = .ok (.aload_n 0, 1) := by decide +kernel
theorem dJ2_getChar_3b067_12 : decode cJ2_getChar_3b067 12 = .ok (.invokestatic 48, 3) := by decide +kernel
theorem dJ2_getChar_3b067_15 : decode cJ2_getChar_3b067 15 = .ok (.if_icmp .lt 13, 3) := by decide +kernel
theorem dJ2_getChar_3b067_18 : decode cJ2_getChar_3b067 18 = .ok (.new 52, 3) := by decide +kernel
theorem dJ2_getChar_3b067_21 : decode cJ2_getChar_3b067 21 = .ok (.dup, 1) := by decide +kernel
theorem dJ2_getChar_3b067_22 : decode cJ2_getChar_3b067 22 = .ok (.ldc 54, 2) := by decide +kernel
theorem dJ2_getChar_3b067_24 : decode cJ2_getChar_3b067 24 = .ok (.invokespecial 56, 3) := by decide +kernel
theorem dJ2_getChar_3b067_27 : decode cJ2_getChar_3b067 27 = .ok (.athrow, 1) := by decide +kernel
theorem dJ2_getChar_3b067_28 : decode cJ2_getChar_3b067 28 = .ok (.iload_n 1, 1) := by decide +kernel
theorem dJ2_getChar_3b067_29 : decode cJ2_getChar_3b067 29 = .ok (.iconst 1, 1) := by decide +kernel
theorem dJ2_getChar_3b067_30 : decode cJ2_getChar_3b067 30 = .ok (.ishl, 1) := by decide +kernel
theorem dJ2_getChar_3b067_31 : decode cJ2_getChar_3b067 31 = .ok (.istore_n 1, 1) := by decide +kernel
theorem dJ2_getChar_3b067_32 : decode cJ2_getChar_3b067 32 = .ok (.aload_n 0, 1) := by decide +kernel
theorem dJ2_getChar_3b067_33 : decode cJ2_getChar_3b067 33 = .ok (.iload_n 1, 1) := by decide +kernel
theorem dJ2_getChar_3b067_34 : decode cJ2_getChar_3b067 34 = .ok (.iinc 1 1, 3) := by decide +kernel
theorem dJ2_getChar_3b067_37 : decode cJ2_getChar_3b067 37 = .ok (.baload, 1) := by decide +kernel
theorem dJ2_getChar_3b067_38 : decode cJ2_getChar_3b067 38 = .ok (.sipush 255, 3) := by decide +kernel
theorem dJ2_getChar_3b067_41 : decode cJ2_getChar_3b067 41 = .ok (.iand, 1) := by decide +kernel
theorem dJ2_getChar_3b067_42 : decode cJ2_getChar_3b067 42 = .ok (.getstatic 59, 3) := by decide +kernel
theorem dJ2_getChar_3b067_45 : decode cJ2_getChar_3b067 45 = .ok (.ishl, 1) := by decide +kernel
theorem dJ2_getChar_3b067_46 : decode cJ2_getChar_3b067 46 = .ok (.aload_n 0, 1) := by decide +kernel
theorem dJ2_getChar_3b067_47 : decode cJ2_getChar_3b067 47 = .ok (.iload_n 1, 1) := by decide +kernel
theorem dJ2_getChar_3b067_48 : decode cJ2_getChar_3b067 48 = .ok (.baload, 1) := by decide +kernel
theorem dJ2_getChar_3b067_49 : decode cJ2_getChar_3b067 49 = .ok (.sipush 255, 3) := by decide +kernel
theorem dJ2_getChar_3b067_52 : decode cJ2_getChar_3b067 52 = .ok (.iand, 1) := by decide +kernel
theorem dJ2_getChar_3b067_53 : decode cJ2_getChar_3b067 53 = .ok (.getstatic 63, 3) := by decide +kernel
theorem dJ2_getChar_3b067_56 : decode cJ2_getChar_3b067 56 = .ok (.ishl, 1) := by decide +kernel
theorem dJ2_getChar_3b067_57 : decode cJ2_getChar_3b067 57 = .ok (.ior, 1) := by decide +kernel
theorem dJ2_getChar_3b067_58 : decode cJ2_getChar_3b067 58 = .ok (.i2c, 1) := by decide +kernel
theorem dJ2_getChar_3b067_59 : decode cJ2_getChar_3b067 59 = .ok (.ireturn, 1) := by decide +kernel
theorem dJ2_length_9d52b_0 : decode cJ2_length_9d52b 0 = .ok (.aload_n 0, 1) := by decide +kernel
theorem dJ2_length_9d52b_1 : decode cJ2_length_9d52b 1 = .ok (.arraylength, 1) := by decide +kernel
theorem dJ2_length_9d52b_2 : decode cJ2_length_9d52b 2 = .ok (.iconst 1, 1) := by decide +kernel
theorem dJ2_length_9d52b_3 : decode cJ2_length_9d52b 3 = .ok (.ishr, 1) := by decide +kernel
theorem dJ2_length_9d52b_4 : decode cJ2_length_9d52b 4 = .ok (.ireturn, 1) := by decide +kernel
theorem dJ2_indexOf_4cfef_0 : decode cJ2_indexOf_4cfef 0 = .ok (.iload_n 2, 1) := by decide +kernel
theorem dJ2_indexOf_4cfef_1 : decode cJ2_indexOf_4cfef 1 = .ok (.iconst 0, 1) := by decide +kernel
theorem dJ2_indexOf_4cfef_2 : decode cJ2_indexOf_4cfef 2 = .ok (.invokestatic 224, 3) := by decide +kernel
theorem dJ2_indexOf_4cfef_5 : decode cJ2_indexOf_4cfef 5 = .ok (.istore_n 2, 1) := by decide +kernel
theorem dJ2_indexOf_4cfef_6 : decode cJ2_indexOf_4cfef 6 = .ok (.iload_n 3, 1) := by decide +kernel
theorem dJ2_indexOf_4cfef_7 : decode cJ2_indexOf_4cfef 7 = .ok (.aload_n 0, 1) := by decide +kernel
theorem dJ2_indexOf_4cfef_8 : decode cJ2_indexOf_4cfef 8 = .ok (.arraylength, 1) := by decide +kernel
theorem dJ2_indexOf_4cfef_9 : decode cJ2_indexOf_4cfef 9 = .ok (.iconst 1, 1) := by decide +kernel
theorem dJ2_indexOf_4cfef_10 : decode cJ2_indexOf_4cfef 10 = .ok (.ishr, 1) := by decide +kernel
theorem dJ2_indexOf_4cfef_11 : decode cJ2_indexOf_4cfef 11 = .ok (.invokestatic 183, 3) := by decide +kernel
theorem dJ2_indexOf_4cfef_14 : decode cJ2_indexOf_4cfef 14 = .ok (.istore_n 3, 1) := by decide +kernel
theorem dJ2_indexOf_4cfef_15 : decode cJ2_indexOf_4cfef 15 = .ok (.iload_n 2, 1) := by decide +kernel
theorem dJ2_indexOf_4cfef_16 : decode cJ2_indexOf_4cfef 16 = .ok (.iload_n 3, 1) := by decide +kernel
theorem dJ2_indexOf_4cfef_17 : decode cJ2_indexOf_4cfef 17 = .ok (.if_icmp .lt 5, 3) := by decide +kernel
theorem dJ2_indexOf_4cfef_20 : decode cJ2_indexOf_4cfef 20 = .ok (.iconst (-1), 1) := by decide +kernel
theorem dJ2_indexOf_4cfef_21 : decode cJ2_indexOf_4cfef 21 = .ok (.ireturn, 1) := by decide +kernel
theorem dJ2_indexOf_4cfef_22 : decode cJ2_indexOf_4cfef 22 = .ok (.iload_n 1, 1) := by decide +kernel
theorem dJ2_indexOf_4cfef_23 : decode cJ2_indexOf_4cfef 23 = .ok (.ldc 227, 2) := by decide +kernel
theorem dJ2_indexOf_4cfef_25 : decode cJ2_indexOf_4cfef 25 = .ok (.if_icmp .ge 11, 3) := by decide +kernel
theorem dJ2_indexOf_4cfef_28 : decode cJ2_indexOf_4cfef 28 = .ok (.aload_n 0, 1) := by decide +kernel
theorem dJ2_indexOf_4cfef_29 : decode cJ2_indexOf_4cfef 29 = .ok (.iload_n 1, 1) := by decide +kernel
theorem dJ2_indexOf_4cfef_30 : decode cJ2_indexOf_4cfef 30 = .ok (.iload_n 2, 1) := by decide +kernel
theorem dJ2_indexOf_4cfef_31 : decode cJ2_indexOf_4cfef 31 = .ok (.iload_n 3, 1) := by decide +kernel
theorem dJ2_indexOf_4cfef_32 : decode cJ2_indexOf_4cfef 32 = .ok (.invokestatic 228, 3) := by decide +kernel
theorem dJ2_indexOf_4cfef_35 : decode cJ2_indexOf_4cfef 35 = .ok (.ireturn, 1) := by decide +kernel
theorem dJ2_indexOf_4cfef_36 : decode cJ2_indexOf_4cfef 36 = .ok (.aload_n 0, 1) := by decide +kernel
theorem dJ2_indexOf_4cfef_37 : decode cJ2_indexOf_4cfef 37 = .ok (.iload_n 1, 1) := by decide +kernel
theorem dJ2_indexOf_4cfef_38 : decode cJ2_indexOf_4cfef 38 = .ok (.iload_n 2, 1) := by decide +kernel
theorem dJ2_indexOf_4cfef_39 : decode cJ2_indexOf_4cfef 39 = .ok (.iload_n 3, 1) := by decide +kernel
theorem dJ2_indexOf_4cfef_40 : decode cJ2_indexOf_4cfef 40 = .ok (.invokestatic 232, 3) := by decide +kernel
theorem dJ2_indexOf_4cfef_43 : decode cJ2_indexOf_4cfef 43 = .ok (.ireturn, 1) := by decide +kernel
theorem dJ2_indexOfChar_4cfef_0 : decode cJ2_indexOfChar_4cfef 0 = .ok (.iload_n 2, 1) := by decide +kernel
theorem dJ2_indexOfChar_4cfef_1 : decode cJ2_indexOfChar_4cfef 1 = .ok (.iload_n 3, 1) := by decide +kernel
theorem dJ2_indexOfChar_4cfef_2 : decode cJ2_indexOfChar_4cfef 2 = .ok (.aload_n 0, 1) := by decide +kernel
theorem dJ2_indexOfChar_4cfef_3 : decode cJ2_indexOfChar_4cfef 3 = .ok (.invokestatic 96, 3) := by decide +kernel
theorem dJ2_indexOfChar_4cfef_6 : decode cJ2_indexOfChar_4cfef 6 = .ok (.aload_n 0, 1) := by decide +kernel
theorem dJ2_indexOfChar_4cfef_7 : decode cJ2_indexOfChar_4cfef 7 = .ok (.iload_n 1, 1) := by decide +kernel
theorem dJ2_indexOfChar_4cfef_8 : decode cJ2_indexOfChar_4cfef 8 = .ok (.iload_n 2, 1) := by decide +kernel
theorem dJ2_indexOfChar_4cfef_9 : decode cJ2_indexOfChar_4cfef 9 = .ok (.iload_n 3, 1) := by decide +kernel
theorem dJ2_indexOfChar_4cfef_10 : decode cJ2_indexOfChar_4cfef 10 = .ok (.invokestatic 244, 3) := by decide +kernel
theorem dJ2_indexOfChar_4cfef_13 : decode cJ2_indexOfChar_4cfef 13 = .ok (.ireturn, 1) := by decide +kernel
theorem dJ2_indexOfCharUnsafe_4cfef_0 : decode cJ2_indexOfCharUnsafe_4cfef 0 = .ok (.iload_n 2, 1) := by decide +kernel
theorem dJ2_indexOfCharUnsafe_4cfef_1 : decode cJ2_indexOfCharUnsafe_4cfef 1 = .ok (.istore 4, 2) := by decide +kernel
theorem dJ2_indexOfCharUnsafe_4cfef_3 : decode cJ2_indexOfCharUnsafe_4cfef 3 = .ok (.iload 4, 2) := by decide +kernel
theorem dJ2_indexOfCharUnsafe_4cfef_5 : decode cJ2_indexOfCharUnsafe_4cfef 5 = .ok (.iload_n 3, 1) := by decide +kernel
theorem dJ2_indexOfCharUnsafe_4cfef_6 : decode cJ2_indexOfCharUnsafe_4cfef 6 = .ok (.if_icmp .ge 22, 3) := by decide +kernel
theorem dJ2_indexOfCharUnsafe_4cfef_9 : decode cJ2_indexOfCharUnsafe_4cfef 9 = .ok (.aload_n 0, 1) := by decide +kernel
theorem dJ2_indexOfCharUnsafe_4cfef_10 : decode cJ2_indexOfCharUnsafe_4cfef 10 = .ok (.iload 4, 2) := by decide +kernel
theorem dJ2_indexOfCharUnsafe_4cfef_12 : decode cJ2_indexOfCharUnsafe_4cfef 12 = .ok (.invokestatic 71, 3) := by decide +kernel
theorem dJ2_indexOfCharUnsafe_4cfef_15 : decode cJ2_indexOfCharUnsafe_4cfef 15 = .ok (.iload_n 1, 1) := by decide +kernel
theorem dJ2_indexOfCharUnsafe_4cfef_16 : decode cJ2_indexOfCharUnsafe_4cfef 16 = .ok (.if_icmp .ne 6, 3) := by decide +kernel
theorem dJ2_indexOfCharUnsafe_4cfef_19 : decode cJ2_indexOfCharUnsafe_4cfef 19 = .ok (.iload 4, 2) := by decide +kernel
theorem dJ2_indexOfCharUnsafe_4cfef_21 : decode cJ2_indexOfCharUnsafe_4cfef 21 = .ok (.ireturn, 1) := by decide +kernel
theorem dJ2_indexOfCharUnsafe_4cfef_22 : decode cJ2_indexOfCharUnsafe_4cfef 22 = .ok (.iinc 4 1, 3) := by decide +kernel
theorem dJ2_indexOfCharUnsafe_4cfef_25 : decode cJ2_indexOfCharUnsafe_4cfef 25 = .ok (.goto (-22), 3) := by decide +kernel
theorem dJ2_indexOfCharUnsafe_4cfef_28 : decode cJ2_indexOfCharUnsafe_4cfef 28 = .ok (.iconst (-1), 1) := by decide +kernel
theorem dJ2_indexOfCharUnsafe_4cfef_29 : decode cJ2_indexOfCharUnsafe_4cfef 29 = .ok (.ireturn, 1) := by decide +kernel
theorem dJ2_indexOfSupplementary_4cfef_0 : decode cJ2_indexOfSupplementary_4cfef 0 = .ok (.iload_n 1, 1) := by decide +kernel
theorem dJ2_indexOfSupplementary_4cfef_1 : decode cJ2_indexOfSupplementary_4cfef 1 = .ok (.invokestatic 164, 3) := by decide +kernel
theorem dJ2_indexOfSupplementary_4cfef_4 : decode cJ2_indexOfSupplementary_4cfef 4 = .ok (.ifCond .eq 65, 3) := by decide +kernel
theorem dJ2_indexOfSupplementary_4cfef_7 : decode cJ2_indexOfSupplementary_4cfef 7 = .ok (.iload_n 1, 1) := by decide +kernel
theorem dJ2_indexOfSupplementary_4cfef_8 : decode cJ2_indexOfSupplementary_4cfef 8 = .ok (.invokestatic 157, 3) := by decide +kernel
theorem dJ2_indexOfSupplementary_4cfef_11 : decode cJ2_indexOfSupplementary_4cfef 11 = .ok (.istore 4, 2) := by decide +kernel
theorem dJ2_indexOfSupplementary_4cfef_13 : decode cJ2_indexOfSupplementary_4cfef 13 = .ok (.iload_n 1, 1) := by decide +kernel
theorem dJ2_indexOfSupplementary_4cfef_14 : decode cJ2_indexOfSupplementary_4cfef 14 = .ok (.invokestatic 161, 3) := by decide +kernel
theorem dJ2_indexOfSupplementary_4cfef_17 : decode cJ2_indexOfSupplementary_4cfef 17 = .ok (.istore 5, 2) := by decide +kernel
theorem dJ2_indexOfSupplementary_4cfef_19 : decode cJ2_indexOfSupplementary_4cfef 19 = .ok (.iload_n 2, 1) := by decide +kernel
theorem dJ2_indexOfSupplementary_4cfef_20 : decode cJ2_indexOfSupplementary_4cfef 20 = .ok (.iload_n 3, 1) := by decide +kernel
theorem dJ2_indexOfSupplementary_4cfef_21 : decode cJ2_indexOfSupplementary_4cfef 21 = .ok (.aload_n 0, 1) := by decide +kernel
theorem dJ2_indexOfSupplementary_4cfef_22 : decode cJ2_indexOfSupplementary_4cfef 22 = .ok (.invokestatic 96, 3) := by decide +kernel
theorem dJ2_indexOfSupplementary_4cfef_25 : decode cJ2_indexOfSupplementary_4cfef 25 = .ok (.iload_n 2, 1) := by decide +kernel
theorem dJ2_indexOfSupplementary_4cfef_26 : decode cJ2_indexOfSupplementary_4cfef 26 = .ok (.istore 6, 2) := by decide +kernel
theorem dJ2_indexOfSupplementary_4cfef_28 : decode cJ2_indexOfSupplementary_4cfef 28 = .ok (.iload 6, 2) := by decide +kernel
theorem dJ2_indexOfSupplementary_4cfef_30 : decode cJ2_indexOfSupplementary_4cfef 30 = .ok (.iload_n 3, 1) := by decide +kernel
theorem dJ2_indexOfSupplementary_4cfef_31 : decode cJ2_indexOfSupplementary_4cfef 31 = .ok (.iconst 1, 1) := by decide +kernel
theorem dJ2_indexOfSupplementary_4cfef_32 : decode cJ2_indexOfSupplementary_4cfef 32 = .ok (.isub, 1) := by decide +kernel
theorem dJ2_indexOfSupplementary_4cfef_33 : decode cJ2_indexOfSupplementary_4cfef 33 = .ok (.if_icmp .ge 36, 3) := by decide +kernel
theorem dJ2_indexOfSupplementary_4cfef_36 : decode cJ2_indexOfSupplementary_4cfef 36 = .ok (.aload_n 0, 1) := by decide +kernel
theorem dJ2_indexOfSupplementary_4cfef_37 : decode cJ2_indexOfSupplementary_4cfef 37 = .ok (.iload 6, 2) := by decide +kernel
theorem dJ2_indexOfSupplementary_4cfef_39 : decode cJ2_indexOfSupplementary_4cfef 39 = .ok (.invokestatic 71, 3) := by decide +kernel
theorem dJ2_indexOfSupplementary_4cfef_42 : decode cJ2_indexOfSupplementary_4cfef 42 = .ok (.iload 4, 2) := by decide +kernel
theorem dJ2_indexOfSupplementary_4cfef_44 : decode cJ2_indexOfSupplementary_4cfef 44 = .ok (.if_icmp .ne 19, 3) := by decide +kernel
theorem dJ2_indexOfSupplementary_4cfef_47 : decode cJ2_indexOfSupplementary_4cfef 47 = .ok (.aload_n 0, 1) := by decide +kernel
theorem dJ2_indexOfSupplementary_4cfef_48 : decode cJ2_indexOfSupplementary_4cfef 48 = .ok (.iload 6, 2) := by decide +kernel
theorem dJ2_indexOfSupplementary_4cfef_50 : decode cJ2_indexOfSupplementary_4cfef 50 = .ok (.iconst 1, 1) := by decide +kernel
theorem dJ2_indexOfSupplementary_4cfef_51 : decode cJ2_indexOfSupplementary_4cfef 51 = .ok (.iadd, 1) := by decide +kernel
theorem dJ2_indexOfSupplementary_4cfef_52 : decode cJ2_indexOfSupplementary_4cfef 52 = .ok (.invokestatic 71, 3) := by decide +kernel
theorem dJ2_indexOfSupplementary_4cfef_55 : decode cJ2_indexOfSupplementary_4cfef 55 = .ok (.iload 5, 2) := by decide +kernel
theorem dJ2_indexOfSupplementary_4cfef_57 : decode cJ2_indexOfSupplementary_4cfef 57 = .ok (.if_icmp .ne 6, 3) := by decide +kernel
theorem dJ2_indexOfSupplementary_4cfef_60 : decode cJ2_indexOfSupplementary_4cfef 60 = .ok (.iload 6, 2) := by decide +kernel
theorem dJ2_indexOfSupplementary_4cfef_62 : decode cJ2_indexOfSupplementary_4cfef 62 = .ok (.ireturn, 1) := by decide +kernel
theorem dJ2_indexOfSupplementary_4cfef_63 : decode cJ2_indexOfSupplementary_4cfef 63 = .ok (.iinc 6 1, 3) := by decide +kernel
theorem dJ2_indexOfSupplementary_4cfef_66 : decode cJ2_indexOfSupplementary_4cfef 66 = .ok (.goto (-38), 3) := by decide +kernel
theorem dJ2_indexOfSupplementary_4cfef_69 : decode cJ2_indexOfSupplementary_4cfef 69 = .ok (.iconst (-1), 1) := by decide +kernel
theorem dJ2_indexOfSupplementary_4cfef_70 : decode cJ2_indexOfSupplementary_4cfef 70 = .ok (.ireturn, 1) := by decide +kernel
theorem dJ2_charAt_3b067_0 : decode cJ2_charAt_3b067 0 = .ok (.iload_n 1, 1) := by decide +kernel
theorem dJ2_charAt_3b067_1 : decode cJ2_charAt_3b067 1 = .ok (.aload_n 0, 1) := by decide +kernel
theorem dJ2_charAt_3b067_2 : decode cJ2_charAt_3b067 2 = .ok (.invokestatic 67, 3) := by decide +kernel
theorem dJ2_charAt_3b067_5 : decode cJ2_charAt_3b067 5 = .ok (.aload_n 0, 1) := by decide +kernel
theorem dJ2_charAt_3b067_6 : decode cJ2_charAt_3b067 6 = .ok (.iload_n 1, 1) := by decide +kernel
theorem dJ2_charAt_3b067_7 : decode cJ2_charAt_3b067 7 = .ok (.invokestatic 71, 3) := by decide +kernel
theorem dJ2_charAt_3b067_10 : decode cJ2_charAt_3b067 10 = .ok (.ireturn, 1) := by decide +kernel
theorem dJ2_checkIndex_2214a_0 : decode cJ2_checkIndex_2214a 0 = .ok (.iload_n 0, 1) := by decide +kernel
theorem dJ2_checkIndex_2214a_1 : decode cJ2_checkIndex_2214a 1 = .ok (.aload_n 1, 1) := by decide +kernel
theorem dJ2_checkIndex_2214a_2 : decode cJ2_checkIndex_2214a 2 = .ok (.invokestatic 48, 3) := by decide +kernel
theorem dJ2_checkIndex_2214a_5 : decode cJ2_checkIndex_2214a 5 = .ok (.invokestatic 414, 3) := by decide +kernel
theorem dJ2_checkIndex_2214a_8 : decode cJ2_checkIndex_2214a 8 = .ok (.return_, 1) := by decide +kernel
theorem dJ2_checkBoundsBeginEnd_d044e_0 : decode cJ2_checkBoundsBeginEnd_d044e 0 = .ok (.iload_n 0, 1) := by decide +kernel
theorem dJ2_checkBoundsBeginEnd_d044e_1 : decode cJ2_checkBoundsBeginEnd_d044e 1 = .ok (.iload_n 1, 1) := by decide +kernel
theorem dJ2_checkBoundsBeginEnd_d044e_2 : decode cJ2_checkBoundsBeginEnd_d044e 2 = .ok (.aload_n 2, 1) := by decide +kernel
theorem dJ2_checkBoundsBeginEnd_d044e_3 : decode cJ2_checkBoundsBeginEnd_d044e 3 = .ok (.invokestatic 48, 3) := by decide +kernel
theorem dJ2_checkBoundsBeginEnd_d044e_6 : decode cJ2_checkBoundsBeginEnd_d044e 6 = .ok (.invokestatic 241, 3) := by decide +kernel
theorem dJ2_checkBoundsBeginEnd_d044e_9 : decode cJ2_checkBoundsBeginEnd_d044e 9 = .ok (.return_, 1) := by decide +kernel
theorem dJ7_fill_53178_0 : decode cJ7_fill_53178 0 = .ok (.iconst 0, 1) := by decide +kernel
theorem dJ7_fill_53178_1 : decode cJ7_fill_53178 1 = .ok (.istore_n 2, 1) := by decide +kernel
theorem dJ7_fill_53178_2 : decode cJ7_fill_53178 2 = .ok (.aload_n 0, 1) := by decide +kernel
theorem dJ7_fill_53178_3 : decode cJ7_fill_53178 3 = .ok (.arraylength, 1) := by decide +kernel
theorem dJ7_fill_53178_4 : decode cJ7_fill_53178 4 = .ok (.istore_n 3, 1) := by decide +kernel
theorem dJ7_fill_53178_5 : decode cJ7_fill_53178 5 = .ok (.iload_n 2, 1) := by decide +kernel
theorem dJ7_fill_53178_6 : decode cJ7_fill_53178 6 = .ok (.iload_n 3, 1) := by decide +kernel
theorem dJ7_fill_53178_7 : decode cJ7_fill_53178 7 = .ok (.if_icmp .ge 13, 3) := by decide +kernel
theorem dJ7_fill_53178_10 : decode cJ7_fill_53178 10 = .ok (.aload_n 0, 1) := by decide +kernel
theorem dJ7_fill_53178_11 : decode cJ7_fill_53178 11 = .ok (.iload_n 2, 1) := by decide +kernel
theorem dJ7_fill_53178_12 : decode cJ7_fill_53178 12 = .ok (.iload_n 1, 1) := by decide +kernel
theorem dJ7_fill_53178_13 : decode cJ7_fill_53178 13 = .ok (.iastore, 1) := by decide +kernel
theorem dJ7_fill_53178_14 : decode cJ7_fill_53178 14 = .ok (.iinc 2 1, 3) := by decide +kernel
theorem dJ7_fill_53178_17 : decode cJ7_fill_53178 17 = .ok (.goto (-12), 3) := by decide +kernel
theorem dJ7_fill_53178_20 : decode cJ7_fill_53178 20 = .ok (.return_, 1) := by decide +kernel
theorem dJ7_copyOf_59c91_0 : decode cJ7_copyOf_59c91 0 = .ok (.iload_n 1, 1) := by decide +kernel
theorem dJ7_copyOf_59c91_1 : decode cJ7_copyOf_59c91 1 = .ok (.aload_n 0, 1) := by decide +kernel
theorem dJ7_copyOf_59c91_2 : decode cJ7_copyOf_59c91 2 = .ok (.arraylength, 1) := by decide +kernel
theorem dJ7_copyOf_59c91_3 : decode cJ7_copyOf_59c91 3 = .ok (.if_icmp .ne 11, 3) := by decide +kernel
theorem dJ7_copyOf_59c91_6 : decode cJ7_copyOf_59c91 6 = .ok (.aload_n 0, 1) := by decide +kernel
theorem dJ7_copyOf_59c91_7 : decode cJ7_copyOf_59c91 7 = .ok (.invokevirtual 316, 3) := by decide +kernel
theorem dJ7_copyOf_59c91_10 : decode cJ7_copyOf_59c91 10 = .ok (.checkcast 317, 3) := by decide +kernel
theorem dJ7_copyOf_59c91_13 : decode cJ7_copyOf_59c91 13 = .ok (.areturn, 1) := by decide +kernel
theorem dJ7_copyOf_59c91_14 : decode cJ7_copyOf_59c91 14 = .ok (.iload_n 1, 1) := by decide +kernel
theorem dJ7_copyOf_59c91_15 : decode cJ7_copyOf_59c91 15 = .ok (.newarray .int, 2) := by decide +kernel
theorem dJ7_copyOf_59c91_17 : decode cJ7_copyOf_59c91 17 = .ok (.astore_n 2, 1) := by decide +kernel
theorem dJ7_copyOf_59c91_18 : decode cJ7_copyOf_59c91 18 = .ok (.aload_n 0, 1) := by decide +kernel
theorem dJ7_copyOf_59c91_19 : decode cJ7_copyOf_59c91 19 = .ok (.iconst 0, 1) := by decide +kernel
theorem dJ7_copyOf_59c91_20 : decode cJ7_copyOf_59c91 20 = .ok (.aload_n 2, 1) := by decide +kernel
theorem dJ7_copyOf_59c91_21 : decode cJ7_copyOf_59c91 21 = .ok (.iconst 0, 1) := by decide +kernel
theorem dJ7_copyOf_59c91_22 : decode cJ7_copyOf_59c91 22 = .ok (.aload_n 0, 1) := by decide +kernel
theorem dJ7_copyOf_59c91_23 : decode cJ7_copyOf_59c91 23 = .ok (.arraylength, 1) := by decide +kernel
theorem dJ7_copyOf_59c91_24 : decode cJ7_copyOf_59c91 24 = .ok (.iload_n 1, 1) := by decide +kernel
theorem dJ7_copyOf_59c91_25 : decode cJ7_copyOf_59c91 25 = .ok (.invokestatic 304, 3) := by decide +kernel
theorem dJ7_copyOf_59c91_28 : decode cJ7_copyOf_59c91 28 = .ok (.invokestatic 150, 3) := by decide +kernel
theorem dJ7_copyOf_59c91_31 : decode cJ7_copyOf_59c91 31 = .ok (.aload_n 2, 1) := by decide +kernel
theorem dJ7_copyOf_59c91_32 : decode cJ7_copyOf_59c91 32 = .ok (.areturn, 1) := by decide +kernel
theorem dJ3_checkIndex_8e157_0 : decode cJ3_checkIndex_8e157 0 = .ok (.iload_n 0, 1) := by decide +kernel
theorem dJ3_checkIndex_8e157_1 : decode cJ3_checkIndex_8e157 1 = .ok (.ifCond .lt 8, 3) := by decide +kernel
theorem dJ3_checkIndex_8e157_4 : decode cJ3_checkIndex_8e157 4 = .ok (.iload_n 0, 1) := by decide +kernel
theorem dJ3_checkIndex_8e157_5 : decode cJ3_checkIndex_8e157 5 = .ok (.iload_n 1, 1) := by decide +kernel
theorem dJ3_checkIndex_8e157_6 : decode cJ3_checkIndex_8e157 6 = .ok (.if_icmp .lt 10, 3) := by decide +kernel
theorem dJ3_checkIndex_8e157_9 : decode cJ3_checkIndex_8e157 9 = .ok (.aload_n 2, 1) := by decide +kernel
theorem dJ3_checkIndex_8e157_10 : decode cJ3_checkIndex_8e157 10 = .ok (.iload_n 0, 1) := by decide +kernel
theorem dJ3_checkIndex_8e157_11 : decode cJ3_checkIndex_8e157 11 = .ok (.iload_n 1, 1) := by decide +kernel
theorem dJ3_checkIndex_8e157_12 : decode cJ3_checkIndex_8e157 12 = .ok (.invokestatic 95, 3) := by decide +kernel
theorem dJ3_checkIndex_8e157_15 : decode cJ3_checkIndex_8e157 15 = .ok (.athrow, 1) := by decide +kernel
theorem dJ3_checkIndex_8e157_16 : decode cJ3_checkIndex_8e157 16 = .ok (.iload_n 0, 1) := by decide +kernel
theorem dJ3_checkIndex_8e157_17 : decode cJ3_checkIndex_8e157 17 = .ok (.ireturn, 1) := by decide +kernel
theorem dJ3_checkFromToIndex_8c36e_0 : decode cJ3_checkFromToIndex_8c36e 0 = .ok (.iload_n 0, 1) := by decide +kernel
theorem dJ3_checkFromToIndex_8c36e_1 : decode cJ3_checkFromToIndex_8c36e 1 = .ok (.ifCond .lt 13, 3) := by decide +kernel
theorem dJ3_checkFromToIndex_8c36e_4 : decode cJ3_checkFromToIndex_8c36e 4 = .ok (.iload_n 0, 1) := by decide +kernel
theorem dJ3_checkFromToIndex_8c36e_5 : decode cJ3_checkFromToIndex_8c36e 5 = .ok (.iload_n 1, 1) := by decide +kernel
theorem dJ3_checkFromToIndex_8c36e_6 : decode cJ3_checkFromToIndex_8c36e 6 = .ok (.if_icmp .gt 8, 3) := by decide +kernel
theorem dJ3_checkFromToIndex_8c36e_9 : decode cJ3_checkFromToIndex_8c36e 9 = .ok (.iload_n 1, 1) := by decide +kernel
theorem dJ3_checkFromToIndex_8c36e_10 : decode cJ3_checkFromToIndex_8c36e 10 = .ok (.iload_n 2, 1) := by decide +kernel
theorem dJ3_checkFromToIndex_8c36e_11 : decode cJ3_checkFromToIndex_8c36e 11 = .ok (.if_icmp .le 11, 3) := by decide +kernel
theorem dJ3_checkFromToIndex_8c36e_14 : decode cJ3_checkFromToIndex_8c36e 14 = .ok (.aload_n 3, 1) := by decide +kernel
theorem dJ3_checkFromToIndex_8c36e_15 : decode cJ3_checkFromToIndex_8c36e 15 = .ok (.iload_n 0, 1) := by decide +kernel
theorem dJ3_checkFromToIndex_8c36e_16 : decode cJ3_checkFromToIndex_8c36e 16 = .ok (.iload_n 1, 1) := by decide +kernel
theorem dJ3_checkFromToIndex_8c36e_17 : decode cJ3_checkFromToIndex_8c36e 17 = .ok (.iload_n 2, 1) := by decide +kernel
theorem dJ3_checkFromToIndex_8c36e_18 : decode cJ3_checkFromToIndex_8c36e 18 = .ok (.invokestatic 99, 3) := by decide +kernel
theorem dJ3_checkFromToIndex_8c36e_21 : decode cJ3_checkFromToIndex_8c36e 21 = .ok (.athrow, 1) := by decide +kernel
theorem dJ3_checkFromToIndex_8c36e_22 : decode cJ3_checkFromToIndex_8c36e 22 = .ok (.iload_n 0, 1) := by decide +kernel
theorem dJ3_checkFromToIndex_8c36e_23 : decode cJ3_checkFromToIndex_8c36e 23 = .ok (.ireturn, 1) := by decide +kernel
theorem dL_law_0 : decode cL_law 0 = .ok (.new 7, 3) := by decide +kernel
theorem dL_law_3 : decode cL_law 3 = .ok (.dup, 1) := by decide +kernel
theorem dL_law_4 : decode cL_law 4 = .ok (.invokespecial 9, 3) := by decide +kernel
theorem dL_law_7 : decode cL_law 7 = .ok (.astore_n 1, 1) := by decide +kernel
theorem dL_law_8 : decode cL_law 8 = .ok (.new 10, 3) := by decide +kernel
theorem dL_law_11 : decode cL_law 11 = .ok (.dup, 1) := by decide +kernel
theorem dL_law_12 : decode cL_law 12 = .ok (.invokespecial 12, 3) := by decide +kernel
theorem dL_law_15 : decode cL_law 15 = .ok (.astore_n 2, 1) := by decide +kernel
theorem dL_law_16 : decode cL_law 16 = .ok (.iconst 0, 1) := by decide +kernel
theorem dL_law_17 : decode cL_law 17 = .ok (.istore_n 3, 1) := by decide +kernel
theorem dL_law_18 : decode cL_law 18 = .ok (.iload_n 3, 1) := by decide +kernel
theorem dL_law_19 : decode cL_law 19 = .ok (.aload_n 0, 1) := by decide +kernel
theorem dL_law_20 : decode cL_law 20 = .ok (.arraylength, 1) := by decide +kernel
theorem dL_law_21 : decode cL_law 21 = .ok (.bipush 6, 2) := by decide +kernel
theorem dL_law_23 : decode cL_law 23 = .ok (.isub, 1) := by decide +kernel
theorem dL_law_24 : decode cL_law 24 = .ok (.if_icmp .gt 1427, 3) := by decide +kernel
theorem dL_law_27 : decode cL_law 27 = .ok (.aload_n 0, 1) := by decide +kernel
theorem dL_law_28 : decode cL_law 28 = .ok (.iload_n 3, 1) := by decide +kernel
theorem dL_law_29 : decode cL_law 29 = .ok (.iaload, 1) := by decide +kernel
theorem dL_law_30 : decode cL_law 30 = .ok (.bipush 63, 2) := by decide +kernel
theorem dL_law_32 : decode cL_law 32 = .ok (.iand, 1) := by decide +kernel
theorem dL_law_33 : decode cL_law 33 = .ok (.tableswitch 1412 0 40 #[179, 232, 265, 298, 331, 364, 407, 460, 473, 496, 519, 542, 565, 598, 621, 644, 677, 710, 733, 776, 809, 822, 845, 888, 911, 924, 957, 980, 1023, 1066, 1089, 1112, 1175, 1218, 1251, 1284, 1317, 1340, 1363, 1376, 1389], 179) := by decide +kernel
theorem dL_law_212 : decode cL_law 212 = .ok (.aload_n 1, 1) := by decide +kernel
theorem dL_law_213 : decode cL_law 213 = .ok (.aload_n 0, 1) := by decide +kernel
theorem dL_law_214 : decode cL_law 214 = .ok (.iload_n 3, 1) := by decide +kernel
theorem dL_law_215 : decode cL_law 215 = .ok (.iconst 1, 1) := by decide +kernel
theorem dL_law_216 : decode cL_law 216 = .ok (.iadd, 1) := by decide +kernel
theorem dL_law_217 : decode cL_law 217 = .ok (.iaload, 1) := by decide +kernel
theorem dL_law_218 : decode cL_law 218 = .ok (.aload_n 0, 1) := by decide +kernel
theorem dL_law_219 : decode cL_law 219 = .ok (.iload_n 3, 1) := by decide +kernel
theorem dL_law_220 : decode cL_law 220 = .ok (.iconst 2, 1) := by decide +kernel
theorem dL_law_221 : decode cL_law 221 = .ok (.iadd, 1) := by decide +kernel
theorem dL_law_222 : decode cL_law 222 = .ok (.iaload, 1) := by decide +kernel
theorem dL_law_223 : decode cL_law 223 = .ok (.aload_n 0, 1) := by decide +kernel
theorem dL_law_224 : decode cL_law 224 = .ok (.iload_n 3, 1) := by decide +kernel
theorem dL_law_225 : decode cL_law 225 = .ok (.iconst 3, 1) := by decide +kernel
theorem dL_law_226 : decode cL_law 226 = .ok (.iadd, 1) := by decide +kernel
theorem dL_law_227 : decode cL_law 227 = .ok (.iaload, 1) := by decide +kernel
theorem dL_law_228 : decode cL_law 228 = .ok (.aload_n 0, 1) := by decide +kernel
theorem dL_law_229 : decode cL_law 229 = .ok (.iload_n 3, 1) := by decide +kernel
theorem dL_law_230 : decode cL_law 230 = .ok (.iconst 4, 1) := by decide +kernel
theorem dL_law_231 : decode cL_law 231 = .ok (.iadd, 1) := by decide +kernel
theorem dL_law_232 : decode cL_law 232 = .ok (.iaload, 1) := by decide +kernel
theorem dL_law_233 : decode cL_law 233 = .ok (.invokevirtual 13, 3) := by decide +kernel
theorem dL_law_236 : decode cL_law 236 = .ok (.aload_n 2, 1) := by decide +kernel
theorem dL_law_237 : decode cL_law 237 = .ok (.aload_n 0, 1) := by decide +kernel
theorem dL_law_238 : decode cL_law 238 = .ok (.iload_n 3, 1) := by decide +kernel
theorem dL_law_239 : decode cL_law 239 = .ok (.iconst 1, 1) := by decide +kernel
theorem dL_law_240 : decode cL_law 240 = .ok (.iadd, 1) := by decide +kernel
theorem dL_law_241 : decode cL_law 241 = .ok (.iaload, 1) := by decide +kernel
theorem dL_law_242 : decode cL_law 242 = .ok (.aload_n 0, 1) := by decide +kernel
theorem dL_law_243 : decode cL_law 243 = .ok (.iload_n 3, 1) := by decide +kernel
theorem dL_law_244 : decode cL_law 244 = .ok (.iconst 2, 1) := by decide +kernel
theorem dL_law_245 : decode cL_law 245 = .ok (.iadd, 1) := by decide +kernel
theorem dL_law_246 : decode cL_law 246 = .ok (.iaload, 1) := by decide +kernel
theorem dL_law_247 : decode cL_law 247 = .ok (.aload_n 0, 1) := by decide +kernel
theorem dL_law_248 : decode cL_law 248 = .ok (.iload_n 3, 1) := by decide +kernel
theorem dL_law_249 : decode cL_law 249 = .ok (.iconst 3, 1) := by decide +kernel
theorem dL_law_250 : decode cL_law 250 = .ok (.iadd, 1) := by decide +kernel
theorem dL_law_251 : decode cL_law 251 = .ok (.iaload, 1) := by decide +kernel
theorem dL_law_252 : decode cL_law 252 = .ok (.aload_n 0, 1) := by decide +kernel
theorem dL_law_253 : decode cL_law 253 = .ok (.iload_n 3, 1) := by decide +kernel
theorem dL_law_254 : decode cL_law 254 = .ok (.iconst 4, 1) := by decide +kernel
theorem dL_law_255 : decode cL_law 255 = .ok (.iadd, 1) := by decide +kernel
theorem dL_law_256 : decode cL_law 256 = .ok (.iaload, 1) := by decide +kernel
theorem dL_law_257 : decode cL_law 257 = .ok (.invokevirtual 17, 3) := by decide +kernel
theorem dL_law_260 : decode cL_law 260 = .ok (.if_icmp .eq 1185, 3) := by decide +kernel
theorem dL_law_263 : decode cL_law 263 = .ok (.iconst 0, 1) := by decide +kernel
theorem dL_law_264 : decode cL_law 264 = .ok (.ireturn, 1) := by decide +kernel
theorem dL_law_265 : decode cL_law 265 = .ok (.aload_n 1, 1) := by decide +kernel
theorem dL_law_266 : decode cL_law 266 = .ok (.aload_n 0, 1) := by decide +kernel
theorem dL_law_267 : decode cL_law 267 = .ok (.iload_n 3, 1) := by decide +kernel
theorem dL_law_268 : decode cL_law 268 = .ok (.iconst 1, 1) := by decide +kernel
theorem dL_law_269 : decode cL_law 269 = .ok (.iadd, 1) := by decide +kernel
theorem dL_law_270 : decode cL_law 270 = .ok (.iaload, 1) := by decide +kernel
theorem dL_law_271 : decode cL_law 271 = .ok (.aload_n 0, 1) := by decide +kernel
theorem dL_law_272 : decode cL_law 272 = .ok (.iload_n 3, 1) := by decide +kernel
theorem dL_law_273 : decode cL_law 273 = .ok (.iconst 2, 1) := by decide +kernel
theorem dL_law_274 : decode cL_law 274 = .ok (.iadd, 1) := by decide +kernel
theorem dL_law_275 : decode cL_law 275 = .ok (.iaload, 1) := by decide +kernel
theorem dL_law_276 : decode cL_law 276 = .ok (.invokevirtual 18, 3) := by decide +kernel
theorem dL_law_279 : decode cL_law 279 = .ok (.aload_n 2, 1) := by decide +kernel
theorem dL_law_280 : decode cL_law 280 = .ok (.aload_n 0, 1) := by decide +kernel
theorem dL_law_281 : decode cL_law 281 = .ok (.iload_n 3, 1) := by decide +kernel
theorem dL_law_282 : decode cL_law 282 = .ok (.iconst 1, 1) := by decide +kernel
theorem dL_law_283 : decode cL_law 283 = .ok (.iadd, 1) := by decide +kernel
theorem dL_law_284 : decode cL_law 284 = .ok (.iaload, 1) := by decide +kernel
theorem dL_law_285 : decode cL_law 285 = .ok (.aload_n 0, 1) := by decide +kernel
theorem dL_law_286 : decode cL_law 286 = .ok (.iload_n 3, 1) := by decide +kernel
theorem dL_law_287 : decode cL_law 287 = .ok (.iconst 2, 1) := by decide +kernel
theorem dL_law_288 : decode cL_law 288 = .ok (.iadd, 1) := by decide +kernel
theorem dL_law_289 : decode cL_law 289 = .ok (.iaload, 1) := by decide +kernel
theorem dL_law_290 : decode cL_law 290 = .ok (.invokevirtual 22, 3) := by decide +kernel
theorem dL_law_293 : decode cL_law 293 = .ok (.if_icmp .eq 1152, 3) := by decide +kernel
theorem dL_law_296 : decode cL_law 296 = .ok (.iconst 0, 1) := by decide +kernel
theorem dL_law_297 : decode cL_law 297 = .ok (.ireturn, 1) := by decide +kernel
theorem dL_law_298 : decode cL_law 298 = .ok (.aload_n 1, 1) := by decide +kernel
theorem dL_law_299 : decode cL_law 299 = .ok (.aload_n 0, 1) := by decide +kernel
theorem dL_law_300 : decode cL_law 300 = .ok (.iload_n 3, 1) := by decide +kernel
theorem dL_law_301 : decode cL_law 301 = .ok (.iconst 1, 1) := by decide +kernel
theorem dL_law_302 : decode cL_law 302 = .ok (.iadd, 1) := by decide +kernel
theorem dL_law_303 : decode cL_law 303 = .ok (.iaload, 1) := by decide +kernel
theorem dL_law_304 : decode cL_law 304 = .ok (.aload_n 0, 1) := by decide +kernel
theorem dL_law_305 : decode cL_law 305 = .ok (.iload_n 3, 1) := by decide +kernel
theorem dL_law_306 : decode cL_law 306 = .ok (.iconst 2, 1) := by decide +kernel
theorem dL_law_307 : decode cL_law 307 = .ok (.iadd, 1) := by decide +kernel
theorem dL_law_308 : decode cL_law 308 = .ok (.iaload, 1) := by decide +kernel
theorem dL_law_309 : decode cL_law 309 = .ok (.invokevirtual 23, 3) := by decide +kernel
theorem dL_law_312 : decode cL_law 312 = .ok (.aload_n 2, 1) := by decide +kernel
theorem dL_law_313 : decode cL_law 313 = .ok (.aload_n 0, 1) := by decide +kernel
theorem dL_law_314 : decode cL_law 314 = .ok (.iload_n 3, 1) := by decide +kernel
theorem dL_law_315 : decode cL_law 315 = .ok (.iconst 1, 1) := by decide +kernel
theorem dL_law_316 : decode cL_law 316 = .ok (.iadd, 1) := by decide +kernel
theorem dL_law_317 : decode cL_law 317 = .ok (.iaload, 1) := by decide +kernel
theorem dL_law_318 : decode cL_law 318 = .ok (.aload_n 0, 1) := by decide +kernel
theorem dL_law_319 : decode cL_law 319 = .ok (.iload_n 3, 1) := by decide +kernel
theorem dL_law_320 : decode cL_law 320 = .ok (.iconst 2, 1) := by decide +kernel
theorem dL_law_321 : decode cL_law 321 = .ok (.iadd, 1) := by decide +kernel
theorem dL_law_322 : decode cL_law 322 = .ok (.iaload, 1) := by decide +kernel
theorem dL_law_323 : decode cL_law 323 = .ok (.invokevirtual 26, 3) := by decide +kernel
theorem dL_law_326 : decode cL_law 326 = .ok (.if_icmp .eq 1119, 3) := by decide +kernel
theorem dL_law_329 : decode cL_law 329 = .ok (.iconst 0, 1) := by decide +kernel
theorem dL_law_330 : decode cL_law 330 = .ok (.ireturn, 1) := by decide +kernel
theorem dL_law_331 : decode cL_law 331 = .ok (.aload_n 1, 1) := by decide +kernel
theorem dL_law_332 : decode cL_law 332 = .ok (.aload_n 0, 1) := by decide +kernel
theorem dL_law_333 : decode cL_law 333 = .ok (.iload_n 3, 1) := by decide +kernel
theorem dL_law_334 : decode cL_law 334 = .ok (.iconst 1, 1) := by decide +kernel
theorem dL_law_335 : decode cL_law 335 = .ok (.iadd, 1) := by decide +kernel
theorem dL_law_336 : decode cL_law 336 = .ok (.iaload, 1) := by decide +kernel
theorem dL_law_337 : decode cL_law 337 = .ok (.aload_n 0, 1) := by decide +kernel
theorem dL_law_338 : decode cL_law 338 = .ok (.iload_n 3, 1) := by decide +kernel
theorem dL_law_339 : decode cL_law 339 = .ok (.iconst 2, 1) := by decide +kernel
theorem dL_law_340 : decode cL_law 340 = .ok (.iadd, 1) := by decide +kernel
theorem dL_law_341 : decode cL_law 341 = .ok (.iaload, 1) := by decide +kernel
theorem dL_law_342 : decode cL_law 342 = .ok (.invokevirtual 27, 3) := by decide +kernel
theorem dL_law_345 : decode cL_law 345 = .ok (.aload_n 2, 1) := by decide +kernel
theorem dL_law_346 : decode cL_law 346 = .ok (.aload_n 0, 1) := by decide +kernel
theorem dL_law_347 : decode cL_law 347 = .ok (.iload_n 3, 1) := by decide +kernel
theorem dL_law_348 : decode cL_law 348 = .ok (.iconst 1, 1) := by decide +kernel
theorem dL_law_349 : decode cL_law 349 = .ok (.iadd, 1) := by decide +kernel
theorem dL_law_350 : decode cL_law 350 = .ok (.iaload, 1) := by decide +kernel
theorem dL_law_351 : decode cL_law 351 = .ok (.aload_n 0, 1) := by decide +kernel
theorem dL_law_352 : decode cL_law 352 = .ok (.iload_n 3, 1) := by decide +kernel
theorem dL_law_353 : decode cL_law 353 = .ok (.iconst 2, 1) := by decide +kernel
theorem dL_law_354 : decode cL_law 354 = .ok (.iadd, 1) := by decide +kernel
theorem dL_law_355 : decode cL_law 355 = .ok (.iaload, 1) := by decide +kernel
theorem dL_law_356 : decode cL_law 356 = .ok (.invokevirtual 30, 3) := by decide +kernel
theorem dL_law_359 : decode cL_law 359 = .ok (.if_icmp .eq 1086, 3) := by decide +kernel
theorem dL_law_362 : decode cL_law 362 = .ok (.iconst 0, 1) := by decide +kernel
theorem dL_law_363 : decode cL_law 363 = .ok (.ireturn, 1) := by decide +kernel
theorem dL_law_364 : decode cL_law 364 = .ok (.aload_n 1, 1) := by decide +kernel
theorem dL_law_365 : decode cL_law 365 = .ok (.aload_n 0, 1) := by decide +kernel
theorem dL_law_366 : decode cL_law 366 = .ok (.iload_n 3, 1) := by decide +kernel
theorem dL_law_367 : decode cL_law 367 = .ok (.iconst 1, 1) := by decide +kernel
theorem dL_law_368 : decode cL_law 368 = .ok (.iadd, 1) := by decide +kernel
theorem dL_law_369 : decode cL_law 369 = .ok (.iaload, 1) := by decide +kernel
theorem dL_law_370 : decode cL_law 370 = .ok (.aload_n 0, 1) := by decide +kernel
theorem dL_law_371 : decode cL_law 371 = .ok (.iload_n 3, 1) := by decide +kernel
theorem dL_law_372 : decode cL_law 372 = .ok (.iconst 2, 1) := by decide +kernel
theorem dL_law_373 : decode cL_law 373 = .ok (.iadd, 1) := by decide +kernel
theorem dL_law_374 : decode cL_law 374 = .ok (.iaload, 1) := by decide +kernel
theorem dL_law_375 : decode cL_law 375 = .ok (.invokevirtual 31, 3) := by decide +kernel
theorem dL_law_378 : decode cL_law 378 = .ok (.aload_n 2, 1) := by decide +kernel
theorem dL_law_379 : decode cL_law 379 = .ok (.aload_n 0, 1) := by decide +kernel
theorem dL_law_380 : decode cL_law 380 = .ok (.iload_n 3, 1) := by decide +kernel
theorem dL_law_381 : decode cL_law 381 = .ok (.iconst 1, 1) := by decide +kernel
theorem dL_law_382 : decode cL_law 382 = .ok (.iadd, 1) := by decide +kernel
theorem dL_law_383 : decode cL_law 383 = .ok (.iaload, 1) := by decide +kernel
theorem dL_law_384 : decode cL_law 384 = .ok (.aload_n 0, 1) := by decide +kernel
theorem dL_law_385 : decode cL_law 385 = .ok (.iload_n 3, 1) := by decide +kernel
theorem dL_law_386 : decode cL_law 386 = .ok (.iconst 2, 1) := by decide +kernel
theorem dL_law_387 : decode cL_law 387 = .ok (.iadd, 1) := by decide +kernel
theorem dL_law_388 : decode cL_law 388 = .ok (.iaload, 1) := by decide +kernel
theorem dL_law_389 : decode cL_law 389 = .ok (.invokevirtual 34, 3) := by decide +kernel
theorem dL_law_392 : decode cL_law 392 = .ok (.if_icmp .eq 1053, 3) := by decide +kernel
theorem dL_law_395 : decode cL_law 395 = .ok (.iconst 0, 1) := by decide +kernel
theorem dL_law_396 : decode cL_law 396 = .ok (.ireturn, 1) := by decide +kernel
theorem dL_law_397 : decode cL_law 397 = .ok (.aload_n 1, 1) := by decide +kernel
theorem dL_law_398 : decode cL_law 398 = .ok (.aload_n 0, 1) := by decide +kernel
theorem dL_law_399 : decode cL_law 399 = .ok (.iload_n 3, 1) := by decide +kernel
theorem dL_law_400 : decode cL_law 400 = .ok (.iconst 1, 1) := by decide +kernel
theorem dL_law_401 : decode cL_law 401 = .ok (.iadd, 1) := by decide +kernel
theorem dL_law_402 : decode cL_law 402 = .ok (.iaload, 1) := by decide +kernel
theorem dL_law_403 : decode cL_law 403 = .ok (.aload_n 0, 1) := by decide +kernel
theorem dL_law_404 : decode cL_law 404 = .ok (.iload_n 3, 1) := by decide +kernel
theorem dL_law_405 : decode cL_law 405 = .ok (.iconst 2, 1) := by decide +kernel
theorem dL_law_406 : decode cL_law 406 = .ok (.iadd, 1) := by decide +kernel
theorem dL_law_407 : decode cL_law 407 = .ok (.iaload, 1) := by decide +kernel
theorem dL_law_408 : decode cL_law 408 = .ok (.aload_n 0, 1) := by decide +kernel
theorem dL_law_409 : decode cL_law 409 = .ok (.iload_n 3, 1) := by decide +kernel
theorem dL_law_410 : decode cL_law 410 = .ok (.iconst 3, 1) := by decide +kernel
theorem dL_law_411 : decode cL_law 411 = .ok (.iadd, 1) := by decide +kernel
theorem dL_law_412 : decode cL_law 412 = .ok (.iaload, 1) := by decide +kernel
theorem dL_law_413 : decode cL_law 413 = .ok (.invokevirtual 35, 3) := by decide +kernel
theorem dL_law_416 : decode cL_law 416 = .ok (.aload_n 2, 1) := by decide +kernel
theorem dL_law_417 : decode cL_law 417 = .ok (.aload_n 0, 1) := by decide +kernel
theorem dL_law_418 : decode cL_law 418 = .ok (.iload_n 3, 1) := by decide +kernel
theorem dL_law_419 : decode cL_law 419 = .ok (.iconst 1, 1) := by decide +kernel
theorem dL_law_420 : decode cL_law 420 = .ok (.iadd, 1) := by decide +kernel
theorem dL_law_421 : decode cL_law 421 = .ok (.iaload, 1) := by decide +kernel
theorem dL_law_422 : decode cL_law 422 = .ok (.aload_n 0, 1) := by decide +kernel
theorem dL_law_423 : decode cL_law 423 = .ok (.iload_n 3, 1) := by decide +kernel
theorem dL_law_424 : decode cL_law 424 = .ok (.iconst 2, 1) := by decide +kernel
theorem dL_law_425 : decode cL_law 425 = .ok (.iadd, 1) := by decide +kernel
theorem dL_law_426 : decode cL_law 426 = .ok (.iaload, 1) := by decide +kernel
theorem dL_law_427 : decode cL_law 427 = .ok (.aload_n 0, 1) := by decide +kernel
theorem dL_law_428 : decode cL_law 428 = .ok (.iload_n 3, 1) := by decide +kernel
theorem dL_law_429 : decode cL_law 429 = .ok (.iconst 3, 1) := by decide +kernel
theorem dL_law_430 : decode cL_law 430 = .ok (.iadd, 1) := by decide +kernel
theorem dL_law_431 : decode cL_law 431 = .ok (.iaload, 1) := by decide +kernel
theorem dL_law_432 : decode cL_law 432 = .ok (.invokevirtual 39, 3) := by decide +kernel
theorem dL_law_435 : decode cL_law 435 = .ok (.if_icmp .eq 1010, 3) := by decide +kernel
theorem dL_law_438 : decode cL_law 438 = .ok (.iconst 0, 1) := by decide +kernel
theorem dL_law_439 : decode cL_law 439 = .ok (.ireturn, 1) := by decide +kernel
theorem dL_law_440 : decode cL_law 440 = .ok (.aload_n 1, 1) := by decide +kernel
theorem dL_law_441 : decode cL_law 441 = .ok (.aload_n 0, 1) := by decide +kernel
theorem dL_law_442 : decode cL_law 442 = .ok (.iload_n 3, 1) := by decide +kernel
theorem dL_law_443 : decode cL_law 443 = .ok (.iconst 1, 1) := by decide +kernel
theorem dL_law_444 : decode cL_law 444 = .ok (.iadd, 1) := by decide +kernel
theorem dL_law_445 : decode cL_law 445 = .ok (.iaload, 1) := by decide +kernel
theorem dL_law_446 : decode cL_law 446 = .ok (.aload_n 0, 1) := by decide +kernel
theorem dL_law_447 : decode cL_law 447 = .ok (.iload_n 3, 1) := by decide +kernel
theorem dL_law_448 : decode cL_law 448 = .ok (.iconst 2, 1) := by decide +kernel
theorem dL_law_449 : decode cL_law 449 = .ok (.iadd, 1) := by decide +kernel
theorem dL_law_450 : decode cL_law 450 = .ok (.iaload, 1) := by decide +kernel
theorem dL_law_451 : decode cL_law 451 = .ok (.aload_n 0, 1) := by decide +kernel
theorem dL_law_452 : decode cL_law 452 = .ok (.iload_n 3, 1) := by decide +kernel
theorem dL_law_453 : decode cL_law 453 = .ok (.iconst 3, 1) := by decide +kernel
theorem dL_law_454 : decode cL_law 454 = .ok (.iadd, 1) := by decide +kernel
theorem dL_law_455 : decode cL_law 455 = .ok (.iaload, 1) := by decide +kernel
theorem dL_law_456 : decode cL_law 456 = .ok (.aload_n 0, 1) := by decide +kernel
theorem dL_law_457 : decode cL_law 457 = .ok (.iload_n 3, 1) := by decide +kernel
theorem dL_law_458 : decode cL_law 458 = .ok (.iconst 4, 1) := by decide +kernel
theorem dL_law_459 : decode cL_law 459 = .ok (.iadd, 1) := by decide +kernel
theorem dL_law_460 : decode cL_law 460 = .ok (.iaload, 1) := by decide +kernel
theorem dL_law_461 : decode cL_law 461 = .ok (.invokevirtual 40, 3) := by decide +kernel
theorem dL_law_464 : decode cL_law 464 = .ok (.aload_n 2, 1) := by decide +kernel
theorem dL_law_465 : decode cL_law 465 = .ok (.aload_n 0, 1) := by decide +kernel
theorem dL_law_466 : decode cL_law 466 = .ok (.iload_n 3, 1) := by decide +kernel
theorem dL_law_467 : decode cL_law 467 = .ok (.iconst 1, 1) := by decide +kernel
theorem dL_law_468 : decode cL_law 468 = .ok (.iadd, 1) := by decide +kernel
theorem dL_law_469 : decode cL_law 469 = .ok (.iaload, 1) := by decide +kernel
theorem dL_law_470 : decode cL_law 470 = .ok (.aload_n 0, 1) := by decide +kernel
theorem dL_law_471 : decode cL_law 471 = .ok (.iload_n 3, 1) := by decide +kernel
theorem dL_law_472 : decode cL_law 472 = .ok (.iconst 2, 1) := by decide +kernel
theorem dL_law_473 : decode cL_law 473 = .ok (.iadd, 1) := by decide +kernel
theorem dL_law_474 : decode cL_law 474 = .ok (.iaload, 1) := by decide +kernel
theorem dL_law_475 : decode cL_law 475 = .ok (.aload_n 0, 1) := by decide +kernel
theorem dL_law_476 : decode cL_law 476 = .ok (.iload_n 3, 1) := by decide +kernel
theorem dL_law_477 : decode cL_law 477 = .ok (.iconst 3, 1) := by decide +kernel
theorem dL_law_478 : decode cL_law 478 = .ok (.iadd, 1) := by decide +kernel
theorem dL_law_479 : decode cL_law 479 = .ok (.iaload, 1) := by decide +kernel
theorem dL_law_480 : decode cL_law 480 = .ok (.aload_n 0, 1) := by decide +kernel
theorem dL_law_481 : decode cL_law 481 = .ok (.iload_n 3, 1) := by decide +kernel
theorem dL_law_482 : decode cL_law 482 = .ok (.iconst 4, 1) := by decide +kernel
theorem dL_law_483 : decode cL_law 483 = .ok (.iadd, 1) := by decide +kernel
theorem dL_law_484 : decode cL_law 484 = .ok (.iaload, 1) := by decide +kernel
theorem dL_law_485 : decode cL_law 485 = .ok (.invokevirtual 43, 3) := by decide +kernel
theorem dL_law_488 : decode cL_law 488 = .ok (.if_icmp .eq 957, 3) := by decide +kernel
theorem dL_law_491 : decode cL_law 491 = .ok (.iconst 0, 1) := by decide +kernel
theorem dL_law_492 : decode cL_law 492 = .ok (.ireturn, 1) := by decide +kernel
theorem dL_law_493 : decode cL_law 493 = .ok (.aload_n 1, 1) := by decide +kernel
theorem dL_law_494 : decode cL_law 494 = .ok (.invokevirtual 44, 3) := by decide +kernel
theorem dL_law_497 : decode cL_law 497 = .ok (.aload_n 2, 1) := by decide +kernel
theorem dL_law_498 : decode cL_law 498 = .ok (.invokevirtual 48, 3) := by decide +kernel
theorem dL_law_501 : decode cL_law 501 = .ok (.if_icmp .eq 944, 3) := by decide +kernel
theorem dL_law_504 : decode cL_law 504 = .ok (.iconst 0, 1) := by decide +kernel
theorem dL_law_505 : decode cL_law 505 = .ok (.ireturn, 1) := by decide +kernel
theorem dL_law_506 : decode cL_law 506 = .ok (.aload_n 1, 1) := by decide +kernel
theorem dL_law_507 : decode cL_law 507 = .ok (.aload_n 0, 1) := by decide +kernel
theorem dL_law_508 : decode cL_law 508 = .ok (.iload_n 3, 1) := by decide +kernel
theorem dL_law_509 : decode cL_law 509 = .ok (.iconst 1, 1) := by decide +kernel
theorem dL_law_510 : decode cL_law 510 = .ok (.iadd, 1) := by decide +kernel
theorem dL_law_511 : decode cL_law 511 = .ok (.iaload, 1) := by decide +kernel
theorem dL_law_512 : decode cL_law 512 = .ok (.invokevirtual 49, 3) := by decide +kernel
theorem dL_law_515 : decode cL_law 515 = .ok (.aload_n 2, 1) := by decide +kernel
theorem dL_law_516 : decode cL_law 516 = .ok (.aload_n 0, 1) := by decide +kernel
theorem dL_law_517 : decode cL_law 517 = .ok (.iload_n 3, 1) := by decide +kernel
theorem dL_law_518 : decode cL_law 518 = .ok (.iconst 1, 1) := by decide +kernel
theorem dL_law_519 : decode cL_law 519 = .ok (.iadd, 1) := by decide +kernel
theorem dL_law_520 : decode cL_law 520 = .ok (.iaload, 1) := by decide +kernel
theorem dL_law_521 : decode cL_law 521 = .ok (.invokevirtual 53, 3) := by decide +kernel
theorem dL_law_524 : decode cL_law 524 = .ok (.if_icmp .eq 921, 3) := by decide +kernel
theorem dL_law_527 : decode cL_law 527 = .ok (.iconst 0, 1) := by decide +kernel
theorem dL_law_528 : decode cL_law 528 = .ok (.ireturn, 1) := by decide +kernel
theorem dL_law_529 : decode cL_law 529 = .ok (.aload_n 1, 1) := by decide +kernel
theorem dL_law_530 : decode cL_law 530 = .ok (.aload_n 0, 1) := by decide +kernel
theorem dL_law_531 : decode cL_law 531 = .ok (.iload_n 3, 1) := by decide +kernel
theorem dL_law_532 : decode cL_law 532 = .ok (.iconst 1, 1) := by decide +kernel
theorem dL_law_533 : decode cL_law 533 = .ok (.iadd, 1) := by decide +kernel
theorem dL_law_534 : decode cL_law 534 = .ok (.iaload, 1) := by decide +kernel
theorem dL_law_535 : decode cL_law 535 = .ok (.invokevirtual 54, 3) := by decide +kernel
theorem dL_law_538 : decode cL_law 538 = .ok (.aload_n 2, 1) := by decide +kernel
theorem dL_law_539 : decode cL_law 539 = .ok (.aload_n 0, 1) := by decide +kernel
theorem dL_law_540 : decode cL_law 540 = .ok (.iload_n 3, 1) := by decide +kernel
theorem dL_law_541 : decode cL_law 541 = .ok (.iconst 1, 1) := by decide +kernel
theorem dL_law_542 : decode cL_law 542 = .ok (.iadd, 1) := by decide +kernel
theorem dL_law_543 : decode cL_law 543 = .ok (.iaload, 1) := by decide +kernel
theorem dL_law_544 : decode cL_law 544 = .ok (.invokevirtual 57, 3) := by decide +kernel
theorem dL_law_547 : decode cL_law 547 = .ok (.if_icmp .eq 898, 3) := by decide +kernel
theorem dL_law_550 : decode cL_law 550 = .ok (.iconst 0, 1) := by decide +kernel
theorem dL_law_551 : decode cL_law 551 = .ok (.ireturn, 1) := by decide +kernel
theorem dL_law_552 : decode cL_law 552 = .ok (.aload_n 1, 1) := by decide +kernel
theorem dL_law_553 : decode cL_law 553 = .ok (.aload_n 0, 1) := by decide +kernel
theorem dL_law_554 : decode cL_law 554 = .ok (.iload_n 3, 1) := by decide +kernel
theorem dL_law_555 : decode cL_law 555 = .ok (.iconst 1, 1) := by decide +kernel
theorem dL_law_556 : decode cL_law 556 = .ok (.iadd, 1) := by decide +kernel
theorem dL_law_557 : decode cL_law 557 = .ok (.iaload, 1) := by decide +kernel
theorem dL_law_558 : decode cL_law 558 = .ok (.invokevirtual 58, 3) := by decide +kernel
theorem dL_law_561 : decode cL_law 561 = .ok (.aload_n 2, 1) := by decide +kernel
theorem dL_law_562 : decode cL_law 562 = .ok (.aload_n 0, 1) := by decide +kernel
theorem dL_law_563 : decode cL_law 563 = .ok (.iload_n 3, 1) := by decide +kernel
theorem dL_law_564 : decode cL_law 564 = .ok (.iconst 1, 1) := by decide +kernel
theorem dL_law_565 : decode cL_law 565 = .ok (.iadd, 1) := by decide +kernel
theorem dL_law_566 : decode cL_law 566 = .ok (.iaload, 1) := by decide +kernel
theorem dL_law_567 : decode cL_law 567 = .ok (.invokevirtual 61, 3) := by decide +kernel
theorem dL_law_570 : decode cL_law 570 = .ok (.if_icmp .eq 875, 3) := by decide +kernel
theorem dL_law_573 : decode cL_law 573 = .ok (.iconst 0, 1) := by decide +kernel
theorem dL_law_574 : decode cL_law 574 = .ok (.ireturn, 1) := by decide +kernel
theorem dL_law_575 : decode cL_law 575 = .ok (.aload_n 1, 1) := by decide +kernel
theorem dL_law_576 : decode cL_law 576 = .ok (.aload_n 0, 1) := by decide +kernel
theorem dL_law_577 : decode cL_law 577 = .ok (.iload_n 3, 1) := by decide +kernel
theorem dL_law_578 : decode cL_law 578 = .ok (.iconst 1, 1) := by decide +kernel
theorem dL_law_579 : decode cL_law 579 = .ok (.iadd, 1) := by decide +kernel
theorem dL_law_580 : decode cL_law 580 = .ok (.iaload, 1) := by decide +kernel
theorem dL_law_581 : decode cL_law 581 = .ok (.invokevirtual 62, 3) := by decide +kernel
theorem dL_law_584 : decode cL_law 584 = .ok (.aload_n 2, 1) := by decide +kernel
theorem dL_law_585 : decode cL_law 585 = .ok (.aload_n 0, 1) := by decide +kernel
theorem dL_law_586 : decode cL_law 586 = .ok (.iload_n 3, 1) := by decide +kernel
theorem dL_law_587 : decode cL_law 587 = .ok (.iconst 1, 1) := by decide +kernel
theorem dL_law_588 : decode cL_law 588 = .ok (.iadd, 1) := by decide +kernel
theorem dL_law_589 : decode cL_law 589 = .ok (.iaload, 1) := by decide +kernel
theorem dL_law_590 : decode cL_law 590 = .ok (.invokevirtual 65, 3) := by decide +kernel
theorem dL_law_593 : decode cL_law 593 = .ok (.if_icmp .eq 852, 3) := by decide +kernel
theorem dL_law_596 : decode cL_law 596 = .ok (.iconst 0, 1) := by decide +kernel
theorem dL_law_597 : decode cL_law 597 = .ok (.ireturn, 1) := by decide +kernel
theorem dL_law_598 : decode cL_law 598 = .ok (.aload_n 1, 1) := by decide +kernel
theorem dL_law_599 : decode cL_law 599 = .ok (.aload_n 0, 1) := by decide +kernel
theorem dL_law_600 : decode cL_law 600 = .ok (.iload_n 3, 1) := by decide +kernel
theorem dL_law_601 : decode cL_law 601 = .ok (.iconst 1, 1) := by decide +kernel
theorem dL_law_602 : decode cL_law 602 = .ok (.iadd, 1) := by decide +kernel
theorem dL_law_603 : decode cL_law 603 = .ok (.iaload, 1) := by decide +kernel
theorem dL_law_604 : decode cL_law 604 = .ok (.aload_n 0, 1) := by decide +kernel
theorem dL_law_605 : decode cL_law 605 = .ok (.iload_n 3, 1) := by decide +kernel
theorem dL_law_606 : decode cL_law 606 = .ok (.iconst 2, 1) := by decide +kernel
theorem dL_law_607 : decode cL_law 607 = .ok (.iadd, 1) := by decide +kernel
theorem dL_law_608 : decode cL_law 608 = .ok (.iaload, 1) := by decide +kernel
theorem dL_law_609 : decode cL_law 609 = .ok (.invokevirtual 66, 3) := by decide +kernel
theorem dL_law_612 : decode cL_law 612 = .ok (.aload_n 2, 1) := by decide +kernel
theorem dL_law_613 : decode cL_law 613 = .ok (.aload_n 0, 1) := by decide +kernel
theorem dL_law_614 : decode cL_law 614 = .ok (.iload_n 3, 1) := by decide +kernel
theorem dL_law_615 : decode cL_law 615 = .ok (.iconst 1, 1) := by decide +kernel
theorem dL_law_616 : decode cL_law 616 = .ok (.iadd, 1) := by decide +kernel
theorem dL_law_617 : decode cL_law 617 = .ok (.iaload, 1) := by decide +kernel
theorem dL_law_618 : decode cL_law 618 = .ok (.aload_n 0, 1) := by decide +kernel
theorem dL_law_619 : decode cL_law 619 = .ok (.iload_n 3, 1) := by decide +kernel
theorem dL_law_620 : decode cL_law 620 = .ok (.iconst 2, 1) := by decide +kernel
theorem dL_law_621 : decode cL_law 621 = .ok (.iadd, 1) := by decide +kernel
theorem dL_law_622 : decode cL_law 622 = .ok (.iaload, 1) := by decide +kernel
theorem dL_law_623 : decode cL_law 623 = .ok (.invokevirtual 69, 3) := by decide +kernel
theorem dL_law_626 : decode cL_law 626 = .ok (.if_icmp .eq 819, 3) := by decide +kernel
theorem dL_law_629 : decode cL_law 629 = .ok (.iconst 0, 1) := by decide +kernel
theorem dL_law_630 : decode cL_law 630 = .ok (.ireturn, 1) := by decide +kernel
theorem dL_law_631 : decode cL_law 631 = .ok (.aload_n 1, 1) := by decide +kernel
theorem dL_law_632 : decode cL_law 632 = .ok (.aload_n 0, 1) := by decide +kernel
theorem dL_law_633 : decode cL_law 633 = .ok (.iload_n 3, 1) := by decide +kernel
theorem dL_law_634 : decode cL_law 634 = .ok (.iconst 1, 1) := by decide +kernel
theorem dL_law_635 : decode cL_law 635 = .ok (.iadd, 1) := by decide +kernel
theorem dL_law_636 : decode cL_law 636 = .ok (.iaload, 1) := by decide +kernel
theorem dL_law_637 : decode cL_law 637 = .ok (.invokevirtual 70, 3) := by decide +kernel
theorem dL_law_640 : decode cL_law 640 = .ok (.aload_n 2, 1) := by decide +kernel
theorem dL_law_641 : decode cL_law 641 = .ok (.aload_n 0, 1) := by decide +kernel
theorem dL_law_642 : decode cL_law 642 = .ok (.iload_n 3, 1) := by decide +kernel
theorem dL_law_643 : decode cL_law 643 = .ok (.iconst 1, 1) := by decide +kernel
theorem dL_law_644 : decode cL_law 644 = .ok (.iadd, 1) := by decide +kernel
theorem dL_law_645 : decode cL_law 645 = .ok (.iaload, 1) := by decide +kernel
theorem dL_law_646 : decode cL_law 646 = .ok (.invokevirtual 73, 3) := by decide +kernel
theorem dL_law_649 : decode cL_law 649 = .ok (.if_icmp .eq 796, 3) := by decide +kernel
theorem dL_law_652 : decode cL_law 652 = .ok (.iconst 0, 1) := by decide +kernel
theorem dL_law_653 : decode cL_law 653 = .ok (.ireturn, 1) := by decide +kernel
theorem dL_law_654 : decode cL_law 654 = .ok (.aload_n 1, 1) := by decide +kernel
theorem dL_law_655 : decode cL_law 655 = .ok (.aload_n 0, 1) := by decide +kernel
theorem dL_law_656 : decode cL_law 656 = .ok (.iload_n 3, 1) := by decide +kernel
theorem dL_law_657 : decode cL_law 657 = .ok (.iconst 1, 1) := by decide +kernel
theorem dL_law_658 : decode cL_law 658 = .ok (.iadd, 1) := by decide +kernel
theorem dL_law_659 : decode cL_law 659 = .ok (.iaload, 1) := by decide +kernel
theorem dL_law_660 : decode cL_law 660 = .ok (.invokevirtual 74, 3) := by decide +kernel
theorem dL_law_663 : decode cL_law 663 = .ok (.aload_n 2, 1) := by decide +kernel
theorem dL_law_664 : decode cL_law 664 = .ok (.aload_n 0, 1) := by decide +kernel
theorem dL_law_665 : decode cL_law 665 = .ok (.iload_n 3, 1) := by decide +kernel
theorem dL_law_666 : decode cL_law 666 = .ok (.iconst 1, 1) := by decide +kernel
theorem dL_law_667 : decode cL_law 667 = .ok (.iadd, 1) := by decide +kernel
theorem dL_law_668 : decode cL_law 668 = .ok (.iaload, 1) := by decide +kernel
theorem dL_law_669 : decode cL_law 669 = .ok (.invokevirtual 77, 3) := by decide +kernel
theorem dL_law_672 : decode cL_law 672 = .ok (.if_icmp .eq 773, 3) := by decide +kernel
theorem dL_law_675 : decode cL_law 675 = .ok (.iconst 0, 1) := by decide +kernel
theorem dL_law_676 : decode cL_law 676 = .ok (.ireturn, 1) := by decide +kernel
theorem dL_law_677 : decode cL_law 677 = .ok (.aload_n 1, 1) := by decide +kernel
theorem dL_law_678 : decode cL_law 678 = .ok (.aload_n 0, 1) := by decide +kernel
theorem dL_law_679 : decode cL_law 679 = .ok (.iload_n 3, 1) := by decide +kernel
theorem dL_law_680 : decode cL_law 680 = .ok (.iconst 1, 1) := by decide +kernel
theorem dL_law_681 : decode cL_law 681 = .ok (.iadd, 1) := by decide +kernel
theorem dL_law_682 : decode cL_law 682 = .ok (.iaload, 1) := by decide +kernel
theorem dL_law_683 : decode cL_law 683 = .ok (.aload_n 0, 1) := by decide +kernel
theorem dL_law_684 : decode cL_law 684 = .ok (.iload_n 3, 1) := by decide +kernel
theorem dL_law_685 : decode cL_law 685 = .ok (.iconst 2, 1) := by decide +kernel
theorem dL_law_686 : decode cL_law 686 = .ok (.iadd, 1) := by decide +kernel
theorem dL_law_687 : decode cL_law 687 = .ok (.iaload, 1) := by decide +kernel
theorem dL_law_688 : decode cL_law 688 = .ok (.invokevirtual 78, 3) := by decide +kernel
theorem dL_law_691 : decode cL_law 691 = .ok (.aload_n 2, 1) := by decide +kernel
theorem dL_law_692 : decode cL_law 692 = .ok (.aload_n 0, 1) := by decide +kernel
theorem dL_law_693 : decode cL_law 693 = .ok (.iload_n 3, 1) := by decide +kernel
theorem dL_law_694 : decode cL_law 694 = .ok (.iconst 1, 1) := by decide +kernel
theorem dL_law_695 : decode cL_law 695 = .ok (.iadd, 1) := by decide +kernel
theorem dL_law_696 : decode cL_law 696 = .ok (.iaload, 1) := by decide +kernel
theorem dL_law_697 : decode cL_law 697 = .ok (.aload_n 0, 1) := by decide +kernel
theorem dL_law_698 : decode cL_law 698 = .ok (.iload_n 3, 1) := by decide +kernel
theorem dL_law_699 : decode cL_law 699 = .ok (.iconst 2, 1) := by decide +kernel
theorem dL_law_700 : decode cL_law 700 = .ok (.iadd, 1) := by decide +kernel
theorem dL_law_701 : decode cL_law 701 = .ok (.iaload, 1) := by decide +kernel
theorem dL_law_702 : decode cL_law 702 = .ok (.invokevirtual 81, 3) := by decide +kernel
theorem dL_law_705 : decode cL_law 705 = .ok (.if_icmp .eq 740, 3) := by decide +kernel
theorem dL_law_708 : decode cL_law 708 = .ok (.iconst 0, 1) := by decide +kernel
theorem dL_law_709 : decode cL_law 709 = .ok (.ireturn, 1) := by decide +kernel
theorem dL_law_710 : decode cL_law 710 = .ok (.aload_n 1, 1) := by decide +kernel
theorem dL_law_711 : decode cL_law 711 = .ok (.aload_n 0, 1) := by decide +kernel
theorem dL_law_712 : decode cL_law 712 = .ok (.iload_n 3, 1) := by decide +kernel
theorem dL_law_713 : decode cL_law 713 = .ok (.iconst 1, 1) := by decide +kernel
theorem dL_law_714 : decode cL_law 714 = .ok (.iadd, 1) := by decide +kernel
theorem dL_law_715 : decode cL_law 715 = .ok (.iaload, 1) := by decide +kernel
theorem dL_law_716 : decode cL_law 716 = .ok (.aload_n 0, 1) := by decide +kernel
theorem dL_law_717 : decode cL_law 717 = .ok (.iload_n 3, 1) := by decide +kernel
theorem dL_law_718 : decode cL_law 718 = .ok (.iconst 2, 1) := by decide +kernel
theorem dL_law_719 : decode cL_law 719 = .ok (.iadd, 1) := by decide +kernel
theorem dL_law_720 : decode cL_law 720 = .ok (.iaload, 1) := by decide +kernel
theorem dL_law_721 : decode cL_law 721 = .ok (.invokevirtual 82, 3) := by decide +kernel
theorem dL_law_724 : decode cL_law 724 = .ok (.aload_n 2, 1) := by decide +kernel
theorem dL_law_725 : decode cL_law 725 = .ok (.aload_n 0, 1) := by decide +kernel
theorem dL_law_726 : decode cL_law 726 = .ok (.iload_n 3, 1) := by decide +kernel
theorem dL_law_727 : decode cL_law 727 = .ok (.iconst 1, 1) := by decide +kernel
theorem dL_law_728 : decode cL_law 728 = .ok (.iadd, 1) := by decide +kernel
theorem dL_law_729 : decode cL_law 729 = .ok (.iaload, 1) := by decide +kernel
theorem dL_law_730 : decode cL_law 730 = .ok (.aload_n 0, 1) := by decide +kernel
theorem dL_law_731 : decode cL_law 731 = .ok (.iload_n 3, 1) := by decide +kernel
theorem dL_law_732 : decode cL_law 732 = .ok (.iconst 2, 1) := by decide +kernel
theorem dL_law_733 : decode cL_law 733 = .ok (.iadd, 1) := by decide +kernel
theorem dL_law_734 : decode cL_law 734 = .ok (.iaload, 1) := by decide +kernel
theorem dL_law_735 : decode cL_law 735 = .ok (.invokevirtual 85, 3) := by decide +kernel
theorem dL_law_738 : decode cL_law 738 = .ok (.if_icmp .eq 707, 3) := by decide +kernel
theorem dL_law_741 : decode cL_law 741 = .ok (.iconst 0, 1) := by decide +kernel
theorem dL_law_742 : decode cL_law 742 = .ok (.ireturn, 1) := by decide +kernel
theorem dL_law_743 : decode cL_law 743 = .ok (.aload_n 1, 1) := by decide +kernel
theorem dL_law_744 : decode cL_law 744 = .ok (.aload_n 0, 1) := by decide +kernel
theorem dL_law_745 : decode cL_law 745 = .ok (.iload_n 3, 1) := by decide +kernel
theorem dL_law_746 : decode cL_law 746 = .ok (.iconst 1, 1) := by decide +kernel
theorem dL_law_747 : decode cL_law 747 = .ok (.iadd, 1) := by decide +kernel
theorem dL_law_748 : decode cL_law 748 = .ok (.iaload, 1) := by decide +kernel
theorem dL_law_749 : decode cL_law 749 = .ok (.invokevirtual 86, 3) := by decide +kernel
theorem dL_law_752 : decode cL_law 752 = .ok (.aload_n 2, 1) := by decide +kernel
theorem dL_law_753 : decode cL_law 753 = .ok (.aload_n 0, 1) := by decide +kernel
theorem dL_law_754 : decode cL_law 754 = .ok (.iload_n 3, 1) := by decide +kernel
theorem dL_law_755 : decode cL_law 755 = .ok (.iconst 1, 1) := by decide +kernel
theorem dL_law_756 : decode cL_law 756 = .ok (.iadd, 1) := by decide +kernel
theorem dL_law_757 : decode cL_law 757 = .ok (.iaload, 1) := by decide +kernel
theorem dL_law_758 : decode cL_law 758 = .ok (.invokevirtual 89, 3) := by decide +kernel
theorem dL_law_761 : decode cL_law 761 = .ok (.if_icmp .eq 684, 3) := by decide +kernel
theorem dL_law_764 : decode cL_law 764 = .ok (.iconst 0, 1) := by decide +kernel
theorem dL_law_765 : decode cL_law 765 = .ok (.ireturn, 1) := by decide +kernel
theorem dL_law_766 : decode cL_law 766 = .ok (.aload_n 1, 1) := by decide +kernel
theorem dL_law_767 : decode cL_law 767 = .ok (.aload_n 0, 1) := by decide +kernel
theorem dL_law_768 : decode cL_law 768 = .ok (.iload_n 3, 1) := by decide +kernel
theorem dL_law_769 : decode cL_law 769 = .ok (.iconst 1, 1) := by decide +kernel
theorem dL_law_770 : decode cL_law 770 = .ok (.iadd, 1) := by decide +kernel
theorem dL_law_771 : decode cL_law 771 = .ok (.iaload, 1) := by decide +kernel
theorem dL_law_772 : decode cL_law 772 = .ok (.aload_n 0, 1) := by decide +kernel
theorem dL_law_773 : decode cL_law 773 = .ok (.iload_n 3, 1) := by decide +kernel
theorem dL_law_774 : decode cL_law 774 = .ok (.iconst 2, 1) := by decide +kernel
theorem dL_law_775 : decode cL_law 775 = .ok (.iadd, 1) := by decide +kernel
theorem dL_law_776 : decode cL_law 776 = .ok (.iaload, 1) := by decide +kernel
theorem dL_law_777 : decode cL_law 777 = .ok (.aload_n 0, 1) := by decide +kernel
theorem dL_law_778 : decode cL_law 778 = .ok (.iload_n 3, 1) := by decide +kernel
theorem dL_law_779 : decode cL_law 779 = .ok (.iconst 3, 1) := by decide +kernel
theorem dL_law_780 : decode cL_law 780 = .ok (.iadd, 1) := by decide +kernel
theorem dL_law_781 : decode cL_law 781 = .ok (.iaload, 1) := by decide +kernel
theorem dL_law_782 : decode cL_law 782 = .ok (.invokevirtual 90, 3) := by decide +kernel
theorem dL_law_785 : decode cL_law 785 = .ok (.aload_n 2, 1) := by decide +kernel
theorem dL_law_786 : decode cL_law 786 = .ok (.aload_n 0, 1) := by decide +kernel
theorem dL_law_787 : decode cL_law 787 = .ok (.iload_n 3, 1) := by decide +kernel
theorem dL_law_788 : decode cL_law 788 = .ok (.iconst 1, 1) := by decide +kernel
theorem dL_law_789 : decode cL_law 789 = .ok (.iadd, 1) := by decide +kernel
theorem dL_law_790 : decode cL_law 790 = .ok (.iaload, 1) := by decide +kernel
theorem dL_law_791 : decode cL_law 791 = .ok (.aload_n 0, 1) := by decide +kernel
theorem dL_law_792 : decode cL_law 792 = .ok (.iload_n 3, 1) := by decide +kernel
theorem dL_law_793 : decode cL_law 793 = .ok (.iconst 2, 1) := by decide +kernel
theorem dL_law_794 : decode cL_law 794 = .ok (.iadd, 1) := by decide +kernel
theorem dL_law_795 : decode cL_law 795 = .ok (.iaload, 1) := by decide +kernel
theorem dL_law_796 : decode cL_law 796 = .ok (.aload_n 0, 1) := by decide +kernel
theorem dL_law_797 : decode cL_law 797 = .ok (.iload_n 3, 1) := by decide +kernel
theorem dL_law_798 : decode cL_law 798 = .ok (.iconst 3, 1) := by decide +kernel
theorem dL_law_799 : decode cL_law 799 = .ok (.iadd, 1) := by decide +kernel
theorem dL_law_800 : decode cL_law 800 = .ok (.iaload, 1) := by decide +kernel
theorem dL_law_801 : decode cL_law 801 = .ok (.invokevirtual 93, 3) := by decide +kernel
theorem dL_law_804 : decode cL_law 804 = .ok (.if_icmp .eq 641, 3) := by decide +kernel
theorem dL_law_807 : decode cL_law 807 = .ok (.iconst 0, 1) := by decide +kernel
theorem dL_law_808 : decode cL_law 808 = .ok (.ireturn, 1) := by decide +kernel
theorem dL_law_809 : decode cL_law 809 = .ok (.aload_n 1, 1) := by decide +kernel
theorem dL_law_810 : decode cL_law 810 = .ok (.aload_n 0, 1) := by decide +kernel
theorem dL_law_811 : decode cL_law 811 = .ok (.iload_n 3, 1) := by decide +kernel
theorem dL_law_812 : decode cL_law 812 = .ok (.iconst 1, 1) := by decide +kernel
theorem dL_law_813 : decode cL_law 813 = .ok (.iadd, 1) := by decide +kernel
theorem dL_law_814 : decode cL_law 814 = .ok (.iaload, 1) := by decide +kernel
theorem dL_law_815 : decode cL_law 815 = .ok (.aload_n 0, 1) := by decide +kernel
theorem dL_law_816 : decode cL_law 816 = .ok (.iload_n 3, 1) := by decide +kernel
theorem dL_law_817 : decode cL_law 817 = .ok (.iconst 2, 1) := by decide +kernel
theorem dL_law_818 : decode cL_law 818 = .ok (.iadd, 1) := by decide +kernel
theorem dL_law_819 : decode cL_law 819 = .ok (.iaload, 1) := by decide +kernel
theorem dL_law_820 : decode cL_law 820 = .ok (.invokevirtual 94, 3) := by decide +kernel
theorem dL_law_823 : decode cL_law 823 = .ok (.aload_n 2, 1) := by decide +kernel
theorem dL_law_824 : decode cL_law 824 = .ok (.aload_n 0, 1) := by decide +kernel
theorem dL_law_825 : decode cL_law 825 = .ok (.iload_n 3, 1) := by decide +kernel
theorem dL_law_826 : decode cL_law 826 = .ok (.iconst 1, 1) := by decide +kernel
theorem dL_law_827 : decode cL_law 827 = .ok (.iadd, 1) := by decide +kernel
theorem dL_law_828 : decode cL_law 828 = .ok (.iaload, 1) := by decide +kernel
theorem dL_law_829 : decode cL_law 829 = .ok (.aload_n 0, 1) := by decide +kernel
theorem dL_law_830 : decode cL_law 830 = .ok (.iload_n 3, 1) := by decide +kernel
theorem dL_law_831 : decode cL_law 831 = .ok (.iconst 2, 1) := by decide +kernel
theorem dL_law_832 : decode cL_law 832 = .ok (.iadd, 1) := by decide +kernel
theorem dL_law_833 : decode cL_law 833 = .ok (.iaload, 1) := by decide +kernel
theorem dL_law_834 : decode cL_law 834 = .ok (.invokevirtual 97, 3) := by decide +kernel
theorem dL_law_837 : decode cL_law 837 = .ok (.if_icmp .eq 608, 3) := by decide +kernel
theorem dL_law_840 : decode cL_law 840 = .ok (.iconst 0, 1) := by decide +kernel
theorem dL_law_841 : decode cL_law 841 = .ok (.ireturn, 1) := by decide +kernel
theorem dL_law_842 : decode cL_law 842 = .ok (.aload_n 1, 1) := by decide +kernel
theorem dL_law_843 : decode cL_law 843 = .ok (.invokevirtual 98, 3) := by decide +kernel
theorem dL_law_846 : decode cL_law 846 = .ok (.aload_n 2, 1) := by decide +kernel
theorem dL_law_847 : decode cL_law 847 = .ok (.invokevirtual 101, 3) := by decide +kernel
theorem dL_law_850 : decode cL_law 850 = .ok (.if_icmp .eq 595, 3) := by decide +kernel
theorem dL_law_853 : decode cL_law 853 = .ok (.iconst 0, 1) := by decide +kernel
theorem dL_law_854 : decode cL_law 854 = .ok (.ireturn, 1) := by decide +kernel
theorem dL_law_855 : decode cL_law 855 = .ok (.aload_n 1, 1) := by decide +kernel
theorem dL_law_856 : decode cL_law 856 = .ok (.aload_n 0, 1) := by decide +kernel
theorem dL_law_857 : decode cL_law 857 = .ok (.iload_n 3, 1) := by decide +kernel
theorem dL_law_858 : decode cL_law 858 = .ok (.iconst 1, 1) := by decide +kernel
theorem dL_law_859 : decode cL_law 859 = .ok (.iadd, 1) := by decide +kernel
theorem dL_law_860 : decode cL_law 860 = .ok (.iaload, 1) := by decide +kernel
theorem dL_law_861 : decode cL_law 861 = .ok (.invokevirtual 102, 3) := by decide +kernel
theorem dL_law_864 : decode cL_law 864 = .ok (.aload_n 2, 1) := by decide +kernel
theorem dL_law_865 : decode cL_law 865 = .ok (.aload_n 0, 1) := by decide +kernel
theorem dL_law_866 : decode cL_law 866 = .ok (.iload_n 3, 1) := by decide +kernel
theorem dL_law_867 : decode cL_law 867 = .ok (.iconst 1, 1) := by decide +kernel
theorem dL_law_868 : decode cL_law 868 = .ok (.iadd, 1) := by decide +kernel
theorem dL_law_869 : decode cL_law 869 = .ok (.iaload, 1) := by decide +kernel
theorem dL_law_870 : decode cL_law 870 = .ok (.invokevirtual 105, 3) := by decide +kernel
theorem dL_law_873 : decode cL_law 873 = .ok (.if_icmp .eq 572, 3) := by decide +kernel
theorem dL_law_876 : decode cL_law 876 = .ok (.iconst 0, 1) := by decide +kernel
theorem dL_law_877 : decode cL_law 877 = .ok (.ireturn, 1) := by decide +kernel
theorem dL_law_878 : decode cL_law 878 = .ok (.aload_n 1, 1) := by decide +kernel
theorem dL_law_879 : decode cL_law 879 = .ok (.aload_n 0, 1) := by decide +kernel
theorem dL_law_880 : decode cL_law 880 = .ok (.iload_n 3, 1) := by decide +kernel
theorem dL_law_881 : decode cL_law 881 = .ok (.iconst 1, 1) := by decide +kernel
theorem dL_law_882 : decode cL_law 882 = .ok (.iadd, 1) := by decide +kernel
theorem dL_law_883 : decode cL_law 883 = .ok (.iaload, 1) := by decide +kernel
theorem dL_law_884 : decode cL_law 884 = .ok (.aload_n 0, 1) := by decide +kernel
theorem dL_law_885 : decode cL_law 885 = .ok (.iload_n 3, 1) := by decide +kernel
theorem dL_law_886 : decode cL_law 886 = .ok (.iconst 2, 1) := by decide +kernel
theorem dL_law_887 : decode cL_law 887 = .ok (.iadd, 1) := by decide +kernel
theorem dL_law_888 : decode cL_law 888 = .ok (.iaload, 1) := by decide +kernel
theorem dL_law_889 : decode cL_law 889 = .ok (.aload_n 0, 1) := by decide +kernel
theorem dL_law_890 : decode cL_law 890 = .ok (.iload_n 3, 1) := by decide +kernel
theorem dL_law_891 : decode cL_law 891 = .ok (.iconst 3, 1) := by decide +kernel
theorem dL_law_892 : decode cL_law 892 = .ok (.iadd, 1) := by decide +kernel
theorem dL_law_893 : decode cL_law 893 = .ok (.iaload, 1) := by decide +kernel
theorem dL_law_894 : decode cL_law 894 = .ok (.invokevirtual 106, 3) := by decide +kernel
theorem dL_law_897 : decode cL_law 897 = .ok (.aload_n 2, 1) := by decide +kernel
theorem dL_law_898 : decode cL_law 898 = .ok (.aload_n 0, 1) := by decide +kernel
theorem dL_law_899 : decode cL_law 899 = .ok (.iload_n 3, 1) := by decide +kernel
theorem dL_law_900 : decode cL_law 900 = .ok (.iconst 1, 1) := by decide +kernel
theorem dL_law_901 : decode cL_law 901 = .ok (.iadd, 1) := by decide +kernel
theorem dL_law_902 : decode cL_law 902 = .ok (.iaload, 1) := by decide +kernel
theorem dL_law_903 : decode cL_law 903 = .ok (.aload_n 0, 1) := by decide +kernel
theorem dL_law_904 : decode cL_law 904 = .ok (.iload_n 3, 1) := by decide +kernel
theorem dL_law_905 : decode cL_law 905 = .ok (.iconst 2, 1) := by decide +kernel
theorem dL_law_906 : decode cL_law 906 = .ok (.iadd, 1) := by decide +kernel
theorem dL_law_907 : decode cL_law 907 = .ok (.iaload, 1) := by decide +kernel
theorem dL_law_908 : decode cL_law 908 = .ok (.aload_n 0, 1) := by decide +kernel
theorem dL_law_909 : decode cL_law 909 = .ok (.iload_n 3, 1) := by decide +kernel
theorem dL_law_910 : decode cL_law 910 = .ok (.iconst 3, 1) := by decide +kernel
theorem dL_law_911 : decode cL_law 911 = .ok (.iadd, 1) := by decide +kernel
theorem dL_law_912 : decode cL_law 912 = .ok (.iaload, 1) := by decide +kernel
theorem dL_law_913 : decode cL_law 913 = .ok (.invokevirtual 109, 3) := by decide +kernel
theorem dL_law_916 : decode cL_law 916 = .ok (.if_icmp .eq 529, 3) := by decide +kernel
theorem dL_law_919 : decode cL_law 919 = .ok (.iconst 0, 1) := by decide +kernel
theorem dL_law_920 : decode cL_law 920 = .ok (.ireturn, 1) := by decide +kernel
theorem dL_law_921 : decode cL_law 921 = .ok (.aload_n 1, 1) := by decide +kernel
theorem dL_law_922 : decode cL_law 922 = .ok (.aload_n 0, 1) := by decide +kernel
theorem dL_law_923 : decode cL_law 923 = .ok (.iload_n 3, 1) := by decide +kernel
theorem dL_law_924 : decode cL_law 924 = .ok (.iconst 1, 1) := by decide +kernel
theorem dL_law_925 : decode cL_law 925 = .ok (.iadd, 1) := by decide +kernel
theorem dL_law_926 : decode cL_law 926 = .ok (.iaload, 1) := by decide +kernel
theorem dL_law_927 : decode cL_law 927 = .ok (.invokevirtual 110, 3) := by decide +kernel
theorem dL_law_930 : decode cL_law 930 = .ok (.aload_n 2, 1) := by decide +kernel
theorem dL_law_931 : decode cL_law 931 = .ok (.aload_n 0, 1) := by decide +kernel
theorem dL_law_932 : decode cL_law 932 = .ok (.iload_n 3, 1) := by decide +kernel
theorem dL_law_933 : decode cL_law 933 = .ok (.iconst 1, 1) := by decide +kernel
theorem dL_law_934 : decode cL_law 934 = .ok (.iadd, 1) := by decide +kernel
theorem dL_law_935 : decode cL_law 935 = .ok (.iaload, 1) := by decide +kernel
theorem dL_law_936 : decode cL_law 936 = .ok (.invokevirtual 113, 3) := by decide +kernel
theorem dL_law_939 : decode cL_law 939 = .ok (.if_icmp .eq 506, 3) := by decide +kernel
theorem dL_law_942 : decode cL_law 942 = .ok (.iconst 0, 1) := by decide +kernel
theorem dL_law_943 : decode cL_law 943 = .ok (.ireturn, 1) := by decide +kernel
theorem dL_law_944 : decode cL_law 944 = .ok (.aload_n 1, 1) := by decide +kernel
theorem dL_law_945 : decode cL_law 945 = .ok (.invokevirtual 114, 3) := by decide +kernel
theorem dL_law_948 : decode cL_law 948 = .ok (.aload_n 2, 1) := by decide +kernel
theorem dL_law_949 : decode cL_law 949 = .ok (.invokevirtual 117, 3) := by decide +kernel
theorem dL_law_952 : decode cL_law 952 = .ok (.if_icmp .eq 493, 3) := by decide +kernel
theorem dL_law_955 : decode cL_law 955 = .ok (.iconst 0, 1) := by decide +kernel
theorem dL_law_956 : decode cL_law 956 = .ok (.ireturn, 1) := by decide +kernel
theorem dL_law_957 : decode cL_law 957 = .ok (.aload_n 1, 1) := by decide +kernel
theorem dL_law_958 : decode cL_law 958 = .ok (.aload_n 0, 1) := by decide +kernel
theorem dL_law_959 : decode cL_law 959 = .ok (.iload_n 3, 1) := by decide +kernel
theorem dL_law_960 : decode cL_law 960 = .ok (.iconst 1, 1) := by decide +kernel
theorem dL_law_961 : decode cL_law 961 = .ok (.iadd, 1) := by decide +kernel
theorem dL_law_962 : decode cL_law 962 = .ok (.iaload, 1) := by decide +kernel
theorem dL_law_963 : decode cL_law 963 = .ok (.aload_n 0, 1) := by decide +kernel
theorem dL_law_964 : decode cL_law 964 = .ok (.iload_n 3, 1) := by decide +kernel
theorem dL_law_965 : decode cL_law 965 = .ok (.iconst 2, 1) := by decide +kernel
theorem dL_law_966 : decode cL_law 966 = .ok (.iadd, 1) := by decide +kernel
theorem dL_law_967 : decode cL_law 967 = .ok (.iaload, 1) := by decide +kernel
theorem dL_law_968 : decode cL_law 968 = .ok (.invokevirtual 118, 3) := by decide +kernel
theorem dL_law_971 : decode cL_law 971 = .ok (.aload_n 2, 1) := by decide +kernel
theorem dL_law_972 : decode cL_law 972 = .ok (.aload_n 0, 1) := by decide +kernel
theorem dL_law_973 : decode cL_law 973 = .ok (.iload_n 3, 1) := by decide +kernel
theorem dL_law_974 : decode cL_law 974 = .ok (.iconst 1, 1) := by decide +kernel
theorem dL_law_975 : decode cL_law 975 = .ok (.iadd, 1) := by decide +kernel
theorem dL_law_976 : decode cL_law 976 = .ok (.iaload, 1) := by decide +kernel
theorem dL_law_977 : decode cL_law 977 = .ok (.aload_n 0, 1) := by decide +kernel
theorem dL_law_978 : decode cL_law 978 = .ok (.iload_n 3, 1) := by decide +kernel
theorem dL_law_979 : decode cL_law 979 = .ok (.iconst 2, 1) := by decide +kernel
theorem dL_law_980 : decode cL_law 980 = .ok (.iadd, 1) := by decide +kernel
theorem dL_law_981 : decode cL_law 981 = .ok (.iaload, 1) := by decide +kernel
theorem dL_law_982 : decode cL_law 982 = .ok (.invokevirtual 121, 3) := by decide +kernel
theorem dL_law_985 : decode cL_law 985 = .ok (.if_icmp .eq 460, 3) := by decide +kernel
theorem dL_law_988 : decode cL_law 988 = .ok (.iconst 0, 1) := by decide +kernel
theorem dL_law_989 : decode cL_law 989 = .ok (.ireturn, 1) := by decide +kernel
theorem dL_law_990 : decode cL_law 990 = .ok (.aload_n 1, 1) := by decide +kernel
theorem dL_law_991 : decode cL_law 991 = .ok (.aload_n 0, 1) := by decide +kernel
theorem dL_law_992 : decode cL_law 992 = .ok (.iload_n 3, 1) := by decide +kernel
theorem dL_law_993 : decode cL_law 993 = .ok (.iconst 1, 1) := by decide +kernel
theorem dL_law_994 : decode cL_law 994 = .ok (.iadd, 1) := by decide +kernel
theorem dL_law_995 : decode cL_law 995 = .ok (.iaload, 1) := by decide +kernel
theorem dL_law_996 : decode cL_law 996 = .ok (.invokevirtual 122, 3) := by decide +kernel
theorem dL_law_999 : decode cL_law 999 = .ok (.aload_n 2, 1) := by decide +kernel
theorem dL_law_1000 : decode cL_law 1000 = .ok (.aload_n 0, 1) := by decide +kernel
theorem dL_law_1001 : decode cL_law 1001 = .ok (.iload_n 3, 1) := by decide +kernel
theorem dL_law_1002 : decode cL_law 1002 = .ok (.iconst 1, 1) := by decide +kernel
theorem dL_law_1003 : decode cL_law 1003 = .ok (.iadd, 1) := by decide +kernel
theorem dL_law_1004 : decode cL_law 1004 = .ok (.iaload, 1) := by decide +kernel
theorem dL_law_1005 : decode cL_law 1005 = .ok (.invokevirtual 125, 3) := by decide +kernel
theorem dL_law_1008 : decode cL_law 1008 = .ok (.if_icmp .eq 437, 3) := by decide +kernel
theorem dL_law_1011 : decode cL_law 1011 = .ok (.iconst 0, 1) := by decide +kernel
theorem dL_law_1012 : decode cL_law 1012 = .ok (.ireturn, 1) := by decide +kernel
theorem dL_law_1013 : decode cL_law 1013 = .ok (.aload_n 1, 1) := by decide +kernel
theorem dL_law_1014 : decode cL_law 1014 = .ok (.aload_n 0, 1) := by decide +kernel
theorem dL_law_1015 : decode cL_law 1015 = .ok (.iload_n 3, 1) := by decide +kernel
theorem dL_law_1016 : decode cL_law 1016 = .ok (.iconst 1, 1) := by decide +kernel
theorem dL_law_1017 : decode cL_law 1017 = .ok (.iadd, 1) := by decide +kernel
theorem dL_law_1018 : decode cL_law 1018 = .ok (.iaload, 1) := by decide +kernel
theorem dL_law_1019 : decode cL_law 1019 = .ok (.aload_n 0, 1) := by decide +kernel
theorem dL_law_1020 : decode cL_law 1020 = .ok (.iload_n 3, 1) := by decide +kernel
theorem dL_law_1021 : decode cL_law 1021 = .ok (.iconst 2, 1) := by decide +kernel
theorem dL_law_1022 : decode cL_law 1022 = .ok (.iadd, 1) := by decide +kernel
theorem dL_law_1023 : decode cL_law 1023 = .ok (.iaload, 1) := by decide +kernel
theorem dL_law_1024 : decode cL_law 1024 = .ok (.aload_n 0, 1) := by decide +kernel
theorem dL_law_1025 : decode cL_law 1025 = .ok (.iload_n 3, 1) := by decide +kernel
theorem dL_law_1026 : decode cL_law 1026 = .ok (.iconst 3, 1) := by decide +kernel
theorem dL_law_1027 : decode cL_law 1027 = .ok (.iadd, 1) := by decide +kernel
theorem dL_law_1028 : decode cL_law 1028 = .ok (.iaload, 1) := by decide +kernel
theorem dL_law_1029 : decode cL_law 1029 = .ok (.invokevirtual 126, 3) := by decide +kernel
theorem dL_law_1032 : decode cL_law 1032 = .ok (.aload_n 2, 1) := by decide +kernel
theorem dL_law_1033 : decode cL_law 1033 = .ok (.aload_n 0, 1) := by decide +kernel
theorem dL_law_1034 : decode cL_law 1034 = .ok (.iload_n 3, 1) := by decide +kernel
theorem dL_law_1035 : decode cL_law 1035 = .ok (.iconst 1, 1) := by decide +kernel
theorem dL_law_1036 : decode cL_law 1036 = .ok (.iadd, 1) := by decide +kernel
theorem dL_law_1037 : decode cL_law 1037 = .ok (.iaload, 1) := by decide +kernel
theorem dL_law_1038 : decode cL_law 1038 = .ok (.aload_n 0, 1) := by decide +kernel
theorem dL_law_1039 : decode cL_law 1039 = .ok (.iload_n 3, 1) := by decide +kernel
theorem dL_law_1040 : decode cL_law 1040 = .ok (.iconst 2, 1) := by decide +kernel
theorem dL_law_1041 : decode cL_law 1041 = .ok (.iadd, 1) := by decide +kernel
theorem dL_law_1042 : decode cL_law 1042 = .ok (.iaload, 1) := by decide +kernel
theorem dL_law_1043 : decode cL_law 1043 = .ok (.aload_n 0, 1) := by decide +kernel
theorem dL_law_1044 : decode cL_law 1044 = .ok (.iload_n 3, 1) := by decide +kernel
theorem dL_law_1045 : decode cL_law 1045 = .ok (.iconst 3, 1) := by decide +kernel
theorem dL_law_1046 : decode cL_law 1046 = .ok (.iadd, 1) := by decide +kernel
theorem dL_law_1047 : decode cL_law 1047 = .ok (.iaload, 1) := by decide +kernel
theorem dL_law_1048 : decode cL_law 1048 = .ok (.invokevirtual 129, 3) := by decide +kernel
theorem dL_law_1051 : decode cL_law 1051 = .ok (.if_icmp .eq 394, 3) := by decide +kernel
theorem dL_law_1054 : decode cL_law 1054 = .ok (.iconst 0, 1) := by decide +kernel
theorem dL_law_1055 : decode cL_law 1055 = .ok (.ireturn, 1) := by decide +kernel
theorem dL_law_1056 : decode cL_law 1056 = .ok (.aload_n 1, 1) := by decide +kernel
theorem dL_law_1057 : decode cL_law 1057 = .ok (.aload_n 0, 1) := by decide +kernel
theorem dL_law_1058 : decode cL_law 1058 = .ok (.iload_n 3, 1) := by decide +kernel
theorem dL_law_1059 : decode cL_law 1059 = .ok (.iconst 1, 1) := by decide +kernel
theorem dL_law_1060 : decode cL_law 1060 = .ok (.iadd, 1) := by decide +kernel
theorem dL_law_1061 : decode cL_law 1061 = .ok (.iaload, 1) := by decide +kernel
theorem dL_law_1062 : decode cL_law 1062 = .ok (.aload_n 0, 1) := by decide +kernel
theorem dL_law_1063 : decode cL_law 1063 = .ok (.iload_n 3, 1) := by decide +kernel
theorem dL_law_1064 : decode cL_law 1064 = .ok (.iconst 2, 1) := by decide +kernel
theorem dL_law_1065 : decode cL_law 1065 = .ok (.iadd, 1) := by decide +kernel
theorem dL_law_1066 : decode cL_law 1066 = .ok (.iaload, 1) := by decide +kernel
theorem dL_law_1067 : decode cL_law 1067 = .ok (.aload_n 0, 1) := by decide +kernel
theorem dL_law_1068 : decode cL_law 1068 = .ok (.iload_n 3, 1) := by decide +kernel
theorem dL_law_1069 : decode cL_law 1069 = .ok (.iconst 3, 1) := by decide +kernel
theorem dL_law_1070 : decode cL_law 1070 = .ok (.iadd, 1) := by decide +kernel
theorem dL_law_1071 : decode cL_law 1071 = .ok (.iaload, 1) := by decide +kernel
theorem dL_law_1072 : decode cL_law 1072 = .ok (.invokevirtual 130, 3) := by decide +kernel
theorem dL_law_1075 : decode cL_law 1075 = .ok (.aload_n 2, 1) := by decide +kernel
theorem dL_law_1076 : decode cL_law 1076 = .ok (.aload_n 0, 1) := by decide +kernel
theorem dL_law_1077 : decode cL_law 1077 = .ok (.iload_n 3, 1) := by decide +kernel
theorem dL_law_1078 : decode cL_law 1078 = .ok (.iconst 1, 1) := by decide +kernel
theorem dL_law_1079 : decode cL_law 1079 = .ok (.iadd, 1) := by decide +kernel
theorem dL_law_1080 : decode cL_law 1080 = .ok (.iaload, 1) := by decide +kernel
theorem dL_law_1081 : decode cL_law 1081 = .ok (.aload_n 0, 1) := by decide +kernel
theorem dL_law_1082 : decode cL_law 1082 = .ok (.iload_n 3, 1) := by decide +kernel
theorem dL_law_1083 : decode cL_law 1083 = .ok (.iconst 2, 1) := by decide +kernel
theorem dL_law_1084 : decode cL_law 1084 = .ok (.iadd, 1) := by decide +kernel
theorem dL_law_1085 : decode cL_law 1085 = .ok (.iaload, 1) := by decide +kernel
theorem dL_law_1086 : decode cL_law 1086 = .ok (.aload_n 0, 1) := by decide +kernel
theorem dL_law_1087 : decode cL_law 1087 = .ok (.iload_n 3, 1) := by decide +kernel
theorem dL_law_1088 : decode cL_law 1088 = .ok (.iconst 3, 1) := by decide +kernel
theorem dL_law_1089 : decode cL_law 1089 = .ok (.iadd, 1) := by decide +kernel
theorem dL_law_1090 : decode cL_law 1090 = .ok (.iaload, 1) := by decide +kernel
theorem dL_law_1091 : decode cL_law 1091 = .ok (.invokevirtual 133, 3) := by decide +kernel
theorem dL_law_1094 : decode cL_law 1094 = .ok (.if_icmp .eq 351, 3) := by decide +kernel
theorem dL_law_1097 : decode cL_law 1097 = .ok (.iconst 0, 1) := by decide +kernel
theorem dL_law_1098 : decode cL_law 1098 = .ok (.ireturn, 1) := by decide +kernel
theorem dL_law_1099 : decode cL_law 1099 = .ok (.aload_n 1, 1) := by decide +kernel
theorem dL_law_1100 : decode cL_law 1100 = .ok (.aload_n 0, 1) := by decide +kernel
theorem dL_law_1101 : decode cL_law 1101 = .ok (.iload_n 3, 1) := by decide +kernel
theorem dL_law_1102 : decode cL_law 1102 = .ok (.iconst 1, 1) := by decide +kernel
theorem dL_law_1103 : decode cL_law 1103 = .ok (.iadd, 1) := by decide +kernel
theorem dL_law_1104 : decode cL_law 1104 = .ok (.iaload, 1) := by decide +kernel
theorem dL_law_1105 : decode cL_law 1105 = .ok (.invokevirtual 134, 3) := by decide +kernel
theorem dL_law_1108 : decode cL_law 1108 = .ok (.aload_n 2, 1) := by decide +kernel
theorem dL_law_1109 : decode cL_law 1109 = .ok (.aload_n 0, 1) := by decide +kernel
theorem dL_law_1110 : decode cL_law 1110 = .ok (.iload_n 3, 1) := by decide +kernel
theorem dL_law_1111 : decode cL_law 1111 = .ok (.iconst 1, 1) := by decide +kernel
theorem dL_law_1112 : decode cL_law 1112 = .ok (.iadd, 1) := by decide +kernel
theorem dL_law_1113 : decode cL_law 1113 = .ok (.iaload, 1) := by decide +kernel
theorem dL_law_1114 : decode cL_law 1114 = .ok (.invokevirtual 137, 3) := by decide +kernel
theorem dL_law_1117 : decode cL_law 1117 = .ok (.if_icmp .eq 328, 3) := by decide +kernel
theorem dL_law_1120 : decode cL_law 1120 = .ok (.iconst 0, 1) := by decide +kernel
theorem dL_law_1121 : decode cL_law 1121 = .ok (.ireturn, 1) := by decide +kernel
theorem dL_law_1122 : decode cL_law 1122 = .ok (.aload_n 1, 1) := by decide +kernel
theorem dL_law_1123 : decode cL_law 1123 = .ok (.aload_n 0, 1) := by decide +kernel
theorem dL_law_1124 : decode cL_law 1124 = .ok (.iload_n 3, 1) := by decide +kernel
theorem dL_law_1125 : decode cL_law 1125 = .ok (.iconst 1, 1) := by decide +kernel
theorem dL_law_1126 : decode cL_law 1126 = .ok (.iadd, 1) := by decide +kernel
theorem dL_law_1127 : decode cL_law 1127 = .ok (.iaload, 1) := by decide +kernel
theorem dL_law_1128 : decode cL_law 1128 = .ok (.invokevirtual 138, 3) := by decide +kernel
theorem dL_law_1131 : decode cL_law 1131 = .ok (.aload_n 2, 1) := by decide +kernel
theorem dL_law_1132 : decode cL_law 1132 = .ok (.aload_n 0, 1) := by decide +kernel
theorem dL_law_1133 : decode cL_law 1133 = .ok (.iload_n 3, 1) := by decide +kernel
theorem dL_law_1134 : decode cL_law 1134 = .ok (.iconst 1, 1) := by decide +kernel
theorem dL_law_1135 : decode cL_law 1135 = .ok (.iadd, 1) := by decide +kernel
theorem dL_law_1136 : decode cL_law 1136 = .ok (.iaload, 1) := by decide +kernel
theorem dL_law_1137 : decode cL_law 1137 = .ok (.invokevirtual 141, 3) := by decide +kernel
theorem dL_law_1140 : decode cL_law 1140 = .ok (.if_icmp .eq 305, 3) := by decide +kernel
theorem dL_law_1143 : decode cL_law 1143 = .ok (.iconst 0, 1) := by decide +kernel
theorem dL_law_1144 : decode cL_law 1144 = .ok (.ireturn, 1) := by decide +kernel
theorem dL_law_1145 : decode cL_law 1145 = .ok (.aload_n 1, 1) := by decide +kernel
theorem dL_law_1146 : decode cL_law 1146 = .ok (.aload_n 0, 1) := by decide +kernel
theorem dL_law_1147 : decode cL_law 1147 = .ok (.iload_n 3, 1) := by decide +kernel
theorem dL_law_1148 : decode cL_law 1148 = .ok (.iconst 1, 1) := by decide +kernel
theorem dL_law_1149 : decode cL_law 1149 = .ok (.iadd, 1) := by decide +kernel
theorem dL_law_1150 : decode cL_law 1150 = .ok (.iaload, 1) := by decide +kernel
theorem dL_law_1151 : decode cL_law 1151 = .ok (.aload_n 0, 1) := by decide +kernel
theorem dL_law_1152 : decode cL_law 1152 = .ok (.iload_n 3, 1) := by decide +kernel
theorem dL_law_1153 : decode cL_law 1153 = .ok (.iconst 2, 1) := by decide +kernel
theorem dL_law_1154 : decode cL_law 1154 = .ok (.iadd, 1) := by decide +kernel
theorem dL_law_1155 : decode cL_law 1155 = .ok (.iaload, 1) := by decide +kernel
theorem dL_law_1156 : decode cL_law 1156 = .ok (.aload_n 0, 1) := by decide +kernel
theorem dL_law_1157 : decode cL_law 1157 = .ok (.iload_n 3, 1) := by decide +kernel
theorem dL_law_1158 : decode cL_law 1158 = .ok (.iconst 3, 1) := by decide +kernel
theorem dL_law_1159 : decode cL_law 1159 = .ok (.iadd, 1) := by decide +kernel
theorem dL_law_1160 : decode cL_law 1160 = .ok (.iaload, 1) := by decide +kernel
theorem dL_law_1161 : decode cL_law 1161 = .ok (.aload_n 0, 1) := by decide +kernel
theorem dL_law_1162 : decode cL_law 1162 = .ok (.iload_n 3, 1) := by decide +kernel
theorem dL_law_1163 : decode cL_law 1163 = .ok (.iconst 4, 1) := by decide +kernel
theorem dL_law_1164 : decode cL_law 1164 = .ok (.iadd, 1) := by decide +kernel
theorem dL_law_1165 : decode cL_law 1165 = .ok (.iaload, 1) := by decide +kernel
theorem dL_law_1166 : decode cL_law 1166 = .ok (.aload_n 0, 1) := by decide +kernel
theorem dL_law_1167 : decode cL_law 1167 = .ok (.iload_n 3, 1) := by decide +kernel
theorem dL_law_1168 : decode cL_law 1168 = .ok (.iconst 5, 1) := by decide +kernel
theorem dL_law_1169 : decode cL_law 1169 = .ok (.iadd, 1) := by decide +kernel
theorem dL_law_1170 : decode cL_law 1170 = .ok (.iaload, 1) := by decide +kernel
theorem dL_law_1171 : decode cL_law 1171 = .ok (.invokevirtual 142, 3) := by decide +kernel
theorem dL_law_1174 : decode cL_law 1174 = .ok (.aload_n 2, 1) := by decide +kernel
theorem dL_law_1175 : decode cL_law 1175 = .ok (.aload_n 0, 1) := by decide +kernel
theorem dL_law_1176 : decode cL_law 1176 = .ok (.iload_n 3, 1) := by decide +kernel
theorem dL_law_1177 : decode cL_law 1177 = .ok (.iconst 1, 1) := by decide +kernel
theorem dL_law_1178 : decode cL_law 1178 = .ok (.iadd, 1) := by decide +kernel
theorem dL_law_1179 : decode cL_law 1179 = .ok (.iaload, 1) := by decide +kernel
theorem dL_law_1180 : decode cL_law 1180 = .ok (.aload_n 0, 1) := by decide +kernel
theorem dL_law_1181 : decode cL_law 1181 = .ok (.iload_n 3, 1) := by decide +kernel
theorem dL_law_1182 : decode cL_law 1182 = .ok (.iconst 2, 1) := by decide +kernel
theorem dL_law_1183 : decode cL_law 1183 = .ok (.iadd, 1) := by decide +kernel
theorem dL_law_1184 : decode cL_law 1184 = .ok (.iaload, 1) := by decide +kernel
theorem dL_law_1185 : decode cL_law 1185 = .ok (.aload_n 0, 1) := by decide +kernel
theorem dL_law_1186 : decode cL_law 1186 = .ok (.iload_n 3, 1) := by decide +kernel
theorem dL_law_1187 : decode cL_law 1187 = .ok (.iconst 3, 1) := by decide +kernel
theorem dL_law_1188 : decode cL_law 1188 = .ok (.iadd, 1) := by decide +kernel
theorem dL_law_1189 : decode cL_law 1189 = .ok (.iaload, 1) := by decide +kernel
theorem dL_law_1190 : decode cL_law 1190 = .ok (.aload_n 0, 1) := by decide +kernel
theorem dL_law_1191 : decode cL_law 1191 = .ok (.iload_n 3, 1) := by decide +kernel
theorem dL_law_1192 : decode cL_law 1192 = .ok (.iconst 4, 1) := by decide +kernel
theorem dL_law_1193 : decode cL_law 1193 = .ok (.iadd, 1) := by decide +kernel
theorem dL_law_1194 : decode cL_law 1194 = .ok (.iaload, 1) := by decide +kernel
theorem dL_law_1195 : decode cL_law 1195 = .ok (.aload_n 0, 1) := by decide +kernel
theorem dL_law_1196 : decode cL_law 1196 = .ok (.iload_n 3, 1) := by decide +kernel
theorem dL_law_1197 : decode cL_law 1197 = .ok (.iconst 5, 1) := by decide +kernel
theorem dL_law_1198 : decode cL_law 1198 = .ok (.iadd, 1) := by decide +kernel
theorem dL_law_1199 : decode cL_law 1199 = .ok (.iaload, 1) := by decide +kernel
theorem dL_law_1200 : decode cL_law 1200 = .ok (.invokevirtual 146, 3) := by decide +kernel
theorem dL_law_1203 : decode cL_law 1203 = .ok (.if_icmp .eq 242, 3) := by decide +kernel
theorem dL_law_1206 : decode cL_law 1206 = .ok (.iconst 0, 1) := by decide +kernel
theorem dL_law_1207 : decode cL_law 1207 = .ok (.ireturn, 1) := by decide +kernel
theorem dL_law_1208 : decode cL_law 1208 = .ok (.aload_n 1, 1) := by decide +kernel
theorem dL_law_1209 : decode cL_law 1209 = .ok (.aload_n 0, 1) := by decide +kernel
theorem dL_law_1210 : decode cL_law 1210 = .ok (.iload_n 3, 1) := by decide +kernel
theorem dL_law_1211 : decode cL_law 1211 = .ok (.iconst 1, 1) := by decide +kernel
theorem dL_law_1212 : decode cL_law 1212 = .ok (.iadd, 1) := by decide +kernel
theorem dL_law_1213 : decode cL_law 1213 = .ok (.iaload, 1) := by decide +kernel
theorem dL_law_1214 : decode cL_law 1214 = .ok (.aload_n 0, 1) := by decide +kernel
theorem dL_law_1215 : decode cL_law 1215 = .ok (.iload_n 3, 1) := by decide +kernel
theorem dL_law_1216 : decode cL_law 1216 = .ok (.iconst 2, 1) := by decide +kernel
theorem dL_law_1217 : decode cL_law 1217 = .ok (.iadd, 1) := by decide +kernel
theorem dL_law_1218 : decode cL_law 1218 = .ok (.iaload, 1) := by decide +kernel
theorem dL_law_1219 : decode cL_law 1219 = .ok (.aload_n 0, 1) := by decide +kernel
theorem dL_law_1220 : decode cL_law 1220 = .ok (.iload_n 3, 1) := by decide +kernel
theorem dL_law_1221 : decode cL_law 1221 = .ok (.iconst 3, 1) := by decide +kernel
theorem dL_law_1222 : decode cL_law 1222 = .ok (.iadd, 1) := by decide +kernel
theorem dL_law_1223 : decode cL_law 1223 = .ok (.iaload, 1) := by decide +kernel
theorem dL_law_1224 : decode cL_law 1224 = .ok (.invokevirtual 147, 3) := by decide +kernel
theorem dL_law_1227 : decode cL_law 1227 = .ok (.aload_n 2, 1) := by decide +kernel
theorem dL_law_1228 : decode cL_law 1228 = .ok (.aload_n 0, 1) := by decide +kernel
theorem dL_law_1229 : decode cL_law 1229 = .ok (.iload_n 3, 1) := by decide +kernel
theorem dL_law_1230 : decode cL_law 1230 = .ok (.iconst 1, 1) := by decide +kernel
theorem dL_law_1231 : decode cL_law 1231 = .ok (.iadd, 1) := by decide +kernel
theorem dL_law_1232 : decode cL_law 1232 = .ok (.iaload, 1) := by decide +kernel
theorem dL_law_1233 : decode cL_law 1233 = .ok (.aload_n 0, 1) := by decide +kernel
theorem dL_law_1234 : decode cL_law 1234 = .ok (.iload_n 3, 1) := by decide +kernel
theorem dL_law_1235 : decode cL_law 1235 = .ok (.iconst 2, 1) := by decide +kernel
theorem dL_law_1236 : decode cL_law 1236 = .ok (.iadd, 1) := by decide +kernel
theorem dL_law_1237 : decode cL_law 1237 = .ok (.iaload, 1) := by decide +kernel
theorem dL_law_1238 : decode cL_law 1238 = .ok (.aload_n 0, 1) := by decide +kernel
theorem dL_law_1239 : decode cL_law 1239 = .ok (.iload_n 3, 1) := by decide +kernel
theorem dL_law_1240 : decode cL_law 1240 = .ok (.iconst 3, 1) := by decide +kernel
theorem dL_law_1241 : decode cL_law 1241 = .ok (.iadd, 1) := by decide +kernel
theorem dL_law_1242 : decode cL_law 1242 = .ok (.iaload, 1) := by decide +kernel
theorem dL_law_1243 : decode cL_law 1243 = .ok (.invokevirtual 150, 3) := by decide +kernel
theorem dL_law_1246 : decode cL_law 1246 = .ok (.if_icmp .eq 199, 3) := by decide +kernel
theorem dL_law_1249 : decode cL_law 1249 = .ok (.iconst 0, 1) := by decide +kernel
theorem dL_law_1250 : decode cL_law 1250 = .ok (.ireturn, 1) := by decide +kernel
theorem dL_law_1251 : decode cL_law 1251 = .ok (.aload_n 1, 1) := by decide +kernel
theorem dL_law_1252 : decode cL_law 1252 = .ok (.aload_n 0, 1) := by decide +kernel
theorem dL_law_1253 : decode cL_law 1253 = .ok (.iload_n 3, 1) := by decide +kernel
theorem dL_law_1254 : decode cL_law 1254 = .ok (.iconst 1, 1) := by decide +kernel
theorem dL_law_1255 : decode cL_law 1255 = .ok (.iadd, 1) := by decide +kernel
theorem dL_law_1256 : decode cL_law 1256 = .ok (.iaload, 1) := by decide +kernel
theorem dL_law_1257 : decode cL_law 1257 = .ok (.aload_n 0, 1) := by decide +kernel
theorem dL_law_1258 : decode cL_law 1258 = .ok (.iload_n 3, 1) := by decide +kernel
theorem dL_law_1259 : decode cL_law 1259 = .ok (.iconst 2, 1) := by decide +kernel
theorem dL_law_1260 : decode cL_law 1260 = .ok (.iadd, 1) := by decide +kernel
theorem dL_law_1261 : decode cL_law 1261 = .ok (.iaload, 1) := by decide +kernel
theorem dL_law_1262 : decode cL_law 1262 = .ok (.invokevirtual 151, 3) := by decide +kernel
theorem dL_law_1265 : decode cL_law 1265 = .ok (.aload_n 2, 1) := by decide +kernel
theorem dL_law_1266 : decode cL_law 1266 = .ok (.aload_n 0, 1) := by decide +kernel
theorem dL_law_1267 : decode cL_law 1267 = .ok (.iload_n 3, 1) := by decide +kernel
theorem dL_law_1268 : decode cL_law 1268 = .ok (.iconst 1, 1) := by decide +kernel
theorem dL_law_1269 : decode cL_law 1269 = .ok (.iadd, 1) := by decide +kernel
theorem dL_law_1270 : decode cL_law 1270 = .ok (.iaload, 1) := by decide +kernel
theorem dL_law_1271 : decode cL_law 1271 = .ok (.aload_n 0, 1) := by decide +kernel
theorem dL_law_1272 : decode cL_law 1272 = .ok (.iload_n 3, 1) := by decide +kernel
theorem dL_law_1273 : decode cL_law 1273 = .ok (.iconst 2, 1) := by decide +kernel
theorem dL_law_1274 : decode cL_law 1274 = .ok (.iadd, 1) := by decide +kernel
theorem dL_law_1275 : decode cL_law 1275 = .ok (.iaload, 1) := by decide +kernel
theorem dL_law_1276 : decode cL_law 1276 = .ok (.invokevirtual 154, 3) := by decide +kernel
theorem dL_law_1279 : decode cL_law 1279 = .ok (.if_icmp .eq 166, 3) := by decide +kernel
theorem dL_law_1282 : decode cL_law 1282 = .ok (.iconst 0, 1) := by decide +kernel
theorem dL_law_1283 : decode cL_law 1283 = .ok (.ireturn, 1) := by decide +kernel
theorem dL_law_1284 : decode cL_law 1284 = .ok (.aload_n 1, 1) := by decide +kernel
theorem dL_law_1285 : decode cL_law 1285 = .ok (.aload_n 0, 1) := by decide +kernel
theorem dL_law_1286 : decode cL_law 1286 = .ok (.iload_n 3, 1) := by decide +kernel
theorem dL_law_1287 : decode cL_law 1287 = .ok (.iconst 1, 1) := by decide +kernel
theorem dL_law_1288 : decode cL_law 1288 = .ok (.iadd, 1) := by decide +kernel
theorem dL_law_1289 : decode cL_law 1289 = .ok (.iaload, 1) := by decide +kernel
theorem dL_law_1290 : decode cL_law 1290 = .ok (.aload_n 0, 1) := by decide +kernel
theorem dL_law_1291 : decode cL_law 1291 = .ok (.iload_n 3, 1) := by decide +kernel
theorem dL_law_1292 : decode cL_law 1292 = .ok (.iconst 2, 1) := by decide +kernel
theorem dL_law_1293 : decode cL_law 1293 = .ok (.iadd, 1) := by decide +kernel
theorem dL_law_1294 : decode cL_law 1294 = .ok (.iaload, 1) := by decide +kernel
theorem dL_law_1295 : decode cL_law 1295 = .ok (.invokevirtual 155, 3) := by decide +kernel
theorem dL_law_1298 : decode cL_law 1298 = .ok (.aload_n 2, 1) := by decide +kernel
theorem dL_law_1299 : decode cL_law 1299 = .ok (.aload_n 0, 1) := by decide +kernel
theorem dL_law_1300 : decode cL_law 1300 = .ok (.iload_n 3, 1) := by decide +kernel
theorem dL_law_1301 : decode cL_law 1301 = .ok (.iconst 1, 1) := by decide +kernel
theorem dL_law_1302 : decode cL_law 1302 = .ok (.iadd, 1) := by decide +kernel
theorem dL_law_1303 : decode cL_law 1303 = .ok (.iaload, 1) := by decide +kernel
theorem dL_law_1304 : decode cL_law 1304 = .ok (.aload_n 0, 1) := by decide +kernel
theorem dL_law_1305 : decode cL_law 1305 = .ok (.iload_n 3, 1) := by decide +kernel
theorem dL_law_1306 : decode cL_law 1306 = .ok (.iconst 2, 1) := by decide +kernel
theorem dL_law_1307 : decode cL_law 1307 = .ok (.iadd, 1) := by decide +kernel
theorem dL_law_1308 : decode cL_law 1308 = .ok (.iaload, 1) := by decide +kernel
theorem dL_law_1309 : decode cL_law 1309 = .ok (.invokevirtual 158, 3) := by decide +kernel
theorem dL_law_1312 : decode cL_law 1312 = .ok (.if_icmp .eq 133, 3) := by decide +kernel
theorem dL_law_1315 : decode cL_law 1315 = .ok (.iconst 0, 1) := by decide +kernel
theorem dL_law_1316 : decode cL_law 1316 = .ok (.ireturn, 1) := by decide +kernel
theorem dL_law_1317 : decode cL_law 1317 = .ok (.aload_n 1, 1) := by decide +kernel
theorem dL_law_1318 : decode cL_law 1318 = .ok (.aload_n 0, 1) := by decide +kernel
theorem dL_law_1319 : decode cL_law 1319 = .ok (.iload_n 3, 1) := by decide +kernel
theorem dL_law_1320 : decode cL_law 1320 = .ok (.iconst 1, 1) := by decide +kernel
theorem dL_law_1321 : decode cL_law 1321 = .ok (.iadd, 1) := by decide +kernel
theorem dL_law_1322 : decode cL_law 1322 = .ok (.iaload, 1) := by decide +kernel
theorem dL_law_1323 : decode cL_law 1323 = .ok (.aload_n 0, 1) := by decide +kernel
theorem dL_law_1324 : decode cL_law 1324 = .ok (.iload_n 3, 1) := by decide +kernel
theorem dL_law_1325 : decode cL_law 1325 = .ok (.iconst 2, 1) := by decide +kernel
theorem dL_law_1326 : decode cL_law 1326 = .ok (.iadd, 1) := by decide +kernel
theorem dL_law_1327 : decode cL_law 1327 = .ok (.iaload, 1) := by decide +kernel
theorem dL_law_1328 : decode cL_law 1328 = .ok (.invokevirtual 159, 3) := by decide +kernel
theorem dL_law_1331 : decode cL_law 1331 = .ok (.aload_n 2, 1) := by decide +kernel
theorem dL_law_1332 : decode cL_law 1332 = .ok (.aload_n 0, 1) := by decide +kernel
theorem dL_law_1333 : decode cL_law 1333 = .ok (.iload_n 3, 1) := by decide +kernel
theorem dL_law_1334 : decode cL_law 1334 = .ok (.iconst 1, 1) := by decide +kernel
theorem dL_law_1335 : decode cL_law 1335 = .ok (.iadd, 1) := by decide +kernel
theorem dL_law_1336 : decode cL_law 1336 = .ok (.iaload, 1) := by decide +kernel
theorem dL_law_1337 : decode cL_law 1337 = .ok (.aload_n 0, 1) := by decide +kernel
theorem dL_law_1338 : decode cL_law 1338 = .ok (.iload_n 3, 1) := by decide +kernel
theorem dL_law_1339 : decode cL_law 1339 = .ok (.iconst 2, 1) := by decide +kernel
theorem dL_law_1340 : decode cL_law 1340 = .ok (.iadd, 1) := by decide +kernel
theorem dL_law_1341 : decode cL_law 1341 = .ok (.iaload, 1) := by decide +kernel
theorem dL_law_1342 : decode cL_law 1342 = .ok (.invokevirtual 162, 3) := by decide +kernel
theorem dL_law_1345 : decode cL_law 1345 = .ok (.if_icmp .eq 100, 3) := by decide +kernel
theorem dL_law_1348 : decode cL_law 1348 = .ok (.iconst 0, 1) := by decide +kernel
theorem dL_law_1349 : decode cL_law 1349 = .ok (.ireturn, 1) := by decide +kernel
theorem dL_law_1350 : decode cL_law 1350 = .ok (.aload_n 1, 1) := by decide +kernel
theorem dL_law_1351 : decode cL_law 1351 = .ok (.aload_n 0, 1) := by decide +kernel
theorem dL_law_1352 : decode cL_law 1352 = .ok (.iload_n 3, 1) := by decide +kernel
theorem dL_law_1353 : decode cL_law 1353 = .ok (.iconst 1, 1) := by decide +kernel
theorem dL_law_1354 : decode cL_law 1354 = .ok (.iadd, 1) := by decide +kernel
theorem dL_law_1355 : decode cL_law 1355 = .ok (.iaload, 1) := by decide +kernel
theorem dL_law_1356 : decode cL_law 1356 = .ok (.invokevirtual 163, 3) := by decide +kernel
theorem dL_law_1359 : decode cL_law 1359 = .ok (.aload_n 2, 1) := by decide +kernel
theorem dL_law_1360 : decode cL_law 1360 = .ok (.aload_n 0, 1) := by decide +kernel
theorem dL_law_1361 : decode cL_law 1361 = .ok (.iload_n 3, 1) := by decide +kernel
theorem dL_law_1362 : decode cL_law 1362 = .ok (.iconst 1, 1) := by decide +kernel
theorem dL_law_1363 : decode cL_law 1363 = .ok (.iadd, 1) := by decide +kernel
theorem dL_law_1364 : decode cL_law 1364 = .ok (.iaload, 1) := by decide +kernel
theorem dL_law_1365 : decode cL_law 1365 = .ok (.invokevirtual 166, 3) := by decide +kernel
theorem dL_law_1368 : decode cL_law 1368 = .ok (.if_icmp .eq 77, 3) := by decide +kernel
theorem dL_law_1371 : decode cL_law 1371 = .ok (.iconst 0, 1) := by decide +kernel
theorem dL_law_1372 : decode cL_law 1372 = .ok (.ireturn, 1) := by decide +kernel
theorem dL_law_1373 : decode cL_law 1373 = .ok (.aload_n 1, 1) := by decide +kernel
theorem dL_law_1374 : decode cL_law 1374 = .ok (.aload_n 0, 1) := by decide +kernel
theorem dL_law_1375 : decode cL_law 1375 = .ok (.iload_n 3, 1) := by decide +kernel
theorem dL_law_1376 : decode cL_law 1376 = .ok (.iconst 1, 1) := by decide +kernel
theorem dL_law_1377 : decode cL_law 1377 = .ok (.iadd, 1) := by decide +kernel
theorem dL_law_1378 : decode cL_law 1378 = .ok (.iaload, 1) := by decide +kernel
theorem dL_law_1379 : decode cL_law 1379 = .ok (.invokevirtual 167, 3) := by decide +kernel
theorem dL_law_1382 : decode cL_law 1382 = .ok (.aload_n 2, 1) := by decide +kernel
theorem dL_law_1383 : decode cL_law 1383 = .ok (.aload_n 0, 1) := by decide +kernel
theorem dL_law_1384 : decode cL_law 1384 = .ok (.iload_n 3, 1) := by decide +kernel
theorem dL_law_1385 : decode cL_law 1385 = .ok (.iconst 1, 1) := by decide +kernel
theorem dL_law_1386 : decode cL_law 1386 = .ok (.iadd, 1) := by decide +kernel
theorem dL_law_1387 : decode cL_law 1387 = .ok (.iaload, 1) := by decide +kernel
theorem dL_law_1388 : decode cL_law 1388 = .ok (.invokevirtual 170, 3) := by decide +kernel
theorem dL_law_1391 : decode cL_law 1391 = .ok (.if_icmp .eq 54, 3) := by decide +kernel
theorem dL_law_1394 : decode cL_law 1394 = .ok (.iconst 0, 1) := by decide +kernel
theorem dL_law_1395 : decode cL_law 1395 = .ok (.ireturn, 1) := by decide +kernel
theorem dL_law_1396 : decode cL_law 1396 = .ok (.aload_n 1, 1) := by decide +kernel
theorem dL_law_1397 : decode cL_law 1397 = .ok (.invokevirtual 171, 3) := by decide +kernel
theorem dL_law_1400 : decode cL_law 1400 = .ok (.aload_n 2, 1) := by decide +kernel
theorem dL_law_1401 : decode cL_law 1401 = .ok (.invokevirtual 174, 3) := by decide +kernel
theorem dL_law_1404 : decode cL_law 1404 = .ok (.if_icmp .eq 41, 3) := by decide +kernel
theorem dL_law_1407 : decode cL_law 1407 = .ok (.iconst 0, 1) := by decide +kernel
theorem dL_law_1408 : decode cL_law 1408 = .ok (.ireturn, 1) := by decide +kernel
theorem dL_law_1409 : decode cL_law 1409 = .ok (.aload_n 1, 1) := by decide +kernel
theorem dL_law_1410 : decode cL_law 1410 = .ok (.invokevirtual 175, 3) := by decide +kernel
theorem dL_law_1413 : decode cL_law 1413 = .ok (.aload_n 2, 1) := by decide +kernel
theorem dL_law_1414 : decode cL_law 1414 = .ok (.invokevirtual 178, 3) := by decide +kernel
theorem dL_law_1417 : decode cL_law 1417 = .ok (.if_icmp .eq 28, 3) := by decide +kernel
theorem dL_law_1420 : decode cL_law 1420 = .ok (.iconst 0, 1) := by decide +kernel
theorem dL_law_1421 : decode cL_law 1421 = .ok (.ireturn, 1) := by decide +kernel
theorem dL_law_1422 : decode cL_law 1422 = .ok (.aload_n 1, 1) := by decide +kernel
theorem dL_law_1423 : decode cL_law 1423 = .ok (.aload_n 0, 1) := by decide +kernel
theorem dL_law_1424 : decode cL_law 1424 = .ok (.iload_n 3, 1) := by decide +kernel
theorem dL_law_1425 : decode cL_law 1425 = .ok (.iconst 1, 1) := by decide +kernel
theorem dL_law_1426 : decode cL_law 1426 = .ok (.iadd, 1) := by decide +kernel
theorem dL_law_1427 : decode cL_law 1427 = .ok (.iaload, 1) := by decide +kernel
theorem dL_law_1428 : decode cL_law 1428 = .ok (.invokevirtual 179, 3) := by decide +kernel
theorem dL_law_1431 : decode cL_law 1431 = .ok (.aload_n 2, 1) := by decide +kernel
theorem dL_law_1432 : decode cL_law 1432 = .ok (.aload_n 0, 1) := by decide +kernel
theorem dL_law_1433 : decode cL_law 1433 = .ok (.iload_n 3, 1) := by decide +kernel
theorem dL_law_1434 : decode cL_law 1434 = .ok (.iconst 1, 1) := by decide +kernel
theorem dL_law_1435 : decode cL_law 1435 = .ok (.iadd, 1) := by decide +kernel
theorem dL_law_1436 : decode cL_law 1436 = .ok (.iaload, 1) := by decide +kernel
theorem dL_law_1437 : decode cL_law 1437 = .ok (.invokevirtual 182, 3) := by decide +kernel
theorem dL_law_1440 : decode cL_law 1440 = .ok (.if_icmp .eq 5, 3) := by decide +kernel
theorem dL_law_1443 : decode cL_law 1443 = .ok (.iconst 0, 1) := by decide +kernel
theorem dL_law_1444 : decode cL_law 1444 = .ok (.ireturn, 1) := by decide +kernel
theorem dL_law_1445 : decode cL_law 1445 = .ok (.iinc 3 6, 3) := by decide +kernel
theorem dL_law_1448 : decode cL_law 1448 = .ok (.goto (-1430), 3) := by decide +kernel
theorem dL_law_1451 : decode cL_law 1451 = .ok (.iconst 1, 1) := by decide +kernel
theorem dL_law_1452 : decode cL_law 1452 = .ok (.ireturn, 1) := by decide +kernel
end
section
/-! THE MACHINE SEEN FROM THE LAW'S START. X : CX is the context: the launch, the state at the law's entry, the tables' numbers, the classes of arrays, the script's address, the addresses of statics and String constants. A cell's number k stands for the address cx_n X + k. -/
abbrev CX : Type := Launch × State × va_G × (Nat → ClassId) × Nat × (Nat → Nat)
abbrev cx_l (X : CX) : Launch := X.1
abbrev cx_s (X : CX) : State := X.2.1
abbrev cx_D (X : CX) : va_G := X.2.2.1
abbrev cx_a (X : CX) : Nat → ClassId := X.2.2.2.1
abbrev cx_b (X : CX) : Nat := X.2.2.2.2.1
abbrev cx_k (X : CX) : Nat → Nat := X.2.2.2.2.2
def cx_n (X : CX) : Nat := (cx_s X).heap.size
def cx_A (X : CX) : Nat → Prop := fun q => cx_n X ≤ q
/-- the kinds of arrays: 0 int, 1 byte, 2 char, 3 boolean, 4 .. 7 rows of Man, Text, Sheet, Slot -/
def cx_ty : Nat → FieldType := fun k => match k with
  | 0 => .int
  | 1 => .byte
  | 2 => .char
  | 3 => .boolean
  | 4 => .object RX1
  | 5 => .object RX6
  | 6 => .object RX3
  | _ => .object RX4
def cx_tys (X : CX) : List (ClassId × FieldType) := [(cx_a X 0, .int), (cx_a X 1, .byte), (cx_a X 2, .char), (cx_a X 3, .boolean), (cx_a X 4, .object RX1), (cx_a X 5, .object RX6), (cx_a X 6, .object RX3), (cx_a X 7, .object RX4)]
/-- static rows: 0 LEFT_BEHIND, 1 RIGHT_BEHIND, 2 KIND_ABOVE, 3 LEFT, 4 RIGHT -/
def st_C : Nat → String := fun k => match k with
  | 0 => RX8
  | 1 => RX8
  | 2 => RX1
  | 3 => RX9
  | _ => RX9
def st_N : Nat → String := fun k => match k with
  | 0 => "LEFT_BEHIND"
  | 1 => "RIGHT_BEHIND"
  | 2 => "KIND_ABOVE"
  | 3 => "LEFT"
  | _ => "RIGHT"
def st_L : Nat → Nat := fun k => match k with
  | 2 => 6
  | _ => 9
def st_left : List Int32 := [1, 3, 4, -1, 6, 7, -1, 8, -1]
def st_right : List Int32 := [2, 4, 5, 6, 7, -1, 8, -1, -1]
def st_above : List Int32 := [-1, 0, 0, 1, 2, 0]
def st_F : Nat → List Int32 := fun k => match k with
  | 0 => st_left
  | 1 => st_right
  | 2 => st_above
  | 3 => st_left
  | _ => st_right
/-- String constants of the reader: places in the pool, texts, lengths, bytes -/
def ss_I : Nat → Nat := fun k => match k with
  | 0 => 120
  | 1 => 122
  | 2 => 124
  | 3 => 126
  | 4 => 128
  | _ => 130
def ss_T : Nat → String := fun k => match k with
  | 0 => "bears"
  | 1 => "fee"
  | 2 => "fine"
  | 3 => "nwfs"
  | 4 => "fs"
  | _ => "nw"
def ss_L : List Nat := [5, 3, 4, 4, 2, 2]
def ss_B : List (List Int32) := [[98, 101, 97, 114, 115], [102, 101, 101], [102, 105, 110, 101], [110, 119, 102, 115], [102, 115], [110, 119]]
def cx_ok (X : CX) : Prop := (∀ w ∈ lw_tbl, w.before #[Value.ref (cx_b X)] (cx_s X) = true) ∧ va_K (cx_D X) vwCl (cx_tys X) (cx_s X) ∧
  (∀ i : Nat, i < 5 → va_Z (st_C i) (st_N i) "[I" (.ref (cx_k X i)) (cx_A X) (cx_s X) (cx_s X).heap ∧ va_X (cx_k X i) (st_L i) (fun j => (st_F i).getD j 0) (cx_s X) (cx_s X).heap ∧ cx_k X i < cx_n X) ∧
  vk_S 6 ss_L ss_B (fun i => cx_k X (6 + i)) (fun i => cx_k X (12 + i)) (cx_A X) (cx_s X) (cx_s X).heap ∧
  (∀ i : Nat, i < 6 → vk_R RX7 (ss_I i) (ss_T i) (cx_k X (6 + i)) (cx_s X)) ∧
  va_Z "java/lang/String" "COMPACT_STRINGS" "Z" (.int 1) (cx_A X) (cx_s X) (cx_s X).heap
/-- a method: its name, its bytes, its locals, what it returns -/
abbrev MT : Type := MethodName × ByteArray × Nat × Option FieldType
/-- the room of depth d -/
def rmX (d mc ms : Nat) : Room := { frames := d, cells := mc, slots := ms, locals := 40 * d }
def HRc (X : CX) (ce : Nat → va_E) (N : Nat) (H : Heap) : Prop := H.size = cx_n X + N ∧ ∀ k : Nat, k < N → va_at (cx_D X) vwCl (cx_n X + k, ce k) H
def PcX (X : CX) (av : List Value) (ce : Nat → va_E) (N : Nat) : Array Value → State → Prop := va_Pc av (fun U => (cx_s X).WarmedH U.vm ∧ va_S (cx_A X) (cx_s X).heap U.heap [] ∧ HRc X ce N U.heap)
def QcX (X : CX) (Q : Option Value → (Nat → va_E) → Nat → Prop) : Array Value → State → Outcome → State → Prop := fun _ st oc t => (∃ (r : Option Value) (ce : Nat → va_E) (N : Nat), oc = .returned r ∧ Q r ce N ∧ HRc X ce N t.heap) ∧ va_F (cx_A X) st t
/-- the method's contract: from the cells ce, N of them, it returns with Q -/
def CallsC (X : CX) (d mc ms : Nat) (M : MT) (av : List Value) (ce : Nat → va_E) (N : Nat) (Q : Option Value → (Nat → va_E) → Nat → Prop) : Prop :=
  cx_ok X → Met (cx_l X) M.1 [Cond.code M.1 M.2.1 M.2.2.1 M.2.2.2] (rmX d mc ms) (PcX X av ce N) (QcX X Q) mc ms (cx_A X)
/-- locals by place: none where nothing is said -/
def lh (ls : Array Slot) (n : Nat) (lc : List (Option Value)) : Prop := ls.size = n ∧ lv_wf ls ∧ ∀ (i : Nat) (v : Value), lc[i]? = some (some v) → ls[i]? = some (.val v) ∧ v.category = 1
/-- what is fixed in a method's walk -/
def FX (X : CX) (M : MT) (p : Program) (s : State) (m : MethodId) (meth : Method) (c : Code) : Prop :=
  cx_ok X ∧ p.tables.exec = Jvm.exec ∧ c.code = M.2.1 ∧ meth.sig.returnType = M.2.2.2 ∧ meth.locks = false ∧ c.maxLocals = M.2.2.1 ∧ s.vm.findClass M.1.cls = some m.cls ∧ (cx_s X).WarmedH s.vm ∧ va_S (cx_A X) (cx_s X).heap s.heap [] ∧ meth.name = M.1.name
/-- the walk inside a method: at pc, with locals lc and operands st, cn cells of sn slots made so far, the cells ce (N of them): it ends with Q -/
def GoC (X : CX) (d mc ms : Nat) (M : MT) (pc : Nat) (lc : List (Option Value)) (st : List Value) (cn sn : Nat) (ce : Nat → va_E) (N : Nat) (Q : Option Value → (Nat → va_E) → Nat → Prop) : Prop :=
  ∀ (p : Program) (e : Env) (s : State) (m : MethodId) (args : Array Value) (below : List Frame) (meth : Method) (c : Code) (H : Heap) (locs : List Loc) (ls : Array Slot),
    FX X M p s m meth c → va_S (cx_A X) s.heap H locs → HRc X ce N H → lh ls M.2.2.1 lc →
    W p (cx_l X) e (rmX d mc ms) s m args below meth c H locs cn sn (MQ below (QcX X Q) args s mc ms (cx_A X)) (F0 m pc ls st)
-- words
theorem cx_w {X : CX} (ok : cx_ok X) {s : State} (hW : (cx_s X).WarmedH s.vm) {w : Cond} (hm : w ∈ lw_tbl) (hg : goodWord w = true) {a : Array Value} : w.before a s = true := word_at hW (good_of_word hg) (ok.1 w hm)
theorem cx_nf {X : CX} (ok : cx_ok X) {s : State} (hW : (cx_s X).WarmedH s.vm) {o : String} {i : Nat} {b n d h : String} (hm : Cond.fieldLinkNest o i b n d h ∈ lw_tbl) {a : Array Value} : (Cond.fieldLinkNest o i b n d h).before a s = true := va_Nw.use rfl (va_Nw.warmF hW (va_Nw.of rfl (ok.1 _ hm)))
theorem cx_nm {X : CX} (ok : cx_ok X) {s : State} (hW : (cx_s X).WarmedH s.vm) {o : String} {i : Nat} {x : MethodName} {h : String} (hm : Cond.methodLinkNest o i x h ∈ lw_tbl) : va_Nw (.methodLinkNest o i x h) s := va_Nw.warmM hW (va_Nw.of rfl (ok.1 _ hm))
theorem u_lay_good (C : String) (T : u_T) (k : Nat) : goodWord (u_lay C T k) = true := by
  unfold u_lay
  split <;> rfl
theorem cx_in {c : Nat} {C : String} {T : u_T} {N : Nat} (hc : vwCl[c]? = some (C, T, N)) : ∀ w ∈ u_ws C T N, w ∈ lw_tbl := by
  match c, hc with
  | 0, hc => cases hc; exact inX0
  | 1, hc => cases hc; exact inX1
  | 2, hc => cases hc; exact inX2
  | 3, hc => cases hc; exact inX3
  | 4, hc => cases hc; exact inX4
  | 5, hc => cases hc; exact inX5
  | 6, hc => cases hc; exact inX6
  | 7, hc => cases hc; exact inX7
  | 8, hc => cases hc; exact inX8
  | 9, hc => cases hc; exact inX9
  | k + 10, hc => simp [vwCl] at hc
theorem cx_flds {X : CX} (ok : cx_ok X) {s : State} (hW : (cx_s X).WarmedH s.vm) {c : Nat} {C : String} {T : u_T} {N : Nat} (hc : vwCl[c]? = some (C, T, N)) {a : Array Value} : ∀ w ∈ u_ws C T N, w.before a s = true := by
  intro w hw
  refine cx_w ok hW (cx_in hc w hw) ?_
  obtain ⟨k, -, rfl⟩ := List.mem_map.mp hw
  exact u_lay_good C T k
theorem cx_tyok {c : Nat} {C : String} {T : u_T} {N : Nat} (hc : vwCl[c]? = some (C, T, N)) : ∃ ty : Nat → FieldType, (∀ k, k < N → parseFieldDescriptor (T k).2.2.1 = some (ty k)) ∧ ∀ a, a < N → ∀ b, b < N → a ≠ b → (T a).2.1 ≠ (T b).2.1 := by
  match c, hc with
  | 0, hc => cases hc; exact ⟨tyX0, tyX0_ok, nmX0⟩
  | 1, hc => cases hc; exact ⟨tyX1, tyX1_ok, nmX1⟩
  | 2, hc => cases hc; exact ⟨tyX2, tyX2_ok, nmX2⟩
  | 3, hc => cases hc; exact ⟨tyX3, tyX3_ok, nmX3⟩
  | 4, hc => cases hc; exact ⟨tyX4, tyX4_ok, nmX4⟩
  | 5, hc => cases hc; exact ⟨tyX5, tyX5_ok, nmX5⟩
  | 6, hc => cases hc; exact ⟨tyX6, tyX6_ok, nmX6⟩
  | 7, hc => cases hc; exact ⟨tyX7, tyX7_ok, nmX7⟩
  | 8, hc => cases hc; exact ⟨tyX8, tyX8_ok, nmX8⟩
  | 9, hc => cases hc; exact ⟨tyX9, tyX9_ok, nmX9⟩
  | k + 10, hc => simp [vwCl] at hc
theorem FX.K {X : CX} {M : MT} {p : Program} {s : State} {m : MethodId} {meth : Method} {c : Code} (F : FX X M p s m meth c) : va_K (cx_D X) vwCl (cx_tys X) s := va_K.moved F.2.2.2.2.2.2.2.1.alike F.1.2.1
-- cells
def ceU (ce : Nat → va_E) (k : Nat) (e : va_E) : Nat → va_E := fun j => if j = k then e else ce j
theorem ceU_s (ce : Nat → va_E) (k : Nat) (e : va_E) : ceU ce k e k = e := by simp [ceU]
theorem ceU_n (ce : Nat → va_E) (k : Nat) (e : va_E) {j : Nat} (h : j ≠ k) : ceU ce k e j = ce j := by simp [ceU, h]
theorem HRc.set {X : CX} {ce : Nat → va_E} {N k : Nat} {H H1 : Heap} {e : va_E} (h : HRc X ce N H) (hk : va_at (cx_D X) vwCl (cx_n X + k, e) H1) (hz : H1.size = H.size) (ho : ∀ q : Nat, q ≠ cx_n X + k → H1[q]? = H[q]?) : HRc X (ceU ce k e) N H1 := by
  refine ⟨hz.trans h.1, fun j hj => ?_⟩
  by_cases hjk : j = k
  · subst hjk
    rw [ceU_s]
    exact hk
  · rw [ceU_n _ _ _ hjk]
    exact (h.2 j hj).kept (ho _ (by omega))
theorem HRc.push {X : CX} {ce : Nat → va_E} {N : Nat} {H H1 : Heap} {e : va_E} (h : HRc X ce N H) (hk : va_at (cx_D X) vwCl (cx_n X + N, e) H1) (hz : H1.size = H.size + 1) (ho : ∀ q : Nat, q < H.size → H1[q]? = H[q]?) : HRc X (ceU ce N e) (N + 1) H1 := by
  refine ⟨by rw [hz, h.1]; omega, fun j hj => ?_⟩
  by_cases hjk : j = N
  · subst hjk
    rw [ceU_s]
    exact hk
  · rw [ceU_n _ _ _ hjk]
    have hj' : j < N := by omega
    exact (h.2 j hj').kept (ho _ (h.2 j hj').lt)
theorem lh.has {ls : Array Slot} {n : Nat} {lc : List (Option Value)} (h : lh ls n lc) {i : Nat} {v : Value} (hi : lc[i]? = some (some v)) : lv_has ls n [(i, v)] := ⟨h.1, h.2.1, fun q hq => by
  rw [List.mem_singleton.mp hq]
  exact (h.2.2 i v hi).1⟩
theorem lh.none {ls : Array Slot} {n : Nat} {lc : List (Option Value)} (h : lh ls n lc) : lv_has ls n [] := ⟨h.1, h.2.1, fun q hq => by cases hq⟩
/-- a local is stored -/
theorem lh.store {ls : Array Slot} {n : Nat} {lc : List (Option Value)} (h : lh ls n lc) {i : Nat} {v : Value} (hi : i < n) (hc : v.category = 1) : ∃ ls', storeLocals ls i v = some ls' ∧ lh ls' n (lc.set i (some v)) := by
  obtain ⟨ls', e1, h1⟩ := lv_store1 (v := v) h.none hi hc
  refine ⟨ls', e1, h1.1, h1.2.1, fun j w hj => ?_⟩
  by_cases hij : i = j
  · subst hij
    rw [List.getElem?_set] at hj
    simp only [if_true] at hj
    split at hj
    · cases hj
      exact ⟨h1.2.2 (i, v) List.mem_cons_self, hc⟩
    · cases hj
  · rw [List.getElem?_set_ne hij] at hj
    have hw := h.2.2 j w hj
    obtain ⟨ls2, e2, h2⟩ := lv_store1 (v := v) (h.has hj) hi hc
    rw [e1] at e2
    cases e2
    refine ⟨h2.2.2 (j, w) (List.mem_cons_of_mem _ (List.mem_filter.mpr ⟨List.mem_singleton.mpr rfl, ?_⟩)), hw.2⟩
    have a1 : (j == i) = false := by simp; omega
    simp [a1, hw.2]
theorem lh.weak {ls : Array Slot} {n : Nat} {lc lc' : List (Option Value)} (h : lh ls n lc) (hw : ∀ (i : Nat) (v : Value), lc'[i]? = some (some v) → lc[i]? = some (some v)) : lh ls n lc' := ⟨h.1, h.2.1, fun i v hi => h.2.2 i v (hw i v hi)⟩
theorem lv_args_mem : ∀ (vs : List Value) (o i : Nat) (v : Value), (∀ w ∈ vs, w.category = 1) → vs[i]? = some v → (o + i, v) ∈ lv_args o vs
  | [], _, _, _, _, h => by simp at h
  | w :: vs, o, 0, v, _, h => by
    simp only [List.getElem?_cons_zero, Option.some.injEq] at h
    subst h
    simp [lv_args]
  | w :: vs, o, i + 1, v, hc, h => by
    have h1 : w.category = 1 := hc w List.mem_cons_self
    have h2 := lv_args_mem vs (o + 1) i v (fun x hx => hc x (List.mem_cons_of_mem _ hx)) (by simpa using h)
    have h3 : ¬ w.category = 2 := by omega
    simp only [lv_args, h3, if_false]
    refine List.mem_cons_of_mem _ ?_
    rw [show o + (i + 1) = o + 1 + i by omega]
    exact h2
/-- a contract out of the walk -/
theorem CallsC.of {X : CX} {d mc ms : Nat} {M : MT} {av : List Value} {ce : Nat → va_E} {N : Nat} {Q : Option Value → (Nat → va_E) → Nat → Prop} (hp : plainName M.1.cls = true) (hc : ∀ v ∈ av, v.category = 1) (hn : (lg_sl av).length ≤ M.2.2.1) (h : GoC X d mc ms M 0 (av.map some) [] 0 0 ce N Q) : CallsC X d mc ms M av ce N Q := by
  intro ok
  refine Met.ofW (cc := M.2.1) (maxL := M.2.2.1) (ret := M.2.2.2) hp rfl ?_
  intro p e s m args below meth c s₁ B hml hv
  obtain ⟨rfl, hW, hS0, hH⟩ := hv
  rw [lg_entry_eq]
  have hl := lv_entry av (n := M.2.2.1) hn
  refine h p e s m av.toArray below meth c s.heap [] _ ⟨ok, B.exec, B.bytes, B.returns, B.notSynchronized, hml, findClass_of_methodNamed B.named, hW, hS0, (name_of_methodNamed B.named B.method).1⟩ va_S.rf hH ⟨hl.1, hl.2.1, fun i v hi => ?_⟩
  rw [List.getElem?_map] at hi
  cases hav : av[i]? with
  | none => rw [hav] at hi; cases hi
  | some w =>
    rw [hav] at hi
    simp only [Option.map_some, Option.some.injEq] at hi
    subst hi
    have := lv_args_mem av 0 i w hc hav
    rw [Nat.zero_add] at this
    exact ⟨hl.2.2 (i, w) this, hc w (List.mem_of_getElem? hav)⟩
section GC
variable {X : CX} {d mc ms : Nat} {M : MT} {pc : Nat} {lc : List (Option Value)} {st : List Value} {cn sn : Nat} {ce : Nat → va_E} {N : Nat} {Q : Option Value → (Nat → va_E) → Nat → Prop}
theorem gc_locals {lc' : List (Option Value)} (hw : ∀ (i : Nat) (v : Value), lc'[i]? = some (some v) → lc[i]? = some (some v)) (k : GoC X d mc ms M pc lc' st cn sn ce N Q) : GoC X d mc ms M pc lc st cn sn ce N Q := fun p e s m args below meth c H locs ls F hS hH hl => k p e s m args below meth c H locs ls F hS hH (hl.weak hw)
theorem gc_widen {cn' sn' : Nat} (h1 : cn ≤ cn') (h2 : sn ≤ sn') (k : GoC X d mc ms M pc lc st cn' sn' ce N Q) : GoC X d mc ms M pc lc st cn sn ce N Q := fun p e s m args below meth c H locs ls F hS hH hl => W.widen h1 h2 (k p e s m args below meth c H locs ls F hS hH hl)
theorem gc_post {Q' : Option Value → (Nat → va_E) → Nat → Prop} (hq : ∀ r c n, Q' r c n → Q r c n) (k : GoC X d mc ms M pc lc st cn sn ce N Q') : GoC X d mc ms M pc lc st cn sn ce N Q := by
  intro p e s m args below meth c H locs ls F hS hH hl T hT Y
  obtain ⟨t, a, o, b1, b2, ⟨⟨r, ce', N', h1, h2, h3⟩, h4⟩, b4⟩ := k p e s m args below meth c H locs ls F hS hH hl T hT Y
  exact ⟨t, a, o, b1, b2, ⟨⟨r, ce', N', h1, hq _ _ _ h2, h3⟩, h4⟩, b4⟩

theorem gc_iconst {n : Int} {v : Int32} (hd : decode M.2.1 pc = .ok (.iconst n, 1)) (hv : Int32.ofInt n = v) (k : GoC X d mc ms M (pc + 1) lc (.int v :: st) cn sn ce N Q) : GoC X d mc ms M pc lc (st) cn sn ce N Q := fun p e s m args below meth c H locs ls F hS hH hl => lv_iconst F.2.1 F.2.2.1 hd hv (k p e s m args below meth c H locs ls F hS hH hl)
theorem gc_bipush {n : Int} {v : Int32} (hd : decode M.2.1 pc = .ok (.bipush n, 2)) (hv : (Int8.ofInt n).toInt32 = v) (k : GoC X d mc ms M (pc + 2) lc (.int v :: st) cn sn ce N Q) : GoC X d mc ms M pc lc (st) cn sn ce N Q := fun p e s m args below meth c H locs ls F hS hH hl => lv_bipush F.2.1 F.2.2.1 hd hv (k p e s m args below meth c H locs ls F hS hH hl)
theorem gc_sipush {n : Int} {v : Int32} (hd : decode M.2.1 pc = .ok (.sipush n, 3)) (hv : (Int16.ofInt n).toInt32 = v) (k : GoC X d mc ms M (pc + 3) lc (.int v :: st) cn sn ce N Q) : GoC X d mc ms M pc lc (st) cn sn ce N Q := fun p e s m args below meth c H locs ls F hS hH hl => lv_sipush F.2.1 F.2.2.1 hd hv (k p e s m args below meth c H locs ls F hS hH hl)
theorem gc_iload_n {q : Fin 4} {x : Int32} (hd : decode M.2.1 pc = .ok (.iload_n q, 1)) (hv : lc[(q : Nat)]? = some (some (.int x))) (k : GoC X d mc ms M (pc + 1) lc (.int x :: st) cn sn ce N Q) : GoC X d mc ms M pc lc (st) cn sn ce N Q := fun p e s m args below meth c H locs ls F hS hH hl => lv_iload_n F.2.1 F.2.2.1 hd rfl (hl.2.2 _ _ hv).1 (k p e s m args below meth c H locs ls F hS hH hl)
theorem gc_iload {i : Nat} {x : Int32} (hd : decode M.2.1 pc = .ok (.iload i, 2)) (hv : lc[i]? = some (some (.int x))) (k : GoC X d mc ms M (pc + 2) lc (.int x :: st) cn sn ce N Q) : GoC X d mc ms M pc lc (st) cn sn ce N Q := fun p e s m args below meth c H locs ls F hS hH hl => lv_iload F.2.1 F.2.2.1 hd (hl.2.2 _ _ hv).1 (k p e s m args below meth c H locs ls F hS hH hl)
theorem gc_aload_n {q : Fin 4} {x : Nat} (hd : decode M.2.1 pc = .ok (.aload_n q, 1)) (hv : lc[(q : Nat)]? = some (some (.ref x))) (k : GoC X d mc ms M (pc + 1) lc (.ref x :: st) cn sn ce N Q) : GoC X d mc ms M pc lc (st) cn sn ce N Q := fun p e s m args below meth c H locs ls F hS hH hl => lv_aload_n F.2.1 F.2.2.1 hd rfl (hl.2.2 _ _ hv).1 (k p e s m args below meth c H locs ls F hS hH hl)
theorem gc_aload {i : Nat} {x : Nat} (hd : decode M.2.1 pc = .ok (.aload i, 2)) (hv : lc[i]? = some (some (.ref x))) (k : GoC X d mc ms M (pc + 2) lc (.ref x :: st) cn sn ce N Q) : GoC X d mc ms M pc lc (st) cn sn ce N Q := fun p e s m args below meth c H locs ls F hS hH hl => lv_aload F.2.1 F.2.2.1 hd (hl.2.2 _ _ hv).1 (k p e s m args below meth c H locs ls F hS hH hl)
theorem gc_aloadN_n {q : Fin 4} (hd : decode M.2.1 pc = .ok (.aload_n q, 1)) (hv : lc[(q : Nat)]? = some (some .null)) (k : GoC X d mc ms M (pc + 1) lc (.null :: st) cn sn ce N Q) : GoC X d mc ms M pc lc (st) cn sn ce N Q := fun p e s m args below meth c H locs ls F hS hH hl => lv_aload_nN F.2.1 F.2.2.1 hd rfl (hl.2.2 _ _ hv).1 (k p e s m args below meth c H locs ls F hS hH hl)
theorem gc_iadd {x y : Int32} (hd : decode M.2.1 pc = .ok (.iadd, 1)) (k : GoC X d mc ms M (pc + 1) lc (.int (x + y) :: st) cn sn ce N Q) : GoC X d mc ms M pc lc (.int y :: .int x :: st) cn sn ce N Q := fun p e s m args below meth c H locs ls F hS hH hl => lv_iadd F.2.1 F.2.2.1 hd  (k p e s m args below meth c H locs ls F hS hH hl)
theorem gc_isub {x y : Int32} (hd : decode M.2.1 pc = .ok (.isub, 1)) (k : GoC X d mc ms M (pc + 1) lc (.int (x - y) :: st) cn sn ce N Q) : GoC X d mc ms M pc lc (.int y :: .int x :: st) cn sn ce N Q := fun p e s m args below meth c H locs ls F hS hH hl => lv_isub F.2.1 F.2.2.1 hd  (k p e s m args below meth c H locs ls F hS hH hl)
theorem gc_imul {x y : Int32} (hd : decode M.2.1 pc = .ok (.imul, 1)) (k : GoC X d mc ms M (pc + 1) lc (.int (x * y) :: st) cn sn ce N Q) : GoC X d mc ms M pc lc (.int y :: .int x :: st) cn sn ce N Q := fun p e s m args below meth c H locs ls F hS hH hl => lv_imul F.2.1 F.2.2.1 hd  (k p e s m args below meth c H locs ls F hS hH hl)
theorem gc_iand {x y : Int32} (hd : decode M.2.1 pc = .ok (.iand, 1)) (k : GoC X d mc ms M (pc + 1) lc (.int (x &&& y) :: st) cn sn ce N Q) : GoC X d mc ms M pc lc (.int y :: .int x :: st) cn sn ce N Q := fun p e s m args below meth c H locs ls F hS hH hl => lv_iand F.2.1 F.2.2.1 hd  (k p e s m args below meth c H locs ls F hS hH hl)
theorem gc_ior {x y : Int32} (hd : decode M.2.1 pc = .ok (.ior, 1)) (k : GoC X d mc ms M (pc + 1) lc (.int (x ||| y) :: st) cn sn ce N Q) : GoC X d mc ms M pc lc (.int y :: .int x :: st) cn sn ce N Q := fun p e s m args below meth c H locs ls F hS hH hl => lv_ior F.2.1 F.2.2.1 hd  (k p e s m args below meth c H locs ls F hS hH hl)
theorem gc_ixor {x y : Int32} (hd : decode M.2.1 pc = .ok (.ixor, 1)) (k : GoC X d mc ms M (pc + 1) lc (.int (x ^^^ y) :: st) cn sn ce N Q) : GoC X d mc ms M pc lc (.int y :: .int x :: st) cn sn ce N Q := fun p e s m args below meth c H locs ls F hS hH hl => lv_ixor F.2.1 F.2.2.1 hd  (k p e s m args below meth c H locs ls F hS hH hl)
theorem gc_ishl {x y : Int32} (hd : decode M.2.1 pc = .ok (.ishl, 1)) (k : GoC X d mc ms M (pc + 1) lc (.int (x <<< (y &&& 31)) :: st) cn sn ce N Q) : GoC X d mc ms M pc lc (.int y :: .int x :: st) cn sn ce N Q := fun p e s m args below meth c H locs ls F hS hH hl => lv_ishl F.2.1 F.2.2.1 hd  (k p e s m args below meth c H locs ls F hS hH hl)
theorem gc_ishr {x y : Int32} (hd : decode M.2.1 pc = .ok (.ishr, 1)) (k : GoC X d mc ms M (pc + 1) lc (.int (x >>> (y &&& 31)) :: st) cn sn ce N Q) : GoC X d mc ms M pc lc (.int y :: .int x :: st) cn sn ce N Q := fun p e s m args below meth c H locs ls F hS hH hl => lv_ishr F.2.1 F.2.2.1 hd  (k p e s m args below meth c H locs ls F hS hH hl)
theorem gc_idiv {x y : Int32} (hd : decode M.2.1 pc = .ok (.idiv, 1)) (hne : ¬ y = 0) (k : GoC X d mc ms M (pc + 1) lc (.int (x / y) :: st) cn sn ce N Q) : GoC X d mc ms M pc lc (.int y :: .int x :: st) cn sn ce N Q := fun p e s m args below meth c H locs ls F hS hH hl => lv_idiv F.2.1 F.2.2.1 hd hne (k p e s m args below meth c H locs ls F hS hH hl)
theorem gc_irem {x y : Int32} (hd : decode M.2.1 pc = .ok (.irem, 1)) (hne : ¬ y = 0) (k : GoC X d mc ms M (pc + 1) lc (.int (x - x / y * y) :: st) cn sn ce N Q) : GoC X d mc ms M pc lc (.int y :: .int x :: st) cn sn ce N Q := fun p e s m args below meth c H locs ls F hS hH hl => lv_irem F.2.1 F.2.2.1 hd hne (k p e s m args below meth c H locs ls F hS hH hl)
theorem gc_ineg {x : Int32} (hd : decode M.2.1 pc = .ok (.ineg, 1)) (k : GoC X d mc ms M (pc + 1) lc (.int (-x) :: st) cn sn ce N Q) : GoC X d mc ms M pc lc (.int x :: st) cn sn ce N Q := fun p e s m args below meth c H locs ls F hS hH hl => lv_ineg F.2.1 F.2.2.1 hd  (k p e s m args below meth c H locs ls F hS hH hl)
theorem gc_iushr {x y : Int32} (hd : decode M.2.1 pc = .ok (.iushr, 1)) (k : GoC X d mc ms M (pc + 1) lc (.int ((x.toUInt32 >>> (y.toUInt32 &&& Int32.toUInt32 31)).toInt32) :: st) cn sn ce N Q) : GoC X d mc ms M pc lc (.int y :: .int x :: st) cn sn ce N Q := fun p e s m args below meth c H locs ls F hS hH hl => lv_iushr F.2.1 F.2.2.1 hd rfl (k p e s m args below meth c H locs ls F hS hH hl)
theorem gc_i2b {x : Int32} (hd : decode M.2.1 pc = .ok (.i2b, 1)) (k : GoC X d mc ms M (pc + 1) lc (.int (x.toInt8.toInt32) :: st) cn sn ce N Q) : GoC X d mc ms M pc lc (.int x :: st) cn sn ce N Q := fun p e s m args below meth c H locs ls F hS hH hl => lv_i2b F.2.1 F.2.2.1 hd rfl (k p e s m args below meth c H locs ls F hS hH hl)
theorem gc_i2s {x : Int32} (hd : decode M.2.1 pc = .ok (.i2s, 1)) (k : GoC X d mc ms M (pc + 1) lc (.int (x.toInt16.toInt32) :: st) cn sn ce N Q) : GoC X d mc ms M pc lc (.int x :: st) cn sn ce N Q := fun p e s m args below meth c H locs ls F hS hH hl => lv_i2s F.2.1 F.2.2.1 hd rfl (k p e s m args below meth c H locs ls F hS hH hl)
theorem gc_i2c {x : Int32} (hd : decode M.2.1 pc = .ok (.i2c, 1)) (k : GoC X d mc ms M (pc + 1) lc (.int ((x.toUInt32 % 65536).toInt32) :: st) cn sn ce N Q) : GoC X d mc ms M pc lc (.int x :: st) cn sn ce N Q := fun p e s m args below meth c H locs ls F hS hH hl => lv_i2c F.2.1 F.2.2.1 hd rfl (k p e s m args below meth c H locs ls F hS hH hl)
theorem gc_dup {va : Value} (hd : decode M.2.1 pc = .ok (.dup, 1)) (hc : va.category = 1) (k : GoC X d mc ms M (pc + 1) lc (va :: va :: st) cn sn ce N Q) : GoC X d mc ms M pc lc (va :: st) cn sn ce N Q := fun p e s m args below meth c H locs ls F hS hH hl => lv_dup F.2.1 F.2.2.1 hd hc (k p e s m args below meth c H locs ls F hS hH hl)
theorem gc_pop {va : Value} (hd : decode M.2.1 pc = .ok (.pop, 1)) (hc : va.category = 1) (k : GoC X d mc ms M (pc + 1) lc (st) cn sn ce N Q) : GoC X d mc ms M pc lc (va :: st) cn sn ce N Q := fun p e s m args below meth c H locs ls F hS hH hl => lv_pop F.2.1 F.2.2.1 hd hc (k p e s m args below meth c H locs ls F hS hH hl)
theorem gc_dup2 {va vb : Value} (hd : decode M.2.1 pc = .ok (.dup2, 1)) (hc : va.category = 1) (hc2 : vb.category = 1) (k : GoC X d mc ms M (pc + 1) lc (va :: vb :: va :: vb :: st) cn sn ce N Q) : GoC X d mc ms M pc lc (va :: vb :: st) cn sn ce N Q := fun p e s m args below meth c H locs ls F hS hH hl => lv_dup2_11 F.2.1 F.2.2.1 hd hc hc2 (k p e s m args below meth c H locs ls F hS hH hl)
theorem gc_null  (hd : decode M.2.1 pc = .ok (.aconst_null, 1)) (k : GoC X d mc ms M (pc + 1) lc (.null :: st) cn sn ce N Q) : GoC X d mc ms M pc lc (st) cn sn ce N Q := fun p e s m args below meth c H locs ls F hS hH hl => lv_null F.2.1 F.2.2.1 hd  (k p e s m args below meth c H locs ls F hS hH hl)
theorem gc_if_eq {x : Int32} {off : Int} (tgt : Nat) (hd : decode M.2.1 pc = .ok (.ifCond .eq off, 3)) (ht : (pc : Int) + off = (tgt : Int)) (kt : x = 0 → GoC X d mc ms M tgt lc st cn sn ce N Q) (kf : ¬ x = 0 → GoC X d mc ms M (pc + 3) lc st cn sn ce N Q) : GoC X d mc ms M pc lc (.int x :: st) cn sn ce N Q := fun p e s m args below meth c H locs ls F hS hH hl => lv_if_eq F.2.1 F.2.2.1 hd ht (fun h => kt h p e s m args below meth c H locs ls F hS hH hl) (fun h => kf h p e s m args below meth c H locs ls F hS hH hl)
theorem gc_icmp_eq {x y : Int32} {off : Int} (tgt : Nat) (hd : decode M.2.1 pc = .ok (.if_icmp .eq off, 3)) (ht : (pc : Int) + off = (tgt : Int)) (kt : x = y → GoC X d mc ms M tgt lc st cn sn ce N Q) (kf : ¬ x = y → GoC X d mc ms M (pc + 3) lc st cn sn ce N Q) : GoC X d mc ms M pc lc (.int y :: .int x :: st) cn sn ce N Q := fun p e s m args below meth c H locs ls F hS hH hl => lv_icmp_eq F.2.1 F.2.2.1 hd ht (fun h => kt h p e s m args below meth c H locs ls F hS hH hl) (fun h => kf h p e s m args below meth c H locs ls F hS hH hl)
theorem gc_if_ne {x : Int32} {off : Int} (tgt : Nat) (hd : decode M.2.1 pc = .ok (.ifCond .ne off, 3)) (ht : (pc : Int) + off = (tgt : Int)) (kt : ¬ x = 0 → GoC X d mc ms M tgt lc st cn sn ce N Q) (kf : x = 0 → GoC X d mc ms M (pc + 3) lc st cn sn ce N Q) : GoC X d mc ms M pc lc (.int x :: st) cn sn ce N Q := fun p e s m args below meth c H locs ls F hS hH hl => lv_if_ne F.2.1 F.2.2.1 hd ht (fun h => kt h p e s m args below meth c H locs ls F hS hH hl) (fun h => kf h p e s m args below meth c H locs ls F hS hH hl)
theorem gc_icmp_ne {x y : Int32} {off : Int} (tgt : Nat) (hd : decode M.2.1 pc = .ok (.if_icmp .ne off, 3)) (ht : (pc : Int) + off = (tgt : Int)) (kt : ¬ x = y → GoC X d mc ms M tgt lc st cn sn ce N Q) (kf : x = y → GoC X d mc ms M (pc + 3) lc st cn sn ce N Q) : GoC X d mc ms M pc lc (.int y :: .int x :: st) cn sn ce N Q := fun p e s m args below meth c H locs ls F hS hH hl => lv_icmp_ne F.2.1 F.2.2.1 hd ht (fun h => kt h p e s m args below meth c H locs ls F hS hH hl) (fun h => kf h p e s m args below meth c H locs ls F hS hH hl)
theorem gc_if_lt {x : Int32} {off : Int} (tgt : Nat) (hd : decode M.2.1 pc = .ok (.ifCond .lt off, 3)) (ht : (pc : Int) + off = (tgt : Int)) (kt : x < 0 → GoC X d mc ms M tgt lc st cn sn ce N Q) (kf : ¬ x < 0 → GoC X d mc ms M (pc + 3) lc st cn sn ce N Q) : GoC X d mc ms M pc lc (.int x :: st) cn sn ce N Q := fun p e s m args below meth c H locs ls F hS hH hl => lv_if_lt F.2.1 F.2.2.1 hd ht (fun h => kt h p e s m args below meth c H locs ls F hS hH hl) (fun h => kf h p e s m args below meth c H locs ls F hS hH hl)
theorem gc_icmp_lt {x y : Int32} {off : Int} (tgt : Nat) (hd : decode M.2.1 pc = .ok (.if_icmp .lt off, 3)) (ht : (pc : Int) + off = (tgt : Int)) (kt : x < y → GoC X d mc ms M tgt lc st cn sn ce N Q) (kf : ¬ x < y → GoC X d mc ms M (pc + 3) lc st cn sn ce N Q) : GoC X d mc ms M pc lc (.int y :: .int x :: st) cn sn ce N Q := fun p e s m args below meth c H locs ls F hS hH hl => lv_icmp_lt F.2.1 F.2.2.1 hd ht (fun h => kt h p e s m args below meth c H locs ls F hS hH hl) (fun h => kf h p e s m args below meth c H locs ls F hS hH hl)
theorem gc_if_ge {x : Int32} {off : Int} (tgt : Nat) (hd : decode M.2.1 pc = .ok (.ifCond .ge off, 3)) (ht : (pc : Int) + off = (tgt : Int)) (kt : 0 ≤ x → GoC X d mc ms M tgt lc st cn sn ce N Q) (kf : ¬ 0 ≤ x → GoC X d mc ms M (pc + 3) lc st cn sn ce N Q) : GoC X d mc ms M pc lc (.int x :: st) cn sn ce N Q := fun p e s m args below meth c H locs ls F hS hH hl => lv_if_ge F.2.1 F.2.2.1 hd ht (fun h => kt h p e s m args below meth c H locs ls F hS hH hl) (fun h => kf h p e s m args below meth c H locs ls F hS hH hl)
theorem gc_icmp_ge {x y : Int32} {off : Int} (tgt : Nat) (hd : decode M.2.1 pc = .ok (.if_icmp .ge off, 3)) (ht : (pc : Int) + off = (tgt : Int)) (kt : y ≤ x → GoC X d mc ms M tgt lc st cn sn ce N Q) (kf : ¬ y ≤ x → GoC X d mc ms M (pc + 3) lc st cn sn ce N Q) : GoC X d mc ms M pc lc (.int y :: .int x :: st) cn sn ce N Q := fun p e s m args below meth c H locs ls F hS hH hl => lv_icmp_ge F.2.1 F.2.2.1 hd ht (fun h => kt h p e s m args below meth c H locs ls F hS hH hl) (fun h => kf h p e s m args below meth c H locs ls F hS hH hl)
theorem gc_if_gt {x : Int32} {off : Int} (tgt : Nat) (hd : decode M.2.1 pc = .ok (.ifCond .gt off, 3)) (ht : (pc : Int) + off = (tgt : Int)) (kt : 0 < x → GoC X d mc ms M tgt lc st cn sn ce N Q) (kf : ¬ 0 < x → GoC X d mc ms M (pc + 3) lc st cn sn ce N Q) : GoC X d mc ms M pc lc (.int x :: st) cn sn ce N Q := fun p e s m args below meth c H locs ls F hS hH hl => lv_if_gt F.2.1 F.2.2.1 hd ht (fun h => kt h p e s m args below meth c H locs ls F hS hH hl) (fun h => kf h p e s m args below meth c H locs ls F hS hH hl)
theorem gc_icmp_gt {x y : Int32} {off : Int} (tgt : Nat) (hd : decode M.2.1 pc = .ok (.if_icmp .gt off, 3)) (ht : (pc : Int) + off = (tgt : Int)) (kt : y < x → GoC X d mc ms M tgt lc st cn sn ce N Q) (kf : ¬ y < x → GoC X d mc ms M (pc + 3) lc st cn sn ce N Q) : GoC X d mc ms M pc lc (.int y :: .int x :: st) cn sn ce N Q := fun p e s m args below meth c H locs ls F hS hH hl => lv_icmp_gt F.2.1 F.2.2.1 hd ht (fun h => kt h p e s m args below meth c H locs ls F hS hH hl) (fun h => kf h p e s m args below meth c H locs ls F hS hH hl)
theorem gc_if_le {x : Int32} {off : Int} (tgt : Nat) (hd : decode M.2.1 pc = .ok (.ifCond .le off, 3)) (ht : (pc : Int) + off = (tgt : Int)) (kt : x ≤ 0 → GoC X d mc ms M tgt lc st cn sn ce N Q) (kf : ¬ x ≤ 0 → GoC X d mc ms M (pc + 3) lc st cn sn ce N Q) : GoC X d mc ms M pc lc (.int x :: st) cn sn ce N Q := fun p e s m args below meth c H locs ls F hS hH hl => lv_if_le F.2.1 F.2.2.1 hd ht (fun h => kt h p e s m args below meth c H locs ls F hS hH hl) (fun h => kf h p e s m args below meth c H locs ls F hS hH hl)
theorem gc_icmp_le {x y : Int32} {off : Int} (tgt : Nat) (hd : decode M.2.1 pc = .ok (.if_icmp .le off, 3)) (ht : (pc : Int) + off = (tgt : Int)) (kt : x ≤ y → GoC X d mc ms M tgt lc st cn sn ce N Q) (kf : ¬ x ≤ y → GoC X d mc ms M (pc + 3) lc st cn sn ce N Q) : GoC X d mc ms M pc lc (.int y :: .int x :: st) cn sn ce N Q := fun p e s m args below meth c H locs ls F hS hH hl => lv_icmp_le F.2.1 F.2.2.1 hd ht (fun h => kt h p e s m args below meth c H locs ls F hS hH hl) (fun h => kf h p e s m args below meth c H locs ls F hS hH hl)
theorem gc_goto {off : Int} (tgt : Nat) (hd : decode M.2.1 pc = .ok (.goto off, 3)) (ht : (pc : Int) + off = (tgt : Int)) (k : GoC X d mc ms M tgt lc st cn sn ce N Q) : GoC X d mc ms M pc lc st cn sn ce N Q := fun p e s m args below meth c H locs ls F hS hH hl => lv_goto F.2.1 F.2.2.1 hd ht (k p e s m args below meth c H locs ls F hS hH hl)
theorem gc_ifnonnull {x : Nat} {off : Int} (tgt : Nat) (hd : decode M.2.1 pc = .ok (.ifnonnull off, 3)) (ht : (pc : Int) + off = (tgt : Int)) (k : GoC X d mc ms M tgt lc st cn sn ce N Q) : GoC X d mc ms M pc lc (.ref x :: st) cn sn ce N Q := fun p e s m args below meth c H locs ls F hS hH hl => lv_ifnonnull F.2.1 F.2.2.1 hd ht (k p e s m args below meth c H locs ls F hS hH hl)
theorem gc_ifnonnullN {off : Int} (hd : decode M.2.1 pc = .ok (.ifnonnull off, 3)) (k : GoC X d mc ms M (pc + 3) lc st cn sn ce N Q) : GoC X d mc ms M pc lc (.null :: st) cn sn ce N Q := fun p e s m args below meth c H locs ls F hS hH hl => lv_ifnonnullN F.2.1 F.2.2.1 hd (k p e s m args below meth c H locs ls F hS hH hl)
theorem gc_lookup {dflt : Int} {ps : Array (Int × Int)} {len : Nat} {x : Int32} {off : Int} (tgt : Nat) (hd : decode M.2.1 pc = .ok (.lookupswitch dflt ps, len)) (hp : (ps.toList.zip (ps.toList.drop 1)).all (fun (a, next) => a.1 < next.1) = true) (ho : Op.lookupswitch.offset ps.toList dflt x.toInt = off) (ht : (pc : Int) + off = (tgt : Int)) (k : GoC X d mc ms M tgt lc st cn sn ce N Q) : GoC X d mc ms M pc lc (.int x :: st) cn sn ce N Q := fun p e s m args below meth c H locs ls F hS hH hl => lv_lookup F.2.1 F.2.2.1 hd hp ho ht (k p e s m args below meth c H locs ls F hS hH hl)
theorem gc_tabOut {dflt lo hi : Int} {offs : Array Int} {len : Nat} {x : Int32} (tgt : Nat) (hd : decode M.2.1 pc = .ok (.tableswitch dflt lo hi offs, len)) (h : x.toInt < lo ∨ hi < x.toInt) (ht : (pc : Int) + dflt = (tgt : Int)) (k : GoC X d mc ms M tgt lc st cn sn ce N Q) : GoC X d mc ms M pc lc (.int x :: st) cn sn ce N Q := fun p e s m args below meth c H locs ls F hS hH hl => lv_tableOut F.2.1 F.2.2.1 hd h ht (k p e s m args below meth c H locs ls F hS hH hl)
theorem gc_tabIn {dflt lo hi : Int} {offs : Array Int} {len : Nat} {x : Int32} {off : Int} (tgt : Nat) (hd : decode M.2.1 pc = .ok (.tableswitch dflt lo hi offs, len)) (h1 : ¬ x.toInt < lo) (h2 : ¬ hi < x.toInt) (ho : offs[(x.toInt - lo).toNat]? = some off) (ht : (pc : Int) + off = (tgt : Int)) (k : GoC X d mc ms M tgt lc st cn sn ce N Q) : GoC X d mc ms M pc lc (.int x :: st) cn sn ce N Q := fun p e s m args below meth c H locs ls F hS hH hl => lv_tableIn F.2.1 F.2.2.1 hd h1 h2 ho ht (k p e s m args below meth c H locs ls F hS hH hl)
theorem gc_ldc {index : Nat} {v : Int32} (hd : decode M.2.1 pc = .ok (.ldc index, 2)) (hw : Cond.constant M.1.cls index v ∈ lw_tbl) (k : GoC X d mc ms M (pc + 2) lc (.int v :: st) cn sn ce N Q) : GoC X d mc ms M pc lc st cn sn ce N Q := fun p e s m args below meth c H locs ls F hS hH hl => lv_ldc F.2.1 F.2.2.1 F.2.2.2.2.2.2.1 (cx_w F.1 F.2.2.2.2.2.2.2.1 hw rfl) hd (k p e s m args below meth c H locs ls F hS hH hl)
theorem gc_ldcw {index : Nat} {v : Int32} (hd : decode M.2.1 pc = .ok (.ldc_w index, 3)) (hw : Cond.constant M.1.cls index v ∈ lw_tbl) (k : GoC X d mc ms M (pc + 3) lc (.int v :: st) cn sn ce N Q) : GoC X d mc ms M pc lc st cn sn ce N Q := fun p e s m args below meth c H locs ls F hS hH hl => lv_ldcw F.2.1 F.2.2.1 F.2.2.2.2.2.2.1 (cx_w F.1 F.2.2.2.2.2.2.2.1 hw rfl) hd (k p e s m args below meth c H locs ls F hS hH hl)
theorem gc_istore_n {q : Fin 4} {x : Int32} (hd : decode M.2.1 pc = .ok (.istore_n q, 1)) (hi : (q : Nat) < M.2.2.1) (k : GoC X d mc ms M (pc + 1) (lc.set (q : Nat) (some (.int x))) st cn sn ce N Q) : GoC X d mc ms M pc lc (.int x :: st) cn sn ce N Q := by
  intro p e s m args below meth c H locs ls F hS hH hl
  obtain ⟨ls', e1, h1⟩ := hl.store (v := .int x) hi rfl
  have kk := k p e s m args below meth c H locs ls' F hS hH h1
  intro T hT Y
  obtain ⟨t, a, b⟩ := kk T hT Y
  refine ⟨t, ?_, b⟩
  have hex := F.2.1
  have hb := F.2.2.1
  jvm_step Y.here [Y.here.top, ↓top_set Y.here.top, hex, hb, hd, e1, Value.isRef]
  exact a
theorem gc_istore {i : Nat} {x : Int32} (hd : decode M.2.1 pc = .ok (.istore i, 2)) (hi : i < M.2.2.1) (k : GoC X d mc ms M (pc + 2) (lc.set i (some (.int x))) st cn sn ce N Q) : GoC X d mc ms M pc lc (.int x :: st) cn sn ce N Q := by
  intro p e s m args below meth c H locs ls F hS hH hl
  obtain ⟨ls', e1, h1⟩ := hl.store (v := .int x) hi rfl
  have kk := k p e s m args below meth c H locs ls' F hS hH h1
  intro T hT Y
  obtain ⟨t, a, b⟩ := kk T hT Y
  refine ⟨t, ?_, b⟩
  have hex := F.2.1
  have hb := F.2.2.1
  jvm_step Y.here [Y.here.top, ↓top_set Y.here.top, hex, hb, hd, e1, Value.isRef]
  exact a
theorem gc_astore_n {q : Fin 4} {x : Nat} (hd : decode M.2.1 pc = .ok (.astore_n q, 1)) (hi : (q : Nat) < M.2.2.1) (k : GoC X d mc ms M (pc + 1) (lc.set (q : Nat) (some (.ref x))) st cn sn ce N Q) : GoC X d mc ms M pc lc (.ref x :: st) cn sn ce N Q := by
  intro p e s m args below meth c H locs ls F hS hH hl
  obtain ⟨ls', e1, h1⟩ := hl.store (v := .ref x) hi rfl
  have kk := k p e s m args below meth c H locs ls' F hS hH h1
  intro T hT Y
  obtain ⟨t, a, b⟩ := kk T hT Y
  refine ⟨t, ?_, b⟩
  have hex := F.2.1
  have hb := F.2.2.1
  jvm_step Y.here [Y.here.top, ↓top_set Y.here.top, hex, hb, hd, e1, Value.isRef]
  exact a
theorem gc_astore {i : Nat} {x : Nat} (hd : decode M.2.1 pc = .ok (.astore i, 2)) (hi : i < M.2.2.1) (k : GoC X d mc ms M (pc + 2) (lc.set i (some (.ref x))) st cn sn ce N Q) : GoC X d mc ms M pc lc (.ref x :: st) cn sn ce N Q := by
  intro p e s m args below meth c H locs ls F hS hH hl
  obtain ⟨ls', e1, h1⟩ := hl.store (v := .ref x) hi rfl
  have kk := k p e s m args below meth c H locs ls' F hS hH h1
  intro T hT Y
  obtain ⟨t, a, b⟩ := kk T hT Y
  refine ⟨t, ?_, b⟩
  have hex := F.2.1
  have hb := F.2.2.1
  jvm_step Y.here [Y.here.top, ↓top_set Y.here.top, hex, hb, hd, e1, Value.isRef]
  exact a
theorem gc_iinc {i : Nat} {n : Int} {x v : Int32} (hd : decode M.2.1 pc = .ok (.iinc i n, 3)) (hv : lc[i]? = some (some (.int x))) (he : x + Int32.ofInt n = v) (hi : i < M.2.2.1) (k : GoC X d mc ms M (pc + 3) (lc.set i (some (.int v))) st cn sn ce N Q) : GoC X d mc ms M pc lc st cn sn ce N Q := by
  intro p e s m args below meth c H locs ls F hS hH hl
  obtain ⟨ls', e1, h1⟩ := hl.store (v := .int v) hi rfl
  have kk := k p e s m args below meth c H locs ls' F hS hH h1
  subst he
  have hg := (hl.2.2 _ _ hv).1
  intro T hT Y
  obtain ⟨t, a, b⟩ := kk T hT Y
  refine ⟨t, ?_, b⟩
  have hex := F.2.1
  have hb := F.2.2.1
  jvm_step Y.here [Y.here.top, ↓top_set Y.here.top, hex, hb, hd, hg, e1]
  exact a
end GC
end
section
-- links: a field's place in a pool, a method's
def LkF (own : String) (index : Nat) (T : u_T) (j : Nat) : Prop := Cond.fieldLink own index (T j).1 (T j).2.1 (T j).2.2.1 ∈ lw_tbl ∨ ∃ h : String, Cond.fieldLinkNest own index (T j).1 (T j).2.1 (T j).2.2.1 h ∈ lw_tbl
def LkM (own : String) (index : Nat) (y : MethodName) : Prop := Cond.methodLink own index y ∈ lw_tbl ∨ ∃ h : String, Cond.methodLinkNest own index y h ∈ lw_tbl
/-- a method that can be called: its code, its class, its parameters -/
def OkM (y : MT) (n : Nat) : Prop := Cond.code y.1 y.2.1 y.2.2.1 y.2.2.2 ∈ lw_tbl ∧ Cond.initialized y.1.cls ∈ lw_tbl ∧ y.1.cls ≠ "java/lang/invoke/MethodHandle" ∧ y.1.cls ≠ "java/lang/invoke/VarHandle" ∧ (parseMethodDescriptor y.1.desc).map (fun d => d.parameters.length) = some n ∧ y.2.2.1 ≤ 21
def OkS (y : MT) (n : Nat) : Prop := OkM y n ∧ Cond.static y.1 ∈ lw_tbl
def OkV (y : MT) (n : Nat) : Prop := OkM y n ∧ Cond.instanceMethod y.1 ∈ lw_tbl ∧ Cond.selects y.1.cls y.1 y.1 ∈ lw_tbl
def OkI (y : MT) (n : Nat) : Prop := OkM y n ∧ Cond.instanceMethod y.1 ∈ lw_tbl ∧ y.1.name = "<init>" ∧ y.2.2.2 = none
section GH
variable {X : CX} {d mc ms : Nat} {M : MT} {pc : Nat} {lc : List (Option Value)} {st : List Value} {cn sn : Nat} {ce : Nat → va_E} {N : Nat} {Q : Option Value → (Nat → va_E) → Nat → Prop}
theorem gc_get {index k ci j : Nat} {C : String} {T : u_T} {Nf : Nat} {fs : List Value} {v : Value} (hd : decode M.2.1 pc = .ok (.getfield index, 3)) (hlk : LkF M.1.cls index T j) (hN : k < N) (he : ce k = .inr (ci, fs)) (hc : vwCl[ci]? = some (C, T, Nf)) (hj : j < Nf) (hv : fs[j]? = some v) (kt : GoC X d mc ms M (pc + 3) lc (v :: st) cn sn ce N Q) : GoC X d mc ms M pc lc (.ref (cx_n X + k) :: st) cn sn ce N Q := by
  intro p e s m args below meth c H locs ls F hS hH hl
  have hP : va_P (cx_D X) vwCl [(cx_n X + k, ce k)] H := fun i q hq => by
    match i, hq with
    | 0, hq => cases hq; exact hH.2 k hN
    | i + 1, hq => simp at hq
  have kk := kt p e s m args below meth c H locs ls F hS hH hl
  have hK := F.K
  have hW := F.2.2.2.2.2.2.2.1
  rcases hlk with hlk | ⟨h, hlk⟩
  · exact va_get (D := cx_D X) (ref := (T j).1) (Ts := u_ws C T Nf) F.2.1 F.2.2.1 (cx_flds F.1 hW hc) (fun _ h => h) F.2.2.2.2.2.2.1 hK hP 0 (by rw [he]; rfl) hc j hj (cx_w F.1 hW hlk rfl) (fun _ h => h) hv hd kk
  · exact va_getN (D := cx_D X) (ref := (T j).1) (Ts := u_ws C T Nf) F.2.1 F.2.2.1 (cx_flds F.1 hW hc) (fun _ h => h) F.2.2.2.2.2.2.1 hK hP 0 (by rw [he]; rfl) hc j hj (cx_nf F.1 hW hlk) (fun _ h => h) hv hd kk
theorem gc_put {index k ci j : Nat} {C : String} {T : u_T} {Nf : Nat} {fs : List Value} {v : Value} {ty : FieldType} (hd : decode M.2.1 pc = .ok (.putfield index, 3)) (hlk : LkF M.1.cls index T j) (hN : k < N) (he : ce k = .inr (ci, fs)) (hc : vwCl[ci]? = some (C, T, Nf)) (hj : j < Nf) (hfin : (T j).2.2.2 = false) (hp : parseFieldDescriptor (T j).2.2.1 = some ty) (hn : narrow ty v = v) (hfit : fits ty v = true) (hl9 : j < fs.length) (kt : GoC X d mc ms M (pc + 3) lc st cn sn (ceU ce k (.inr (ci, fs.set j v))) N Q) : GoC X d mc ms M pc lc (v :: .ref (cx_n X + k) :: st) cn sn ce N Q := by
  intro p e s m args below meth c H locs ls F hS hH hl
  have hK := F.K
  have hW := F.2.2.2.2.2.2.2.1
  have hts : ∀ w ∈ u_ws C T Nf, w.before args s = true := cx_flds F.1 hW hc
  obtain ⟨tyf, hty, hnm⟩ := cx_tyok hc
  have hap := va_apart (own := M.1.cls) hts (fun _ h => h) tyf hty hnm hK hc
  have hat := hH.2 k hN
  rw [he] at hat
  obtain ⟨r, h1, cell, q1, q2, q3, q4⟩ := hat
  have hr : r = (C, T, Nf) := Option.some.inj (h1.symm.trans hc)
  subst hr
  obtain ⟨hSl, hfc, kC, hkC, hkind⟩ := hK.1 ci _ hc
  obtain ⟨cf, kf, fi, f, hi, hsl⟩ := hSl j hj
  have hlay := hts _ (u_in_lay hj)
  unfold u_lay at hlay
  rw [if_neg (by rw [hfin]; decide)] at hlay
  have hst := (u_facts hfc hkC (u_lays hts (fun _ h => h) hj) hi).1
  have h6 := u_store hfc hkC hkind hlay hi hp hn hfit
  have fin : ∀ H' : Heap, H'[cx_n X + k]? = some (cell.setSlot f.slot v) → H'.size = H.size → (∀ q, q ≠ cx_n X + k → H'[q]? = H[q]?) → W p (cx_l X) e (rmX d mc ms) s m args below meth c H' (locs ++ [⟨cx_n X + k, f.slot⟩]) cn sn (MQ below (QcX X Q) args s mc ms (cx_A X)) (F0 m (pc + 3) ls st) := by
    intro H' e1 e2 e3
    rw [hsl] at e1 ⊢
    have hcell : va_at (cx_D X) vwCl (cx_n X + k, .inr (ci, fs.set j v)) H' := ⟨_, hc, t_OB.to (V := updV (vp_V fs) j v) ⟨_, e1, q2, q3, t_set q4 hap hj v⟩ (fun i _ => vp_updV_set hl9 v i)⟩
    exact kt p e s m args below meth c H' _ ls F (hS.put e2 e3 (Nat.le_add_right _ _)) (hH.set hcell e2 e3) hl
  rcases hlk with hlk | ⟨hh, hlk⟩
  · exact W.putK F.2.1 F.2.2.1 (f := f) (own := M.1.cls) (ref := (T j).1) (name := (T j).2.1) (desc := (T j).2.2.1) (index := index) ⟨F.2.2.2.2.2.2.1, cx_w F.1 hW hlk rfl, ⟨_, _, _, hi⟩, hst⟩ (by rw [q2]; exact h6) q1 q3 (by rw [hsl]; exact k2_hasslot (q4 j hj)) rfl rfl hd fin
  · exact va_WputK F.2.1 F.2.2.1 (f := f) F.2.2.2.2.2.2.1 (cx_nf F.1 hW hlk) hi hst (by rw [q2]; exact h6) q1 q3 (by rw [hsl]; exact k2_hasslot (q4 j hj)) rfl rfl hd fin
/-- a final field, in its constructor -/
theorem gc_putF {index k ci j : Nat} {C : String} {T : u_T} {Nf : Nat} {fs : List Value} {v : Value} {ty : FieldType} (hd : decode M.2.1 pc = .ok (.putfield index, 3)) (hlk : Cond.fieldLink M.1.cls index (T j).1 (T j).2.1 (T j).2.2.1 ∈ lw_tbl) (hN : k < N) (he : ce k = .inr (ci, fs)) (hc : vwCl[ci]? = some (C, T, Nf)) (hj : j < Nf) (hfin : (T j).2.2.2 = true) (hin : M.1.name = "<init>") (hdecl : (T j).1 = M.1.cls) (hp : parseFieldDescriptor (T j).2.2.1 = some ty) (hn : narrow ty v = v) (hfit : fits ty v = true) (hl9 : j < fs.length) (kt : GoC X d mc ms M (pc + 3) lc st cn sn (ceU ce k (.inr (ci, fs.set j v))) N Q) : GoC X d mc ms M pc lc (v :: .ref (cx_n X + k) :: st) cn sn ce N Q := by
  intro p e s m args below meth c H locs ls F hS hH hl
  have hK := F.K
  have hW := F.2.2.2.2.2.2.2.1
  have hts : ∀ w ∈ u_ws C T Nf, w.before args s = true := cx_flds F.1 hW hc
  obtain ⟨tyf, hty, hnm⟩ := cx_tyok hc
  have hap := va_apart (own := M.1.cls) hts (fun _ h => h) tyf hty hnm hK hc
  have hat := hH.2 k hN
  rw [he] at hat
  obtain ⟨r, h1, cell, q1, q2, q3, q4⟩ := hat
  have hr : r = (C, T, Nf) := Option.some.inj (h1.symm.trans hc)
  subst hr
  obtain ⟨hSl, hfc, kC, hkC, hkind⟩ := hK.1 ci _ hc
  obtain ⟨cf, kf, fi, f, hi, hsl⟩ := hSl j hj
  have hlay := hts _ (u_in_lay hj)
  unfold u_lay at hlay
  rw [if_pos hfin] at hlay
  have hst := (u_facts hfc hkC (u_lays hts (fun _ h => h) hj) hi).1
  have hcf : m.cls = cf := by
    obtain ⟨_, _, c', _, _, _, -, -, hf', -, -, -, hown2, -⟩ := Cond.laysFinal_spec hlay
    have e1 : c' = cf := by have := hi.symm.trans hf'; simp at this; exact this.1.symm
    rw [hdecl] at hown2
    rw [← e1]; exact Option.some.inj (F.2.2.2.2.2.2.1.symm.trans hown2)
  have h6 := u_fits hfc hkC hkind (Or.inr hlay) hi hp hn hfit
  refine W.putFinK F.2.1 F.2.2.1 (own := M.1.cls) (ref := (T j).1) (name := (T j).2.1) (desc := (T j).2.2.1) (index := index) F.2.2.2.2.2.2.1 (cx_w F.1 hW hlk rfl) hi hst hcf (F.2.2.2.2.2.2.2.2.2.trans hin) (by rw [q2]; exact h6) q1 q3 (by rw [hsl]; exact k2_hasslot (q4 j hj)) rfl rfl hd fun H' e1 e2 e3 => ?_
  rw [hsl] at e1 ⊢
  have hcell : va_at (cx_D X) vwCl (cx_n X + k, .inr (ci, fs.set j v)) H' := ⟨_, hc, t_OB.to (V := updV (vp_V fs) j v) ⟨_, e1, q2, q3, t_set q4 hap hj v⟩ (fun i _ => vp_updV_set hl9 v i)⟩
  exact kt p e s m args below meth c H' _ ls F (hS.put e2 e3 (Nat.le_add_right _ _)) (hH.set hcell e2 e3) hl
theorem cx_arr {s : State} (hK : va_K (cx_D X) vwCl (cx_tys X) s) {t : Nat} (ht : t < 8) : ArrOfT s (cx_a X t) (cx_ty t) ∧ va_RA s (cx_a X t) (cx_ty t) := by
  match t, ht with
  | 0, _ => exact hK.2 0 _ rfl
  | 1, _ => exact hK.2 1 _ rfl
  | 2, _ => exact hK.2 2 _ rfl
  | 3, _ => exact hK.2 3 _ rfl
  | 4, _ => exact hK.2 4 _ rfl
  | 5, _ => exact hK.2 5 _ rfl
  | 6, _ => exact hK.2 6 _ rfl
  | 7, _ => exact hK.2 7 _ rfl
  | k + 8, h => omega
theorem ix_in {x : Int32} {i n : Nat} (hx : x = nI i) (hi : i < n) (hn : n ≤ 100000) : ¬ (x < 0 ∨ n ≤ x.toNatClampNeg) ∧ x.toNatClampNeg = i := by
  subst hx
  have h31 : i < 2 ^ 31 := by omega
  refine ⟨nI_in hi (by omega), nI_clamp h31⟩

theorem gc_iald {x : Int32} {k n : Nat} {f : Nat → Int32} (i : Nat) (hd : decode M.2.1 pc = .ok (.iaload, 1)) (hN : k < N) (he : ce k = .inl (cx_a X 0, n, .inl f)) (hx : x = nI i) (hi : i < n) (hn : n ≤ 100000) (kt : GoC X d mc ms M (pc + 1) lc (.int (f i) :: st) cn sn ce N Q) : GoC X d mc ms M pc lc (.int x :: .ref (cx_n X + k) :: st) cn sn ce N Q := by
  intro p e s m args below meth c H locs ls F hS hH hl
  have kk := kt p e s m args below meth c H locs ls F hS hH hl
  have hat := hH.2 k hN
  rw [he] at hat
  obtain ⟨h1, h2⟩ := ix_in hx hi hn
  exact W.iald (v := .int (f i)) F.2.1 F.2.2.1 hat ((cx_arr F.K (t := 0) (by decide)).1 n (fun j => .int (f j))) (fun q => by cases q) (by show ¬ (x < 0 ∨ (arrV _ _ _).slots.size ≤ _); rw [arrV_size]; exact h1) (by show (arrV _ _ _).slots[_]? = _; rw [h2, arrV_read _ _ hi]) rfl rfl hd kk
theorem gc_bald {x : Int32} {k n : Nat} {f : Nat → Int32} (i : Nat) (hd : decode M.2.1 pc = .ok (.baload, 1)) (hN : k < N) (he : ce k = .inl (cx_a X 1, n, .inl f)) (hx : x = nI i) (hi : i < n) (hn : n ≤ 100000) (kt : GoC X d mc ms M (pc + 1) lc (.int (f i) :: st) cn sn ce N Q) : GoC X d mc ms M pc lc (.int x :: .ref (cx_n X + k) :: st) cn sn ce N Q := by
  intro p e s m args below meth c H locs ls F hS hH hl
  have kk := kt p e s m args below meth c H locs ls F hS hH hl
  have hat := hH.2 k hN
  rw [he] at hat
  obtain ⟨h1, h2⟩ := ix_in hx hi hn
  exact W.bald (v := .int (f i)) F.2.1 F.2.2.1 hat ((cx_arr F.K (t := 1) (by decide)).1 n (fun j => .int (f j))) (fun q => by cases q) (by show ¬ (x < 0 ∨ (arrV _ _ _).slots.size ≤ _); rw [arrV_size]; exact h1) (by show (arrV _ _ _).slots[_]? = _; rw [h2, arrV_read _ _ hi]) rfl rfl hd kk
theorem gc_cald {x : Int32} {k n : Nat} {f : Nat → Int32} (i : Nat) (hd : decode M.2.1 pc = .ok (.caload, 1)) (hN : k < N) (he : ce k = .inl (cx_a X 2, n, .inl f)) (hx : x = nI i) (hi : i < n) (hn : n ≤ 100000) (kt : GoC X d mc ms M (pc + 1) lc (.int (f i) :: st) cn sn ce N Q) : GoC X d mc ms M pc lc (.int x :: .ref (cx_n X + k) :: st) cn sn ce N Q := by
  intro p e s m args below meth c H locs ls F hS hH hl
  have kk := kt p e s m args below meth c H locs ls F hS hH hl
  have hat := hH.2 k hN
  rw [he] at hat
  obtain ⟨h1, h2⟩ := ix_in hx hi hn
  exact W.cald (v := .int (f i)) F.2.1 F.2.2.1 hat ((cx_arr F.K (t := 2) (by decide)).1 n (fun j => .int (f j))) (fun q => by cases q) (by show ¬ (x < 0 ∨ (arrV _ _ _).slots.size ≤ _); rw [arrV_size]; exact h1) (by show (arrV _ _ _).slots[_]? = _; rw [h2, arrV_read _ _ hi]) rfl rfl hd kk
theorem gc_zald {x : Int32} {k n : Nat} {f : Nat → Int32} (i : Nat) (hd : decode M.2.1 pc = .ok (.baload, 1)) (hN : k < N) (he : ce k = .inl (cx_a X 3, n, .inl f)) (hx : x = nI i) (hi : i < n) (hn : n ≤ 100000) (kt : GoC X d mc ms M (pc + 1) lc (.int (f i) :: st) cn sn ce N Q) : GoC X d mc ms M pc lc (.int x :: .ref (cx_n X + k) :: st) cn sn ce N Q := by
  intro p e s m args below meth c H locs ls F hS hH hl
  have kk := kt p e s m args below meth c H locs ls F hS hH hl
  have hat := hH.2 k hN
  rw [he] at hat
  obtain ⟨h1, h2⟩ := ix_in hx hi hn
  exact W.zald (v := .int (f i)) F.2.1 F.2.2.1 hat ((cx_arr F.K (t := 3) (by decide)).1 n (fun j => .int (f j))) (fun q => by cases q) (by show ¬ (x < 0 ∨ (arrV _ _ _).slots.size ≤ _); rw [arrV_size]; exact h1) (by show (arrV _ _ _).slots[_]? = _; rw [h2, arrV_read _ _ hi]) rfl rfl hd kk
theorem gc_iast {x v : Int32} {k n : Nat} {f : Nat → Int32} (i : Nat) (hd : decode M.2.1 pc = .ok (.iastore, 1)) (hN : k < N) (he : ce k = .inl (cx_a X 0, n, .inl f)) (hx : x = nI i) (hi : i < n) (hn : n ≤ 100000) (kt : GoC X d mc ms M (pc + 1) lc st cn sn (ceU ce k (.inl (cx_a X 0, n, .inl (upd f i v)))) N Q) : GoC X d mc ms M pc lc (.int v :: .int x :: .ref (cx_n X + k) :: st) cn sn ce N Q := by
  intro p e s m args below meth c H locs ls F hS hH hl
  have hat := hH.2 k hN
  rw [he] at hat
  obtain ⟨h1, h2⟩ := ix_in hx hi hn
  refine W.iast F.2.1 F.2.2.1 hat ((cx_arr F.K (t := 0) (by decide)).1 n (fun j => .int (f j))) (fun q => by cases q) (by show ¬ (x < 0 ∨ (arrV _ _ _).slots.size ≤ _); rw [arrV_size]; exact h1) rfl rfl hd fun H1 e1 z oq => ?_
  rw [h2] at e1
  have hcell : va_at (cx_D X) vwCl (cx_n X + k, .inl (cx_a X 0, n, .inl (upd f i v))) H1 := by
    show H1[cx_n X + k]? = some (vp_cell _ _)
    rw [e1]
    rw [vp_cell_i, vp_cell_i, arrV_store]
    congr 2
    funext q
    by_cases hq : q = i
    · subst hq
      simp [updV, upd]
    · simp [updV, upd, hq]
  exact kt p e s m args below meth c H1 _ ls F (hS.put z oq (Nat.le_add_right _ _)) (hH.set hcell z oq) hl
theorem gc_bast {x v : Int32} {k n : Nat} {f : Nat → Int32} (i : Nat) (hd : decode M.2.1 pc = .ok (.bastore, 1)) (hN : k < N) (he : ce k = .inl (cx_a X 1, n, .inl f)) (hx : x = nI i) (hi : i < n) (hn : n ≤ 100000) (hnr : narrow .byte (.int v) = .int v) (kt : GoC X d mc ms M (pc + 1) lc st cn sn (ceU ce k (.inl (cx_a X 1, n, .inl (upd f i v)))) N Q) : GoC X d mc ms M pc lc (.int v :: .int x :: .ref (cx_n X + k) :: st) cn sn ce N Q := by
  intro p e s m args below meth c H locs ls F hS hH hl
  have hat := hH.2 k hN
  rw [he] at hat
  obtain ⟨h1, h2⟩ := ix_in hx hi hn
  refine W.bast F.2.1 F.2.2.1 hat ((cx_arr F.K (t := 1) (by decide)).1 n (fun j => .int (f j))) (fun q => by cases q) (by show ¬ (x < 0 ∨ (arrV _ _ _).slots.size ≤ _); rw [arrV_size]; exact h1) rfl rfl hd fun H1 e1 z oq => ?_
  rw [hnr] at e1
  rw [h2] at e1
  have hcell : va_at (cx_D X) vwCl (cx_n X + k, .inl (cx_a X 1, n, .inl (upd f i v))) H1 := by
    show H1[cx_n X + k]? = some (vp_cell _ _)
    rw [e1]
    rw [vp_cell_i, vp_cell_i, arrV_store]
    congr 2
    funext q
    by_cases hq : q = i
    · subst hq
      simp [updV, upd]
    · simp [updV, upd, hq]
  exact kt p e s m args below meth c H1 _ ls F (hS.put z oq (Nat.le_add_right _ _)) (hH.set hcell z oq) hl
theorem gc_cast {x v : Int32} {k n : Nat} {f : Nat → Int32} (i : Nat) (hd : decode M.2.1 pc = .ok (.castore, 1)) (hN : k < N) (he : ce k = .inl (cx_a X 2, n, .inl f)) (hx : x = nI i) (hi : i < n) (hn : n ≤ 100000) (hnr : narrow .char (.int v) = .int v) (kt : GoC X d mc ms M (pc + 1) lc st cn sn (ceU ce k (.inl (cx_a X 2, n, .inl (upd f i v)))) N Q) : GoC X d mc ms M pc lc (.int v :: .int x :: .ref (cx_n X + k) :: st) cn sn ce N Q := by
  intro p e s m args below meth c H locs ls F hS hH hl
  have hat := hH.2 k hN
  rw [he] at hat
  obtain ⟨h1, h2⟩ := ix_in hx hi hn
  refine W.cast F.2.1 F.2.2.1 hat ((cx_arr F.K (t := 2) (by decide)).1 n (fun j => .int (f j))) (fun q => by cases q) (by show ¬ (x < 0 ∨ (arrV _ _ _).slots.size ≤ _); rw [arrV_size]; exact h1) rfl rfl hd fun H1 e1 z oq => ?_
  rw [hnr] at e1
  rw [h2] at e1
  have hcell : va_at (cx_D X) vwCl (cx_n X + k, .inl (cx_a X 2, n, .inl (upd f i v))) H1 := by
    show H1[cx_n X + k]? = some (vp_cell _ _)
    rw [e1]
    rw [vp_cell_i, vp_cell_i, arrV_store]
    congr 2
    funext q
    by_cases hq : q = i
    · subst hq
      simp [updV, upd]
    · simp [updV, upd, hq]
  exact kt p e s m args below meth c H1 _ ls F (hS.put z oq (Nat.le_add_right _ _)) (hH.set hcell z oq) hl
theorem gc_zast {x v : Int32} {k n : Nat} {f : Nat → Int32} (i : Nat) (hd : decode M.2.1 pc = .ok (.bastore, 1)) (hN : k < N) (he : ce k = .inl (cx_a X 3, n, .inl f)) (hx : x = nI i) (hi : i < n) (hn : n ≤ 100000) (hnr : narrow .boolean (.int v) = .int v) (kt : GoC X d mc ms M (pc + 1) lc st cn sn (ceU ce k (.inl (cx_a X 3, n, .inl (upd f i v)))) N Q) : GoC X d mc ms M pc lc (.int v :: .int x :: .ref (cx_n X + k) :: st) cn sn ce N Q := by
  intro p e s m args below meth c H locs ls F hS hH hl
  have hat := hH.2 k hN
  rw [he] at hat
  obtain ⟨h1, h2⟩ := ix_in hx hi hn
  refine W.zast F.2.1 F.2.2.1 hat ((cx_arr F.K (t := 3) (by decide)).1 n (fun j => .int (f j))) (fun q => by cases q) (by show ¬ (x < 0 ∨ (arrV _ _ _).slots.size ≤ _); rw [arrV_size]; exact h1) rfl rfl hd fun H1 e1 z oq => ?_
  rw [hnr] at e1
  rw [h2] at e1
  have hcell : va_at (cx_D X) vwCl (cx_n X + k, .inl (cx_a X 3, n, .inl (upd f i v))) H1 := by
    show H1[cx_n X + k]? = some (vp_cell _ _)
    rw [e1]
    rw [vp_cell_i, vp_cell_i, arrV_store]
    congr 2
    funext q
    by_cases hq : q = i
    · subst hq
      simp [updV, upd]
    · simp [updV, upd, hq]
  exact kt p e s m args below meth c H1 _ ls F (hS.put z oq (Nat.le_add_right _ _)) (hH.set hcell z oq) hl
theorem gc_alen {k t n : Nat} {f : Nat → Int32} (ht : t < 4) (hd : decode M.2.1 pc = .ok (.arraylength, 1)) (hN : k < N) (he : ce k = .inl (cx_a X t, n, .inl f)) (kt : GoC X d mc ms M (pc + 1) lc (.int (nI n) :: st) cn sn ce N Q) : GoC X d mc ms M pc lc (.ref (cx_n X + k) :: st) cn sn ce N Q := by
  intro p e s m args below meth c H locs ls F hS hH hl
  have kk := kt p e s m args below meth c H locs ls F hS hH hl
  have hat := hH.2 k hN
  rw [he] at hat
  exact W.alen (n := nI n) F.2.1 F.2.2.1 hat ((cx_arr F.K (t := t) (by omega)).1 n (fun j => .int (f j))) (by rw [vp_cell_i, arrV_size] <;> rfl) rfl rfl hd kk
theorem gc_aald {x : Int32} {k n t : Nat} {f : Nat → Option Nat} {C : String} (i : Nat) (ht : t < 8) (hty : cx_ty t = .object C) (hd : decode M.2.1 pc = .ok (.aaload, 1)) (hN : k < N) (he : ce k = .inl (cx_a X t, n, .inr (.inr (.inr (.inr f))))) (hx : x = nI i) (hi : i < n) (hn : n ≤ 100000) (kt : GoC X d mc ms M (pc + 1) lc (va_rf (f i) :: st) cn sn ce N Q) : GoC X d mc ms M pc lc (.int x :: .ref (cx_n X + k) :: st) cn sn ce N Q := by
  intro p e s m args below meth c H locs ls F hS hH hl
  have kk := kt p e s m args below meth c H locs ls F hS hH hl
  have hat := hH.2 k hN
  rw [he] at hat
  obtain ⟨h1, h2⟩ := ix_in hx hi hn
  have hA := (cx_arr F.K (t := t) ht).1
  rw [hty] at hA
  exact W.aald (v := va_rf (f i)) (ty := .object C) F.2.1 F.2.2.1 hat (hA n (fun j => va_rf (f j))) rfl (fun q => by cases q) (by show ¬ (x < 0 ∨ (arrV _ _ _).slots.size ≤ _); rw [arrV_size]; exact h1) (by show (arrV _ _ _).slots[_]? = _; rw [h2, arrV_read _ _ hi]) rfl rfl hd kk
/-- a reference to the object k2 of the row's own class is stored -/
theorem gc_aast {x : Int32} {k k2 n t ci : Nat} {f : Nat → Option Nat} {r : vw_C} {vs : List Value} (i : Nat) (ht : t < 8) (hty : cx_ty t = .object r.1) (hd : decode M.2.1 pc = .ok (.aastore, 1)) (hN : k < N) (he : ce k = .inl (cx_a X t, n, .inr (.inr (.inr (.inr f))))) (hN2 : k2 < N) (he2 : ce k2 = .inr (ci, vs)) (hc : vwCl[ci]? = some r) (hx : x = nI i) (hi : i < n) (hn : n ≤ 100000) (kt : GoC X d mc ms M (pc + 1) lc st cn sn (ceU ce k (.inl (cx_a X t, n, .inr (.inr (.inr (.inr (va_up f i (some (cx_n X + k2))))))))) N Q) : GoC X d mc ms M pc lc (.ref (cx_n X + k2) :: .int x :: .ref (cx_n X + k) :: st) cn sn ce N Q := by
  intro p e s m args below meth c H locs ls F hS hH hl
  have hat := hH.2 k hN
  rw [he] at hat
  have hat2 := hH.2 k2 hN2
  rw [he2] at hat2
  obtain ⟨h1, h2⟩ := ix_in hx hi hn
  have hK := F.K
  obtain ⟨r', hr', cellV, g1, g2, g3, -⟩ := hat2
  have hcls := (hK.1 ci r hc).2
  have hA := (cx_arr hK (t := t) ht).2
  rw [hty] at hA
  obtain ⟨kA, comp, k1, k2', k3, -⟩ := hA
  have hcomp : comp = (cx_D X).1 ci := Option.some.inj (k3.symm.trans hcls.1)
  subst hcomp
  obtain ⟨kC, hkC, -⟩ := hcls.2
  refine W.aast F.2.1 F.2.2.1 hat (fun q h => by cases h) (fun h => by cases h) k1 k2' rfl hkC ⟨fun h => h1 (Or.inl h), by show _ < (arrV _ _ _).slots.size; rw [arrV_size, h2]; exact hi⟩ g1 (fun q h => by rw [g3] at h; cases h) (by rw [g2]; exact hkC) (by rw [g2]; exact va_assign hcls) rfl rfl hd fun H1 e1 z oq => ?_
  rw [h2] at e1
  have hcell : va_at (cx_D X) vwCl (cx_n X + k, .inl (cx_a X t, n, .inr (.inr (.inr (.inr (va_up f i (some (cx_n X + k2)))))))) H1 := by
    show H1[cx_n X + k]? = some (vp_cell _ _)
    rw [e1]
    rw [vp_cell_q, vp_cell_q, arrV_store]
    congr 2
    funext q
    by_cases hq : q = i
    · subst hq
      simp [updV, va_up, va_rf]
    · simp [updV, va_up, hq]
  exact kt p e s m args below meth c H1 _ ls F (hS.put z oq (Nat.le_add_right _ _)) (hH.set hcell z oq) hl
/-- a static row is named -/
theorem gc_gets {index : Nat} (i : Nat) (hi : i < 5) (hd : decode M.2.1 pc = .ok (.getstatic index, 3)) (hlk : Cond.fieldLink M.1.cls index (st_C i) (st_N i) "[I" ∈ lw_tbl ∨ ∃ h : String, Cond.fieldLinkNest M.1.cls index (st_C i) (st_N i) "[I" h ∈ lw_tbl) (kt : GoC X d mc ms M (pc + 3) lc (.ref (cx_k X i) :: st) cn sn ce N Q) : GoC X d mc ms M pc lc st cn sn ce N Q := by
  intro p e s m args below meth c H locs ls F hS hH hl
  have kk := kt p e s m args below meth c H locs ls F hS hH hl
  have hW := F.2.2.2.2.2.2.2.1
  have hB := F.2.2.2.2.2.2.2.2.1
  have hZ : va_Z (st_C i) (st_N i) "[I" (.ref (cx_k X i)) (cx_A X) s s.heap := va_Z.moved hW.alike ((F.1.2.2.1 i hi).1.kept hB.2.1)
  rcases hlk with hlk | ⟨h, hlk⟩
  · exact va_gets F.2.1 F.2.2.1 hZ hS F.2.2.2.2.2.2.1 (cx_w F.1 hW hlk rfl) (fun _ h => h) hd kk
  · exact va_getsN F.2.1 F.2.2.1 hZ hS F.2.2.2.2.2.2.1 (cx_nf F.1 hW hlk) (fun _ h => h) hd kk
/-- a place of a static row is read -/
theorem gc_sald {x : Int32} (i j : Nat) (hi : i < 5) (hd : decode M.2.1 pc = .ok (.iaload, 1)) (hx : x = nI j) (hj : j < st_L i) (kt : GoC X d mc ms M (pc + 1) lc (.int ((st_F i).getD j 0) :: st) cn sn ce N Q) : GoC X d mc ms M pc lc (.int x :: .ref (cx_k X i) :: st) cn sn ce N Q := by
  intro p e s m args below meth c H locs ls F hS hH hl
  have kk := kt p e s m args below meth c H locs ls F hS hH hl
  have hW := F.2.2.2.2.2.2.2.1
  have hB := F.2.2.2.2.2.2.2.2.1
  obtain ⟨-, hX, hlt⟩ := F.1.2.2.1 i hi
  have hlt2 : cx_k X i < s.heap.size := Nat.lt_of_lt_of_le hlt hB.1
  have hX2 : va_X (cx_k X i) (st_L i) (fun j => (st_F i).getD j 0) s s.heap := va_X.moved hW.alike (hX.kept (hB.2.1 _ hlt (Nat.not_le.mpr hlt)))
  have hb : st_L i ≤ 9 := by unfold st_L; split <;> omega
  obtain ⟨h1, h2⟩ := ix_in hx hj (by omega)
  have kk2 : W p (cx_l X) e (rmX d mc ms) s m args below meth c H locs cn sn (MQ below (QcX X Q) args s mc ms (cx_A X)) (F0 m (pc + 1) ls (.int ((fun j => (st_F i).getD j 0) x.toNatClampNeg) :: st)) := by rw [h2]; exact kk
  exact va_sld F.2.1 F.2.2.1 hX2 hlt2 (Nat.not_le.mpr hlt) hS h1 hd kk2
-- ends
theorem gc_iret {v : Int32} (hd : decode M.2.1 pc = .ok (.ireturn, 1)) (hr : M.2.2.2 = some .int) (h1 : cn ≤ mc) (h2 : sn ≤ ms) (hq : Q (some (.int v)) ce N) : GoC X d mc ms M pc lc [.int v] cn sn ce N Q := by
  intro p e s m args below meth c H locs ls F hS hH hl
  have hlocks := F.2.2.2.2.1
  exact W.widen h1 h2 (W.iret F.2.1 F.2.2.1 (F.2.2.2.1.trans hr) (fun t ht hW => ⟨⟨_, ce, N, rfl, hq, by rw [ht]; exact hH⟩, hS.F ht⟩) hS.2.2 hd hlocks)
theorem gc_zret {v : Int32} {ty : FieldType} (hd : decode M.2.1 pc = .ok (.ireturn, 1)) (hr : M.2.2.2 = some ty) (hn : narrow ty (.int v) = .int v) (h1 : cn ≤ mc) (h2 : sn ≤ ms) (hq : Q (some (.int v)) ce N) : GoC X d mc ms M pc lc [.int v] cn sn ce N Q := by
  intro p e s m args below meth c H locs ls F hS hH hl
  have hlocks := F.2.2.2.2.1
  exact W.widen h1 h2 (W.zret F.2.1 F.2.2.1 (F.2.2.2.1.trans hr) hn (fun t ht hW => ⟨⟨_, ce, N, rfl, hq, by rw [ht]; exact hH⟩, hS.F ht⟩) hS.2.2 hd hlocks)
theorem gc_vret (hd : decode M.2.1 pc = .ok (.return_, 1)) (hr : M.2.2.2 = none) (h1 : cn ≤ mc) (h2 : sn ≤ ms) (hq : Q none ce N) : GoC X d mc ms M pc lc [] cn sn ce N Q := by
  intro p e s m args below meth c H locs ls F hS hH hl
  have hlocks := F.2.2.2.2.1
  exact W.widen h1 h2 (W.vret F.2.1 F.2.2.1 (F.2.2.2.1.trans hr) (fun t ht hW => ⟨⟨_, ce, N, rfl, hq, by rw [ht]; exact hH⟩, hS.F ht⟩) hS.2.2 hd hlocks)
theorem gc_aret {v : Value} {rt : FieldType} (hd : decode M.2.1 pc = .ok (.areturn, 1)) (hr : M.2.2.2 = some rt) (hrt : (∃ n, rt = .object n) ∨ ∃ t, rt = .array t) (hv : v = .null ∨ ∃ a, v = .ref a) (h1 : cn ≤ mc) (h2 : sn ≤ ms) (hq : Q (some v) ce N) : GoC X d mc ms M pc lc [v] cn sn ce N Q := by
  intro p e s m args below meth c H locs ls F hS hH hl
  have hlocks := F.2.2.2.2.1
  exact W.widen h1 h2 (W.aret F.2.1 F.2.2.1 (F.2.2.2.1.trans hr) hrt hv (fun t ht hW => ⟨⟨_, ce, N, rfl, hq, by rw [ht]; exact hH⟩, hS.F ht⟩) hS.2.2 hd hlocks)
-- calls
theorem PcX.blind {av : List Value} : FrameBlind (PcX X av ce N) := fun a U g mk q => q
theorem PcX.pre {s : State} {H : Heap} {locs : List Loc} {av : List Value} (hW0 : (cx_s X).WarmedH s.vm) (hB : va_S (cx_A X) (cx_s X).heap s.heap []) (hS : va_S (cx_A X) s.heap H locs) (hH : HRc X ce N H) : ∀ U : State, U.heap = H → s.WarmedH U.vm → PcX X av ce N av.toArray U := by
  intro U hU hW
  refine ⟨rfl, State.WarmedH.trans hW0 hW, ?_, by rw [hU]; exact hH⟩
  rw [hU]
  exact ⟨Nat.le_trans hB.1 hS.1, fun q h1 h2 => (hS.2.1 q (Nat.lt_of_lt_of_le h1 hB.1) h2).trans (hB.2.1 q h1 h2), fun _ h => by cases h⟩
theorem gc_run {p : Program} {e : Env} {s : State} {m : MethodId} {args a : Array Value} {below : List Frame} {meth : Method} {c : Code} {H : Heap} {locs : List Loc} {ls : Array Slot} {mc' ms' : Nat} {rest : List Value} {Q' : Option Value → (Nat → va_E) → Nat → Prop} (F : FX X M p s m meth c) (hS : va_S (cx_A X) s.heap H locs) (hl : lh ls M.2.2.1 lc)
    (hr : va_Run p (cx_l X) e (rmX d mc ms) s m args below meth c H locs cn sn mc' ms' (F0 m pc ls st) rest (QcX X Q' a) (cx_A X))
    (kt : ∀ (r : Option Value) (ce' : Nat → va_E) (N' : Nat), Q' r ce' N' → GoC X d mc ms M (pc + 3) lc (r.toList ++ rest) (cn + mc') (sn + ms') ce' N' Q) :
    W p (cx_l X) e (rmX d mc ms) s m args below meth c H locs cn sn (MQ below (QcX X Q) args s mc ms (cx_A X)) (F0 m pc ls st) := by
  intro T hT Y
  obtain ⟨v, st₀, t, T', L, h0, Y', hL, e1, e2, ⟨⟨r, ce', N', hv, hq, hH'⟩, hz, hk⟩, stp⟩ := hr T hT Y
  cases hv
  rw [h0] at hz hk
  have kk := kt v ce' N' hq p e s m args below meth c T'.heap (locs ++ L) ls F
    ⟨Nat.le_trans hS.1 (by rw [e1]; exact hz), fun q h1 h2 => by rw [e1, hk q (Nat.lt_of_lt_of_le h1 hS.1) h2]; exact hS.2.1 q h1 h2, fun q hq => by
      rcases List.mem_append.mp hq with h | h
      · exact hS.2.2 q h
      · exact hL q h⟩ (by rw [e1]; exact hH') hl
  obtain ⟨t2, a1, b1⟩ := kk T' rfl Y'
  exact ⟨t2, stp t2 a1, b1⟩
theorem OkM.cb {y : MT} {n : Nat} (h : OkM y n) {s : State} {args : Array Value} {own : String} {index d' mc' ms' : Nat} (ok : cx_ok X) (hW : (cx_s X).WarmedH s.vm) (hl : Cond.methodLink own index y.1 ∈ lw_tbl) (hd : d' + 1 ≤ d) : CallB (rmX d mc ms) s args own index y.1 y.2.1 y.2.2.1 y.2.2.2 [Cond.code y.1 y.2.1 y.2.2.1 y.2.2.2] (rmX d' mc' ms') mc' ms' n := by
  obtain ⟨h1, h2, h3, h4, h5, h6⟩ := h
  refine ⟨rfl, rfl, hd, ?_, fun w hw a' U hU => ?_, List.mem_singleton.mpr rfl, cx_w ok hW h1 rfl, cx_w ok hW h2 rfl, ⟨h3, h4⟩, fun sig hs => ?_, cx_w ok hW hl rfl⟩
  · show 8 + (y.2.2.1 + 11) + 40 * d' ≤ 40 * d
    omega
  · rw [List.mem_singleton.mp hw]
    exact cx_w ok (State.WarmedH.trans hW hU) h1 rfl
  · rw [hs] at h5
    exact (Option.some.inj h5).symm
theorem OkM.nest {y : MT} {n : Nat} (h : OkM y n) {s : State} {args : Array Value} {own host : String} {index d' mc' ms' : Nat} (ok : cx_ok X) (hW : (cx_s X).WarmedH s.vm) (hl : Cond.methodLinkNest own index y.1 host ∈ lw_tbl) (hd : d' + 1 ≤ d) : va_CN (rmX d mc ms) s args own index y.1 host y.2.1 y.2.2.1 y.2.2.2 [Cond.code y.1 y.2.1 y.2.2.1 y.2.2.2] (rmX d' mc' ms') mc' ms' n := by
  obtain ⟨h1, h2, h3, h4, h5, h6⟩ := h
  refine ⟨⟨rfl, rfl, hd, ?_, fun w hw a' U hU => ?_, List.mem_singleton.mpr rfl⟩, cx_w ok hW h1 rfl, cx_w ok hW h2 rfl, ⟨h3, h4⟩, fun sig hs => ?_, va_Nw.use rfl (cx_nm ok hW hl)⟩
  · show 8 + (y.2.2.1 + 11) + 40 * d' ≤ 40 * d
    omega
  · rw [List.mem_singleton.mp hw]
    exact cx_w ok (State.WarmedH.trans hW hU) h1 rfl
  · rw [hs] at h5
    exact (Option.some.inj h5).symm
theorem gc_callS {index d' mc' ms' : Nat} {y : MT} {As rest : List Value} {Q' : Option Value → (Nat → va_E) → Nat → Prop} (hd : decode M.2.1 pc = .ok (.invokestatic index, 3)) (hlk : LkM M.1.cls index y.1) (hok : OkS y As.length) (hdd : d' + 1 ≤ d) (hm : cn + mc' ≤ mc) (hs : sn + ms' ≤ ms) (hst : st = As.reverse ++ rest) (hcat : (rest.map fun v => v.category).sum ≤ 8) (hc : CallsC X d' mc' ms' y As ce N Q')
    (kt : ∀ (r : Option Value) (ce' : Nat → va_E) (N' : Nat), Q' r ce' N' → GoC X d mc ms M (pc + 3) lc (r.toList ++ rest) (cn + mc') (sn + ms') ce' N' Q) : GoC X d mc ms M pc lc st cn sn ce N Q := by
  intro p e s m args below meth c H locs ls F hS hH hl
  have hW := F.2.2.2.2.2.2.2.1
  have hfix : CallFix p m c M.2.1 M.2.2.1 s args [] M.1.cls := ⟨F.2.1, F.2.2.1, F.2.2.2.2.2.1, F.2.2.2.2.2.2.1, fun w h => by cases h⟩
  have hpre : PreS s H (PcX X As ce N) As := ⟨PcX.blind, PcX.pre hW F.2.2.2.2.2.2.2.2.1 hS hH⟩
  rcases hlk with hlk | ⟨h, hlk⟩
  · exact gc_run F hS hl (va_runS hfix (hc F.1) ⟨hok.1.cb F.1 hW hlk hdd, cx_w F.1 hW hok.2 rfl⟩ hpre rfl rfl hl.1 hst (lv_room (ls := ls) (m := m) (pc := pc) (rest := st) hcat) hd ⟨hm, hs⟩) kt
  · exact gc_run F hS hl (va_runSN hfix (hc F.1) ⟨hok.1.nest F.1 hW hlk hdd, cx_w F.1 hW hok.2 rfl, trivial⟩ hpre rfl rfl hl.1 hst (lv_room (ls := ls) (m := m) (pc := pc) (rest := st) hcat) hd ⟨hm, hs⟩) kt
theorem gc_callV {index d' mc' ms' k ci : Nat} {y : MT} {As rest : List Value} {r0 : vw_C} {fs : List Value} {Q' : Option Value → (Nat → va_E) → Nat → Prop} (hd : decode M.2.1 pc = .ok (.invokevirtual index, 3)) (hlk : LkM M.1.cls index y.1) (hok : OkV y As.length) (hdd : d' + 1 ≤ d) (hm : cn + mc' ≤ mc) (hs : sn + ms' ≤ ms) (hN : k < N) (he : ce k = .inr (ci, fs)) (hcl : vwCl[ci]? = some r0) (hr0 : r0.1 = y.1.cls) (hst : st = As.reverse ++ .ref (cx_n X + k) :: rest) (hcat : (rest.map fun v => v.category).sum ≤ 8) (hc : CallsC X d' mc' ms' y (.ref (cx_n X + k) :: As) ce N Q')
    (kt : ∀ (r : Option Value) (ce' : Nat → va_E) (N' : Nat), Q' r ce' N' → GoC X d mc ms M (pc + 3) lc (r.toList ++ rest) (cn + mc') (sn + ms') ce' N' Q) : GoC X d mc ms M pc lc st cn sn ce N Q := by
  intro p e s m args below meth c H locs ls F hS hH hl
  have hW := F.2.2.2.2.2.2.2.1
  have hfix : CallFix p m c M.2.1 M.2.2.1 s args [] M.1.cls := ⟨F.2.1, F.2.2.1, F.2.2.2.2.2.1, F.2.2.2.2.2.2.1, fun w h => by cases h⟩
  have hat := hH.2 k hN
  rw [he] at hat
  obtain ⟨q', h1, cell, g1, g2, g3, -⟩ := hat
  have hpre : PreV s H y.1.cls (cx_n X + k) (PcX X (.ref (cx_n X + k) :: As) ce N) As := ⟨PcX.blind, ⟨cell, g1, by rw [g3]; rfl, by rw [g2, ← hr0]; exact (F.K.1 ci r0 hcl).2.1⟩, PcX.pre hW F.2.2.2.2.2.2.2.2.1 hS hH⟩
  rcases hlk with hlk | ⟨h, hlk⟩
  · exact gc_run F hS hl (va_runV hfix (hc F.1) ⟨hok.1.cb F.1 hW hlk hdd, cx_w F.1 hW hok.2.1 rfl, cx_w F.1 hW hok.2.2 rfl⟩ hpre rfl rfl hl.1 hst (lv_room (ls := ls) (m := m) (pc := pc) (rest := st) hcat) hd ⟨hm, hs⟩) kt
  · exact gc_run F hS hl (va_runVN hfix (hc F.1) ⟨hok.1.nest F.1 hW hlk hdd, cx_w F.1 hW hok.2.1 rfl, cx_w F.1 hW hok.2.2 rfl⟩ hpre rfl rfl hl.1 hst (lv_room (ls := ls) (m := m) (pc := pc) (rest := st) hcat) hd ⟨hm, hs⟩) kt
theorem gc_callI {index d' mc' ms' a : Nat} {y : MT} {As rest : List Value} {Q' : Option Value → (Nat → va_E) → Nat → Prop} (hd : decode M.2.1 pc = .ok (.invokespecial index, 3)) (hlk : LkM M.1.cls index y.1) (hok : OkI y As.length) (hdd : d' + 1 ≤ d) (hm : cn + mc' ≤ mc) (hs : sn + ms' ≤ ms) (hst : st = As.reverse ++ .ref a :: rest) (hcat : (rest.map fun v => v.category).sum ≤ 8) (hc : CallsC X d' mc' ms' y (.ref a :: As) ce N Q')
    (kt : ∀ (r : Option Value) (ce' : Nat → va_E) (N' : Nat), Q' r ce' N' → GoC X d mc ms M (pc + 3) lc (r.toList ++ rest) (cn + mc') (sn + ms') ce' N' Q) : GoC X d mc ms M pc lc st cn sn ce N Q := by
  intro p e s m args below meth c H locs ls F hS hH hl
  have hW := F.2.2.2.2.2.2.2.1
  have hfix : CallFix p m c M.2.1 M.2.2.1 s args [] M.1.cls := ⟨F.2.1, F.2.2.1, F.2.2.2.2.2.1, F.2.2.2.2.2.2.1, fun w h => by cases h⟩
  have hpre : PreS s H (PcX X (.ref a :: As) ce N) (.ref a :: As) := ⟨PcX.blind, PcX.pre hW F.2.2.2.2.2.2.2.2.1 hS hH⟩
  obtain ⟨y1, y2, y3, y4⟩ := y
  obtain ⟨hokm, hin, hnm, hret⟩ := hok
  cases hret
  rcases hlk with hlk | ⟨h, hlk⟩
  · exact gc_run F hS hl (va_runI hfix (hc F.1) ⟨hokm.cb F.1 hW hlk hdd, hnm, cx_w F.1 hW hin rfl⟩ hpre rfl rfl hl.1 hst (lv_room (ls := ls) (m := m) (pc := pc) (rest := st) hcat) hd ⟨hm, hs⟩) kt
  · exact gc_run F hS hl (va_runIN hfix (hc F.1) ⟨hokm.nest F.1 hW hlk hdd, hnm, cx_w F.1 hW hin rfl⟩ hpre rfl rfl hl.1 hst (lv_room (ls := ls) (m := m) (pc := pc) (rest := st) hcat) hd ⟨hm, hs⟩) kt
end GH
end
