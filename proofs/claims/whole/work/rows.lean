section
-- ===== PART A: goes FIRST, ahead of the names: the tables' words, and 'selects' of the private methods out of them =====
/-- a private method of a class that the tables say can be made, by its rows of tables_1 -/
def lw_okq (q : MethodName × Nat) : Prop := (q.1.cls ≠ "java/lang/invoke/MethodHandle" ∧ q.1.cls ≠ "java/lang/invoke/VarHandle") ∧ Cond.instantiable q.1.cls q.2 ∈ tables_1 ∧ Cond.privateMethod q.1 ∈ tables_1 ∧ Cond.instanceMethod q.1 ∈ tables_1
theorem lw_p0 : lw_okq (⟨"ThirdSheets", "spaceChanged", "()V"⟩, 7) := ⟨⟨by decide +kernel, by decide +kernel⟩, List.mem_of_getElem? (i := 13) (by decide +kernel), List.mem_of_getElem? (i := 246) (by decide +kernel), List.mem_of_getElem? (i := 247) (by decide +kernel)⟩
theorem lw_p1 : lw_okq (⟨"ThirdSheets$Space", "joinCorners", "(I)V"⟩, 7) := ⟨⟨by decide +kernel, by decide +kernel⟩, List.mem_of_getElem? (i := 21) (by decide +kernel), List.mem_of_getElem? (i := 265) (by decide +kernel), List.mem_of_getElem? (i := 266) (by decide +kernel)⟩
theorem lw_p2 : lw_okq (⟨"ThirdSheets$Groups", "rootOf", "(I)I"⟩, 7) := ⟨⟨by decide +kernel, by decide +kernel⟩, List.mem_of_getElem? (i := 27) (by decide +kernel), List.mem_of_getElem? (i := 273) (by decide +kernel), List.mem_of_getElem? (i := 274) (by decide +kernel)⟩
theorem lw_p3 : lw_okq (⟨"ThirdSheets$Space", "joinEdges", "(I)V"⟩, 7) := ⟨⟨by decide +kernel, by decide +kernel⟩, List.mem_of_getElem? (i := 21) (by decide +kernel), List.mem_of_getElem? (i := 280) (by decide +kernel), List.mem_of_getElem? (i := 281) (by decide +kernel)⟩
theorem lw_p4 : lw_okq (⟨"ThirdSheets$Space", "isEvenChange", "(I)Z"⟩, 7) := ⟨⟨by decide +kernel, by decide +kernel⟩, List.mem_of_getElem? (i := 21) (by decide +kernel), List.mem_of_getElem? (i := 290) (by decide +kernel), List.mem_of_getElem? (i := 291) (by decide +kernel)⟩
theorem lw_p5 : lw_okq (⟨"ThirdSheets", "hasSide", "(II)Z"⟩, 7) := ⟨⟨by decide +kernel, by decide +kernel⟩, List.mem_of_getElem? (i := 13) (by decide +kernel), List.mem_of_getElem? (i := 302) (by decide +kernel), List.mem_of_getElem? (i := 303) (by decide +kernel)⟩
theorem lw_p6 : lw_okq (⟨"ThirdSheets", "hasPiece", "(I)Z"⟩, 7) := ⟨⟨by decide +kernel, by decide +kernel⟩, List.mem_of_getElem? (i := 13) (by decide +kernel), List.mem_of_getElem? (i := 306) (by decide +kernel), List.mem_of_getElem? (i := 307) (by decide +kernel)⟩
theorem lw_p7 : lw_okq (⟨"ThirdSheets$Space", "tell", "(IIII)V"⟩, 7) := ⟨⟨by decide +kernel, by decide +kernel⟩, List.mem_of_getElem? (i := 21) (by decide +kernel), List.mem_of_getElem? (i := 321) (by decide +kernel), List.mem_of_getElem? (i := 322) (by decide +kernel)⟩
theorem lw_p8 : lw_okq (⟨"ThirdSheets$Space", "endsAt", "(I)I"⟩, 7) := ⟨⟨by decide +kernel, by decide +kernel⟩, List.mem_of_getElem? (i := 21) (by decide +kernel), List.mem_of_getElem? (i := 366) (by decide +kernel), List.mem_of_getElem? (i := 367) (by decide +kernel)⟩
theorem lw_p9 : lw_okq (⟨"ThirdSheets$Space", "sidesAt", "(I)I"⟩, 7) := ⟨⟨by decide +kernel, by decide +kernel⟩, List.mem_of_getElem? (i := 21) (by decide +kernel), List.mem_of_getElem? (i := 371) (by decide +kernel), List.mem_of_getElem? (i := 372) (by decide +kernel)⟩
theorem lw_p10 : lw_okq (⟨"ThirdSheets$Space", "cornersOf", "(I)I"⟩, 7) := ⟨⟨by decide +kernel, by decide +kernel⟩, List.mem_of_getElem? (i := 21) (by decide +kernel), List.mem_of_getElem? (i := 376) (by decide +kernel), List.mem_of_getElem? (i := 377) (by decide +kernel)⟩
theorem lw_p11 : lw_okq (⟨"ThirdSheets$Loops", "numberPairs", "(LThirdSheets$Space;)V"⟩, 5) := ⟨⟨by decide +kernel, by decide +kernel⟩, List.mem_of_getElem? (i := 115) (by decide +kernel), List.mem_of_getElem? (i := 421) (by decide +kernel), List.mem_of_getElem? (i := 422) (by decide +kernel)⟩
theorem lw_p12 : lw_okq (⟨"ThirdSheets$Loops", "goAround", "(LThirdSheets$Space;I)Z"⟩, 5) := ⟨⟨by decide +kernel, by decide +kernel⟩, List.mem_of_getElem? (i := 115) (by decide +kernel), List.mem_of_getElem? (i := 426) (by decide +kernel), List.mem_of_getElem? (i := 427) (by decide +kernel)⟩
theorem lw_p13 : lw_okq (⟨"ThirdSheets$Loops", "makeDiagonal", "(I)Z"⟩, 5) := ⟨⟨by decide +kernel, by decide +kernel⟩, List.mem_of_getElem? (i := 115) (by decide +kernel), List.mem_of_getElem? (i := 439) (by decide +kernel), List.mem_of_getElem? (i := 440) (by decide +kernel)⟩
theorem lw_p14 : lw_okq (⟨"ThirdSheets$Loops", "bringSmallest", "(I)Z"⟩, 5) := ⟨⟨by decide +kernel, by decide +kernel⟩, List.mem_of_getElem? (i := 115) (by decide +kernel), List.mem_of_getElem? (i := 444) (by decide +kernel), List.mem_of_getElem? (i := 445) (by decide +kernel)⟩
theorem lw_p15 : lw_okq (⟨"ThirdSheets$Loops", "swapRows", "(II)V"⟩, 5) := ⟨⟨by decide +kernel, by decide +kernel⟩, List.mem_of_getElem? (i := 115) (by decide +kernel), List.mem_of_getElem? (i := 451) (by decide +kernel), List.mem_of_getElem? (i := 452) (by decide +kernel)⟩
def lw_privs_1 : List (MethodName × Nat) := [(⟨"ThirdSheets", "spaceChanged", "()V"⟩, 7), (⟨"ThirdSheets$Space", "joinCorners", "(I)V"⟩, 7), (⟨"ThirdSheets$Groups", "rootOf", "(I)I"⟩, 7), (⟨"ThirdSheets$Space", "joinEdges", "(I)V"⟩, 7), (⟨"ThirdSheets$Space", "isEvenChange", "(I)Z"⟩, 7), (⟨"ThirdSheets", "hasSide", "(II)Z"⟩, 7), (⟨"ThirdSheets", "hasPiece", "(I)Z"⟩, 7), (⟨"ThirdSheets$Space", "tell", "(IIII)V"⟩, 7), (⟨"ThirdSheets$Space", "endsAt", "(I)I"⟩, 7), (⟨"ThirdSheets$Space", "sidesAt", "(I)I"⟩, 7), (⟨"ThirdSheets$Space", "cornersOf", "(I)I"⟩, 7), (⟨"ThirdSheets$Loops", "numberPairs", "(LThirdSheets$Space;)V"⟩, 5), (⟨"ThirdSheets$Loops", "goAround", "(LThirdSheets$Space;I)Z"⟩, 5), (⟨"ThirdSheets$Loops", "makeDiagonal", "(I)Z"⟩, 5), (⟨"ThirdSheets$Loops", "bringSmallest", "(I)Z"⟩, 5), (⟨"ThirdSheets$Loops", "swapRows", "(II)V"⟩, 5)]
theorem lw_r1 : ∀ q ∈ lw_privs_1, lw_okq q := List.forall_mem_cons.mpr ⟨lw_p0, List.forall_mem_cons.mpr ⟨lw_p1, List.forall_mem_cons.mpr ⟨lw_p2, List.forall_mem_cons.mpr ⟨lw_p3, List.forall_mem_cons.mpr ⟨lw_p4, List.forall_mem_cons.mpr ⟨lw_p5, List.forall_mem_cons.mpr ⟨lw_p6, List.forall_mem_cons.mpr ⟨lw_p7, List.forall_mem_cons.mpr ⟨lw_p8, List.forall_mem_cons.mpr ⟨lw_p9, List.forall_mem_cons.mpr ⟨lw_p10, List.forall_mem_cons.mpr ⟨lw_p11, List.forall_mem_cons.mpr ⟨lw_p12, List.forall_mem_cons.mpr ⟨lw_p13, List.forall_mem_cons.mpr ⟨lw_p14, List.forall_mem_cons.mpr ⟨lw_p15, fun _ h => absurd h List.not_mem_nil⟩⟩⟩⟩⟩⟩⟩⟩⟩⟩⟩⟩⟩⟩⟩⟩
theorem lw_p16 : lw_okq (⟨"ThirdSheets$Loops", "swapColumns", "(II)V"⟩, 5) := ⟨⟨by decide +kernel, by decide +kernel⟩, List.mem_of_getElem? (i := 115) (by decide +kernel), List.mem_of_getElem? (i := 455) (by decide +kernel), List.mem_of_getElem? (i := 456) (by decide +kernel)⟩
theorem lw_p17 : lw_okq (⟨"ThirdSheets$Loops", "reduceRows", "(I)Z"⟩, 5) := ⟨⟨by decide +kernel, by decide +kernel⟩, List.mem_of_getElem? (i := 115) (by decide +kernel), List.mem_of_getElem? (i := 459) (by decide +kernel), List.mem_of_getElem? (i := 460) (by decide +kernel)⟩
theorem lw_p18 : lw_okq (⟨"ThirdSheets$Loops", "reduceColumns", "(I)Z"⟩, 5) := ⟨⟨by decide +kernel, by decide +kernel⟩, List.mem_of_getElem? (i := 115) (by decide +kernel), List.mem_of_getElem? (i := 466) (by decide +kernel), List.mem_of_getElem? (i := 467) (by decide +kernel)⟩
theorem lw_p19 : lw_okq (⟨"ThirdSheets$Loops", "dividesRest", "(I)Z"⟩, 5) := ⟨⟨by decide +kernel, by decide +kernel⟩, List.mem_of_getElem? (i := 115) (by decide +kernel), List.mem_of_getElem? (i := 470) (by decide +kernel), List.mem_of_getElem? (i := 471) (by decide +kernel)⟩
theorem lw_p20 : lw_okq (⟨"ThirdSheets$Loops", "addRow", "(II)V"⟩, 5) := ⟨⟨by decide +kernel, by decide +kernel⟩, List.mem_of_getElem? (i := 115) (by decide +kernel), List.mem_of_getElem? (i := 474) (by decide +kernel), List.mem_of_getElem? (i := 475) (by decide +kernel)⟩
theorem lw_p21 : lw_okq (⟨"ThirdSheets", "freshenLeast", "()V"⟩, 7) := ⟨⟨by decide +kernel, by decide +kernel⟩, List.mem_of_getElem? (i := 13) (by decide +kernel), List.mem_of_getElem? (i := 486) (by decide +kernel), List.mem_of_getElem? (i := 487) (by decide +kernel)⟩
theorem lw_p22 : lw_okq (⟨"ThirdSheets$LeastSheets", "startWithSingleCuts", "(I)V"⟩, 8) := ⟨⟨by decide +kernel, by decide +kernel⟩, List.mem_of_getElem? (i := 141) (by decide +kernel), List.mem_of_getElem? (i := 494) (by decide +kernel), List.mem_of_getElem? (i := 495) (by decide +kernel)⟩
theorem lw_p23 : lw_okq (⟨"ThirdSheets$LeastSheets", "weigh", "(IIII)V"⟩, 8) := ⟨⟨by decide +kernel, by decide +kernel⟩, List.mem_of_getElem? (i := 141) (by decide +kernel), List.mem_of_getElem? (i := 500) (by decide +kernel), List.mem_of_getElem? (i := 501) (by decide +kernel)⟩
theorem lw_p24 : lw_okq (⟨"ThirdSheets$LeastSheets", "fitAcross", "()V"⟩, 8) := ⟨⟨by decide +kernel, by decide +kernel⟩, List.mem_of_getElem? (i := 141) (by decide +kernel), List.mem_of_getElem? (i := 509) (by decide +kernel), List.mem_of_getElem? (i := 510) (by decide +kernel)⟩
theorem lw_p25 : lw_okq (⟨"ThirdSheets$LeastSheets", "keep", "(I)V"⟩, 8) := ⟨⟨by decide +kernel, by decide +kernel⟩, List.mem_of_getElem? (i := 141) (by decide +kernel), List.mem_of_getElem? (i := 513) (by decide +kernel), List.mem_of_getElem? (i := 514) (by decide +kernel)⟩
theorem lw_p26 : lw_okq (⟨"ThirdSheets$LeastSheets", "areNeighbours", "(II)Z"⟩, 8) := ⟨⟨by decide +kernel, by decide +kernel⟩, List.mem_of_getElem? (i := 141) (by decide +kernel), List.mem_of_getElem? (i := 520) (by decide +kernel), List.mem_of_getElem? (i := 521) (by decide +kernel)⟩
theorem lw_p27 : lw_okq (⟨"ThirdSheets$LeastSheets", "mix", "(II)V"⟩, 8) := ⟨⟨by decide +kernel, by decide +kernel⟩, List.mem_of_getElem? (i := 141) (by decide +kernel), List.mem_of_getElem? (i := 527) (by decide +kernel), List.mem_of_getElem? (i := 528) (by decide +kernel)⟩
theorem lw_p28 : lw_okq (⟨"ThirdSheets$LeastSheets", "swapLists", "()V"⟩, 8) := ⟨⟨by decide +kernel, by decide +kernel⟩, List.mem_of_getElem? (i := 141) (by decide +kernel), List.mem_of_getElem? (i := 534) (by decide +kernel), List.mem_of_getElem? (i := 535) (by decide +kernel)⟩
theorem lw_p29 : lw_okq (⟨"ThirdSheets$LeastSheets", "sortRows", "()V"⟩, 8) := ⟨⟨by decide +kernel, by decide +kernel⟩, List.mem_of_getElem? (i := 141) (by decide +kernel), List.mem_of_getElem? (i := 538) (by decide +kernel), List.mem_of_getElem? (i := 539) (by decide +kernel)⟩
theorem lw_p30 : lw_okq (⟨"ThirdSheets$LeastSheets", "comesBefore", "([I[I)Z"⟩, 8) := ⟨⟨by decide +kernel, by decide +kernel⟩, List.mem_of_getElem? (i := 141) (by decide +kernel), List.mem_of_getElem? (i := 542) (by decide +kernel), List.mem_of_getElem? (i := 543) (by decide +kernel)⟩
theorem lw_p31 : lw_okq (⟨"ThirdSheets", "hasLeast", "(I)Z"⟩, 7) := ⟨⟨by decide +kernel, by decide +kernel⟩, List.mem_of_getElem? (i := 13) (by decide +kernel), List.mem_of_getElem? (i := 550) (by decide +kernel), List.mem_of_getElem? (i := 551) (by decide +kernel)⟩
def lw_privs_2 : List (MethodName × Nat) := [(⟨"ThirdSheets$Loops", "swapColumns", "(II)V"⟩, 5), (⟨"ThirdSheets$Loops", "reduceRows", "(I)Z"⟩, 5), (⟨"ThirdSheets$Loops", "reduceColumns", "(I)Z"⟩, 5), (⟨"ThirdSheets$Loops", "dividesRest", "(I)Z"⟩, 5), (⟨"ThirdSheets$Loops", "addRow", "(II)V"⟩, 5), (⟨"ThirdSheets", "freshenLeast", "()V"⟩, 7), (⟨"ThirdSheets$LeastSheets", "startWithSingleCuts", "(I)V"⟩, 8), (⟨"ThirdSheets$LeastSheets", "weigh", "(IIII)V"⟩, 8), (⟨"ThirdSheets$LeastSheets", "fitAcross", "()V"⟩, 8), (⟨"ThirdSheets$LeastSheets", "keep", "(I)V"⟩, 8), (⟨"ThirdSheets$LeastSheets", "areNeighbours", "(II)Z"⟩, 8), (⟨"ThirdSheets$LeastSheets", "mix", "(II)V"⟩, 8), (⟨"ThirdSheets$LeastSheets", "swapLists", "()V"⟩, 8), (⟨"ThirdSheets$LeastSheets", "sortRows", "()V"⟩, 8), (⟨"ThirdSheets$LeastSheets", "comesBefore", "([I[I)Z"⟩, 8), (⟨"ThirdSheets", "hasLeast", "(I)Z"⟩, 7)]
theorem lw_r2 : ∀ q ∈ lw_privs_2, lw_okq q := List.forall_mem_cons.mpr ⟨lw_p16, List.forall_mem_cons.mpr ⟨lw_p17, List.forall_mem_cons.mpr ⟨lw_p18, List.forall_mem_cons.mpr ⟨lw_p19, List.forall_mem_cons.mpr ⟨lw_p20, List.forall_mem_cons.mpr ⟨lw_p21, List.forall_mem_cons.mpr ⟨lw_p22, List.forall_mem_cons.mpr ⟨lw_p23, List.forall_mem_cons.mpr ⟨lw_p24, List.forall_mem_cons.mpr ⟨lw_p25, List.forall_mem_cons.mpr ⟨lw_p26, List.forall_mem_cons.mpr ⟨lw_p27, List.forall_mem_cons.mpr ⟨lw_p28, List.forall_mem_cons.mpr ⟨lw_p29, List.forall_mem_cons.mpr ⟨lw_p30, List.forall_mem_cons.mpr ⟨lw_p31, fun _ h => absurd h List.not_mem_nil⟩⟩⟩⟩⟩⟩⟩⟩⟩⟩⟩⟩⟩⟩⟩⟩
theorem lw_p32 : lw_okq (⟨"ThirdSheets", "hasNumber", "(I)Z"⟩, 7) := ⟨⟨by decide +kernel, by decide +kernel⟩, List.mem_of_getElem? (i := 13) (by decide +kernel), List.mem_of_getElem? (i := 554) (by decide +kernel), List.mem_of_getElem? (i := 555) (by decide +kernel)⟩
theorem lw_p33 : lw_okq (⟨"ThirdSheets$Sheet", "fitsAt", "(LThirdSheets$Space;I)Z"⟩, 1) := ⟨⟨by decide +kernel, by decide +kernel⟩, List.mem_of_getElem? (i := 176) (by decide +kernel), List.mem_of_getElem? (i := 592) (by decide +kernel), List.mem_of_getElem? (i := 593) (by decide +kernel)⟩
theorem lw_p34 : lw_okq (⟨"ThirdSheets$Sheet", "points", "(LThirdSheets$Space;)I"⟩, 1) := ⟨⟨by decide +kernel, by decide +kernel⟩, List.mem_of_getElem? (i := 176) (by decide +kernel), List.mem_of_getElem? (i := 615) (by decide +kernel), List.mem_of_getElem? (i := 616) (by decide +kernel)⟩
theorem lw_p35 : lw_okq (⟨"ThirdSheets$Sheet", "arcs", "(LThirdSheets$Space;)I"⟩, 1) := ⟨⟨by decide +kernel, by decide +kernel⟩, List.mem_of_getElem? (i := 176) (by decide +kernel), List.mem_of_getElem? (i := 624) (by decide +kernel), List.mem_of_getElem? (i := 625) (by decide +kernel)⟩
theorem lw_p36 : lw_okq (⟨"ThirdSheets", "freshenParts", "()V"⟩, 7) := ⟨⟨by decide +kernel, by decide +kernel⟩, List.mem_of_getElem? (i := 13) (by decide +kernel), List.mem_of_getElem? (i := 638) (by decide +kernel), List.mem_of_getElem? (i := 639) (by decide +kernel)⟩
theorem lw_p37 : lw_okq (⟨"ThirdSheets$Parts", "numberCuts", "([I)I"⟩, 4) := ⟨⟨by decide +kernel, by decide +kernel⟩, List.mem_of_getElem? (i := 187) (by decide +kernel), List.mem_of_getElem? (i := 646) (by decide +kernel), List.mem_of_getElem? (i := 647) (by decide +kernel)⟩
theorem lw_p38 : lw_okq (⟨"ThirdSheets$Parts", "joinAcross", "(LThirdSheets$Space;[II)V"⟩, 4) := ⟨⟨by decide +kernel, by decide +kernel⟩, List.mem_of_getElem? (i := 187) (by decide +kernel), List.mem_of_getElem? (i := 653) (by decide +kernel), List.mem_of_getElem? (i := 654) (by decide +kernel)⟩
theorem lw_p39 : lw_okq (⟨"ThirdSheets$Parts", "cutAt", "([IIII)I"⟩, 4) := ⟨⟨by decide +kernel, by decide +kernel⟩, List.mem_of_getElem? (i := 187) (by decide +kernel), List.mem_of_getElem? (i := 664) (by decide +kernel), List.mem_of_getElem? (i := 665) (by decide +kernel)⟩
theorem lw_p40 : lw_okq (⟨"ThirdSheets$Parts", "countCuts", "(I)V"⟩, 4) := ⟨⟨by decide +kernel, by decide +kernel⟩, List.mem_of_getElem? (i := 187) (by decide +kernel), List.mem_of_getElem? (i := 671) (by decide +kernel), List.mem_of_getElem? (i := 672) (by decide +kernel)⟩
theorem lw_p41 : lw_okq (⟨"ThirdSheets$Parts", "countArcs", "(LThirdSheets$Space;[I)V"⟩, 4) := ⟨⟨by decide +kernel, by decide +kernel⟩, List.mem_of_getElem? (i := 187) (by decide +kernel), List.mem_of_getElem? (i := 675) (by decide +kernel), List.mem_of_getElem? (i := 676) (by decide +kernel)⟩
theorem lw_p42 : lw_okq (⟨"ThirdSheets$Parts", "countPoints", "(LThirdSheets$Space;[I)V"⟩, 4) := ⟨⟨by decide +kernel, by decide +kernel⟩, List.mem_of_getElem? (i := 187) (by decide +kernel), List.mem_of_getElem? (i := 680) (by decide +kernel), List.mem_of_getElem? (i := 681) (by decide +kernel)⟩
theorem lw_p43 : lw_okq (⟨"ThirdSheetsModel", "empty", "()V"⟩, 26) := ⟨⟨by decide +kernel, by decide +kernel⟩, List.mem_of_getElem? (i := 689) (by decide +kernel), List.mem_of_getElem? (i := 779) (by decide +kernel), List.mem_of_getElem? (i := 780) (by decide +kernel)⟩
theorem lw_p44 : lw_okq (⟨"ThirdSheetsModel", "isSide", "(II)Z"⟩, 26) := ⟨⟨by decide +kernel, by decide +kernel⟩, List.mem_of_getElem? (i := 689) (by decide +kernel), List.mem_of_getElem? (i := 787) (by decide +kernel), List.mem_of_getElem? (i := 788) (by decide +kernel)⟩
theorem lw_p45 : lw_okq (⟨"ThirdSheetsModel", "isPiece", "(I)Z"⟩, 26) := ⟨⟨by decide +kernel, by decide +kernel⟩, List.mem_of_getElem? (i := 689) (by decide +kernel), List.mem_of_getElem? (i := 791) (by decide +kernel), List.mem_of_getElem? (i := 792) (by decide +kernel)⟩
theorem lw_p46 : lw_okq (⟨"ThirdSheetsModel", "label", "()V"⟩, 26) := ⟨⟨by decide +kernel, by decide +kernel⟩, List.mem_of_getElem? (i := 689) (by decide +kernel), List.mem_of_getElem? (i := 814) (by decide +kernel), List.mem_of_getElem? (i := 815) (by decide +kernel)⟩
theorem lw_p47 : lw_okq (⟨"ThirdSheetsModel", "joinSide", "(I)V"⟩, 26) := ⟨⟨by decide +kernel, by decide +kernel⟩, List.mem_of_getElem? (i := 689) (by decide +kernel), List.mem_of_getElem? (i := 818) (by decide +kernel), List.mem_of_getElem? (i := 819) (by decide +kernel)⟩
def lw_privs_3 : List (MethodName × Nat) := [(⟨"ThirdSheets", "hasNumber", "(I)Z"⟩, 7), (⟨"ThirdSheets$Sheet", "fitsAt", "(LThirdSheets$Space;I)Z"⟩, 1), (⟨"ThirdSheets$Sheet", "points", "(LThirdSheets$Space;)I"⟩, 1), (⟨"ThirdSheets$Sheet", "arcs", "(LThirdSheets$Space;)I"⟩, 1), (⟨"ThirdSheets", "freshenParts", "()V"⟩, 7), (⟨"ThirdSheets$Parts", "numberCuts", "([I)I"⟩, 4), (⟨"ThirdSheets$Parts", "joinAcross", "(LThirdSheets$Space;[II)V"⟩, 4), (⟨"ThirdSheets$Parts", "cutAt", "([IIII)I"⟩, 4), (⟨"ThirdSheets$Parts", "countCuts", "(I)V"⟩, 4), (⟨"ThirdSheets$Parts", "countArcs", "(LThirdSheets$Space;[I)V"⟩, 4), (⟨"ThirdSheets$Parts", "countPoints", "(LThirdSheets$Space;[I)V"⟩, 4), (⟨"ThirdSheetsModel", "empty", "()V"⟩, 26), (⟨"ThirdSheetsModel", "isSide", "(II)Z"⟩, 26), (⟨"ThirdSheetsModel", "isPiece", "(I)Z"⟩, 26), (⟨"ThirdSheetsModel", "label", "()V"⟩, 26), (⟨"ThirdSheetsModel", "joinSide", "(I)V"⟩, 26)]
theorem lw_r3 : ∀ q ∈ lw_privs_3, lw_okq q := List.forall_mem_cons.mpr ⟨lw_p32, List.forall_mem_cons.mpr ⟨lw_p33, List.forall_mem_cons.mpr ⟨lw_p34, List.forall_mem_cons.mpr ⟨lw_p35, List.forall_mem_cons.mpr ⟨lw_p36, List.forall_mem_cons.mpr ⟨lw_p37, List.forall_mem_cons.mpr ⟨lw_p38, List.forall_mem_cons.mpr ⟨lw_p39, List.forall_mem_cons.mpr ⟨lw_p40, List.forall_mem_cons.mpr ⟨lw_p41, List.forall_mem_cons.mpr ⟨lw_p42, List.forall_mem_cons.mpr ⟨lw_p43, List.forall_mem_cons.mpr ⟨lw_p44, List.forall_mem_cons.mpr ⟨lw_p45, List.forall_mem_cons.mpr ⟨lw_p46, List.forall_mem_cons.mpr ⟨lw_p47, fun _ h => absurd h List.not_mem_nil⟩⟩⟩⟩⟩⟩⟩⟩⟩⟩⟩⟩⟩⟩⟩⟩
theorem lw_p48 : lw_okq (⟨"ThirdSheetsModel", "join", "([III)V"⟩, 26) := ⟨⟨by decide +kernel, by decide +kernel⟩, List.mem_of_getElem? (i := 689) (by decide +kernel), List.mem_of_getElem? (i := 822) (by decide +kernel), List.mem_of_getElem? (i := 823) (by decide +kernel)⟩
theorem lw_p49 : lw_okq (⟨"ThirdSheetsModel", "endOf", "(III)I"⟩, 26) := ⟨⟨by decide +kernel, by decide +kernel⟩, List.mem_of_getElem? (i := 689) (by decide +kernel), List.mem_of_getElem? (i := 829) (by decide +kernel), List.mem_of_getElem? (i := 830) (by decide +kernel)⟩
theorem lw_p50 : lw_okq (⟨"ThirdSheetsModel", "edgeOf", "(II)I"⟩, 26) := ⟨⟨by decide +kernel, by decide +kernel⟩, List.mem_of_getElem? (i := 689) (by decide +kernel), List.mem_of_getElem? (i := 833) (by decide +kernel), List.mem_of_getElem? (i := 834) (by decide +kernel)⟩
theorem lw_p51 : lw_okq (⟨"ThirdSheetsModel", "edgeLabel", "(II)I"⟩, 26) := ⟨⟨by decide +kernel, by decide +kernel⟩, List.mem_of_getElem? (i := 689) (by decide +kernel), List.mem_of_getElem? (i := 837) (by decide +kernel), List.mem_of_getElem? (i := 838) (by decide +kernel)⟩
theorem lw_p52 : lw_okq (⟨"ThirdSheetsModel", "isFirstEdge", "(I)Z"⟩, 26) := ⟨⟨by decide +kernel, by decide +kernel⟩, List.mem_of_getElem? (i := 689) (by decide +kernel), List.mem_of_getElem? (i := 841) (by decide +kernel), List.mem_of_getElem? (i := 842) (by decide +kernel)⟩
theorem lw_p53 : lw_okq (⟨"ThirdSheetsModel", "edgeOfClass", "(I)I"⟩, 26) := ⟨⟨by decide +kernel, by decide +kernel⟩, List.mem_of_getElem? (i := 689) (by decide +kernel), List.mem_of_getElem? (i := 849) (by decide +kernel), List.mem_of_getElem? (i := 850) (by decide +kernel)⟩
theorem lw_p54 : lw_okq (⟨"ThirdSheetsModel", "isBent", "(I)Z"⟩, 26) := ⟨⟨by decide +kernel, by decide +kernel⟩, List.mem_of_getElem? (i := 689) (by decide +kernel), List.mem_of_getElem? (i := 853) (by decide +kernel), List.mem_of_getElem? (i := 854) (by decide +kernel)⟩
theorem lw_p55 : lw_okq (⟨"ThirdSheetsModel", "cornerOfClass", "(I)I"⟩, 26) := ⟨⟨by decide +kernel, by decide +kernel⟩, List.mem_of_getElem? (i := 689) (by decide +kernel), List.mem_of_getElem? (i := 861) (by decide +kernel), List.mem_of_getElem? (i := 862) (by decide +kernel)⟩
theorem lw_p56 : lw_okq (⟨"ThirdSheetsModel", "linkOf", "(I)I"⟩, 26) := ⟨⟨by decide +kernel, by decide +kernel⟩, List.mem_of_getElem? (i := 689) (by decide +kernel), List.mem_of_getElem? (i := 866) (by decide +kernel), List.mem_of_getElem? (i := 867) (by decide +kernel)⟩
theorem lw_p57 : lw_okq (⟨"ThirdSheetsModel", "cornerClasses", "()I"⟩, 26) := ⟨⟨by decide +kernel, by decide +kernel⟩, List.mem_of_getElem? (i := 689) (by decide +kernel), List.mem_of_getElem? (i := 874) (by decide +kernel), List.mem_of_getElem? (i := 875) (by decide +kernel)⟩
theorem lw_p58 : lw_okq (⟨"ThirdSheetsModel", "edgeClasses", "()I"⟩, 26) := ⟨⟨by decide +kernel, by decide +kernel⟩, List.mem_of_getElem? (i := 689) (by decide +kernel), List.mem_of_getElem? (i := 878) (by decide +kernel), List.mem_of_getElem? (i := 879) (by decide +kernel)⟩
theorem lw_p59 : lw_okq (⟨"ThirdSheetsModel", "sides", "(Z)I"⟩, 26) := ⟨⟨by decide +kernel, by decide +kernel⟩, List.mem_of_getElem? (i := 689) (by decide +kernel), List.mem_of_getElem? (i := 882) (by decide +kernel), List.mem_of_getElem? (i := 883) (by decide +kernel)⟩
theorem lw_p60 : lw_okq (⟨"ThirdSheetsModel", "isWhole", "()Z"⟩, 26) := ⟨⟨by decide +kernel, by decide +kernel⟩, List.mem_of_getElem? (i := 689) (by decide +kernel), List.mem_of_getElem? (i := 886) (by decide +kernel), List.mem_of_getElem? (i := 887) (by decide +kernel)⟩
theorem lw_p61 : lw_okq (⟨"ThirdSheetsModel", "anyBent", "()Z"⟩, 26) := ⟨⟨by decide +kernel, by decide +kernel⟩, List.mem_of_getElem? (i := 689) (by decide +kernel), List.mem_of_getElem? (i := 890) (by decide +kernel), List.mem_of_getElem? (i := 891) (by decide +kernel)⟩
theorem lw_p62 : lw_okq (⟨"ThirdSheetsModel", "isEven", "()Z"⟩, 26) := ⟨⟨by decide +kernel, by decide +kernel⟩, List.mem_of_getElem? (i := 689) (by decide +kernel), List.mem_of_getElem? (i := 894) (by decide +kernel), List.mem_of_getElem? (i := 895) (by decide +kernel)⟩
theorem lw_p63 : lw_okq (⟨"ThirdSheetsModel", "isEvenChange", "(I)Z"⟩, 26) := ⟨⟨by decide +kernel, by decide +kernel⟩, List.mem_of_getElem? (i := 689) (by decide +kernel), List.mem_of_getElem? (i := 898) (by decide +kernel), List.mem_of_getElem? (i := 899) (by decide +kernel)⟩
def lw_privs_4 : List (MethodName × Nat) := [(⟨"ThirdSheetsModel", "join", "([III)V"⟩, 26), (⟨"ThirdSheetsModel", "endOf", "(III)I"⟩, 26), (⟨"ThirdSheetsModel", "edgeOf", "(II)I"⟩, 26), (⟨"ThirdSheetsModel", "edgeLabel", "(II)I"⟩, 26), (⟨"ThirdSheetsModel", "isFirstEdge", "(I)Z"⟩, 26), (⟨"ThirdSheetsModel", "edgeOfClass", "(I)I"⟩, 26), (⟨"ThirdSheetsModel", "isBent", "(I)Z"⟩, 26), (⟨"ThirdSheetsModel", "cornerOfClass", "(I)I"⟩, 26), (⟨"ThirdSheetsModel", "linkOf", "(I)I"⟩, 26), (⟨"ThirdSheetsModel", "cornerClasses", "()I"⟩, 26), (⟨"ThirdSheetsModel", "edgeClasses", "()I"⟩, 26), (⟨"ThirdSheetsModel", "sides", "(Z)I"⟩, 26), (⟨"ThirdSheetsModel", "isWhole", "()Z"⟩, 26), (⟨"ThirdSheetsModel", "anyBent", "()Z"⟩, 26), (⟨"ThirdSheetsModel", "isEven", "()Z"⟩, 26), (⟨"ThirdSheetsModel", "isEvenChange", "(I)Z"⟩, 26)]
theorem lw_r4 : ∀ q ∈ lw_privs_4, lw_okq q := List.forall_mem_cons.mpr ⟨lw_p48, List.forall_mem_cons.mpr ⟨lw_p49, List.forall_mem_cons.mpr ⟨lw_p50, List.forall_mem_cons.mpr ⟨lw_p51, List.forall_mem_cons.mpr ⟨lw_p52, List.forall_mem_cons.mpr ⟨lw_p53, List.forall_mem_cons.mpr ⟨lw_p54, List.forall_mem_cons.mpr ⟨lw_p55, List.forall_mem_cons.mpr ⟨lw_p56, List.forall_mem_cons.mpr ⟨lw_p57, List.forall_mem_cons.mpr ⟨lw_p58, List.forall_mem_cons.mpr ⟨lw_p59, List.forall_mem_cons.mpr ⟨lw_p60, List.forall_mem_cons.mpr ⟨lw_p61, List.forall_mem_cons.mpr ⟨lw_p62, List.forall_mem_cons.mpr ⟨lw_p63, fun _ h => absurd h List.not_mem_nil⟩⟩⟩⟩⟩⟩⟩⟩⟩⟩⟩⟩⟩⟩⟩⟩
theorem lw_p64 : lw_okq (⟨"ThirdSheetsModel", "setMany", "()I"⟩, 26) := ⟨⟨by decide +kernel, by decide +kernel⟩, List.mem_of_getElem? (i := 689) (by decide +kernel), List.mem_of_getElem? (i := 902) (by decide +kernel), List.mem_of_getElem? (i := 903) (by decide +kernel)⟩
theorem lw_p65 : lw_okq (⟨"ThirdSheetsModel", "layLoops", "()V"⟩, 26) := ⟨⟨by decide +kernel, by decide +kernel⟩, List.mem_of_getElem? (i := 689) (by decide +kernel), List.mem_of_getElem? (i := 910) (by decide +kernel), List.mem_of_getElem? (i := 911) (by decide +kernel)⟩
theorem lw_p66 : lw_okq (⟨"ThirdSheetsModel", "findPairs", "()V"⟩, 26) := ⟨⟨by decide +kernel, by decide +kernel⟩, List.mem_of_getElem? (i := 689) (by decide +kernel), List.mem_of_getElem? (i := 914) (by decide +kernel), List.mem_of_getElem? (i := 915) (by decide +kernel)⟩
theorem lw_p67 : lw_okq (⟨"ThirdSheetsModel", "goAround", "(I)Z"⟩, 26) := ⟨⟨by decide +kernel, by decide +kernel⟩, List.mem_of_getElem? (i := 689) (by decide +kernel), List.mem_of_getElem? (i := 918) (by decide +kernel), List.mem_of_getElem? (i := 919) (by decide +kernel)⟩
theorem lw_p68 : lw_okq (⟨"ThirdSheetsModel", "bring", "(I)Z"⟩, 26) := ⟨⟨by decide +kernel, by decide +kernel⟩, List.mem_of_getElem? (i := 689) (by decide +kernel), List.mem_of_getElem? (i := 923) (by decide +kernel), List.mem_of_getElem? (i := 924) (by decide +kernel)⟩
theorem lw_p69 : lw_okq (⟨"ThirdSheetsModel", "cell", "(II)J"⟩, 26) := ⟨⟨by decide +kernel, by decide +kernel⟩, List.mem_of_getElem? (i := 689) (by decide +kernel), List.mem_of_getElem? (i := 927) (by decide +kernel), List.mem_of_getElem? (i := 928) (by decide +kernel)⟩
theorem lw_p70 : lw_okq (⟨"ThirdSheetsModel", "reduce", "(I)Z"⟩, 26) := ⟨⟨by decide +kernel, by decide +kernel⟩, List.mem_of_getElem? (i := 689) (by decide +kernel), List.mem_of_getElem? (i := 931) (by decide +kernel), List.mem_of_getElem? (i := 932) (by decide +kernel)⟩
theorem lw_p71 : lw_okq (⟨"ThirdSheetsModel", "findLeast", "()V"⟩, 26) := ⟨⟨by decide +kernel, by decide +kernel⟩, List.mem_of_getElem? (i := 689) (by decide +kernel), List.mem_of_getElem? (i := 939) (by decide +kernel), List.mem_of_getElem? (i := 940) (by decide +kernel)⟩
theorem lw_p72 : lw_okq (⟨"ThirdSheetsModel", "layEquation", "(II)V"⟩, 26) := ⟨⟨by decide +kernel, by decide +kernel⟩, List.mem_of_getElem? (i := 689) (by decide +kernel), List.mem_of_getElem? (i := 943) (by decide +kernel), List.mem_of_getElem? (i := 944) (by decide +kernel)⟩
theorem lw_p73 : lw_okq (⟨"ThirdSheetsModel", "meet", "()V"⟩, 26) := ⟨⟨by decide +kernel, by decide +kernel⟩, List.mem_of_getElem? (i := 689) (by decide +kernel), List.mem_of_getElem? (i := 950) (by decide +kernel), List.mem_of_getElem? (i := 951) (by decide +kernel)⟩
theorem lw_p74 : lw_okq (⟨"ThirdSheetsModel", "side", "(I)I"⟩, 26) := ⟨⟨by decide +kernel, by decide +kernel⟩, List.mem_of_getElem? (i := 689) (by decide +kernel), List.mem_of_getElem? (i := 954) (by decide +kernel), List.mem_of_getElem? (i := 955) (by decide +kernel)⟩
theorem lw_p75 : lw_okq (⟨"ThirdSheetsModel", "layRay", "(IIII)V"⟩, 26) := ⟨⟨by decide +kernel, by decide +kernel⟩, List.mem_of_getElem? (i := 689) (by decide +kernel), List.mem_of_getElem? (i := 958) (by decide +kernel), List.mem_of_getElem? (i := 959) (by decide +kernel)⟩
theorem lw_p76 : lw_okq (⟨"ThirdSheetsModel", "supportOf", "(I)I"⟩, 26) := ⟨⟨by decide +kernel, by decide +kernel⟩, List.mem_of_getElem? (i := 689) (by decide +kernel), List.mem_of_getElem? (i := 965) (by decide +kernel), List.mem_of_getElem? (i := 966) (by decide +kernel)⟩
theorem lw_p77 : lw_okq (⟨"ThirdSheetsModel", "hasOneKind", "(I)Z"⟩, 26) := ⟨⟨by decide +kernel, by decide +kernel⟩, List.mem_of_getElem? (i := 689) (by decide +kernel), List.mem_of_getElem? (i := 969) (by decide +kernel), List.mem_of_getElem? (i := 970) (by decide +kernel)⟩
theorem lw_p78 : lw_okq (⟨"ThirdSheetsModel", "areBeside", "(III)Z"⟩, 26) := ⟨⟨by decide +kernel, by decide +kernel⟩, List.mem_of_getElem? (i := 689) (by decide +kernel), List.mem_of_getElem? (i := 973) (by decide +kernel), List.mem_of_getElem? (i := 974) (by decide +kernel)⟩
theorem lw_p79 : lw_okq (⟨"ThirdSheetsModel", "isBefore", "(II)Z"⟩, 26) := ⟨⟨by decide +kernel, by decide +kernel⟩, List.mem_of_getElem? (i := 689) (by decide +kernel), List.mem_of_getElem? (i := 977) (by decide +kernel), List.mem_of_getElem? (i := 978) (by decide +kernel)⟩
def lw_privs_5 : List (MethodName × Nat) := [(⟨"ThirdSheetsModel", "setMany", "()I"⟩, 26), (⟨"ThirdSheetsModel", "layLoops", "()V"⟩, 26), (⟨"ThirdSheetsModel", "findPairs", "()V"⟩, 26), (⟨"ThirdSheetsModel", "goAround", "(I)Z"⟩, 26), (⟨"ThirdSheetsModel", "bring", "(I)Z"⟩, 26), (⟨"ThirdSheetsModel", "cell", "(II)J"⟩, 26), (⟨"ThirdSheetsModel", "reduce", "(I)Z"⟩, 26), (⟨"ThirdSheetsModel", "findLeast", "()V"⟩, 26), (⟨"ThirdSheetsModel", "layEquation", "(II)V"⟩, 26), (⟨"ThirdSheetsModel", "meet", "()V"⟩, 26), (⟨"ThirdSheetsModel", "side", "(I)I"⟩, 26), (⟨"ThirdSheetsModel", "layRay", "(IIII)V"⟩, 26), (⟨"ThirdSheetsModel", "supportOf", "(I)I"⟩, 26), (⟨"ThirdSheetsModel", "hasOneKind", "(I)Z"⟩, 26), (⟨"ThirdSheetsModel", "areBeside", "(III)Z"⟩, 26), (⟨"ThirdSheetsModel", "isBefore", "(II)Z"⟩, 26)]
theorem lw_r5 : ∀ q ∈ lw_privs_5, lw_okq q := List.forall_mem_cons.mpr ⟨lw_p64, List.forall_mem_cons.mpr ⟨lw_p65, List.forall_mem_cons.mpr ⟨lw_p66, List.forall_mem_cons.mpr ⟨lw_p67, List.forall_mem_cons.mpr ⟨lw_p68, List.forall_mem_cons.mpr ⟨lw_p69, List.forall_mem_cons.mpr ⟨lw_p70, List.forall_mem_cons.mpr ⟨lw_p71, List.forall_mem_cons.mpr ⟨lw_p72, List.forall_mem_cons.mpr ⟨lw_p73, List.forall_mem_cons.mpr ⟨lw_p74, List.forall_mem_cons.mpr ⟨lw_p75, List.forall_mem_cons.mpr ⟨lw_p76, List.forall_mem_cons.mpr ⟨lw_p77, List.forall_mem_cons.mpr ⟨lw_p78, List.forall_mem_cons.mpr ⟨lw_p79, fun _ h => absurd h List.not_mem_nil⟩⟩⟩⟩⟩⟩⟩⟩⟩⟩⟩⟩⟩⟩⟩⟩
theorem lw_p80 : lw_okq (⟨"ThirdSheetsModel", "swap", "(II)V"⟩, 26) := ⟨⟨by decide +kernel, by decide +kernel⟩, List.mem_of_getElem? (i := 689) (by decide +kernel), List.mem_of_getElem? (i := 981) (by decide +kernel), List.mem_of_getElem? (i := 982) (by decide +kernel)⟩
theorem lw_p81 : lw_okq (⟨"ThirdSheetsModel", "arcs", "(III)I"⟩, 26) := ⟨⟨by decide +kernel, by decide +kernel⟩, List.mem_of_getElem? (i := 689) (by decide +kernel), List.mem_of_getElem? (i := 1005) (by decide +kernel), List.mem_of_getElem? (i := 1006) (by decide +kernel)⟩
theorem lw_p82 : lw_okq (⟨"ThirdSheetsModel", "meets", "(II)Z"⟩, 26) := ⟨⟨by decide +kernel, by decide +kernel⟩, List.mem_of_getElem? (i := 689) (by decide +kernel), List.mem_of_getElem? (i := 1014) (by decide +kernel), List.mem_of_getElem? (i := 1015) (by decide +kernel)⟩
theorem lw_p83 : lw_okq (⟨"ThirdSheetsModel", "findParts", "()I"⟩, 26) := ⟨⟨by decide +kernel, by decide +kernel⟩, List.mem_of_getElem? (i := 689) (by decide +kernel), List.mem_of_getElem? (i := 1022) (by decide +kernel), List.mem_of_getElem? (i := 1023) (by decide +kernel)⟩
theorem lw_p84 : lw_okq (⟨"ThirdSheetsModel", "spread", "(II)I"⟩, 26) := ⟨⟨by decide +kernel, by decide +kernel⟩, List.mem_of_getElem? (i := 689) (by decide +kernel), List.mem_of_getElem? (i := 1026) (by decide +kernel), List.mem_of_getElem? (i := 1027) (by decide +kernel)⟩
theorem lw_p85 : lw_okq (⟨"ThirdSheetsModel", "sortOf", "(I)I"⟩, 26) := ⟨⟨by decide +kernel, by decide +kernel⟩, List.mem_of_getElem? (i := 689) (by decide +kernel), List.mem_of_getElem? (i := 1030) (by decide +kernel), List.mem_of_getElem? (i := 1031) (by decide +kernel)⟩
theorem lw_p86 : lw_okq (⟨"ThirdSheetsModel", "cutAt", "(III)I"⟩, 26) := ⟨⟨by decide +kernel, by decide +kernel⟩, List.mem_of_getElem? (i := 689) (by decide +kernel), List.mem_of_getElem? (i := 1034) (by decide +kernel), List.mem_of_getElem? (i := 1035) (by decide +kernel)⟩
theorem lw_p87 : lw_okq (⟨"ThirdSheetsModel", "looks", "(III)Z"⟩, 26) := ⟨⟨by decide +kernel, by decide +kernel⟩, List.mem_of_getElem? (i := 689) (by decide +kernel), List.mem_of_getElem? (i := 1038) (by decide +kernel), List.mem_of_getElem? (i := 1039) (by decide +kernel)⟩
theorem lw_p88 : lw_okq (⟨"ThirdSheetsModel", "cutsOf", "(I)I"⟩, 26) := ⟨⟨by decide +kernel, by decide +kernel⟩, List.mem_of_getElem? (i := 689) (by decide +kernel), List.mem_of_getElem? (i := 1046) (by decide +kernel), List.mem_of_getElem? (i := 1047) (by decide +kernel)⟩
theorem lw_p89 : lw_okq (⟨"ThirdSheetsModel", "worth", "(I)I"⟩, 26) := ⟨⟨by decide +kernel, by decide +kernel⟩, List.mem_of_getElem? (i := 689) (by decide +kernel), List.mem_of_getElem? (i := 1050) (by decide +kernel), List.mem_of_getElem? (i := 1051) (by decide +kernel)⟩
def lw_privs_6 : List (MethodName × Nat) := [(⟨"ThirdSheetsModel", "swap", "(II)V"⟩, 26), (⟨"ThirdSheetsModel", "arcs", "(III)I"⟩, 26), (⟨"ThirdSheetsModel", "meets", "(II)Z"⟩, 26), (⟨"ThirdSheetsModel", "findParts", "()I"⟩, 26), (⟨"ThirdSheetsModel", "spread", "(II)I"⟩, 26), (⟨"ThirdSheetsModel", "sortOf", "(I)I"⟩, 26), (⟨"ThirdSheetsModel", "cutAt", "(III)I"⟩, 26), (⟨"ThirdSheetsModel", "looks", "(III)Z"⟩, 26), (⟨"ThirdSheetsModel", "cutsOf", "(I)I"⟩, 26), (⟨"ThirdSheetsModel", "worth", "(I)I"⟩, 26)]
theorem lw_r6 : ∀ q ∈ lw_privs_6, lw_okq q := List.forall_mem_cons.mpr ⟨lw_p80, List.forall_mem_cons.mpr ⟨lw_p81, List.forall_mem_cons.mpr ⟨lw_p82, List.forall_mem_cons.mpr ⟨lw_p83, List.forall_mem_cons.mpr ⟨lw_p84, List.forall_mem_cons.mpr ⟨lw_p85, List.forall_mem_cons.mpr ⟨lw_p86, List.forall_mem_cons.mpr ⟨lw_p87, List.forall_mem_cons.mpr ⟨lw_p88, List.forall_mem_cons.mpr ⟨lw_p89, fun _ h => absurd h List.not_mem_nil⟩⟩⟩⟩⟩⟩⟩⟩⟩⟩
def lw_privs : List (MethodName × Nat) := lw_privs_1 ++ (lw_privs_2 ++ (lw_privs_3 ++ (lw_privs_4 ++ (lw_privs_5 ++ (lw_privs_6)))))
def lw_tbl : List Cond := k2_sels lw_privs ++ tables_1
theorem lw_privs_ok : ∀ q ∈ lw_privs, lw_okq q := by
  show ∀ q ∈ lw_privs_1 ++ (lw_privs_2 ++ (lw_privs_3 ++ (lw_privs_4 ++ (lw_privs_5 ++ (lw_privs_6))))), lw_okq q
  exact List.forall_mem_append.mpr ⟨lw_r1, List.forall_mem_append.mpr ⟨lw_r2, List.forall_mem_append.mpr ⟨lw_r3, List.forall_mem_append.mpr ⟨lw_r4, List.forall_mem_append.mpr ⟨lw_r5, lw_r6⟩⟩⟩⟩⟩
end
section
/-! the classes, their fields, the methods: by program out of the tables -/
def am_T0 : u_T := fun k => match k with
  | 0 => ("ThirdSheets$Groups", "parent", "[I", true)
  | 1 => ("ThirdSheets$Groups", "unlikeParent", "[I", true)
  | 2 => ("ThirdSheets$Groups", "clash", "[Z", true)
  | 3 => ("ThirdSheets$Groups", "groupOf", "[I", true)
  | 4 => ("ThirdSheets$Groups", "first", "[I", true)
  | 5 => ("ThirdSheets$Groups", "members", "I", false)
  | _ => ("ThirdSheets$Groups", "groups", "I", false)
def am_T1 : u_T := fun k => match k with
  | 0 => ("ThirdSheets$LeastSheets", "width", "I", false)
  | 1 => ("ThirdSheets$LeastSheets", "rows", "I", false)
  | 2 => ("ThirdSheets$LeastSheets", "row", "[[I", false)
  | 3 => ("ThirdSheets$LeastSheets", "support", "[I", false)
  | 4 => ("ThirdSheets$LeastSheets", "excess", "[I", true)
  | 5 => ("ThirdSheets$LeastSheets", "nextRows", "I", false)
  | 6 => ("ThirdSheets$LeastSheets", "nextRow", "[[I", false)
  | _ => ("ThirdSheets$LeastSheets", "nextSupport", "[I", false)
def am_T2 : u_T := fun k => match k with
  | 0 => ("ThirdSheets$Loops", "loop", "[[J", true)
  | 1 => ("ThirdSheets$Loops", "pairOf", "[I", true)
  | 2 => ("ThirdSheets$Loops", "loops", "I", false)
  | 3 => ("ThirdSheets$Loops", "columns", "I", false)
  | _ => ("ThirdSheets$Loops", "rank", "I", false)
def am_T3 : u_T := fun k => match k with
  | 0 => ("ThirdSheets$Parts", "cuts", "LThirdSheets$Groups;", true)
  | 1 => ("ThirdSheets$Parts", "firstCut", "[I", true)
  | 2 => ("ThirdSheets$Parts", "sizeOf", "[I", true)
  | _ => ("ThirdSheets$Parts", "eulerOf", "[I", true)
def am_T4 : u_T := fun k => match k with
  | _ => ("ThirdSheets$Sheet", "row", "[I", true)
def am_T5 : u_T := fun k => match k with
  | 0 => ("ThirdSheets$Space", "pieces", "I", false)
  | 1 => ("ThirdSheets$Space", "pairs", "I", false)
  | 2 => ("ThirdSheets$Space", "mate", "[I", true)
  | 3 => ("ThirdSheets$Space", "goesTo", "[I", true)
  | 4 => ("ThirdSheets$Space", "corners", "LThirdSheets$Groups;", true)
  | 5 => ("ThirdSheets$Space", "edges", "LThirdSheets$Groups;", true)
  | _ => ("ThirdSheets$Space", "sets", "LThirdSheets$Groups;", true)
def am_T6 : u_T := fun k => match k with
  | 0 => ("ThirdSheets", "space", "LThirdSheets$Space;", true)
  | 1 => ("ThirdSheets", "loops", "LThirdSheets$Loops;", true)
  | 2 => ("ThirdSheets", "leastSheets", "LThirdSheets$LeastSheets;", true)
  | 3 => ("ThirdSheets", "sheet", "LThirdSheets$Sheet;", true)
  | 4 => ("ThirdSheets", "sheetParts", "LThirdSheets$Parts;", true)
  | 5 => ("ThirdSheets", "leastStale", "Z", false)
  | _ => ("ThirdSheets", "partsStale", "Z", false)
def am_T7 : u_T := fun k => match k with
  | 0 => ("ThirdSheetsModel", "pieces", "I", false)
  | 1 => ("ThirdSheetsModel", "glued", "[I", true)
  | 2 => ("ThirdSheetsModel", "goes", "[I", true)
  | 3 => ("ThirdSheetsModel", "sheet", "[I", true)
  | 4 => ("ThirdSheetsModel", "from", "[I", true)
  | 5 => ("ThirdSheetsModel", "to", "[I", true)
  | 6 => ("ThirdSheetsModel", "labels", "[I", true)
  | 7 => ("ThirdSheetsModel", "corners", "[I", true)
  | 8 => ("ThirdSheetsModel", "sets", "[I", true)
  | 9 => ("ThirdSheetsModel", "more", "Z", false)
  | 10 => ("ThirdSheetsModel", "table", "[J", true)
  | 11 => ("ThirdSheetsModel", "rows", "I", false)
  | 12 => ("ThirdSheetsModel", "columns", "I", false)
  | 13 => ("ThirdSheetsModel", "pairOf", "[I", true)
  | 14 => ("ThirdSheetsModel", "rays", "I", false)
  | 15 => ("ThirdSheetsModel", "ray", "[I", true)
  | 16 => ("ThirdSheetsModel", "next", "[I", true)
  | 17 => ("ThirdSheetsModel", "equation", "[I", true)
  | 18 => ("ThirdSheetsModel", "laid", "I", false)
  | 19 => ("ThirdSheetsModel", "cuts", "I", false)
  | 20 => ("ThirdSheetsModel", "cutFrom", "[I", true)
  | 21 => ("ThirdSheetsModel", "partOf", "[I", true)
  | 22 => ("ThirdSheetsModel", "sign", "[I", true)
  | 23 => ("ThirdSheetsModel", "queue", "[I", true)
  | 24 => ("ThirdSheetsModel", "isTwisted", "Z", false)
  | _ => ("ThirdSheetsModel", "twisted", "[Z", true)
abbrev am_cl : List vw_C := [("ThirdSheets$Groups", am_T0, 7), ("ThirdSheets$LeastSheets", am_T1, 8), ("ThirdSheets$Loops", am_T2, 5), ("ThirdSheets$Parts", am_T3, 4), ("ThirdSheets$Sheet", am_T4, 1), ("ThirdSheets$Space", am_T5, 7), ("ThirdSheets", am_T6, 7), ("ThirdSheetsModel", am_T7, 26)]
def am_cn : Nat → String := fun k => (["ThirdSheets$Groups", "ThirdSheets$LeastSheets", "ThirdSheets$Loops", "ThirdSheets$Parts", "ThirdSheets$Sheet", "ThirdSheets$Space", "ThirdSheets", "ThirdSheetsModel", "ThirdSheetsLaw", "java/util/Arrays"] : List String).getD k ""
/-- name, code, locals, answer, frames, words, class, arguments -/
abbrev am_M : Type := MethodName × ByteArray × Nat × Option FieldType × Nat × Nat × Nat × Nat
def am_mt0 : List am_M := [(⟨"ThirdSheets$Groups", "<init>", "(I)V"⟩, prog_2_method_1_code, 2, none, 1, 20, 0, 1),
  (⟨"ThirdSheets$Groups", "start", "(I)V"⟩, prog_2_method_2_code, 3, none, 1, 21, 0, 1),
  (⟨"ThirdSheets$Groups", "rootOf", "(I)I"⟩, prog_2_method_3_code, 5, (some .int), 0, 0, 0, 1),
  (⟨"ThirdSheets$Groups", "join", "(IIZ)V"⟩, prog_2_method_4_code, 9, none, 1, 24, 0, 3),
  (⟨"ThirdSheets$Groups", "settle", "()V"⟩, prog_2_method_5_code, 3, none, 1, 24, 0, 0),
  (⟨"ThirdSheets$Groups", "clashes", "(I)Z"⟩, prog_2_method_6_code, 2, (some .boolean), 0, 0, 0, 1),
  (⟨"ThirdSheets$Groups", "anyClashes", "()Z"⟩, prog_2_method_7_code, 2, (some .boolean), 1, 21, 0, 0),
  (⟨"ThirdSheets$LeastSheets", "<init>", "()V"⟩, prog_3_method_1_code, 1, none, 1, 20, 1, 0),
  (⟨"ThirdSheets$LeastSheets", "build", "(LThirdSheets$Space;)V"⟩, prog_3_method_2_code, 4, none, 3, 72, 1, 1),
  (⟨"ThirdSheets$LeastSheets", "startWithSingleCuts", "(I)V"⟩, prog_3_method_3_code, 3, none, 1, 23, 1, 1),
  (⟨"ThirdSheets$LeastSheets", "weigh", "(IIII)V"⟩, prog_3_method_4_code, 6, none, 1, 23, 1, 4),
  (⟨"ThirdSheets$LeastSheets", "fitAcross", "()V"⟩, prog_3_method_5_code, 3, none, 2, 50, 1, 0),
  (⟨"ThirdSheets$LeastSheets", "keep", "(I)V"⟩, prog_3_method_6_code, 2, none, 1, 26, 1, 1),
  (⟨"ThirdSheets$LeastSheets", "areNeighbours", "(II)Z"⟩, prog_3_method_7_code, 5, (some .boolean), 1, 22, 1, 2),
  (⟨"ThirdSheets$LeastSheets", "mixesFours", "(I)Z"⟩, prog_3_method_8_code, 3, (some .boolean), 0, 0, 1, 1),
  (⟨"ThirdSheets$LeastSheets", "mix", "(II)V"⟩, prog_3_method_9_code, 6, none, 1, 25, 1, 2),
  (⟨"ThirdSheets$LeastSheets", "commonDivisor", "(II)I"⟩, prog_3_method_10_code, 6, (some .int), 0, 0, 1, 2),
  (⟨"ThirdSheets$LeastSheets", "swapLists", "()V"⟩, prog_3_method_11_code, 3, none, 0, 0, 1, 0),
  (⟨"ThirdSheets$LeastSheets", "sortRows", "()V"⟩, prog_3_method_12_code, 4, none, 1, 23, 1, 0),
  (⟨"ThirdSheets$LeastSheets", "comesBefore", "([I[I)Z"⟩, prog_3_method_13_code, 4, (some .boolean), 0, 0, 1, 2),
  (⟨"ThirdSheets$Loops", "<init>", "()V"⟩, prog_4_method_1_code, 1, none, 1, 20, 2, 0),
  (⟨"ThirdSheets$Loops", "build", "(LThirdSheets$Space;)V"⟩, prog_4_method_2_code, 3, none, 3, 76, 2, 1),
  (⟨"ThirdSheets$Loops", "aboveOne", "(I)I"⟩, prog_4_method_3_code, 4, (some .int), 0, 0, 2, 1),
  (⟨"ThirdSheets$Loops", "numberPairs", "(LThirdSheets$Space;)V"⟩, prog_4_method_4_code, 3, none, 1, 21, 2, 1),
  (⟨"ThirdSheets$Loops", "goAround", "(LThirdSheets$Space;I)Z"⟩, prog_4_method_5_code, 13, (some .boolean), 1, 24, 2, 2),
  (⟨"ThirdSheets$Loops", "makeDiagonal", "(I)Z"⟩, prog_4_method_6_code, 3, (some .boolean), 2, 54, 2, 1),
  (⟨"ThirdSheets$Loops", "bringSmallest", "(I)Z"⟩, prog_4_method_7_code, 10, (some .boolean), 1, 25, 2, 1),
  (⟨"ThirdSheets$Loops", "swapRows", "(II)V"⟩, prog_4_method_8_code, 4, none, 0, 0, 2, 2),
  (⟨"ThirdSheets$Loops", "swapColumns", "(II)V"⟩, prog_4_method_9_code, 6, none, 0, 0, 2, 2),
  (⟨"ThirdSheets$Loops", "reduceRows", "(I)Z"⟩, prog_4_method_10_code, 7, (some .boolean), 1, 23, 2, 1)]
def am_mt1 : List am_M := [(⟨"ThirdSheets$Loops", "reduceColumns", "(I)Z"⟩, prog_4_method_11_code, 7, (some .boolean), 1, 23, 2, 1),
  (⟨"ThirdSheets$Loops", "timesOf", "(JJ)J"⟩, prog_4_method_12_code, 4, (some .long), 0, 0, 2, 2),
  (⟨"ThirdSheets$Loops", "dividesRest", "(I)Z"⟩, prog_4_method_13_code, 6, (some .boolean), 1, 23, 2, 1),
  (⟨"ThirdSheets$Loops", "addRow", "(II)V"⟩, prog_4_method_14_code, 4, none, 0, 0, 2, 2),
  (⟨"ThirdSheets$Parts", "<init>", "()V"⟩, prog_5_method_1_code, 1, none, 2, 41, 3, 0),
  (⟨"ThirdSheets$Parts", "build", "(LThirdSheets$Space;[I)V"⟩, prog_5_method_2_code, 5, none, 3, 81, 3, 2),
  (⟨"ThirdSheets$Parts", "numberCuts", "([I)I"⟩, prog_5_method_3_code, 4, (some .int), 1, 21, 3, 1),
  (⟨"ThirdSheets$Parts", "joinAcross", "(LThirdSheets$Space;[II)V"⟩, prog_5_method_4_code, 10, none, 2, 52, 3, 3),
  (⟨"ThirdSheets$Parts", "cutAt", "([IIII)I"⟩, prog_5_method_5_code, 9, (some .int), 1, 21, 3, 4),
  (⟨"ThirdSheets$Parts", "looksAway", "([IIII)Z"⟩, prog_5_method_6_code, 4, (some .boolean), 1, 21, 3, 4),
  (⟨"ThirdSheets$Parts", "isNear", "(II)Z"⟩, prog_5_method_7_code, 2, (some .boolean), 0, 0, 3, 2),
  (⟨"ThirdSheets$Parts", "countCuts", "(I)V"⟩, prog_5_method_8_code, 3, none, 0, 0, 3, 1),
  (⟨"ThirdSheets$Parts", "countArcs", "(LThirdSheets$Space;[I)V"⟩, prog_5_method_9_code, 8, none, 2, 49, 3, 2),
  (⟨"ThirdSheets$Parts", "countPoints", "(LThirdSheets$Space;[I)V"⟩, prog_5_method_10_code, 9, none, 1, 21, 3, 2),
  (⟨"ThirdSheets$Sheet", "<init>", "()V"⟩, prog_6_method_1_code, 1, none, 1, 20, 4, 0),
  (⟨"ThirdSheets$Sheet", "wipe", "()V"⟩, prog_6_method_2_code, 1, none, 1, 23, 4, 0),
  (⟨"ThirdSheets$Sheet", "notZero", "()I"⟩, prog_6_method_3_code, 6, (some .int), 0, 0, 4, 0),
  (⟨"ThirdSheets$Sheet", "cutCount", "()I"⟩, prog_6_method_4_code, 6, (some .int), 0, 0, 4, 0),
  (⟨"ThirdSheets$Sheet", "hasRoomFor", "([II)Z"⟩, prog_6_method_5_code, 4, (some .boolean), 0, 0, 4, 2),
  (⟨"ThirdSheets$Sheet", "raise", "([II)V"⟩, prog_6_method_6_code, 4, none, 0, 0, 4, 2),
  (⟨"ThirdSheets$Sheet", "isLegal", "(LThirdSheets$Space;)Z"⟩, prog_6_method_7_code, 2, (some .boolean), 3, 69, 4, 1),
  (⟨"ThirdSheets$Sheet", "fits", "(LThirdSheets$Space;)Z"⟩, prog_6_method_8_code, 3, (some .boolean), 2, 47, 4, 1),
  (⟨"ThirdSheets$Sheet", "fitsAt", "(LThirdSheets$Space;I)Z"⟩, prog_6_method_9_code, 5, (some .boolean), 1, 23, 4, 2),
  (⟨"ThirdSheets$Sheet", "mixesFours", "()Z"⟩, prog_6_method_10_code, 4, (some .boolean), 0, 0, 4, 0),
  (⟨"ThirdSheets$Sheet", "eulerNumber", "(LThirdSheets$Space;)I"⟩, prog_6_method_11_code, 2, (some .int), 2, 48, 4, 1),
  (⟨"ThirdSheets$Sheet", "points", "(LThirdSheets$Space;)I"⟩, prog_6_method_12_code, 6, (some .int), 1, 21, 4, 1),
  (⟨"ThirdSheets$Sheet", "arcs", "(LThirdSheets$Space;)I"⟩, prog_6_method_13_code, 6, (some .int), 1, 23, 4, 1),
  (⟨"ThirdSheets$Space", "<init>", "()V"⟩, prog_7_method_1_code, 1, none, 2, 41, 5, 0),
  (⟨"ThirdSheets$Space", "grow", "()V"⟩, prog_7_method_2_code, 1, none, 0, 0, 5, 0),
  (⟨"ThirdSheets$Space", "empty", "()V"⟩, prog_7_method_3_code, 1, none, 1, 23, 5, 0)]
def am_mt2 : List am_M := [(⟨"ThirdSheets$Space", "isGlued", "(I)Z"⟩, prog_7_method_4_code, 2, (some .boolean), 0, 0, 5, 1),
  (⟨"ThirdSheets$Space", "fasten", "(III)V"⟩, prog_7_method_5_code, 6, none, 1, 24, 5, 3),
  (⟨"ThirdSheets$Space", "tell", "(IIII)V"⟩, prog_7_method_6_code, 5, none, 0, 0, 5, 4),
  (⟨"ThirdSheets$Space", "loosen", "(I)V"⟩, prog_7_method_7_code, 3, none, 0, 0, 5, 1),
  (⟨"ThirdSheets$Space", "isLesser", "(I)Z"⟩, prog_7_method_8_code, 2, (some .boolean), 0, 0, 5, 1),
  (⟨"ThirdSheets$Space", "sortOut", "()V"⟩, prog_7_method_9_code, 2, none, 3, 78, 5, 0),
  (⟨"ThirdSheets$Space", "joinCorners", "(I)V"⟩, prog_7_method_10_code, 5, none, 2, 52, 5, 1),
  (⟨"ThirdSheets$Space", "joinEdges", "(I)V"⟩, prog_7_method_11_code, 7, none, 2, 52, 5, 1),
  (⟨"ThirdSheets$Space", "isEvenChange", "(I)Z"⟩, prog_7_method_12_code, 4, (some .boolean), 0, 0, 5, 1),
  (⟨"ThirdSheets$Space", "sideCount", "()I"⟩, prog_7_method_13_code, 1, (some .int), 0, 0, 5, 0),
  (⟨"ThirdSheets$Space", "openCount", "()I"⟩, prog_7_method_14_code, 1, (some .int), 0, 0, 5, 0),
  (⟨"ThirdSheets$Space", "eulerNumber", "()I"⟩, prog_7_method_15_code, 1, (some .int), 1, 20, 5, 0),
  (⟨"ThirdSheets$Space", "isEven", "()Z"⟩, prog_7_method_16_code, 1, (some .boolean), 2, 42, 5, 0),
  (⟨"ThirdSheets$Space", "isWhole", "()Z"⟩, prog_7_method_17_code, 2, (some .boolean), 3, 67, 5, 0),
  (⟨"ThirdSheets$Space", "linkOf", "(I)I"⟩, prog_7_method_18_code, 2, (some .int), 2, 46, 5, 1),
  (⟨"ThirdSheets$Space", "endsAt", "(I)I"⟩, prog_7_method_19_code, 6, (some .int), 1, 21, 5, 1),
  (⟨"ThirdSheets$Space", "sidesAt", "(I)I"⟩, prog_7_method_20_code, 6, (some .int), 1, 21, 5, 1),
  (⟨"ThirdSheets$Space", "cornersOf", "(I)I"⟩, prog_7_method_21_code, 4, (some .int), 0, 0, 5, 1),
  (⟨"ThirdSheets", "<init>", "()V"⟩, prog_1_method_1_code, 1, none, 3, 61, 6, 0),
  (⟨"ThirdSheets", "piece", "()I"⟩, prog_1_method_2_code, 1, (some .int), 5, 119, 6, 0),
  (⟨"ThirdSheets", "glue", "(IIIII)I"⟩, prog_1_method_3_code, 8, (some .int), 5, 119, 6, 5),
  (⟨"ThirdSheets", "open", "(II)I"⟩, prog_1_method_4_code, 4, (some .int), 5, 119, 6, 2),
  (⟨"ThirdSheets", "clear", "()I"⟩, prog_1_method_5_code, 2, (some .int), 5, 119, 6, 0),
  (⟨"ThirdSheets", "across", "(III)I"⟩, prog_1_method_6_code, 6, (some .int), 2, 43, 6, 3),
  (⟨"ThirdSheets", "classOf", "(III)I"⟩, prog_1_method_7_code, 4, (some .int), 1, 21, 6, 3),
  (⟨"ThirdSheets", "bent", "(I)I"⟩, prog_1_method_8_code, 2, (some .int), 1, 21, 6, 1),
  (⟨"ThirdSheets", "link", "(I)I"⟩, prog_1_method_9_code, 2, (some .int), 3, 67, 6, 1),
  (⟨"ThirdSheets", "count", "(I)I"⟩, prog_1_method_10_code, 2, (some .int), 4, 88, 6, 1),
  (⟨"ThirdSheets", "holes", "(I)I"⟩, prog_1_method_11_code, 2, (some .int), 4, 98, 6, 1),
  (⟨"ThirdSheets", "least", "()I"⟩, prog_1_method_12_code, 1, (some .int), 5, 115, 6, 0)]
def am_mt3 : List am_M := [(⟨"ThirdSheets", "number", "(II)I"⟩, prog_1_method_13_code, 3, (some .int), 5, 115, 6, 2),
  (⟨"ThirdSheets", "put", "(II)I"⟩, prog_1_method_14_code, 4, (some .int), 1, 21, 6, 2),
  (⟨"ThirdSheets", "add", "(II)I"⟩, prog_1_method_15_code, 3, (some .int), 5, 115, 6, 2),
  (⟨"ThirdSheets", "drop", "()I"⟩, prog_1_method_16_code, 2, (some .int), 2, 43, 6, 0),
  (⟨"ThirdSheets", "legal", "()I"⟩, prog_1_method_17_code, 1, (some .int), 3, 69, 6, 0),
  (⟨"ThirdSheets", "euler", "()I"⟩, prog_1_method_18_code, 1, (some .int), 4, 90, 6, 0),
  (⟨"ThirdSheets", "parts", "()I"⟩, prog_1_method_19_code, 1, (some .int), 5, 125, 6, 0),
  (⟨"ThirdSheets", "part", "(II)I"⟩, prog_1_method_20_code, 3, (some .int), 5, 125, 6, 2),
  (⟨"ThirdSheets", "hasPiece", "(I)Z"⟩, prog_1_method_21_code, 2, (some .boolean), 0, 0, 6, 1),
  (⟨"ThirdSheets", "hasSide", "(II)Z"⟩, prog_1_method_22_code, 3, (some .boolean), 1, 21, 6, 2),
  (⟨"ThirdSheets", "hasNumber", "(I)Z"⟩, prog_1_method_23_code, 2, (some .boolean), 0, 0, 6, 1),
  (⟨"ThirdSheets", "hasLeast", "(I)Z"⟩, prog_1_method_24_code, 2, (some .boolean), 0, 0, 6, 1),
  (⟨"ThirdSheets", "goesOnto", "(II)Z"⟩, prog_1_method_25_code, 3, (some .boolean), 0, 0, 6, 2),
  (⟨"ThirdSheets", "spaceChanged", "()V"⟩, prog_1_method_26_code, 1, none, 4, 99, 6, 0),
  (⟨"ThirdSheets", "freshenLeast", "()V"⟩, prog_1_method_27_code, 1, none, 4, 95, 6, 0),
  (⟨"ThirdSheets", "freshenParts", "()V"⟩, prog_1_method_28_code, 1, none, 4, 105, 6, 0),
  (⟨"ThirdSheets", "arcsAround", "([III)I"⟩, prog_1_method_29_code, 4, (some .int), 0, 0, 6, 3),
  (⟨"ThirdSheets", "meets", "(II)Z"⟩, prog_1_method_30_code, 2, (some .boolean), 0, 0, 6, 2),
  (⟨"ThirdSheetsModel", "<init>", "()V"⟩, prog_9_method_1_code, 1, none, 1, 20, 7, 0),
  (⟨"ThirdSheetsModel", "in", "(III)Z"⟩, prog_9_method_2_code, 3, (some .boolean), 0, 0, 7, 3),
  (⟨"ThirdSheetsModel", "isPiece", "(I)Z"⟩, prog_9_method_3_code, 2, (some .boolean), 1, 22, 7, 1),
  (⟨"ThirdSheetsModel", "isSide", "(II)Z"⟩, prog_9_method_4_code, 3, (some .boolean), 2, 43, 7, 2),
  (⟨"ThirdSheetsModel", "edgeOf", "(II)I"⟩, prog_9_method_5_code, 4, (some .int), 0, 0, 7, 2),
  (⟨"ThirdSheetsModel", "endOf", "(III)I"⟩, prog_9_method_6_code, 4, (some .int), 1, 23, 7, 3),
  (⟨"ThirdSheetsModel", "lesser", "(II)I"⟩, prog_9_method_7_code, 2, (some .int), 0, 0, 7, 2),
  (⟨"ThirdSheetsModel", "join", "([III)V"⟩, prog_9_method_8_code, 5, none, 1, 21, 7, 3),
  (⟨"ThirdSheetsModel", "label", "()V"⟩, prog_9_method_9_code, 2, none, 3, 71, 7, 0),
  (⟨"ThirdSheetsModel", "joinSide", "(I)V"⟩, prog_9_method_10_code, 6, none, 2, 46, 7, 1),
  (⟨"ThirdSheetsModel", "edgeLabel", "(II)I"⟩, prog_9_method_11_code, 3, (some .int), 1, 21, 7, 2),
  (⟨"ThirdSheetsModel", "isFirstEdge", "(I)Z"⟩, prog_9_method_12_code, 2, (some .boolean), 2, 43, 7, 1)]
def am_mt4 : List am_M := [(⟨"ThirdSheetsModel", "edgeClasses", "()I"⟩, prog_9_method_13_code, 3, (some .int), 3, 64, 7, 0),
  (⟨"ThirdSheetsModel", "cornerClasses", "()I"⟩, prog_9_method_14_code, 3, (some .int), 0, 0, 7, 0),
  (⟨"ThirdSheetsModel", "edgeOfClass", "(I)I"⟩, prog_9_method_15_code, 4, (some .int), 3, 64, 7, 1),
  (⟨"ThirdSheetsModel", "cornerOfClass", "(I)I"⟩, prog_9_method_16_code, 4, (some .int), 0, 0, 7, 1),
  (⟨"ThirdSheetsModel", "isBent", "(I)Z"⟩, prog_9_method_17_code, 2, (some .boolean), 0, 0, 7, 1),
  (⟨"ThirdSheetsModel", "anyBent", "()Z"⟩, prog_9_method_18_code, 3, (some .boolean), 1, 21, 7, 0),
  (⟨"ThirdSheetsModel", "piece", "()I"⟩, prog_9_method_19_code, 2, (some .int), 1, 21, 7, 0),
  (⟨"ThirdSheetsModel", "empty", "()V"⟩, prog_9_method_20_code, 2, none, 0, 0, 7, 0),
  (⟨"ThirdSheetsModel", "glue", "(IIIII)I"⟩, prog_9_method_21_code, 14, (some .int), 3, 65, 7, 5),
  (⟨"ThirdSheetsModel", "open", "(II)I"⟩, prog_9_method_22_code, 4, (some .int), 3, 65, 7, 2),
  (⟨"ThirdSheetsModel", "clear", "()I"⟩, prog_9_method_23_code, 2, (some .int), 1, 21, 7, 0),
  (⟨"ThirdSheetsModel", "across", "(III)I"⟩, prog_9_method_24_code, 5, (some .int), 3, 65, 7, 3),
  (⟨"ThirdSheetsModel", "classOf", "(III)I"⟩, prog_9_method_25_code, 6, (some .int), 4, 92, 7, 3),
  (⟨"ThirdSheetsModel", "bent", "(I)I"⟩, prog_9_method_26_code, 3, (some .int), 4, 92, 7, 1),
  (⟨"ThirdSheetsModel", "linkOf", "(I)I"⟩, prog_9_method_27_code, 10, (some .int), 2, 46, 7, 1),
  (⟨"ThirdSheetsModel", "link", "(I)I"⟩, prog_9_method_28_code, 3, (some .int), 4, 92, 7, 1),
  (⟨"ThirdSheetsModel", "sides", "(Z)I"⟩, prog_9_method_29_code, 4, (some .int), 0, 0, 7, 1),
  (⟨"ThirdSheetsModel", "isWhole", "()Z"⟩, prog_9_method_30_code, 3, (some .boolean), 3, 75, 7, 0),
  (⟨"ThirdSheetsModel", "isEvenChange", "(I)Z"⟩, prog_9_method_31_code, 5, (some .boolean), 0, 0, 7, 1),
  (⟨"ThirdSheetsModel", "isEven", "()Z"⟩, prog_9_method_32_code, 5, (some .boolean), 1, 24, 7, 0),
  (⟨"ThirdSheetsModel", "setMany", "()I"⟩, prog_9_method_33_code, 3, (some .int), 0, 0, 7, 0),
  (⟨"ThirdSheetsModel", "count", "(I)I"⟩, prog_9_method_34_code, 2, (some .int), 4, 97, 7, 1),
  (⟨"ThirdSheetsModel", "findPairs", "()V"⟩, prog_9_method_35_code, 2, none, 0, 0, 7, 0),
  (⟨"ThirdSheetsModel", "goAround", "(I)Z"⟩, prog_9_method_36_code, 14, (some .boolean), 0, 0, 7, 1),
  (⟨"ThirdSheetsModel", "layLoops", "()V"⟩, prog_9_method_37_code, 2, none, 3, 64, 7, 0),
  (⟨"ThirdSheetsModel", "cell", "(II)J"⟩, prog_9_method_38_code, 3, (some .long), 0, 0, 7, 2),
  (⟨"ThirdSheetsModel", "bring", "(I)Z"⟩, prog_9_method_39_code, 10, (some .boolean), 1, 22, 7, 1),
  (⟨"ThirdSheetsModel", "reduce", "(I)Z"⟩, prog_9_method_40_code, 7, (some .boolean), 1, 22, 7, 1),
  (⟨"ThirdSheetsModel", "holes", "(I)I"⟩, prog_9_method_41_code, 7, (some .int), 4, 92, 7, 1),
  (⟨"ThirdSheetsModel", "kindOf", "(II)I"⟩, prog_9_method_42_code, 3, (some .int), 0, 0, 7, 2)]
def am_mt5 : List am_M := [(⟨"ThirdSheetsModel", "layEquation", "(II)V"⟩, prog_9_method_43_code, 7, none, 1, 22, 7, 2),
  (⟨"ThirdSheetsModel", "side", "(I)I"⟩, prog_9_method_44_code, 4, (some .int), 0, 0, 7, 1),
  (⟨"ThirdSheetsModel", "supportOf", "(I)I"⟩, prog_9_method_45_code, 4, (some .int), 0, 0, 7, 1),
  (⟨"ThirdSheetsModel", "hasOneKind", "(I)Z"⟩, prog_9_method_46_code, 5, (some .boolean), 0, 0, 7, 1),
  (⟨"ThirdSheetsModel", "areBeside", "(III)Z"⟩, prog_9_method_47_code, 6, (some .boolean), 1, 23, 7, 3),
  (⟨"ThirdSheetsModel", "divisor", "(II)I"⟩, prog_9_method_48_code, 5, (some .int), 0, 0, 7, 2),
  (⟨"ThirdSheetsModel", "layRay", "(IIII)V"⟩, prog_9_method_49_code, 8, none, 1, 24, 7, 4),
  (⟨"ThirdSheetsModel", "meet", "()V"⟩, prog_9_method_50_code, 6, none, 2, 51, 7, 0),
  (⟨"ThirdSheetsModel", "isBefore", "(II)Z"⟩, prog_9_method_51_code, 4, (some .boolean), 0, 0, 7, 2),
  (⟨"ThirdSheetsModel", "swap", "(II)V"⟩, prog_9_method_52_code, 5, none, 0, 0, 7, 2),
  (⟨"ThirdSheetsModel", "findLeast", "()V"⟩, prog_9_method_53_code, 3, none, 3, 76, 7, 0),
  (⟨"ThirdSheetsModel", "least", "()I"⟩, prog_9_method_54_code, 1, (some .int), 4, 98, 7, 0),
  (⟨"ThirdSheetsModel", "number", "(II)I"⟩, prog_9_method_55_code, 3, (some .int), 4, 98, 7, 2),
  (⟨"ThirdSheetsModel", "put", "(II)I"⟩, prog_9_method_56_code, 4, (some .int), 1, 22, 7, 2),
  (⟨"ThirdSheetsModel", "add", "(II)I"⟩, prog_9_method_57_code, 4, (some .int), 4, 98, 7, 2),
  (⟨"ThirdSheetsModel", "drop", "()I"⟩, prog_9_method_58_code, 3, (some .int), 1, 21, 7, 0),
  (⟨"ThirdSheetsModel", "arcs", "(III)I"⟩, prog_9_method_59_code, 4, (some .int), 1, 22, 7, 3),
  (⟨"ThirdSheetsModel", "legal", "()I"⟩, prog_9_method_60_code, 3, (some .int), 2, 45, 7, 0),
  (⟨"ThirdSheetsModel", "meets", "(II)Z"⟩, prog_9_method_61_code, 3, (some .boolean), 1, 22, 7, 2),
  (⟨"ThirdSheetsModel", "euler", "()I"⟩, prog_9_method_62_code, 4, (some .int), 4, 92, 7, 0),
  (⟨"ThirdSheetsModel", "cutAt", "(III)I"⟩, prog_9_method_63_code, 9, (some .int), 1, 22, 7, 3),
  (⟨"ThirdSheetsModel", "looks", "(III)Z"⟩, prog_9_method_64_code, 4, (some .boolean), 0, 0, 7, 3),
  (⟨"ThirdSheetsModel", "sortOf", "(I)I"⟩, prog_9_method_65_code, 3, (some .int), 0, 0, 7, 1),
  (⟨"ThirdSheetsModel", "spread", "(II)I"⟩, prog_9_method_66_code, 11, (some .int), 2, 50, 7, 2),
  (⟨"ThirdSheetsModel", "findParts", "()I"⟩, prog_9_method_67_code, 5, (some .int), 4, 92, 7, 0),
  (⟨"ThirdSheetsModel", "parts", "()I"⟩, prog_9_method_68_code, 2, (some .int), 5, 116, 7, 0),
  (⟨"ThirdSheetsModel", "cutsOf", "(I)I"⟩, prog_9_method_69_code, 4, (some .int), 0, 0, 7, 1),
  (⟨"ThirdSheetsModel", "worth", "(I)I"⟩, prog_9_method_70_code, 7, (some .int), 3, 64, 7, 1),
  (⟨"ThirdSheetsModel", "part", "(II)I"⟩, prog_9_method_71_code, 6, (some .int), 5, 116, 7, 2),
  (⟨"java/util/Arrays", "fill", "([JJ)V"⟩, prog_12_method_101_code, 5, none, 0, 0, 9, 2)]
def am_mt6 : List am_M := [(⟨"java/util/Arrays", "fill", "([II)V"⟩, prog_12_method_103_code, 4, none, 0, 0, 9, 2),
  (⟨"ThirdSheetsLaw", "law", "([I)Z"⟩, code, 4, (some .boolean), 6, 147, 8, 1)]
def am_mt : List am_M := am_mt0 ++ am_mt1 ++ am_mt2 ++ am_mt3 ++ am_mt4 ++ am_mt5 ++ am_mt6
def am_m (k : Nat) : am_M := am_mt.getD k (⟨"", "", ""⟩, ⟨#[]⟩, 0, none, 0, 0, 0, 0)
def am_name (k : Nat) : MethodName := (am_m k).1
def am_code (k : Nat) : ByteArray := (am_m k).2.1
def am_maxL (k : Nat) : Nat := (am_m k).2.2.1
def am_ret (k : Nat) : Option FieldType := (am_m k).2.2.2.1
def am_fr (k : Nat) : Nat := (am_m k).2.2.2.2.1
def am_lo (k : Nat) : Nat := (am_m k).2.2.2.2.2.1
def am_mc (k : Nat) : Nat := (am_m k).2.2.2.2.2.2.1
def am_na (k : Nat) : Nat := (am_m k).2.2.2.2.2.2.2
def am_ftL : List ((Nat × Nat) × Nat × Nat) := [((0, 7), 0, 0), ((0, 13), 0, 1), ((0, 16), 0, 2), ((0, 20), 0, 3), ((0, 23), 0, 4), ((0, 32), 0, 5), ((0, 43), 0, 6), ((1, 13), 1, 2), ((1, 16), 1, 3), ((1, 20), 1, 4), ((1, 23), 1, 6), ((1, 26), 1, 7), ((1, 29), 5, 0), ((1, 43), 5, 2), ((1, 46), 5, 3), ((1, 59), 1, 0), ((1, 62), 1, 1), ((1, 75), 1, 5), ((2, 13), 2, 0), ((2, 16), 2, 1), ((2, 24), 2, 2), ((2, 28), 5, 5), ((2, 34), 0, 6), ((2, 39), 0, 4), ((2, 46), 2, 4), ((2, 49), 2, 3), ((2, 62), 5, 0), ((2, 68), 5, 2), ((2, 88), 5, 3), ((3, 14), 3, 0), ((3, 20), 3, 1), ((3, 24), 3, 2), ((3, 27), 3, 3), ((3, 37), 5, 0), ((3, 70), 5, 2), ((3, 73), 5, 3), ((3, 99), 0, 6), ((3, 102), 0, 3), ((3, 108), 5, 5), ((3, 111), 0, 4), ((4, 9), 4, 0), ((4, 31), 5, 0), ((4, 45), 5, 2), ((4, 48), 5, 3), ((4, 66), 5, 5), ((4, 70), 0, 6), ((4, 75), 0, 4), ((5, 9), 5, 2), ((5, 15), 5, 3), ((5, 23), 5, 4), ((5, 27), 5, 5), ((5, 30), 5, 6), ((5, 39), 5, 0), ((5, 43), 5, 1), ((5, 82), 0, 6), ((5, 109), 0, 4), ((5, 112), 0, 3), ((6, 10), 6, 0), ((6, 19), 6, 1), ((6, 26), 6, 2), ((6, 33), 6, 3), ((6, 40), 6, 4), ((6, 44), 6, 5), ((6, 48), 6, 6), ((6, 51), 5, 0), ((6, 86), 5, 2), ((6, 93), 5, 4), ((6, 97), 0, 3), ((6, 102), 5, 5), ((6, 105), 0, 6), ((6, 133), 5, 6), ((6, 143), 5, 1), ((6, 146), 2, 4), ((6, 155), 1, 1), ((6, 164), 1, 2), ((6, 168), 4, 0), ((6, 200), 3, 0), ((6, 203), 3, 2), ((6, 206), 3, 3), ((7, 7), 7, 1), ((7, 13), 7, 2), ((7, 16), 7, 3), ((7, 19), 7, 4), ((7, 22), 7, 5), ((7, 25), 7, 6), ((7, 28), 7, 7), ((7, 31), 7, 8), ((7, 34), 7, 10), ((7, 38), 7, 13), ((7, 42), 7, 15), ((7, 45), 7, 16), ((7, 48), 7, 17), ((7, 51), 7, 20), ((7, 54), 7, 21), ((7, 57), 7, 22), ((7, 60), 7, 23), ((7, 63), 7, 25), ((7, 67), 7, 0), ((7, 86), 7, 9), ((7, 159), 7, 12), ((7, 162), 7, 11), ((7, 189), 7, 14), ((7, 195), 7, 18), ((7, 248), 7, 24), ((7, 251), 7, 19)]
/-- static arrays: which, and whether by the nest -/
def am_gtL : List ((Nat × Nat) × Nat × Nat) := [((2, 77), 1, 1), ((2, 80), 2, 1), ((2, 91), 3, 1), ((3, 92), 4, 1), ((5, 73), 1, 1), ((5, 76), 2, 1), ((5, 79), 3, 1), ((6, 216), 4, 0), ((6, 219), 1, 0), ((6, 222), 2, 0)]
/-- calls: 0 virtual, 1 static, 2 constructor, 3 static by the nest, 4 Object's constructor, 5 arraycopy, 6 min, 7 max, 8 abs -/
def am_ctL : List ((Nat × Nat) × Nat × Nat) := [((0, 1), 4, 0), ((0, 26), 6, 0), ((0, 36), 0, 2), ((0, 40), 7, 0), ((0, 46), 0, 5), ((1, 3), 4, 0), ((1, 35), 0, 9), ((1, 39), 0, 64), ((1, 49), 0, 10), ((1, 53), 0, 11), ((1, 56), 0, 18), ((1, 65), 1, 180), ((1, 71), 3, 106), ((1, 78), 0, 12), ((1, 81), 0, 13), ((1, 85), 0, 15), ((1, 89), 0, 17), ((1, 92), 5, 0), ((1, 98), 1, 14), ((1, 101), 1, 16), ((1, 105), 0, 19), ((2, 3), 4, 0), ((2, 20), 0, 23), ((2, 42), 0, 24), ((2, 52), 6, 0), ((2, 58), 0, 25), ((2, 65), 0, 64), ((2, 71), 1, 179), ((2, 83), 0, 60), ((2, 95), 0, 26), ((2, 98), 0, 29), ((2, 101), 0, 30), ((2, 104), 0, 32), ((2, 107), 8, 0), ((2, 111), 0, 27), ((2, 115), 0, 28), ((2, 118), 1, 31), ((2, 122), 0, 33), ((3, 3), 4, 0), ((3, 11), 2, 0), ((3, 30), 0, 36), ((3, 34), 0, 1), ((3, 43), 0, 64), ((3, 47), 0, 37), ((3, 51), 0, 4), ((3, 54), 0, 41), ((3, 57), 0, 42), ((3, 61), 0, 43), ((3, 64), 6, 0), ((3, 76), 3, 106), ((3, 80), 1, 39), ((3, 84), 0, 38), ((3, 88), 0, 3), ((3, 95), 1, 40), ((3, 105), 0, 60), ((3, 114), 3, 107), ((4, 3), 4, 0), ((4, 15), 1, 180), ((4, 23), 0, 51), ((4, 27), 0, 53), ((4, 37), 0, 64), ((4, 41), 0, 52), ((4, 51), 3, 106), ((4, 55), 0, 55), ((4, 59), 0, 56), ((4, 62), 0, 47), ((4, 78), 3, 107), ((4, 82), 0, 60), ((5, 3), 4, 0), ((5, 20), 2, 0), ((5, 33), 1, 180), ((5, 46), 0, 62), ((5, 50), 0, 1), ((5, 53), 0, 64), ((5, 57), 0, 66), ((5, 60), 0, 67), ((5, 63), 0, 68), ((5, 66), 0, 3), ((5, 70), 0, 4), ((5, 85), 0, 69), ((5, 89), 0, 6), ((5, 93), 0, 70), ((5, 96), 0, 74), ((5, 100), 0, 75), ((5, 103), 0, 76), ((5, 106), 0, 77), ((5, 115), 0, 5), ((5, 118), 0, 60), ((6, 1), 4, 0), ((6, 9), 2, 57), ((6, 18), 2, 20), ((6, 25), 2, 7), ((6, 32), 2, 44), ((6, 39), 2, 34), ((6, 55), 0, 58), ((6, 58), 0, 45), ((6, 61), 0, 103), ((6, 64), 0, 99), ((6, 68), 1, 102), ((6, 71), 0, 60), ((6, 75), 0, 61), ((6, 79), 0, 63), ((6, 83), 0, 59), ((6, 90), 0, 98), ((6, 108), 0, 5), ((6, 112), 0, 74), ((6, 116), 0, 69), ((6, 120), 0, 70), ((6, 123), 0, 71), ((6, 126), 0, 73), ((6, 130), 0, 72), ((6, 136), 0, 6), ((6, 139), 0, 21), ((6, 149), 0, 22), ((6, 152), 0, 104), ((6, 158), 0, 101), ((6, 161), 0, 100), ((6, 170), 0, 48), ((6, 174), 0, 49), ((6, 178), 0, 46), ((6, 181), 0, 51), ((6, 185), 0, 53), ((6, 188), 0, 50), ((6, 191), 0, 54), ((6, 194), 0, 47), ((6, 197), 0, 105), ((6, 209), 0, 65), ((6, 212), 0, 8), ((6, 213), 0, 35), ((7, 1), 4, 0), ((7, 71), 1, 109), ((7, 75), 0, 110), ((7, 79), 0, 112), ((7, 83), 1, 114), ((7, 90), 0, 117), ((7, 94), 0, 115), ((7, 98), 0, 113), ((7, 102), 0, 118), ((7, 105), 0, 119), ((7, 108), 0, 124), ((7, 111), 0, 127), ((7, 114), 0, 111), ((7, 118), 0, 116), ((7, 121), 0, 122), ((7, 125), 0, 123), ((7, 129), 0, 134), ((7, 132), 0, 136), ((7, 136), 0, 125), ((7, 140), 0, 138), ((7, 143), 0, 121), ((7, 147), 0, 120), ((7, 150), 0, 137), ((7, 153), 0, 139), ((7, 156), 0, 140), ((7, 167), 0, 142), ((7, 170), 0, 143), ((7, 173), 0, 145), ((7, 177), 0, 144), ((7, 180), 0, 146), ((7, 183), 0, 147), ((7, 186), 1, 149), ((7, 192), 0, 152), ((7, 198), 1, 155), ((7, 201), 0, 151), ((7, 204), 0, 156), ((7, 208), 0, 153), ((7, 211), 0, 154), ((7, 214), 0, 150), ((7, 218), 0, 157), ((7, 221), 0, 158), ((7, 224), 0, 159), ((7, 227), 0, 160), ((7, 230), 0, 166), ((7, 233), 0, 167), ((7, 236), 0, 168), ((7, 239), 0, 172), ((7, 242), 0, 170), ((7, 245), 0, 171), ((7, 254), 0, 173), ((7, 257), 0, 174), ((7, 260), 0, 176), ((7, 263), 0, 177), ((8, 9), 2, 78), ((8, 12), 2, 108), ((8, 13), 0, 79), ((8, 17), 0, 126), ((8, 18), 0, 80), ((8, 22), 0, 128), ((8, 23), 0, 81), ((8, 27), 0, 129), ((8, 28), 0, 82), ((8, 31), 0, 130), ((8, 32), 0, 83), ((8, 36), 0, 131), ((8, 37), 0, 84), ((8, 40), 0, 132), ((8, 41), 0, 85), ((8, 45), 0, 133), ((8, 46), 0, 86), ((8, 49), 0, 135), ((8, 50), 0, 87), ((8, 53), 0, 141), ((8, 54), 0, 88), ((8, 57), 0, 148), ((8, 58), 0, 89), ((8, 61), 0, 161), ((8, 62), 0, 90), ((8, 65), 0, 162), ((8, 66), 0, 91), ((8, 69), 0, 163), ((8, 70), 0, 92), ((8, 73), 0, 164), ((8, 74), 0, 93), ((8, 77), 0, 165), ((8, 78), 0, 94), ((8, 81), 0, 167), ((8, 82), 0, 95), ((8, 85), 0, 169), ((8, 86), 0, 96), ((8, 89), 0, 175), ((8, 90), 0, 97), ((8, 93), 0, 178)]
def am_ccL : List ((Nat × Nat) × Int32) := [((6, 111), (-2147483648)), ((2, 94), (100000)), ((7, 41), (42000)), ((7, 128), (-2147483648))]
def am_clL : List ((Nat × Nat) × Int64) := [((2, 86), (-1)), ((4, 21), (1000)), ((7, 165), (-1))]
def am_nwL : List ((Nat × Nat) × Nat) := [((6, 7), 5), ((6, 16), 2), ((6, 23), 1), ((6, 30), 4), ((6, 37), 3), ((3, 9), 0), ((5, 18), 0), ((8, 7), 6), ((8, 10), 7)]
def am_mwL : List ((Nat × Nat) × Nat) := [((1, 11), 3), ((2, 11), 4)]
end
section
/-! an abstract machine: values are the machine's own, but a reference is a place in one growing row of cells, and a float stands for an array that is given (0 the script, 1 .. 4 the static rows) -/
abbrev am_E : Type := (Nat × vp_A) ⊕ (Nat × List Value)
abbrev am_H : Type := Nat → am_E
abbrev am_L : Type := List (Nat × Value)
/-- pc, locals, stack, how many cells, cells, cells made, slots made -/
abbrev am_Z : Type := Nat × am_L × List Value × Nat × am_H × Nat × Nat
/-- answer, how many cells, cells, cells made, slots made -/
abbrev am_R : Type := Option Value × Nat × am_H × Nat × Nat
abbrev am_X : Type := Nat × (Nat → Int32)
def am_up (h : am_H) (k : Nat) (e : am_E) : am_H := fun j => if j = k then e else h j
def am_find {β : Type} (l : List ((Nat × Nat) × β)) (a b : Nat) : Option β := (l.find? (fun q => q.1.1 == a && q.1.2 == b)).map (fun q => q.2)
def am_ld (L : am_L) (i : Nat) : Option Value := (L.find? (fun q => q.1 == i)).map (fun q => q.2)
def am_st1 (L : am_L) (i : Nat) (v : Value) : am_L := (i, v) :: L.filter (fun q => !(q.1 == i) && !(q.1 + 1 == i && q.2.category == 2))
def am_st2 (L : am_L) (i : Nat) (v : Value) : am_L := (i, v) :: L.filter (fun q => !(q.1 == i) && (!(q.1 == i + 1) && !(q.1 + 1 == i && q.2.category == 2)))
def am_C (ci : Nat) : vw_C := am_cl.getD ci ("", fun _ => ("", "", "", false), 0)
def am_ty (ci k : Nat) : FieldType := (parseFieldDescriptor ((am_C ci).2.1 k).2.2.1).getD .int
def am_sl : Nat → List Int32 := fun u => ([[0, 0, 0, 1, 1, 2], [1, 2, 3, 2, 3, 3], [0, 0, 1, 2, 0, 0, 3, 4, 1, 3, 0, 5, 2, 4, 5, 0], [0, 0, 1, 2, 0, 0, 2, 1, 1, 2, 0, 0, 2, 1, 0, 0]] : List (List Int32)).getD u []
def am_sx (X : am_X) (u : Nat) : am_X := if u = 0 then X else ((am_sl (u - 1)).length, fun j => (am_sl (u - 1)).getD j 0)
def am_okv : FieldType → Value → Bool
  | .int, .int _ => true
  | .long, .long _ => true
  | .boolean, .int v => v == 0 || v == 1
  | .array _, .ref _ => true
  | .object _, .ref _ => true
  | _, _ => false
def am_zero (t N : Nat) : am_E := if t = 1 then .inl (1, N, .inr (.inl (fun _ => 0))) else .inl (t, N, .inl (fun _ => 0))
def am_cat (st : List Value) : Nat := (st.map fun v => v.category).sum
abbrev am_O : Type := Option (am_Z ⊕ am_R)
def am_go (pc : Nat) (L : am_L) (st : List Value) (n : Nat) (h : am_H) (c s : Nat) : am_O := some (.inl (pc, L, st, n, h, c, s))
def am_jmp (pc : Nat) (off : Int) (L : am_L) (st : List Value) (n : Nat) (h : am_H) (c s : Nat) : am_O := if 0 ≤ (pc : Int) + off then am_go ((pc : Int) + off).toNat L st n h c s else none
/-- how long an instruction is (0: any) -/
def am_len : Instr → Nat
  | .aaload | .aastore | .aload_n _ | .arraylength | .astore_n _ | .baload | .bastore | .dup | .dup2 | .i2l | .iadd | .iaload | .iand | .iastore | .iconst _ | .idiv | .iload_n _ | .imul | .ineg | .ior | .irem | .ireturn | .ishl | .ishr | .istore_n _ | .isub | .ixor | .l2i | .ladd | .laload | .lastore | .lcmp | .lconst _ | .ldiv | .lload_n _ | .lmul | .lneg | .lrem | .lreturn | .lstore_n _ | .lsub | .pop | .return_ => 1
  | .bipush _ | .iload _ | .istore _ | .ldc _ | .lload _ | .lstore _ | .newarray _ => 2
  | .getfield _ | .getstatic _ | .goto _ | .ifCond _ _ | .if_icmp _ _ | .iinc _ _ | .invokespecial _ | .invokestatic _ | .invokevirtual _ | .ldc2_w _ | .new _ | .putfield _ | .sipush _ => 3
  | .multianewarray _ _ => 4
  | _ => 0
def am_br (o : ClassFile.Cond) (x y : Int32) (a b : am_O) : am_O := match o with
  | .eq => if x = y then a else b
  | .ne => if ¬ x = y then a else b
  | .lt => if x < y then a else b
  | .ge => if y ≤ x then a else b
  | .gt => if y < x then a else b
  | .le => if x ≤ y then a else b
/-- what a call answers -/
abbrev am_Cl : Type := Nat → List Value → Nat → am_H → Option am_R
def am_ret1 (ty : Option FieldType) (v : Int32) : Bool := match ty with
  | some .int => true
  | some .boolean => v == 0 || v == 1
  | _ => false
def am_back (pc : Nat) (L : am_L) (rest : List Value) (c s : Nat) (r : Option am_R) : am_O := match r with
  | some (v, n, h, c1, s1) => am_go pc L (v.toList ++ rest) n h (c + c1) (s + s1)
  | none => none
def am_okc (mi mj : Nat) (rest : List Value) : Bool := decide (am_cat rest ≤ 8) && decide (am_fr mj + 1 ≤ am_fr mi) && decide (8 + (am_maxL mj + 11) + am_lo mj ≤ am_lo mi)
def am_copy (h : am_H) (a0 a1 : Nat) (sp dp k : Int32) : Option am_H := match h a0, h a1 with
  | .inl (0, n0, .inl f), .inl (0, n1, .inl g) => if ¬ sp < 0 ∧ ¬ dp < 0 ∧ ¬ k < 0 ∧ sp.toNatClampNeg + k.toNatClampNeg ≤ n0 ∧ dp.toNatClampNeg + k.toNatClampNeg ≤ n1 then some (am_up h a1 (.inl (0, n1, .inl (va_cpy f g sp.toNatClampNeg dp.toNatClampNeg k.toNatClampNeg)))) else none
  | _, _ => none
def am_call (call : am_Cl) (mi q : Nat) (kd : Nat) (pc : Nat) (L : am_L) (st : List Value) (n : Nat) (h : am_H) (c s : Nat) : am_O :=
  match am_find am_ctL (am_mc mi) q with
  | none => none
  | some (k, mj) => if k ≠ kd then none else
    match k with
    | 0 => match st.drop (am_na mj) with
      | .ref b :: rest => match h b with
        | .inr (ci, _) => if b < n ∧ ci = am_mc mj ∧ (st.take (am_na mj)).length = am_na mj ∧ am_okc mi mj rest = true then am_back (pc + 3) L rest c s (call mj (.ref b :: (st.take (am_na mj)).reverse) n h) else none
        | _ => none
      | _ => none
    | 1 => if (st.take (am_na mj)).length = am_na mj ∧ am_okc mi mj (st.drop (am_na mj)) = true then am_back (pc + 3) L (st.drop (am_na mj)) c s (call mj (st.take (am_na mj)).reverse n h) else none
    | 2 => match st.drop (am_na mj) with
      | .ref b :: rest => if (st.take (am_na mj)).length = am_na mj ∧ am_ret mj = none ∧ am_okc mi mj rest = true then am_back (pc + 3) L rest c s (call mj (.ref b :: (st.take (am_na mj)).reverse) n h) else none
      | _ => none
    | 3 => if (st.take (am_na mj)).length = am_na mj ∧ am_okc mi mj (st.drop (am_na mj)) = true then am_back (pc + 3) L (st.drop (am_na mj)) c s (call mj (st.take (am_na mj)).reverse n h) else none
    | 4 => match st with
      | .ref _ :: rest => if 1 ≤ am_fr mi ∧ am_cat rest + 12 ≤ am_lo mi then am_go (pc + 3) L rest n h c s else none
      | _ => none
    | 6 => match st with
      | .int y :: .int x :: rest => if 1 ≤ am_fr mi ∧ am_cat rest + 13 ≤ am_lo mi then am_go (pc + 3) L (.int (if y < x then y else x) :: rest) n h c s else none
      | _ => none
    | 7 => match st with
      | .int y :: .int x :: rest => if 1 ≤ am_fr mi ∧ am_cat rest + 13 ≤ am_lo mi then am_go (pc + 3) L (.int (if x < y then y else x) :: rest) n h c s else none
      | _ => none
    | 8 => match st with
      | .long x :: rest => if 1 ≤ am_fr mi ∧ am_cat rest + 13 ≤ am_lo mi then am_go (pc + 3) L (.long (if 0 < x then x else -x) :: rest) n h c s else none
      | _ => none
    | 5 => match st with
      | .int k :: .int dp :: .ref a1 :: .int sp :: .ref a0 :: rest => match am_copy h a0 a1 sp dp k with
        | some h1 => if a0 < n ∧ a1 < n ∧ 1 ≤ am_fr mi ∧ am_cat rest + (nativeFrameWords "java/lang/System" "arraycopy" 5 + 11) ≤ am_lo mi then am_go (pc + 3) L rest n h1 c s else none
        | none => none
      | _ => none
    | _ => none
def am_in (i : Int32) (n : Nat) : Bool := decide (¬ (i < 0 ∨ n ≤ i.toNatClampNeg))
theorem am_in_vp {i : Int32} {n : Nat} (h : am_in i n = true) : vp_in i n := by
  show ¬ (i < 0 ∨ n ≤ i.toNatClampNeg)
  exact of_decide_eq_true h
def am_aload (X : am_X) (t : Nat) (st : List Value) (n : Nat) (h : am_H) : Option (List Value) := match st with
  | .int i :: .ref a :: rest => match h a with
    | .inl (u, len, .inl f) => if a < n ∧ u = t ∧ am_in i len = true then some (.int (f i.toNatClampNeg) :: rest) else none
    | _ => none
  | .int i :: .float u :: rest => if t = 0 ∧ u.toNat < 5 ∧ am_in i (am_sx X u.toNat).1 = true then some (.int ((am_sx X u.toNat).2 i.toNatClampNeg) :: rest) else none
  | _ => none
def am_lald (st : List Value) (n : Nat) (h : am_H) : Option (List Value) := match st with
  | .int i :: .ref a :: rest => match h a with
    | .inl (1, len, .inr (.inl f)) => if a < n ∧ am_in i len = true then some (.long (f i.toNatClampNeg) :: rest) else none
    | _ => none
  | _ => none
def am_aald (st : List Value) (n : Nat) (h : am_H) : Option (List Value) := match st with
  | .int i :: .ref a :: rest => match h a with
    | .inl (t, len, .inr (.inr (.inr (.inr f)))) => if a < n ∧ (t = 3 ∨ t = 4) ∧ am_in i len = true then some (va_rf (f i.toNatClampNeg) :: rest) else none
    | _ => none
  | _ => none
def am_astore (t : Nat) (st : List Value) (n : Nat) (h : am_H) : Option (List Value × am_H) := match st with
  | .int x :: .int i :: .ref a :: rest => match h a with
    | .inl (u, len, .inl f) => if a < n ∧ u = t ∧ am_in i len = true then some (rest, am_up h a (.inl (u, len, .inl (upd f i.toNatClampNeg (if t = 2 then vp_nar .boolean x else x))))) else none
    | _ => none
  | _ => none
def am_last (st : List Value) (n : Nat) (h : am_H) : Option (List Value × am_H) := match st with
  | .long x :: .int i :: .ref a :: rest => match h a with
    | .inl (1, len, .inr (.inl f)) => if a < n ∧ am_in i len = true then some (rest, am_up h a (.inl (1, len, .inr (.inl (vp_updL f i.toNatClampNeg x))))) else none
    | _ => none
  | _ => none
def am_aast (st : List Value) (n : Nat) (h : am_H) : Option (List Value × am_H) := match st with
  | .ref v :: .int i :: .ref a :: rest => match h a, h v with
    | .inl (t, len, .inr (.inr (.inr (.inr f)))), .inl (u, _, _) => if a < n ∧ v < n ∧ (t = 3 ∧ u = 0 ∨ t = 4 ∧ u = 1) ∧ am_in i len = true then some (rest, am_up h a (.inl (t, len, .inr (.inr (.inr (.inr (va_up f i.toNatClampNeg (some v)))))))) else none
    | _, _ => none
  | _ => none
def am_alen (X : am_X) (st : List Value) (n : Nat) (h : am_H) : Option (List Value) := match st with
  | .ref a :: rest => match h a with
    | .inl (t, len, _) => if a < n ∧ t < 5 then some (.int (Int32.ofNat len) :: rest) else none
    | _ => none
  | .float u :: rest => if u.toNat < 5 then some (.int (Int32.ofNat (am_sx X u.toNat).1) :: rest) else none
  | _ => none
def am_get (mi q : Nat) (st : List Value) (n : Nat) (h : am_H) : Option (List Value) := match am_find am_ftL (am_mc mi) q, st with
  | some (ci, k), .ref a :: rest => match h a with
    | .inr (cj, fs) => if a < n ∧ ci = cj then (fs[k]?).map (fun v => v :: rest) else none
    | _ => none
  | _, _ => none
def am_put (mi q : Nat) (st : List Value) (n : Nat) (h : am_H) : Option (List Value × am_H) := match am_find am_ftL (am_mc mi) q, st with
  | some (ci, k), v :: .ref a :: rest => match h a with
    | .inr (cj, fs) => if a < n ∧ ci = cj ∧ k < fs.length ∧ am_okv (am_ty ci k) v = true ∧ (((am_C ci).2.1 k).2.2.2 = false ∨ ((am_name mi).name = "<init>" ∧ ((am_C ci).2.1 k).1 = am_cn (am_mc mi))) then some (rest, am_up h a (.inr (cj, fs.set k v))) else none
    | _ => none
  | _, _ => none
def am_def (ci : Nat) : List Value := (List.range (am_C ci).2.2).map (fun k => defaultValue (am_ty ci k))
def am_atype : ArrayType → Option Nat
  | .int => some 0
  | .long => some 1
  | .boolean => some 2
  | _ => none
def am_grid (n : Nat) (h : am_H) (t N M : Nat) : am_H := fun j => if j = n then .inl (t, N, .inr (.inr (.inr (.inr (fun i => if i < N then some (n + 1 + i) else none))))) else if n < j ∧ j < n + 1 + N then am_zero (t - 3) M else h j
def am_ex (X : am_X) (call : am_Cl) (mi : Nat) (i : Instr) (len pc : Nat) (L : am_L) (st : List Value) (n : Nat) (h : am_H) (c s : Nat) : am_O :=
  match i with
  | .iconst v => am_go (pc + 1) L (.int (Int32.ofInt v) :: st) n h c s
  | .bipush v => am_go (pc + 2) L (.int (Int8.ofInt v).toInt32 :: st) n h c s
  | .sipush v => am_go (pc + 3) L (.int (Int16.ofInt v).toInt32 :: st) n h c s
  | .lconst v => am_go (pc + 1) L (.long (Int64.ofNat v) :: st) n h c s
  | .ldc q => match am_find am_ccL (am_mc mi) q with
    | some v => am_go (pc + 2) L (.int v :: st) n h c s
    | none => none
  | .ldc2_w q => match am_find am_clL (am_mc mi) q with
    | some v => am_go (pc + 3) L (.long v :: st) n h c s
    | none => none
  | .iload k => match am_ld L k with
    | some (.int x) => am_go (pc + 2) L (.int x :: st) n h c s
    | _ => none
  | .iload_n k => match am_ld L k with
    | some (.int x) => am_go (pc + 1) L (.int x :: st) n h c s
    | _ => none
  | .lload k => match am_ld L k with
    | some (.long x) => am_go (pc + 2) L (.long x :: st) n h c s
    | _ => none
  | .lload_n k => match am_ld L k with
    | some (.long x) => am_go (pc + 1) L (.long x :: st) n h c s
    | _ => none
  | .aload_n k => match am_ld L k with
    | some (.ref x) => am_go (pc + 1) L (.ref x :: st) n h c s
    | some (.float x) => am_go (pc + 1) L (.float x :: st) n h c s
    | _ => none
  | .istore k => match st with
    | .int x :: r => if k < am_maxL mi then am_go (pc + 2) (am_st1 L k (.int x)) r n h c s else none
    | _ => none
  | .istore_n k => match st with
    | .int x :: r => if (k : Nat) < am_maxL mi then am_go (pc + 1) (am_st1 L k (.int x)) r n h c s else none
    | _ => none
  | .lstore k => match st with
    | .long x :: r => if k + 1 < am_maxL mi then am_go (pc + 2) (am_st2 L k (.long x)) r n h c s else none
    | _ => none
  | .lstore_n k => match st with
    | .long x :: r => if (k : Nat) + 1 < am_maxL mi then am_go (pc + 1) (am_st2 L k (.long x)) r n h c s else none
    | _ => none
  | .astore_n k => match st with
    | .ref x :: r => if (k : Nat) < am_maxL mi then am_go (pc + 1) (am_st1 L k (.ref x)) r n h c s else none
    | _ => none
  | .iinc k v => match am_ld L k with
    | some (.int x) => if k < am_maxL mi then am_go (pc + 3) (am_st1 L k (.int (x + Int32.ofInt v))) st n h c s else none
    | _ => none
  | .iadd => match st with
    | .int y :: .int x :: r => am_go (pc + 1) L (.int (x + y) :: r) n h c s
    | _ => none
  | .isub => match st with
    | .int y :: .int x :: r => am_go (pc + 1) L (.int (x - y) :: r) n h c s
    | _ => none
  | .imul => match st with
    | .int y :: .int x :: r => am_go (pc + 1) L (.int (x * y) :: r) n h c s
    | _ => none
  | .iand => match st with
    | .int y :: .int x :: r => am_go (pc + 1) L (.int (x &&& y) :: r) n h c s
    | _ => none
  | .ior => match st with
    | .int y :: .int x :: r => am_go (pc + 1) L (.int (x ||| y) :: r) n h c s
    | _ => none
  | .ixor => match st with
    | .int y :: .int x :: r => am_go (pc + 1) L (.int (x ^^^ y) :: r) n h c s
    | _ => none
  | .idiv => match st with
    | .int y :: .int x :: r => if ¬ y = 0 then am_go (pc + 1) L (.int (x / y) :: r) n h c s else none
    | _ => none
  | .irem => match st with
    | .int y :: .int x :: r => if ¬ y = 0 then am_go (pc + 1) L (.int (x - x / y * y) :: r) n h c s else none
    | _ => none
  | .ishl => match st with
    | .int y :: .int x :: r => am_go (pc + 1) L (.int (x <<< (y &&& 31)) :: r) n h c s
    | _ => none
  | .ishr => match st with
    | .int y :: .int x :: r => am_go (pc + 1) L (.int (x >>> (y &&& 31)) :: r) n h c s
    | _ => none
  | .ineg => match st with
    | .int x :: r => am_go (pc + 1) L (.int (-x) :: r) n h c s
    | _ => none
  | .ladd => match st with
    | .long y :: .long x :: r => am_go (pc + 1) L (.long (x + y) :: r) n h c s
    | _ => none
  | .lsub => match st with
    | .long y :: .long x :: r => am_go (pc + 1) L (.long (x - y) :: r) n h c s
    | _ => none
  | .lmul => match st with
    | .long y :: .long x :: r => am_go (pc + 1) L (.long (x * y) :: r) n h c s
    | _ => none
  | .ldiv => match st with
    | .long y :: .long x :: r => if ¬ y = 0 then am_go (pc + 1) L (.long (x / y) :: r) n h c s else none
    | _ => none
  | .lrem => match st with
    | .long y :: .long x :: r => if ¬ y = 0 then am_go (pc + 1) L (.long (x - x / y * y) :: r) n h c s else none
    | _ => none
  | .lneg => match st with
    | .long x :: r => am_go (pc + 1) L (.long (-x) :: r) n h c s
    | _ => none
  | .lcmp => match st with
    | .long y :: .long x :: r => am_go (pc + 1) L (.int (lg_cmp x y) :: r) n h c s
    | _ => none
  | .i2l => match st with
    | .int x :: r => am_go (pc + 1) L (.long x.toInt64 :: r) n h c s
    | _ => none
  | .l2i => match st with
    | .long x :: r => am_go (pc + 1) L (.int x.toInt32 :: r) n h c s
    | _ => none
  | .dup => match st with
    | v :: r => if v.category = 1 then am_go (pc + 1) L (v :: v :: r) n h c s else none
    | _ => none
  | .pop => match st with
    | v :: r => if v.category = 1 then am_go (pc + 1) L r n h c s else none
    | _ => none
  | .dup2 => match st with
    | v :: w :: r => if v.category = 1 ∧ w.category = 1 then am_go (pc + 1) L (v :: w :: v :: w :: r) n h c s else none
    | _ => none
  | .goto o => am_jmp pc o L st n h c s
  | .ifCond o d => match st with
    | .int x :: r => am_br o x 0 (am_jmp pc d L r n h c s) (am_go (pc + 3) L r n h c s)
    | _ => none
  | .if_icmp o d => match st with
    | .int y :: .int x :: r => am_br o x y (am_jmp pc d L r n h c s) (am_go (pc + 3) L r n h c s)
    | _ => none
  | .tableswitch d lo hi offs => match st with
    | .int x :: r => if x.toInt < lo ∨ hi < x.toInt then am_jmp pc d L r n h c s else match offs[(x.toInt - lo).toNat]? with
      | some o => am_jmp pc o L r n h c s
      | none => none
    | _ => none
  | .lookupswitch d ps => match st with
    | .int x :: r => if (ps.toList.zip (ps.toList.drop 1)).all (fun (a, next) => a.1 < next.1) = true then am_jmp pc (Op.lookupswitch.offset ps.toList d x.toInt) L r n h c s else none
    | _ => none
  | .getfield q => match am_get mi q st n h with
    | some st1 => am_go (pc + 3) L st1 n h c s
    | none => none
  | .putfield q => match am_put mi q st n h with
    | some (st1, h1) => am_go (pc + 3) L st1 n h1 c s
    | none => none
  | .getstatic q => match am_find am_gtL (am_mc mi) q with
    | some (u, _) => am_go (pc + 3) L (.float (UInt32.ofNat u) :: st) n h c s
    | none => none
  | .iaload => match am_aload X 0 st n h with
    | some st1 => am_go (pc + 1) L st1 n h c s
    | none => none
  | .baload => match am_aload X 2 st n h with
    | some st1 => am_go (pc + 1) L st1 n h c s
    | none => none
  | .laload => match am_lald st n h with
    | some st1 => am_go (pc + 1) L st1 n h c s
    | none => none
  | .aaload => match am_aald st n h with
    | some st1 => am_go (pc + 1) L st1 n h c s
    | none => none
  | .iastore => match am_astore 0 st n h with
    | some (st1, h1) => am_go (pc + 1) L st1 n h1 c s
    | none => none
  | .bastore => match am_astore 2 st n h with
    | some (st1, h1) => am_go (pc + 1) L st1 n h1 c s
    | none => none
  | .lastore => match am_last st n h with
    | some (st1, h1) => am_go (pc + 1) L st1 n h1 c s
    | none => none
  | .aastore => match am_aast st n h with
    | some (st1, h1) => am_go (pc + 1) L st1 n h1 c s
    | none => none
  | .arraylength => match am_alen X st n h with
    | some st1 => am_go (pc + 1) L st1 n h c s
    | none => none
  | .new q => match am_find am_nwL (am_mc mi) q with
    | some ci => if ci < 8 then am_go (pc + 3) L (.ref n :: st) (n + 1) (am_up h n (.inr (ci, am_def ci))) (c + 1) (s + (am_C ci).2.2) else none
    | none => none
  | .newarray a => match am_atype a, st with
    | some t, .int k :: r => if ¬ k < 0 ∧ k.toNatClampNeg ≤ 1000000 then am_go (pc + 2) L (.ref n :: r) (n + 1) (am_up h n (am_zero t k.toNatClampNeg)) (c + 1) (s + k.toNatClampNeg) else none
    | _, _ => none
  | .multianewarray q d => match am_find am_mwL (am_mc mi) q, st with
    | some t, .int k :: .int j :: r => if d = 2 ∧ (t = 3 ∨ t = 4) ∧ ¬ j < 0 ∧ ¬ k < 0 ∧ j.toNatClampNeg ≤ 1000000 ∧ k.toNatClampNeg ≤ 1000000 then am_go (pc + 4) L (.ref n :: r) (n + 1 + j.toNatClampNeg) (am_grid n h t j.toNatClampNeg k.toNatClampNeg) (c + 1 + j.toNatClampNeg) (s + j.toNatClampNeg + j.toNatClampNeg * k.toNatClampNeg) else none
    | _, _ => none
  | .invokevirtual q => am_call call mi q 0 pc L st n h c s
  | .invokestatic q => match am_find am_ctL (am_mc mi) q with
    | some (k, _) => if k = 1 ∨ k = 3 ∨ k = 5 ∨ k = 6 ∨ k = 7 ∨ k = 8 then am_call call mi q k pc L st n h c s else none
    | none => none
  | .invokespecial q => match am_find am_ctL (am_mc mi) q with
    | some (k, _) => if k = 2 ∨ k = 4 then am_call call mi q k pc L st n h c s else none
    | none => none
  | .ireturn => match st with
    | [.int v] => if am_ret1 (am_ret mi) v = true then some (.inr (some (.int v), n, h, c, s)) else none
    | _ => none
  | .lreturn => match st with
    | [.long v] => if am_ret mi = some .long then some (.inr (some (.long v), n, h, c, s)) else none
    | _ => none
  | .return_ => match st with
    | [] => if am_ret mi = none then some (.inr (none, n, h, c, s)) else none
    | _ => none
  | _ => none
def am_step (X : am_X) (call : am_Cl) (mi : Nat) : am_Z → am_O
  | (pc, L, st, n, h, c, s) => match decode (am_code mi) pc with
    | .ok (i, len) => if am_len i = 0 ∨ len = am_len i then am_ex X call mi i len pc L st n h c s else none
    | .error _ => none
def am_iter (X : am_X) (call : am_Cl) (mi : Nat) : Nat → am_Z → Option am_R
  | 0, _ => none
  | N + 1, z => match am_step X call mi z with
    | some (.inl z1) => am_iter X call mi N z1
    | some (.inr r) => some r
    | none => none
def am_run (X : am_X) (N : Nat) : Nat → am_Cl
  | 0 => fun _ _ _ _ => none
  | d + 1 => fun mi as n h => am_iter X (am_run X N d) mi N (0, lv_args 0 as, [], n, h, 0, 0)
end
section
/-! how the abstract machine's things lie in the machine -/
/-- the world's first address; the given arrays' addresses; classes, slots, array classes -/
abbrev am_K : Type := Nat × (Nat → Nat) × (Nat → ClassId) × (Nat → Nat → Nat) × (Nat → ClassId)
def am_v (K : am_K) : Value → Value
  | .ref k => .ref (K.1 + k)
  | .float u => .ref (K.2.1 u.toNat)
  | v => v
theorem am_v_cat (K : am_K) (v : Value) : (am_v K v).category = v.category := by cases v <;> rfl
abbrev am_vs (K : am_K) (st : List Value) : List Value := st.map (am_v K)
theorem am_cat_vs (K : am_K) (st : List Value) : ((am_vs K st).map fun v => v.category).sum = am_cat st := by
  unfold am_cat
  rw [List.map_map]
  congr 1
  exact List.map_congr_left fun v _ => am_v_cat K v
def am_a (K : am_K) : vp_A → vp_A
  | (n, .inr (.inr (.inr (.inr f)))) => (n, .inr (.inr (.inr (.inr (fun i => (f i).map (fun k => K.1 + k))))))
  | a => a
def am_e (K : am_K) : am_E → va_E
  | .inl (t, a) => .inl (K.2.2.2.2 t, am_a K a)
  | .inr (ci, fs) => .inr (ci, fs.map (am_v K))
def am_W (K : am_K) (n : Nat) (h : am_H) : va_W := (List.range n).map (fun k => (K.1 + k, am_e K (h k)))
abbrev am_D (K : am_K) : va_G := (K.2.2.1, K.2.2.2.1)
def am_A (K : am_K) : Nat → Prop := fun q => K.1 ≤ q
def am_tys (K : am_K) : List (ClassId × FieldType) := [(K.2.2.2.2 0, .int), (K.2.2.2.2 1, .long), (K.2.2.2.2 2, .boolean), (K.2.2.2.2 3, .array .int), (K.2.2.2.2 4, .array .long)]
theorem am_W_get (K : am_K) {n k : Nat} (h : am_H) (hk : k < n) : (am_W K n h)[k]? = some (K.1 + k, am_e K (h k)) := by
  unfold am_W
  rw [List.getElem?_map, List.getElem?_range hk]
  rfl
theorem am_W_some (K : am_K) {n k : Nat} {h : am_H} {q : Nat × va_E} (hq : (am_W K n h)[k]? = some q) : k < n ∧ q = (K.1 + k, am_e K (h k)) := by
  have hk : k < n := by
    have := (List.getElem?_eq_some_iff.mp hq).1
    unfold am_W at this
    simpa using this
  rw [am_W_get K h hk] at hq
  exact ⟨hk, (Option.some.inj hq).symm⟩
theorem am_W_set (K : am_K) {n k : Nat} (h : am_H) (hk : k < n) (e : am_E) : (am_W K n h).set k (K.1 + k, am_e K e) = am_W K n (am_up h k e) := by
  apply List.ext_getElem?
  intro j
  rw [List.getElem?_set]
  by_cases hj : k = j
  · subst hj
    have hl : k < (am_W K n h).length := by unfold am_W; simpa using hk
    rw [if_pos rfl, if_pos hl, am_W_get K _ hk]
    simp [am_up]
  · rw [if_neg hj]
    by_cases hjn : j < n
    · rw [am_W_get K h hjn, am_W_get K _ hjn]
      simp [am_up, Ne.symm hj]
    · rw [List.getElem?_eq_none (by unfold am_W; simpa using Nat.not_lt.mp hjn), List.getElem?_eq_none (by unfold am_W; simpa using Nat.not_lt.mp hjn)]
theorem am_W_D (K : am_K) (n : Nat) (h : am_H) : va_D (am_A K) (am_W K n h) := by
  refine ⟨fun i j p q hi hj hpq => ?_, fun k q hk => ?_⟩
  · obtain ⟨-, rfl⟩ := am_W_some K hi
    obtain ⟨-, rfl⟩ := am_W_some K hj
    have : K.1 + i = K.1 + j := hpq
    omega
  · obtain ⟨-, rfl⟩ := am_W_some K hk
    exact Nat.le_add_right _ _
/-- words that stay -/
def am_words : List Cond := lw_tbl.filter goodWord
theorem am_good : GoodIn am_words am_words := fun w hw => ⟨hw, good_of_word (List.mem_filter.mp hw).2⟩
theorem am_in_words {w : Cond} (h : w ∈ lw_tbl) (hg : goodWord w = true) : w ∈ am_words := List.mem_filter.mpr ⟨h, hg⟩
/-- words on members of the nest, on arrays of arrays -/
def am_nestF : List (Nat × Nat × Nat) := (am_gtL.filter (fun q => q.2.2 == 1)).map (fun q => (q.1.1, q.1.2, q.2.1))
def am_sn (u : Nat) : String := (["EDGE_LOW", "EDGE_HIGH", "EDGE_OF", "FOURS_OF"] : List String).getD (u - 1) ""
def am_nestM : List (Nat × Nat × Nat) := (am_ctL.filter (fun q => q.2.1 == 3)).map (fun q => (q.1.1, q.1.2, q.2.2))
/-- what is given from the start and stays -/
def am_Fix (K : am_K) (X : am_X) (U : State) (H : Heap) : Prop :=
  (va_X (K.2.1 0) X.1 X.2 U H ∧ K.2.1 0 < K.1 ∧ X.1 < 2 ^ 31) ∧
  (∀ u, 0 < u → u < 5 → va_Z "ThirdSheets" (am_sn u) "[I" (.ref (K.2.1 u)) (am_A K) U H ∧ va_T .int (K.2.1 u) (am_sl (u - 1)).length (fun j => .int ((am_sl (u - 1)).getD j 0)) (am_A K) U H) ∧
  (∀ q ∈ am_nestF, va_Nw (.fieldLinkNest (am_cn q.1) q.2.1 "ThirdSheets" (am_sn q.2.2) "[I" "ThirdSheets") U) ∧
  (∀ q ∈ am_nestM, va_Nw (.methodLinkNest (am_cn q.1) q.2.1 (am_name q.2.2) "ThirdSheets") U) ∧
  va_Nw (.arrayOver (.array .int)) U ∧ va_Nw (.arrayOver (.array .long)) U
theorem am_Fix.moved {K : am_K} {X : am_X} {u U : State} {H : Heap} (hW : u.WarmedH U.vm) (h : am_Fix K X u H) : am_Fix K X U H := by
  obtain ⟨⟨h1, h2, h2'⟩, h3, h4, h5, h6, h7⟩ := h
  have hvm := hW.alike
  exact ⟨⟨h1.moved hvm, h2, h2'⟩, fun v a b => ⟨(h3 v a b).1.moved hvm, (h3 v a b).2.moved hvm⟩, fun q hq => va_Nw.warmF hW (h4 q hq), fun q hq => va_Nw.warmM hW (h5 q hq), Jvm.Stand.arrayOver_alikeB hvm h6, Jvm.Stand.arrayOver_alikeB hvm h7⟩
theorem am_Fix.kept {K : am_K} {X : am_X} {U : State} {H H1 : Heap} (h : am_Fix K X U H) (hq : ∀ a : Nat, a < H.size → ¬ am_A K a → H1[a]? = H[a]?) : am_Fix K X U H1 := by
  obtain ⟨⟨h1, h2, h2'⟩, h3, h4⟩ := h
  refine ⟨⟨h1.kept ?_, h2, h2'⟩, fun v a b => ⟨(h3 v a b).1.kept hq, (h3 v a b).2.kept hq⟩, h4⟩
  obtain ⟨scr, g1, -⟩ := h1
  exact hq _ (Array.getElem?_eq_some_iff.mp g1).1 (Nat.not_le.mpr h2)
theorem am_Fix.same {K : am_K} {X : am_X} {u U : State} {H : Heap} (hvm : u.vm = U.vm) (h : am_Fix K X u H) : am_Fix K X U H := by
  obtain ⟨⟨h1, h2, h2'⟩, h3, h4, h5, h6, h7⟩ := h
  have hal : u.vm.Alike U.vm := by rw [hvm]; exact Vm.Alike.refl _
  exact ⟨⟨h1.moved hal, h2, h2'⟩, fun v a b => ⟨(h3 v a b).1.moved hal, (h3 v a b).2.moved hal⟩, fun q hq => va_Nw.same rfl hvm (h4 q hq), fun q hq => va_Nw.same rfl hvm (h5 q hq), Jvm.Stand.arrayOver_alikeB hal h6, Jvm.Stand.arrayOver_alikeB hal h7⟩
/-- the whole world, in a state -/
def am_Wd (K : am_K) (X : am_X) (n : Nat) (h : am_H) (U : State) : Prop := U.heap.size = K.1 + n ∧ va_P (am_D K) am_cl (am_W K n h) U.heap ∧ va_K (am_D K) am_cl (am_tys K) U ∧ am_Fix K X U U.heap
def am_ws (mi : Nat) : List Cond := .code (am_name mi) (am_code mi) (am_maxL mi) (am_ret mi) :: am_words
def am_Pc (K : am_K) (X : am_X) (as : List Value) (n : Nat) (h : am_H) : Array Value → State → Prop := va_Pc (am_vs K as) (am_Wd K X n h)
def am_Qc (K : am_K) (X : am_X) (r : am_R) : Array Value → State → Outcome → State → Prop := fun _ st o t => o = .returned (r.1.map (am_v K)) ∧ am_Wd K X r.2.1 r.2.2.1 t ∧ va_F (am_A K) st t
def am_Met (K : am_K) (X : am_X) (l : Launch) (mi : Nat) (as : List Value) (n : Nat) (h : am_H) (r : am_R) : Prop :=
  Met l (am_name mi) (am_ws mi) ({ frames := am_fr mi, cells := r.2.2.2.1, slots := r.2.2.2.2, locals := am_lo mi } : Room) (am_Pc K X as n h) (am_Qc K X r) r.2.2.2.1 r.2.2.2.2 (am_A K)
theorem am_Pc_blind (K : am_K) (X : am_X) (as : List Value) (n : Nat) (h : am_H) : FrameBlind (am_Pc K X as n h) := by
  intro a U g mk hP
  obtain ⟨h0, h1, h2, h3, h4⟩ := hP
  exact ⟨h0, h1, h2, va_K.moved (u := U) (U := U.calling g mk a) (Vm.Alike.refl U.vm) h3, h4.same (u := U) (U := U.calling g mk a) rfl⟩
/-- where a walk stands -/
def am_At (K : am_K) (X : am_X) (mi : Nat) (p : Program) (R : Room) (s : State) (m : MethodId) (args : Array Value) (meth : Method) (c : Code) : Prop :=
  p.tables.exec = Jvm.exec ∧ c.code = am_code mi ∧ c.maxLocals = am_maxL mi ∧ s.vm.findClass (am_cn (am_mc mi)) = some m.cls ∧ (∀ w ∈ am_words, w.before args s = true) ∧ meth.name = (am_name mi).name ∧
  va_K (am_D K) am_cl (am_tys K) s ∧ am_Fix K X s s.heap ∧ K.1 ≤ s.heap.size ∧ am_fr mi ≤ R.frames ∧ am_lo mi ≤ R.locals
/-- how the heap stands -/
def am_Hp (K : am_K) (n : Nat) (h : am_H) (s : State) (H : Heap) (locs : List Loc) : Prop := H.size = K.1 + n ∧ va_P (am_D K) am_cl (am_W K n h) H ∧ va_S (am_A K) s.heap H locs
abbrev am_Lm (K : am_K) (L : am_L) : List (Nat × Value) := L.map (fun q => (q.1, am_v K q.2))
theorem am_ld_in {K : am_K} {L : am_L} {i : Nat} {v : Value} {ls : Array Slot} {nL : Nat} (hl : lv_has ls nL (am_Lm K L)) (h : am_ld L i = some v) : ls[i]? = some (.val (am_v K v)) := by
  unfold am_ld at h
  obtain ⟨q, hq, rfl⟩ := Option.map_eq_some_iff.mp h
  have h1 := List.mem_of_find?_eq_some hq
  have h2 : q.1 = i := by simpa using List.find?_some hq
  subst h2
  exact hl.2.2 _ (List.mem_map.mpr ⟨q, h1, rfl⟩)
theorem am_ld_pos {K : am_K} {L : am_L} {i : Nat} {v : Value} (h : am_ld L i = some v) : ∃ k : Nat, (am_Lm K L)[k]? = some (i, am_v K v) := by
  unfold am_ld at h
  obtain ⟨q, hq, rfl⟩ := Option.map_eq_some_iff.mp h
  have h1 := List.mem_of_find?_eq_some hq
  have h2 : q.1 = i := by simpa using List.find?_some hq
  subst h2
  exact List.getElem?_of_mem (List.mem_map.mpr ⟨q, h1, rfl⟩)
theorem am_Lm_st1 (K : am_K) (L : am_L) (i : Nat) (v : Value) : (i, am_v K v) :: (am_Lm K L).filter (fun q => !(q.1 == i) && !(q.1 + 1 == i && q.2.category == 2)) = am_Lm K (am_st1 L i v) := by
  simp only [am_Lm, am_st1, List.map_cons, List.filter_map]
  congr 2
  apply List.filter_congr
  intro q _
  simp [Function.comp, am_v_cat]
theorem am_Lm_st2 (K : am_K) (L : am_L) (i : Nat) (v : Value) : (i, am_v K v) :: (am_Lm K L).filter (fun q => !(q.1 == i) && (!(q.1 == i + 1) && !(q.1 + 1 == i && q.2.category == 2))) = am_Lm K (am_st2 L i v) := by
  simp only [am_Lm, am_st2, List.map_cons, List.filter_map]
  congr 2
  apply List.filter_congr
  intro q _
  simp [Function.comp, am_v_cat]
theorem am_find_in {β : Type} {l : List ((Nat × Nat) × β)} {a b : Nat} {v : β} (h : am_find l a b = some v) : ((a, b), v) ∈ l := by
  unfold am_find at h
  obtain ⟨q, hq, rfl⟩ := Option.map_eq_some_iff.mp h
  have h1 := List.mem_of_find?_eq_some hq
  have h2 := List.find?_some hq
  simp only [Bool.and_eq_true, beq_iff_eq] at h2
  obtain ⟨rfl, rfl⟩ := h2
  exact h1
theorem am_tys_get (K : am_K) : (am_tys K)[0]? = some (K.2.2.2.2 0, .int) ∧ (am_tys K)[1]? = some (K.2.2.2.2 1, .long) ∧ (am_tys K)[2]? = some (K.2.2.2.2 2, .boolean) ∧ (am_tys K)[3]? = some (K.2.2.2.2 3, .array .int) ∧ (am_tys K)[4]? = some (K.2.2.2.2 4, .array .long) := ⟨rfl, rfl, rfl, rfl, rfl⟩
end
