section
-- ===== PART A: goes FIRST, ahead of the names: the tables' words, and 'selects' of the private methods out of them =====
/-- a private method of a class that the tables say can be made, by its rows of tables_1 -/
def lw_okq (q : MethodName × Nat) : Prop := (q.1.cls ≠ "java/lang/invoke/MethodHandle" ∧ q.1.cls ≠ "java/lang/invoke/VarHandle") ∧ Cond.instantiable q.1.cls q.2 ∈ tables_1 ∧ Cond.privateMethod q.1 ∈ tables_1 ∧ Cond.instanceMethod q.1 ∈ tables_1
theorem lw_p0 : lw_okq (⟨"ThirdSheets", "spaceChanged", "()V"⟩, 7) := ⟨⟨by decide +kernel, by decide +kernel⟩, List.mem_of_getElem? (i := 13) (by decide +kernel), List.mem_of_getElem? (i := 246) (by decide +kernel), List.mem_of_getElem? (i := 247) (by decide +kernel)⟩
theorem lw_p1 : lw_okq (⟨"ThirdSheets$Space", "joinCorners", "(I)V"⟩, 7) := ⟨⟨by decide +kernel, by decide +kernel⟩, List.mem_of_getElem? (i := 21) (by decide +kernel), List.mem_of_getElem? (i := 265) (by decide +kernel), List.mem_of_getElem? (i := 266) (by decide +kernel)⟩
theorem lw_p2 : lw_okq (⟨"ThirdSheets$Groups", "rootOf", "(I)I"⟩, 7) := ⟨⟨by decide +kernel, by decide +kernel⟩, List.mem_of_getElem? (i := 27) (by decide +kernel), List.mem_of_getElem? (i := 273) (by decide +kernel), List.mem_of_getElem? (i := 274) (by decide +kernel)⟩
theorem lw_p3 : lw_okq (⟨"ThirdSheets$Space", "joinEdges", "(I)V"⟩, 7) := ⟨⟨by decide +kernel, by decide +kernel⟩, List.mem_of_getElem? (i := 21) (by decide +kernel), List.mem_of_getElem? (i := 280) (by decide +kernel), List.mem_of_getElem? (i := 281) (by decide +kernel)⟩
theorem lw_p4 : lw_okq (⟨"ThirdSheets$Space", "isEvenChange", "(I)Z"⟩, 7) := ⟨⟨by decide +kernel, by decide +kernel⟩, List.mem_of_getElem? (i := 21) (by decide +kernel), List.mem_of_getElem? (i := 290) (by decide +kernel), List.mem_of_getElem? (i := 291) (by decide +kernel)⟩
theorem lw_p5 : lw_okq (⟨"ThirdSheets", "hasSide", "(II)Z"⟩, 7) := ⟨⟨by decide +kernel, by decide +kernel⟩, List.mem_of_getElem? (i := 13) (by decide +kernel), List.mem_of_getElem? (i := 302) (by decide +kernel), List.mem_of_getElem? (i := 303) (by decide +kernel)⟩
theorem lw_p6 : lw_okq (⟨"ThirdSheets", "hasPiece", "(I)Z"⟩, 7) := ⟨⟨by decide +kernel, by decide +kernel⟩, List.mem_of_getElem? (i := 13) (by decide +kernel), List.mem_of_getElem? (i := 306) (by decide +kernel), List.mem_of_getElem? (i := 307) (by decide +kernel)⟩
theorem lw_p7 : lw_okq (⟨"ThirdSheets$Space", "tell", "(IIII)V"⟩, 7) := ⟨⟨by decide +kernel, by decide +kernel⟩, List.mem_of_getElem? (i := 21) (by decide +kernel), List.mem_of_getElem? (i := 321) (by decide +kernel), List.mem_of_getElem? (i := 322) (by decide +kernel)⟩
theorem lw_p8 : lw_okq (⟨"ThirdSheets$Space", "endsAt", "(I)I"⟩, 7) := ⟨⟨by decide +kernel, by decide +kernel⟩, List.mem_of_getElem? (i := 21) (by decide +kernel), List.mem_of_getElem? (i := 366) (by decide +kernel), List.mem_of_getElem? (i := 367) (by decide +kernel)⟩
theorem lw_p9 : lw_okq (⟨"ThirdSheets$Space", "sidesAt", "(I)I"⟩, 7) := ⟨⟨by decide +kernel, by decide +kernel⟩, List.mem_of_getElem? (i := 21) (by decide +kernel), List.mem_of_getElem? (i := 371) (by decide +kernel), List.mem_of_getElem? (i := 372) (by decide +kernel)⟩
theorem lw_p10 : lw_okq (⟨"ThirdSheets$Space", "cornersOf", "(I)I"⟩, 7) := ⟨⟨by decide +kernel, by decide +kernel⟩, List.mem_of_getElem? (i := 21) (by decide +kernel), List.mem_of_getElem? (i := 376) (by decide +kernel), List.mem_of_getElem? (i := 377) (by decide +kernel)⟩
theorem lw_p11 : lw_okq (⟨"ThirdSheets$Loops", "numberPairs", "(LThirdSheets$Space;)V"⟩, 5) := ⟨⟨by decide +kernel, by decide +kernel⟩, List.mem_of_getElem? (i := 115) (by decide +kernel), List.mem_of_getElem? (i := 421) (by decide +kernel), List.mem_of_getElem? (i := 422) (by decide +kernel)⟩
theorem lw_p12 : lw_okq (⟨"ThirdSheets$Loops", "goAround", "(LThirdSheets$Space;I)Z"⟩, 5) := ⟨⟨by decide +kernel, by decide +kernel⟩, List.mem_of_getElem? (i := 115) (by decide +kernel), List.mem_of_getElem? (i := 426) (by decide +kernel), List.mem_of_getElem? (i := 427) (by decide +kernel)⟩
theorem lw_p13 : lw_okq (⟨"ThirdSheets$Loops", "makeDiagonal", "(I)Z"⟩, 5) := ⟨⟨by decide +kernel, by decide +kernel⟩, List.mem_of_getElem? (i := 115) (by decide +kernel), List.mem_of_getElem? (i := 439) (by decide +kernel), List.mem_of_getElem? (i := 440) (by decide +kernel)⟩
theorem lw_p14 : lw_okq (⟨"ThirdSheets$Loops", "bringSmallest", "(I)Z"⟩, 5) := ⟨⟨by decide +kernel, by decide +kernel⟩, List.mem_of_getElem? (i := 115) (by decide +kernel), List.mem_of_getElem? (i := 444) (by decide +kernel), List.mem_of_getElem? (i := 445) (by decide +kernel)⟩
theorem lw_p15 : lw_okq (⟨"ThirdSheets$Loops", "swapRows", "(II)V"⟩, 5) := ⟨⟨by decide +kernel, by decide +kernel⟩, List.mem_of_getElem? (i := 115) (by decide +kernel), List.mem_of_getElem? (i := 451) (by decide +kernel), List.mem_of_getElem? (i := 452) (by decide +kernel)⟩
def lw_privs_1 : List (MethodName × Nat) := [(⟨"ThirdSheets", "spaceChanged", "()V"⟩, 7), (⟨"ThirdSheets$Space", "joinCorners", "(I)V"⟩, 7), (⟨"ThirdSheets$Groups", "rootOf", "(I)I"⟩, 7), (⟨"ThirdSheets$Space", "joinEdges", "(I)V"⟩, 7), (⟨"ThirdSheets$Space", "isEvenChange", "(I)Z"⟩, 7), (⟨"ThirdSheets", "hasSide", "(II)Z"⟩, 7), (⟨"ThirdSheets", "hasPiece", "(I)Z"⟩, 7), (⟨"ThirdSheets$Space", "tell", "(IIII)V"⟩, 7), (⟨"ThirdSheets$Space", "endsAt", "(I)I"⟩, 7), (⟨"ThirdSheets$Space", "sidesAt", "(I)I"⟩, 7), (⟨"ThirdSheets$Space", "cornersOf", "(I)I"⟩, 7), (⟨"ThirdSheets$Loops", "numberPairs", "(LThirdSheets$Space;)V"⟩, 5), (⟨"ThirdSheets$Loops", "goAround", "(LThirdSheets$Space;I)Z"⟩, 5), (⟨"ThirdSheets$Loops", "makeDiagonal", "(I)Z"⟩, 5), (⟨"ThirdSheets$Loops", "bringSmallest", "(I)Z"⟩, 5), (⟨"ThirdSheets$Loops", "swapRows", "(II)V"⟩, 5)]
theorem lw_r1 : ∀ q ∈ lw_privs_1, lw_okq q := List.forall_mem_cons.mpr ⟨lw_p0, List.forall_mem_cons.mpr ⟨lw_p1, List.forall_mem_cons.mpr ⟨lw_p2, List.forall_mem_cons.mpr ⟨lw_p3, List.forall_mem_cons.mpr ⟨lw_p4, List.forall_mem_cons.mpr ⟨lw_p5, List.forall_mem_cons.mpr ⟨lw_p6, List.forall_mem_cons.mpr ⟨lw_p7, List.forall_mem_cons.mpr ⟨lw_p8, List.forall_mem_cons.mpr ⟨lw_p9, List.forall_mem_cons.mpr ⟨lw_p10, List.forall_mem_cons.mpr ⟨lw_p11, List.forall_mem_cons.mpr ⟨lw_p12, List.forall_mem_cons.mpr ⟨lw_p13, List.forall_mem_cons.mpr ⟨lw_p14, List.forall_mem_cons.mpr ⟨lw_p15, fun _ h => absurd h List.not_mem_nil⟩⟩⟩⟩⟩⟩⟩⟩⟩⟩⟩⟩⟩⟩⟩⟩
theorem lw_p16 : lw_okq (⟨"ThirdSheets$Loops", "swapColumns", "(II)V"⟩, 5) := ⟨⟨by decide +kernel, by decide +kernel⟩, List.mem_of_getElem? (i := 115) (by decide +kernel), List.mem_of_getElem? (i := 455) (by decide +kernel), List.mem_of_getElem? (i := 456) (by decide +kernel)⟩
theorem lw_p17 : lw_okq (⟨"ThirdSheets$Loops", "reduceRows", "(I)Z"⟩, 5) := ⟨⟨by decide +kernel, by decide +kernel⟩, List.mem_of_getElem? (i := 115) (by decide +kernel), List.mem_of_getElem? (i := 459) (by decide +kernel), List.mem_of_getElem? (i := 460) (by decide +kernel)⟩
theorem lw_p18 : lw_okq (⟨"ThirdSheets$Loops", "reduceColumns", "(I)Z"⟩, 5) := ⟨⟨by decide +kernel, by decide +kernel⟩, List.mem_of_getElem? (i := 115) (by decide +kernel), List.mem_of_getElem? (i := 466) (by decide +kernel), List.mem_of_getElem? (i := 467) (by decide +kernel)⟩
theorem lw_p19 : lw_okq (⟨"ThirdSheets$Loops", "dividesRest", "(I)Z"⟩, 5) := ⟨⟨by decide +kernel, by decide +kernel⟩, List.mem_of_getElem? (i := 115) (by decide +kernel), List.mem_of_getElem? (i := 470) (by decide +kernel), List.mem_of_getElem? (i := 471) (by decide +kernel)⟩
theorem lw_p20 : lw_okq (⟨"ThirdSheets$Loops", "addRow", "(II)V"⟩, 5) := ⟨⟨by decide +kernel, by decide +kernel⟩, List.mem_of_getElem? (i := 115) (by decide +kernel), List.mem_of_getElem? (i := 474) (by decide +kernel), List.mem_of_getElem? (i := 475) (by decide +kernel)⟩
theorem lw_p21 : lw_okq (⟨"ThirdSheets", "freshenLeast", "()V"⟩, 7) := ⟨⟨by decide +kernel, by decide +kernel⟩, List.mem_of_getElem? (i := 13) (by decide +kernel), List.mem_of_getElem? (i := 486) (by decide +kernel), List.mem_of_getElem? (i := 487) (by decide +kernel)⟩
theorem lw_p22 : lw_okq (⟨"ThirdSheets$LeastSheets", "startWithSingleCuts", "(I)V"⟩, 8) := ⟨⟨by decide +kernel, by decide +kernel⟩, List.mem_of_getElem? (i := 141) (by decide +kernel), List.mem_of_getElem? (i := 494) (by decide +kernel), List.mem_of_getElem? (i := 495) (by decide +kernel)⟩
theorem lw_p23 : lw_okq (⟨"ThirdSheets$LeastSheets", "weigh", "(IIII)V"⟩, 8) := ⟨⟨by decide +kernel, by decide +kernel⟩, List.mem_of_getElem? (i := 141) (by decide +kernel), List.mem_of_getElem? (i := 500) (by decide +kernel), List.mem_of_getElem? (i := 501) (by decide +kernel)⟩
theorem lw_p24 : lw_okq (⟨"ThirdSheets$LeastSheets", "fitAcross", "()V"⟩, 8) := ⟨⟨by decide +kernel, by decide +kernel⟩, List.mem_of_getElem? (i := 141) (by decide +kernel), List.mem_of_getElem? (i := 509) (by decide +kernel), List.mem_of_getElem? (i := 510) (by decide +kernel)⟩
theorem lw_p25 : lw_okq (⟨"ThirdSheets$LeastSheets", "keep", "(I)V"⟩, 8) := ⟨⟨by decide +kernel, by decide +kernel⟩, List.mem_of_getElem? (i := 141) (by decide +kernel), List.mem_of_getElem? (i := 513) (by decide +kernel), List.mem_of_getElem? (i := 514) (by decide +kernel)⟩
theorem lw_p26 : lw_okq (⟨"ThirdSheets$LeastSheets", "areNeighbours", "(II)Z"⟩, 8) := ⟨⟨by decide +kernel, by decide +kernel⟩, List.mem_of_getElem? (i := 141) (by decide +kernel), List.mem_of_getElem? (i := 520) (by decide +kernel), List.mem_of_getElem? (i := 521) (by decide +kernel)⟩
theorem lw_p27 : lw_okq (⟨"ThirdSheets$LeastSheets", "mix", "(II)V"⟩, 8) := ⟨⟨by decide +kernel, by decide +kernel⟩, List.mem_of_getElem? (i := 141) (by decide +kernel), List.mem_of_getElem? (i := 527) (by decide +kernel), List.mem_of_getElem? (i := 528) (by decide +kernel)⟩
theorem lw_p28 : lw_okq (⟨"ThirdSheets$LeastSheets", "swapLists", "()V"⟩, 8) := ⟨⟨by decide +kernel, by decide +kernel⟩, List.mem_of_getElem? (i := 141) (by decide +kernel), List.mem_of_getElem? (i := 534) (by decide +kernel), List.mem_of_getElem? (i := 535) (by decide +kernel)⟩
theorem lw_p29 : lw_okq (⟨"ThirdSheets$LeastSheets", "sortRows", "()V"⟩, 8) := ⟨⟨by decide +kernel, by decide +kernel⟩, List.mem_of_getElem? (i := 141) (by decide +kernel), List.mem_of_getElem? (i := 538) (by decide +kernel), List.mem_of_getElem? (i := 539) (by decide +kernel)⟩
theorem lw_p30 : lw_okq (⟨"ThirdSheets$LeastSheets", "comesBefore", "([I[I)Z"⟩, 8) := ⟨⟨by decide +kernel, by decide +kernel⟩, List.mem_of_getElem? (i := 141) (by decide +kernel), List.mem_of_getElem? (i := 542) (by decide +kernel), List.mem_of_getElem? (i := 543) (by decide +kernel)⟩
theorem lw_p31 : lw_okq (⟨"ThirdSheets", "hasLeast", "(I)Z"⟩, 7) := ⟨⟨by decide +kernel, by decide +kernel⟩, List.mem_of_getElem? (i := 13) (by decide +kernel), List.mem_of_getElem? (i := 550) (by decide +kernel), List.mem_of_getElem? (i := 551) (by decide +kernel)⟩
def lw_privs_2 : List (MethodName × Nat) := [(⟨"ThirdSheets$Loops", "swapColumns", "(II)V"⟩, 5), (⟨"ThirdSheets$Loops", "reduceRows", "(I)Z"⟩, 5), (⟨"ThirdSheets$Loops", "reduceColumns", "(I)Z"⟩, 5), (⟨"ThirdSheets$Loops", "dividesRest", "(I)Z"⟩, 5), (⟨"ThirdSheets$Loops", "addRow", "(II)V"⟩, 5), (⟨"ThirdSheets", "freshenLeast", "()V"⟩, 7), (⟨"ThirdSheets$LeastSheets", "startWithSingleCuts", "(I)V"⟩, 8), (⟨"ThirdSheets$LeastSheets", "weigh", "(IIII)V"⟩, 8), (⟨"ThirdSheets$LeastSheets", "fitAcross", "()V"⟩, 8), (⟨"ThirdSheets$LeastSheets", "keep", "(I)V"⟩, 8), (⟨"ThirdSheets$LeastSheets", "areNeighbours", "(II)Z"⟩, 8), (⟨"ThirdSheets$LeastSheets", "mix", "(II)V"⟩, 8), (⟨"ThirdSheets$LeastSheets", "swapLists", "()V"⟩, 8), (⟨"ThirdSheets$LeastSheets", "sortRows", "()V"⟩, 8), (⟨"ThirdSheets$LeastSheets", "comesBefore", "([I[I)Z"⟩, 8), (⟨"ThirdSheets", "hasLeast", "(I)Z"⟩, 7)]
theorem lw_r2 : ∀ q ∈ lw_privs_2, lw_okq q := List.forall_mem_cons.mpr ⟨lw_p16, List.forall_mem_cons.mpr ⟨lw_p17, List.forall_mem_cons.mpr ⟨lw_p18, List.forall_mem_cons.mpr ⟨lw_p19, List.forall_mem_cons.mpr ⟨lw_p20, List.forall_mem_cons.mpr ⟨lw_p21, List.forall_mem_cons.mpr ⟨lw_p22, List.forall_mem_cons.mpr ⟨lw_p23, List.forall_mem_cons.mpr ⟨lw_p24, List.forall_mem_cons.mpr ⟨lw_p25, List.forall_mem_cons.mpr ⟨lw_p26, List.forall_mem_cons.mpr ⟨lw_p27, List.forall_mem_cons.mpr ⟨lw_p28, List.forall_mem_cons.mpr ⟨lw_p29, List.forall_mem_cons.mpr ⟨lw_p30, List.forall_mem_cons.mpr ⟨lw_p31, fun _ h => absurd h List.not_mem_nil⟩⟩⟩⟩⟩⟩⟩⟩⟩⟩⟩⟩⟩⟩⟩⟩
theorem lw_p32 : lw_okq (⟨"ThirdSheets", "hasNumber", "(I)Z"⟩, 7) := ⟨⟨by decide +kernel, by decide +kernel⟩, List.mem_of_getElem? (i := 13) (by decide +kernel), List.mem_of_getElem? (i := 554) (by decide +kernel), List.mem_of_getElem? (i := 555) (by decide +kernel)⟩
theorem lw_p33 : lw_okq (⟨"ThirdSheets$Sheet", "fitsAt", "(LThirdSheets$Space;I)Z"⟩, 1) := ⟨⟨by decide +kernel, by decide +kernel⟩, List.mem_of_getElem? (i := 176) (by decide +kernel), List.mem_of_getElem? (i := 592) (by decide +kernel), List.mem_of_getElem? (i := 593) (by decide +kernel)⟩
theorem lw_p34 : lw_okq (⟨"ThirdSheets$Sheet", "points", "(LThirdSheets$Space;)I"⟩, 1) := ⟨⟨by decide +kernel, by decide +kernel⟩, List.mem_of_getElem? (i := 176) (by decide +kernel), List.mem_of_getElem? (i := 615) (by decide +kernel), List.mem_of_getElem? (i := 616) (by decide +kernel)⟩
theorem lw_p35 : lw_okq (⟨"ThirdSheets$Sheet", "arcs", "(LThirdSheets$Space;)I"⟩, 1) := ⟨⟨by decide +kernel, by decide +kernel⟩, List.mem_of_getElem? (i := 176) (by decide +kernel), List.mem_of_getElem? (i := 624) (by decide +kernel), List.mem_of_getElem? (i := 625) (by decide +kernel)⟩
theorem lw_p36 : lw_okq (⟨"ThirdSheets", "freshenParts", "()V"⟩, 7) := ⟨⟨by decide +kernel, by decide +kernel⟩, List.mem_of_getElem? (i := 13) (by decide +kernel), List.mem_of_getElem? (i := 638) (by decide +kernel), List.mem_of_getElem? (i := 639) (by decide +kernel)⟩
theorem lw_p37 : lw_okq (⟨"ThirdSheets$Parts", "numberCuts", "([I)I"⟩, 4) := ⟨⟨by decide +kernel, by decide +kernel⟩, List.mem_of_getElem? (i := 187) (by decide +kernel), List.mem_of_getElem? (i := 646) (by decide +kernel), List.mem_of_getElem? (i := 647) (by decide +kernel)⟩
theorem lw_p38 : lw_okq (⟨"ThirdSheets$Parts", "joinAcross", "(LThirdSheets$Space;[II)V"⟩, 4) := ⟨⟨by decide +kernel, by decide +kernel⟩, List.mem_of_getElem? (i := 187) (by decide +kernel), List.mem_of_getElem? (i := 653) (by decide +kernel), List.mem_of_getElem? (i := 654) (by decide +kernel)⟩
theorem lw_p39 : lw_okq (⟨"ThirdSheets$Parts", "cutAt", "([IIII)I"⟩, 4) := ⟨⟨by decide +kernel, by decide +kernel⟩, List.mem_of_getElem? (i := 187) (by decide +kernel), List.mem_of_getElem? (i := 664) (by decide +kernel), List.mem_of_getElem? (i := 665) (by decide +kernel)⟩
theorem lw_p40 : lw_okq (⟨"ThirdSheets$Parts", "countCuts", "(I)V"⟩, 4) := ⟨⟨by decide +kernel, by decide +kernel⟩, List.mem_of_getElem? (i := 187) (by decide +kernel), List.mem_of_getElem? (i := 671) (by decide +kernel), List.mem_of_getElem? (i := 672) (by decide +kernel)⟩
theorem lw_p41 : lw_okq (⟨"ThirdSheets$Parts", "countArcs", "(LThirdSheets$Space;[I)V"⟩, 4) := ⟨⟨by decide +kernel, by decide +kernel⟩, List.mem_of_getElem? (i := 187) (by decide +kernel), List.mem_of_getElem? (i := 675) (by decide +kernel), List.mem_of_getElem? (i := 676) (by decide +kernel)⟩
theorem lw_p42 : lw_okq (⟨"ThirdSheets$Parts", "countPoints", "(LThirdSheets$Space;[I)V"⟩, 4) := ⟨⟨by decide +kernel, by decide +kernel⟩, List.mem_of_getElem? (i := 187) (by decide +kernel), List.mem_of_getElem? (i := 680) (by decide +kernel), List.mem_of_getElem? (i := 681) (by decide +kernel)⟩
theorem lw_p43 : lw_okq (⟨"ThirdSheetsModel", "empty", "()V"⟩, 26) := ⟨⟨by decide +kernel, by decide +kernel⟩, List.mem_of_getElem? (i := 689) (by decide +kernel), List.mem_of_getElem? (i := 779) (by decide +kernel), List.mem_of_getElem? (i := 780) (by decide +kernel)⟩
theorem lw_p44 : lw_okq (⟨"ThirdSheetsModel", "isSide", "(II)Z"⟩, 26) := ⟨⟨by decide +kernel, by decide +kernel⟩, List.mem_of_getElem? (i := 689) (by decide +kernel), List.mem_of_getElem? (i := 787) (by decide +kernel), List.mem_of_getElem? (i := 788) (by decide +kernel)⟩
theorem lw_p45 : lw_okq (⟨"ThirdSheetsModel", "isPiece", "(I)Z"⟩, 26) := ⟨⟨by decide +kernel, by decide +kernel⟩, List.mem_of_getElem? (i := 689) (by decide +kernel), List.mem_of_getElem? (i := 791) (by decide +kernel), List.mem_of_getElem? (i := 792) (by decide +kernel)⟩
theorem lw_p46 : lw_okq (⟨"ThirdSheetsModel", "label", "()V"⟩, 26) := ⟨⟨by decide +kernel, by decide +kernel⟩, List.mem_of_getElem? (i := 689) (by decide +kernel), List.mem_of_getElem? (i := 814) (by decide +kernel), List.mem_of_getElem? (i := 815) (by decide +kernel)⟩
theorem lw_p47 : lw_okq (⟨"ThirdSheetsModel", "joinSide", "(I)V"⟩, 26) := ⟨⟨by decide +kernel, by decide +kernel⟩, List.mem_of_getElem? (i := 689) (by decide +kernel), List.mem_of_getElem? (i := 818) (by decide +kernel), List.mem_of_getElem? (i := 819) (by decide +kernel)⟩
def lw_privs_3 : List (MethodName × Nat) := [(⟨"ThirdSheets", "hasNumber", "(I)Z"⟩, 7), (⟨"ThirdSheets$Sheet", "fitsAt", "(LThirdSheets$Space;I)Z"⟩, 1), (⟨"ThirdSheets$Sheet", "points", "(LThirdSheets$Space;)I"⟩, 1), (⟨"ThirdSheets$Sheet", "arcs", "(LThirdSheets$Space;)I"⟩, 1), (⟨"ThirdSheets", "freshenParts", "()V"⟩, 7), (⟨"ThirdSheets$Parts", "numberCuts", "([I)I"⟩, 4), (⟨"ThirdSheets$Parts", "joinAcross", "(LThirdSheets$Space;[II)V"⟩, 4), (⟨"ThirdSheets$Parts", "cutAt", "([IIII)I"⟩, 4), (⟨"ThirdSheets$Parts", "countCuts", "(I)V"⟩, 4), (⟨"ThirdSheets$Parts", "countArcs", "(LThirdSheets$Space;[I)V"⟩, 4), (⟨"ThirdSheets$Parts", "countPoints", "(LThirdSheets$Space;[I)V"⟩, 4), (⟨"ThirdSheetsModel", "empty", "()V"⟩, 26), (⟨"ThirdSheetsModel", "isSide", "(II)Z"⟩, 26), (⟨"ThirdSheetsModel", "isPiece", "(I)Z"⟩, 26), (⟨"ThirdSheetsModel", "label", "()V"⟩, 26), (⟨"ThirdSheetsModel", "joinSide", "(I)V"⟩, 26)]
theorem lw_r3 : ∀ q ∈ lw_privs_3, lw_okq q := List.forall_mem_cons.mpr ⟨lw_p32, List.forall_mem_cons.mpr ⟨lw_p33, List.forall_mem_cons.mpr ⟨lw_p34, List.forall_mem_cons.mpr ⟨lw_p35, List.forall_mem_cons.mpr ⟨lw_p36, List.forall_mem_cons.mpr ⟨lw_p37, List.forall_mem_cons.mpr ⟨lw_p38, List.forall_mem_cons.mpr ⟨lw_p39, List.forall_mem_cons.mpr ⟨lw_p40, List.forall_mem_cons.mpr ⟨lw_p41, List.forall_mem_cons.mpr ⟨lw_p42, List.forall_mem_cons.mpr ⟨lw_p43, List.forall_mem_cons.mpr ⟨lw_p44, List.forall_mem_cons.mpr ⟨lw_p45, List.forall_mem_cons.mpr ⟨lw_p46, List.forall_mem_cons.mpr ⟨lw_p47, fun _ h => absurd h List.not_mem_nil⟩⟩⟩⟩⟩⟩⟩⟩⟩⟩⟩⟩⟩⟩⟩⟩
theorem lw_p48 : lw_okq (⟨"ThirdSheetsModel", "join", "([III)V"⟩, 26) := ⟨⟨by decide +kernel, by decide +kernel⟩, List.mem_of_getElem? (i := 689) (by decide +kernel), List.mem_of_getElem? (i := 822) (by decide +kernel), List.mem_of_getElem? (i := 823) (by decide +kernel)⟩
theorem lw_p49 : lw_okq (⟨"ThirdSheetsModel", "endOf", "(III)I"⟩, 26) := ⟨⟨by decide +kernel, by decide +kernel⟩, List.mem_of_getElem? (i := 689) (by decide +kernel), List.mem_of_getElem? (i := 829) (by decide +kernel), List.mem_of_getElem? (i := 830) (by decide +kernel)⟩
theorem lw_p50 : lw_okq (⟨"ThirdSheetsModel", "edgeOf", "(II)I"⟩, 26) := ⟨⟨by decide +kernel, by decide +kernel⟩, List.mem_of_getElem? (i := 689) (by decide +kernel), List.mem_of_getElem? (i := 833) (by decide +kernel), List.mem_of_getElem? (i := 834) (by decide +kernel)⟩
theorem lw_p51 : lw_okq (⟨"ThirdSheetsModel", "edgeLabel", "(II)I"⟩, 26) := ⟨⟨by decide +kernel, by decide +kernel⟩, List.mem_of_getElem? (i := 689) (by decide +kernel), List.mem_of_getElem? (i := 837) (by decide +kernel), List.mem_of_getElem? (i := 838) (by decide +kernel)⟩
theorem lw_p52 : lw_okq (⟨"ThirdSheetsModel", "isFirstEdge", "(I)Z"⟩, 26) := ⟨⟨by decide +kernel, by decide +kernel⟩, List.mem_of_getElem? (i := 689) (by decide +kernel), List.mem_of_getElem? (i := 841) (by decide +kernel), List.mem_of_getElem? (i := 842) (by decide +kernel)⟩
theorem lw_p53 : lw_okq (⟨"ThirdSheetsModel", "edgeOfClass", "(I)I"⟩, 26) := ⟨⟨by decide +kernel, by decide +kernel⟩, List.mem_of_getElem? (i := 689) (by decide +kernel), List.mem_of_getElem? (i := 849) (by decide +kernel), List.mem_of_getElem? (i := 850) (by decide +kernel)⟩
theorem lw_p54 : lw_okq (⟨"ThirdSheetsModel", "isBent", "(I)Z"⟩, 26) := ⟨⟨by decide +kernel, by decide +kernel⟩, List.mem_of_getElem? (i := 689) (by decide +kernel), List.mem_of_getElem? (i := 853) (by decide +kernel), List.mem_of_getElem? (i := 854) (by decide +kernel)⟩
theorem lw_p55 : lw_okq (⟨"ThirdSheetsModel", "cornerOfClass", "(I)I"⟩, 26) := ⟨⟨by decide +kernel, by decide +kernel⟩, List.mem_of_getElem? (i := 689) (by decide +kernel), List.mem_of_getElem? (i := 861) (by decide +kernel), List.mem_of_getElem? (i := 862) (by decide +kernel)⟩
theorem lw_p56 : lw_okq (⟨"ThirdSheetsModel", "linkOf", "(I)I"⟩, 26) := ⟨⟨by decide +kernel, by decide +kernel⟩, List.mem_of_getElem? (i := 689) (by decide +kernel), List.mem_of_getElem? (i := 866) (by decide +kernel), List.mem_of_getElem? (i := 867) (by decide +kernel)⟩
theorem lw_p57 : lw_okq (⟨"ThirdSheetsModel", "cornerClasses", "()I"⟩, 26) := ⟨⟨by decide +kernel, by decide +kernel⟩, List.mem_of_getElem? (i := 689) (by decide +kernel), List.mem_of_getElem? (i := 874) (by decide +kernel), List.mem_of_getElem? (i := 875) (by decide +kernel)⟩
theorem lw_p58 : lw_okq (⟨"ThirdSheetsModel", "edgeClasses", "()I"⟩, 26) := ⟨⟨by decide +kernel, by decide +kernel⟩, List.mem_of_getElem? (i := 689) (by decide +kernel), List.mem_of_getElem? (i := 878) (by decide +kernel), List.mem_of_getElem? (i := 879) (by decide +kernel)⟩
theorem lw_p59 : lw_okq (⟨"ThirdSheetsModel", "sides", "(Z)I"⟩, 26) := ⟨⟨by decide +kernel, by decide +kernel⟩, List.mem_of_getElem? (i := 689) (by decide +kernel), List.mem_of_getElem? (i := 882) (by decide +kernel), List.mem_of_getElem? (i := 883) (by decide +kernel)⟩
theorem lw_p60 : lw_okq (⟨"ThirdSheetsModel", "isWhole", "()Z"⟩, 26) := ⟨⟨by decide +kernel, by decide +kernel⟩, List.mem_of_getElem? (i := 689) (by decide +kernel), List.mem_of_getElem? (i := 886) (by decide +kernel), List.mem_of_getElem? (i := 887) (by decide +kernel)⟩
theorem lw_p61 : lw_okq (⟨"ThirdSheetsModel", "anyBent", "()Z"⟩, 26) := ⟨⟨by decide +kernel, by decide +kernel⟩, List.mem_of_getElem? (i := 689) (by decide +kernel), List.mem_of_getElem? (i := 890) (by decide +kernel), List.mem_of_getElem? (i := 891) (by decide +kernel)⟩
theorem lw_p62 : lw_okq (⟨"ThirdSheetsModel", "isEven", "()Z"⟩, 26) := ⟨⟨by decide +kernel, by decide +kernel⟩, List.mem_of_getElem? (i := 689) (by decide +kernel), List.mem_of_getElem? (i := 894) (by decide +kernel), List.mem_of_getElem? (i := 895) (by decide +kernel)⟩
theorem lw_p63 : lw_okq (⟨"ThirdSheetsModel", "isEvenChange", "(I)Z"⟩, 26) := ⟨⟨by decide +kernel, by decide +kernel⟩, List.mem_of_getElem? (i := 689) (by decide +kernel), List.mem_of_getElem? (i := 898) (by decide +kernel), List.mem_of_getElem? (i := 899) (by decide +kernel)⟩
def lw_privs_4 : List (MethodName × Nat) := [(⟨"ThirdSheetsModel", "join", "([III)V"⟩, 26), (⟨"ThirdSheetsModel", "endOf", "(III)I"⟩, 26), (⟨"ThirdSheetsModel", "edgeOf", "(II)I"⟩, 26), (⟨"ThirdSheetsModel", "edgeLabel", "(II)I"⟩, 26), (⟨"ThirdSheetsModel", "isFirstEdge", "(I)Z"⟩, 26), (⟨"ThirdSheetsModel", "edgeOfClass", "(I)I"⟩, 26), (⟨"ThirdSheetsModel", "isBent", "(I)Z"⟩, 26), (⟨"ThirdSheetsModel", "cornerOfClass", "(I)I"⟩, 26), (⟨"ThirdSheetsModel", "linkOf", "(I)I"⟩, 26), (⟨"ThirdSheetsModel", "cornerClasses", "()I"⟩, 26), (⟨"ThirdSheetsModel", "edgeClasses", "()I"⟩, 26), (⟨"ThirdSheetsModel", "sides", "(Z)I"⟩, 26), (⟨"ThirdSheetsModel", "isWhole", "()Z"⟩, 26), (⟨"ThirdSheetsModel", "anyBent", "()Z"⟩, 26), (⟨"ThirdSheetsModel", "isEven", "()Z"⟩, 26), (⟨"ThirdSheetsModel", "isEvenChange", "(I)Z"⟩, 26)]
theorem lw_r4 : ∀ q ∈ lw_privs_4, lw_okq q := List.forall_mem_cons.mpr ⟨lw_p48, List.forall_mem_cons.mpr ⟨lw_p49, List.forall_mem_cons.mpr ⟨lw_p50, List.forall_mem_cons.mpr ⟨lw_p51, List.forall_mem_cons.mpr ⟨lw_p52, List.forall_mem_cons.mpr ⟨lw_p53, List.forall_mem_cons.mpr ⟨lw_p54, List.forall_mem_cons.mpr ⟨lw_p55, List.forall_mem_cons.mpr ⟨lw_p56, List.forall_mem_cons.mpr ⟨lw_p57, List.forall_mem_cons.mpr ⟨lw_p58, List.forall_mem_cons.mpr ⟨lw_p59, List.forall_mem_cons.mpr ⟨lw_p60, List.forall_mem_cons.mpr ⟨lw_p61, List.forall_mem_cons.mpr ⟨lw_p62, List.forall_mem_cons.mpr ⟨lw_p63, fun _ h => absurd h List.not_mem_nil⟩⟩⟩⟩⟩⟩⟩⟩⟩⟩⟩⟩⟩⟩⟩⟩
theorem lw_p64 : lw_okq (⟨"ThirdSheetsModel", "setMany", "()I"⟩, 26) := ⟨⟨by decide +kernel, by decide +kernel⟩, List.mem_of_getElem? (i := 689) (by decide +kernel), List.mem_of_getElem? (i := 902) (by decide +kernel), List.mem_of_getElem? (i := 903) (by decide +kernel)⟩
theorem lw_p65 : lw_okq (⟨"ThirdSheetsModel", "layLoops", "()V"⟩, 26) := ⟨⟨by decide +kernel, by decide +kernel⟩, List.mem_of_getElem? (i := 689) (by decide +kernel), List.mem_of_getElem? (i := 910) (by decide +kernel), List.mem_of_getElem? (i := 911) (by decide +kernel)⟩
theorem lw_p66 : lw_okq (⟨"ThirdSheetsModel", "findPairs", "()V"⟩, 26) := ⟨⟨by decide +kernel, by decide +kernel⟩, List.mem_of_getElem? (i := 689) (by decide +kernel), List.mem_of_getElem? (i := 914) (by decide +kernel), List.mem_of_getElem? (i := 915) (by decide +kernel)⟩
theorem lw_p67 : lw_okq (⟨"ThirdSheetsModel", "goAround", "(I)Z"⟩, 26) := ⟨⟨by decide +kernel, by decide +kernel⟩, List.mem_of_getElem? (i := 689) (by decide +kernel), List.mem_of_getElem? (i := 918) (by decide +kernel), List.mem_of_getElem? (i := 919) (by decide +kernel)⟩
theorem lw_p68 : lw_okq (⟨"ThirdSheetsModel", "bring", "(I)Z"⟩, 26) := ⟨⟨by decide +kernel, by decide +kernel⟩, List.mem_of_getElem? (i := 689) (by decide +kernel), List.mem_of_getElem? (i := 923) (by decide +kernel), List.mem_of_getElem? (i := 924) (by decide +kernel)⟩
theorem lw_p69 : lw_okq (⟨"ThirdSheetsModel", "cell", "(II)J"⟩, 26) := ⟨⟨by decide +kernel, by decide +kernel⟩, List.mem_of_getElem? (i := 689) (by decide +kernel), List.mem_of_getElem? (i := 927) (by decide +kernel), List.mem_of_getElem? (i := 928) (by decide +kernel)⟩
theorem lw_p70 : lw_okq (⟨"ThirdSheetsModel", "reduce", "(I)Z"⟩, 26) := ⟨⟨by decide +kernel, by decide +kernel⟩, List.mem_of_getElem? (i := 689) (by decide +kernel), List.mem_of_getElem? (i := 931) (by decide +kernel), List.mem_of_getElem? (i := 932) (by decide +kernel)⟩
theorem lw_p71 : lw_okq (⟨"ThirdSheetsModel", "findLeast", "()V"⟩, 26) := ⟨⟨by decide +kernel, by decide +kernel⟩, List.mem_of_getElem? (i := 689) (by decide +kernel), List.mem_of_getElem? (i := 939) (by decide +kernel), List.mem_of_getElem? (i := 940) (by decide +kernel)⟩
theorem lw_p72 : lw_okq (⟨"ThirdSheetsModel", "layEquation", "(II)V"⟩, 26) := ⟨⟨by decide +kernel, by decide +kernel⟩, List.mem_of_getElem? (i := 689) (by decide +kernel), List.mem_of_getElem? (i := 943) (by decide +kernel), List.mem_of_getElem? (i := 944) (by decide +kernel)⟩
theorem lw_p73 : lw_okq (⟨"ThirdSheetsModel", "meet", "()V"⟩, 26) := ⟨⟨by decide +kernel, by decide +kernel⟩, List.mem_of_getElem? (i := 689) (by decide +kernel), List.mem_of_getElem? (i := 950) (by decide +kernel), List.mem_of_getElem? (i := 951) (by decide +kernel)⟩
theorem lw_p74 : lw_okq (⟨"ThirdSheetsModel", "side", "(I)I"⟩, 26) := ⟨⟨by decide +kernel, by decide +kernel⟩, List.mem_of_getElem? (i := 689) (by decide +kernel), List.mem_of_getElem? (i := 954) (by decide +kernel), List.mem_of_getElem? (i := 955) (by decide +kernel)⟩
theorem lw_p75 : lw_okq (⟨"ThirdSheetsModel", "layRay", "(IIII)V"⟩, 26) := ⟨⟨by decide +kernel, by decide +kernel⟩, List.mem_of_getElem? (i := 689) (by decide +kernel), List.mem_of_getElem? (i := 958) (by decide +kernel), List.mem_of_getElem? (i := 959) (by decide +kernel)⟩
theorem lw_p76 : lw_okq (⟨"ThirdSheetsModel", "supportOf", "(I)I"⟩, 26) := ⟨⟨by decide +kernel, by decide +kernel⟩, List.mem_of_getElem? (i := 689) (by decide +kernel), List.mem_of_getElem? (i := 965) (by decide +kernel), List.mem_of_getElem? (i := 966) (by decide +kernel)⟩
theorem lw_p77 : lw_okq (⟨"ThirdSheetsModel", "hasOneKind", "(I)Z"⟩, 26) := ⟨⟨by decide +kernel, by decide +kernel⟩, List.mem_of_getElem? (i := 689) (by decide +kernel), List.mem_of_getElem? (i := 969) (by decide +kernel), List.mem_of_getElem? (i := 970) (by decide +kernel)⟩
theorem lw_p78 : lw_okq (⟨"ThirdSheetsModel", "areBeside", "(III)Z"⟩, 26) := ⟨⟨by decide +kernel, by decide +kernel⟩, List.mem_of_getElem? (i := 689) (by decide +kernel), List.mem_of_getElem? (i := 973) (by decide +kernel), List.mem_of_getElem? (i := 974) (by decide +kernel)⟩
theorem lw_p79 : lw_okq (⟨"ThirdSheetsModel", "isBefore", "(II)Z"⟩, 26) := ⟨⟨by decide +kernel, by decide +kernel⟩, List.mem_of_getElem? (i := 689) (by decide +kernel), List.mem_of_getElem? (i := 977) (by decide +kernel), List.mem_of_getElem? (i := 978) (by decide +kernel)⟩
def lw_privs_5 : List (MethodName × Nat) := [(⟨"ThirdSheetsModel", "setMany", "()I"⟩, 26), (⟨"ThirdSheetsModel", "layLoops", "()V"⟩, 26), (⟨"ThirdSheetsModel", "findPairs", "()V"⟩, 26), (⟨"ThirdSheetsModel", "goAround", "(I)Z"⟩, 26), (⟨"ThirdSheetsModel", "bring", "(I)Z"⟩, 26), (⟨"ThirdSheetsModel", "cell", "(II)J"⟩, 26), (⟨"ThirdSheetsModel", "reduce", "(I)Z"⟩, 26), (⟨"ThirdSheetsModel", "findLeast", "()V"⟩, 26), (⟨"ThirdSheetsModel", "layEquation", "(II)V"⟩, 26), (⟨"ThirdSheetsModel", "meet", "()V"⟩, 26), (⟨"ThirdSheetsModel", "side", "(I)I"⟩, 26), (⟨"ThirdSheetsModel", "layRay", "(IIII)V"⟩, 26), (⟨"ThirdSheetsModel", "supportOf", "(I)I"⟩, 26), (⟨"ThirdSheetsModel", "hasOneKind", "(I)Z"⟩, 26), (⟨"ThirdSheetsModel", "areBeside", "(III)Z"⟩, 26), (⟨"ThirdSheetsModel", "isBefore", "(II)Z"⟩, 26)]
theorem lw_r5 : ∀ q ∈ lw_privs_5, lw_okq q := List.forall_mem_cons.mpr ⟨lw_p64, List.forall_mem_cons.mpr ⟨lw_p65, List.forall_mem_cons.mpr ⟨lw_p66, List.forall_mem_cons.mpr ⟨lw_p67, List.forall_mem_cons.mpr ⟨lw_p68, List.forall_mem_cons.mpr ⟨lw_p69, List.forall_mem_cons.mpr ⟨lw_p70, List.forall_mem_cons.mpr ⟨lw_p71, List.forall_mem_cons.mpr ⟨lw_p72, List.forall_mem_cons.mpr ⟨lw_p73, List.forall_mem_cons.mpr ⟨lw_p74, List.forall_mem_cons.mpr ⟨lw_p75, List.forall_mem_cons.mpr ⟨lw_p76, List.forall_mem_cons.mpr ⟨lw_p77, List.forall_mem_cons.mpr ⟨lw_p78, List.forall_mem_cons.mpr ⟨lw_p79, fun _ h => absurd h List.not_mem_nil⟩⟩⟩⟩⟩⟩⟩⟩⟩⟩⟩⟩⟩⟩⟩⟩
theorem lw_p80 : lw_okq (⟨"ThirdSheetsModel", "swap", "(II)V"⟩, 26) := ⟨⟨by decide +kernel, by decide +kernel⟩, List.mem_of_getElem? (i := 689) (by decide +kernel), List.mem_of_getElem? (i := 981) (by decide +kernel), List.mem_of_getElem? (i := 982) (by decide +kernel)⟩
theorem lw_p81 : lw_okq (⟨"ThirdSheetsModel", "arcs", "(III)I"⟩, 26) := ⟨⟨by decide +kernel, by decide +kernel⟩, List.mem_of_getElem? (i := 689) (by decide +kernel), List.mem_of_getElem? (i := 1005) (by decide +kernel), List.mem_of_getElem? (i := 1006) (by decide +kernel)⟩
theorem lw_p82 : lw_okq (⟨"ThirdSheetsModel", "meets", "(II)Z"⟩, 26) := ⟨⟨by decide +kernel, by decide +kernel⟩, List.mem_of_getElem? (i := 689) (by decide +kernel), List.mem_of_getElem? (i := 1014) (by decide +kernel), List.mem_of_getElem? (i := 1015) (by decide +kernel)⟩
theorem lw_p83 : lw_okq (⟨"ThirdSheetsModel", "findParts", "()I"⟩, 26) := ⟨⟨by decide +kernel, by decide +kernel⟩, List.mem_of_getElem? (i := 689) (by decide +kernel), List.mem_of_getElem? (i := 1022) (by decide +kernel), List.mem_of_getElem? (i := 1023) (by decide +kernel)⟩
theorem lw_p84 : lw_okq (⟨"ThirdSheetsModel", "spread", "(II)I"⟩, 26) := ⟨⟨by decide +kernel, by decide +kernel⟩, List.mem_of_getElem? (i := 689) (by decide +kernel), List.mem_of_getElem? (i := 1026) (by decide +kernel), List.mem_of_getElem? (i := 1027) (by decide +kernel)⟩
theorem lw_p85 : lw_okq (⟨"ThirdSheetsModel", "sortOf", "(I)I"⟩, 26) := ⟨⟨by decide +kernel, by decide +kernel⟩, List.mem_of_getElem? (i := 689) (by decide +kernel), List.mem_of_getElem? (i := 1030) (by decide +kernel), List.mem_of_getElem? (i := 1031) (by decide +kernel)⟩
theorem lw_p86 : lw_okq (⟨"ThirdSheetsModel", "cutAt", "(III)I"⟩, 26) := ⟨⟨by decide +kernel, by decide +kernel⟩, List.mem_of_getElem? (i := 689) (by decide +kernel), List.mem_of_getElem? (i := 1034) (by decide +kernel), List.mem_of_getElem? (i := 1035) (by decide +kernel)⟩
theorem lw_p87 : lw_okq (⟨"ThirdSheetsModel", "looks", "(III)Z"⟩, 26) := ⟨⟨by decide +kernel, by decide +kernel⟩, List.mem_of_getElem? (i := 689) (by decide +kernel), List.mem_of_getElem? (i := 1038) (by decide +kernel), List.mem_of_getElem? (i := 1039) (by decide +kernel)⟩
theorem lw_p88 : lw_okq (⟨"ThirdSheetsModel", "cutsOf", "(I)I"⟩, 26) := ⟨⟨by decide +kernel, by decide +kernel⟩, List.mem_of_getElem? (i := 689) (by decide +kernel), List.mem_of_getElem? (i := 1046) (by decide +kernel), List.mem_of_getElem? (i := 1047) (by decide +kernel)⟩
theorem lw_p89 : lw_okq (⟨"ThirdSheetsModel", "worth", "(I)I"⟩, 26) := ⟨⟨by decide +kernel, by decide +kernel⟩, List.mem_of_getElem? (i := 689) (by decide +kernel), List.mem_of_getElem? (i := 1050) (by decide +kernel), List.mem_of_getElem? (i := 1051) (by decide +kernel)⟩
def lw_privs_6 : List (MethodName × Nat) := [(⟨"ThirdSheetsModel", "swap", "(II)V"⟩, 26), (⟨"ThirdSheetsModel", "arcs", "(III)I"⟩, 26), (⟨"ThirdSheetsModel", "meets", "(II)Z"⟩, 26), (⟨"ThirdSheetsModel", "findParts", "()I"⟩, 26), (⟨"ThirdSheetsModel", "spread", "(II)I"⟩, 26), (⟨"ThirdSheetsModel", "sortOf", "(I)I"⟩, 26), (⟨"ThirdSheetsModel", "cutAt", "(III)I"⟩, 26), (⟨"ThirdSheetsModel", "looks", "(III)Z"⟩, 26), (⟨"ThirdSheetsModel", "cutsOf", "(I)I"⟩, 26), (⟨"ThirdSheetsModel", "worth", "(I)I"⟩, 26)]
theorem lw_r6 : ∀ q ∈ lw_privs_6, lw_okq q := List.forall_mem_cons.mpr ⟨lw_p80, List.forall_mem_cons.mpr ⟨lw_p81, List.forall_mem_cons.mpr ⟨lw_p82, List.forall_mem_cons.mpr ⟨lw_p83, List.forall_mem_cons.mpr ⟨lw_p84, List.forall_mem_cons.mpr ⟨lw_p85, List.forall_mem_cons.mpr ⟨lw_p86, List.forall_mem_cons.mpr ⟨lw_p87, List.forall_mem_cons.mpr ⟨lw_p88, List.forall_mem_cons.mpr ⟨lw_p89, fun _ h => absurd h List.not_mem_nil⟩⟩⟩⟩⟩⟩⟩⟩⟩⟩
def lw_privs : List (MethodName × Nat) := lw_privs_1 ++ (lw_privs_2 ++ (lw_privs_3 ++ (lw_privs_4 ++ (lw_privs_5 ++ (lw_privs_6)))))
def lw_tbl : List Cond := k2_sels lw_privs ++ tables_1
theorem lw_privs_ok : ∀ q ∈ lw_privs, lw_okq q := by
  show ∀ q ∈ lw_privs_1 ++ (lw_privs_2 ++ (lw_privs_3 ++ (lw_privs_4 ++ (lw_privs_5 ++ (lw_privs_6))))), lw_okq q
  exact List.forall_mem_append.mpr ⟨lw_r1, List.forall_mem_append.mpr ⟨lw_r2, List.forall_mem_append.mpr ⟨lw_r3, List.forall_mem_append.mpr ⟨lw_r4, List.forall_mem_append.mpr ⟨lw_r5, lw_r6⟩⟩⟩⟩⟩
end
section
/-! the classes, their fields, the methods: by program out of the tables -/
def am_T0 : u_T := fun k => match k with
  | 0 => ("ThirdSheets$Groups", "parent", "[I", true)
  | 1 => ("ThirdSheets$Groups", "unlikeParent", "[I", true)
  | 2 => ("ThirdSheets$Groups", "clash", "[Z", true)
  | 3 => ("ThirdSheets$Groups", "groupOf", "[I", true)
  | 4 => ("ThirdSheets$Groups", "first", "[I", true)
  | 5 => ("ThirdSheets$Groups", "members", "I", false)
  | _ => ("ThirdSheets$Groups", "groups", "I", false)
def am_T1 : u_T := fun k => match k with
  | 0 => ("ThirdSheets$LeastSheets", "width", "I", false)
  | 1 => ("ThirdSheets$LeastSheets", "rows", "I", false)
  | 2 => ("ThirdSheets$LeastSheets", "row", "[[I", false)
  | 3 => ("ThirdSheets$LeastSheets", "support", "[I", false)
  | 4 => ("ThirdSheets$LeastSheets", "excess", "[I", true)
  | 5 => ("ThirdSheets$LeastSheets", "nextRows", "I", false)
  | 6 => ("ThirdSheets$LeastSheets", "nextRow", "[[I", false)
  | _ => ("ThirdSheets$LeastSheets", "nextSupport", "[I", false)
def am_T2 : u_T := fun k => match k with
  | 0 => ("ThirdSheets$Loops", "loop", "[[J", true)
  | 1 => ("ThirdSheets$Loops", "pairOf", "[I", true)
  | 2 => ("ThirdSheets$Loops", "loops", "I", false)
  | 3 => ("ThirdSheets$Loops", "columns", "I", false)
  | _ => ("ThirdSheets$Loops", "rank", "I", false)
def am_T3 : u_T := fun k => match k with
  | 0 => ("ThirdSheets$Parts", "cuts", "LThirdSheets$Groups;", true)
  | 1 => ("ThirdSheets$Parts", "firstCut", "[I", true)
  | 2 => ("ThirdSheets$Parts", "sizeOf", "[I", true)
  | _ => ("ThirdSheets$Parts", "eulerOf", "[I", true)
def am_T4 : u_T := fun k => match k with
  | _ => ("ThirdSheets$Sheet", "row", "[I", true)
def am_T5 : u_T := fun k => match k with
  | 0 => ("ThirdSheets$Space", "pieces", "I", false)
  | 1 => ("ThirdSheets$Space", "pairs", "I", false)
  | 2 => ("ThirdSheets$Space", "mate", "[I", true)
  | 3 => ("ThirdSheets$Space", "goesTo", "[I", true)
  | 4 => ("ThirdSheets$Space", "corners", "LThirdSheets$Groups;", true)
  | 5 => ("ThirdSheets$Space", "edges", "LThirdSheets$Groups;", true)
  | _ => ("ThirdSheets$Space", "sets", "LThirdSheets$Groups;", true)
def am_T6 : u_T := fun k => match k with
  | 0 => ("ThirdSheets", "space", "LThirdSheets$Space;", true)
  | 1 => ("ThirdSheets", "loops", "LThirdSheets$Loops;", true)
  | 2 => ("ThirdSheets", "leastSheets", "LThirdSheets$LeastSheets;", true)
  | 3 => ("ThirdSheets", "sheet", "LThirdSheets$Sheet;", true)
  | 4 => ("ThirdSheets", "sheetParts", "LThirdSheets$Parts;", true)
  | 5 => ("ThirdSheets", "leastStale", "Z", false)
  | _ => ("ThirdSheets", "partsStale", "Z", false)
def am_T7 : u_T := fun k => match k with
  | 0 => ("ThirdSheetsModel", "pieces", "I", false)
  | 1 => ("ThirdSheetsModel", "glued", "[I", true)
  | 2 => ("ThirdSheetsModel", "goes", "[I", true)
  | 3 => ("ThirdSheetsModel", "sheet", "[I", true)
  | 4 => ("ThirdSheetsModel", "from", "[I", true)
  | 5 => ("ThirdSheetsModel", "to", "[I", true)
  | 6 => ("ThirdSheetsModel", "labels", "[I", true)
  | 7 => ("ThirdSheetsModel", "corners", "[I", true)
  | 8 => ("ThirdSheetsModel", "sets", "[I", true)
  | 9 => ("ThirdSheetsModel", "more", "Z", false)
  | 10 => ("ThirdSheetsModel", "table", "[J", true)
  | 11 => ("ThirdSheetsModel", "rows", "I", false)
  | 12 => ("ThirdSheetsModel", "columns", "I", false)
  | 13 => ("ThirdSheetsModel", "pairOf", "[I", true)
  | 14 => ("ThirdSheetsModel", "rays", "I", false)
  | 15 => ("ThirdSheetsModel", "ray", "[I", true)
  | 16 => ("ThirdSheetsModel", "next", "[I", true)
  | 17 => ("ThirdSheetsModel", "equation", "[I", true)
  | 18 => ("ThirdSheetsModel", "laid", "I", false)
  | 19 => ("ThirdSheetsModel", "cuts", "I", false)
  | 20 => ("ThirdSheetsModel", "cutFrom", "[I", true)
  | 21 => ("ThirdSheetsModel", "partOf", "[I", true)
  | 22 => ("ThirdSheetsModel", "sign", "[I", true)
  | 23 => ("ThirdSheetsModel", "queue", "[I", true)
  | 24 => ("ThirdSheetsModel", "isTwisted", "Z", false)
  | _ => ("ThirdSheetsModel", "twisted", "[Z", true)
abbrev am_cl : List vw_C := [("ThirdSheets$Groups", am_T0, 7), ("ThirdSheets$LeastSheets", am_T1, 8), ("ThirdSheets$Loops", am_T2, 5), ("ThirdSheets$Parts", am_T3, 4), ("ThirdSheets$Sheet", am_T4, 1), ("ThirdSheets$Space", am_T5, 7), ("ThirdSheets", am_T6, 7), ("ThirdSheetsModel", am_T7, 26)]
def am_cn : Nat → String := fun k => (["ThirdSheets$Groups", "ThirdSheets$LeastSheets", "ThirdSheets$Loops", "ThirdSheets$Parts", "ThirdSheets$Sheet", "ThirdSheets$Space", "ThirdSheets", "ThirdSheetsModel", "ThirdSheetsLaw", "java/util/Arrays"] : List String).getD k ""
/-- name, code, locals, answer, frames, words, class, arguments -/
abbrev am_M : Type := MethodName × ByteArray × Nat × Option FieldType × Nat × Nat × Nat × Nat
def am_mt0 : List am_M := [(⟨"ThirdSheets$Groups", "<init>", "(I)V"⟩, prog_2_method_1_code, 2, none, 1, 20, 0, 1),
  (⟨"ThirdSheets$Groups", "start", "(I)V"⟩, prog_2_method_2_code, 3, none, 1, 21, 0, 1),
  (⟨"ThirdSheets$Groups", "rootOf", "(I)I"⟩, prog_2_method_3_code, 5, (some .int), 0, 0, 0, 1),
  (⟨"ThirdSheets$Groups", "join", "(IIZ)V"⟩, prog_2_method_4_code, 9, none, 1, 24, 0, 3),
  (⟨"ThirdSheets$Groups", "settle", "()V"⟩, prog_2_method_5_code, 3, none, 1, 24, 0, 0),
  (⟨"ThirdSheets$Groups", "clashes", "(I)Z"⟩, prog_2_method_6_code, 2, (some .boolean), 0, 0, 0, 1),
  (⟨"ThirdSheets$Groups", "anyClashes", "()Z"⟩, prog_2_method_7_code, 2, (some .boolean), 1, 21, 0, 0),
  (⟨"ThirdSheets$LeastSheets", "<init>", "()V"⟩, prog_3_method_1_code, 1, none, 1, 20, 1, 0),
  (⟨"ThirdSheets$LeastSheets", "build", "(LThirdSheets$Space;)V"⟩, prog_3_method_2_code, 4, none, 3, 72, 1, 1),
  (⟨"ThirdSheets$LeastSheets", "startWithSingleCuts", "(I)V"⟩, prog_3_method_3_code, 3, none, 1, 23, 1, 1),
  (⟨"ThirdSheets$LeastSheets", "weigh", "(IIII)V"⟩, prog_3_method_4_code, 6, none, 1, 23, 1, 4),
  (⟨"ThirdSheets$LeastSheets", "fitAcross", "()V"⟩, prog_3_method_5_code, 3, none, 2, 50, 1, 0),
  (⟨"ThirdSheets$LeastSheets", "keep", "(I)V"⟩, prog_3_method_6_code, 2, none, 1, 26, 1, 1),
  (⟨"ThirdSheets$LeastSheets", "areNeighbours", "(II)Z"⟩, prog_3_method_7_code, 5, (some .boolean), 1, 22, 1, 2),
  (⟨"ThirdSheets$LeastSheets", "mixesFours", "(I)Z"⟩, prog_3_method_8_code, 3, (some .boolean), 0, 0, 1, 1),
  (⟨"ThirdSheets$LeastSheets", "mix", "(II)V"⟩, prog_3_method_9_code, 6, none, 1, 25, 1, 2),
  (⟨"ThirdSheets$LeastSheets", "commonDivisor", "(II)I"⟩, prog_3_method_10_code, 6, (some .int), 0, 0, 1, 2),
  (⟨"ThirdSheets$LeastSheets", "swapLists", "()V"⟩, prog_3_method_11_code, 3, none, 0, 0, 1, 0),
  (⟨"ThirdSheets$LeastSheets", "sortRows", "()V"⟩, prog_3_method_12_code, 4, none, 1, 23, 1, 0),
  (⟨"ThirdSheets$LeastSheets", "comesBefore", "([I[I)Z"⟩, prog_3_method_13_code, 4, (some .boolean), 0, 0, 1, 2),
  (⟨"ThirdSheets$Loops", "<init>", "()V"⟩, prog_4_method_1_code, 1, none, 1, 20, 2, 0),
  (⟨"ThirdSheets$Loops", "build", "(LThirdSheets$Space;)V"⟩, prog_4_method_2_code, 3, none, 3, 76, 2, 1),
  (⟨"ThirdSheets$Loops", "aboveOne", "(I)I"⟩, prog_4_method_3_code, 4, (some .int), 0, 0, 2, 1),
  (⟨"ThirdSheets$Loops", "numberPairs", "(LThirdSheets$Space;)V"⟩, prog_4_method_4_code, 3, none, 1, 21, 2, 1),
  (⟨"ThirdSheets$Loops", "goAround", "(LThirdSheets$Space;I)Z"⟩, prog_4_method_5_code, 13, (some .boolean), 1, 24, 2, 2),
  (⟨"ThirdSheets$Loops", "makeDiagonal", "(I)Z"⟩, prog_4_method_6_code, 3, (some .boolean), 2, 54, 2, 1),
  (⟨"ThirdSheets$Loops", "bringSmallest", "(I)Z"⟩, prog_4_method_7_code, 10, (some .boolean), 1, 25, 2, 1),
  (⟨"ThirdSheets$Loops", "swapRows", "(II)V"⟩, prog_4_method_8_code, 4, none, 0, 0, 2, 2),
  (⟨"ThirdSheets$Loops", "swapColumns", "(II)V"⟩, prog_4_method_9_code, 6, none, 0, 0, 2, 2),
  (⟨"ThirdSheets$Loops", "reduceRows", "(I)Z"⟩, prog_4_method_10_code, 7, (some .boolean), 1, 23, 2, 1)]
def am_mt1 : List am_M := [(⟨"ThirdSheets$Loops", "reduceColumns", "(I)Z"⟩, prog_4_method_11_code, 7, (some .boolean), 1, 23, 2, 1),
  (⟨"ThirdSheets$Loops", "timesOf", "(JJ)J"⟩, prog_4_method_12_code, 4, (some .long), 0, 0, 2, 2),
  (⟨"ThirdSheets$Loops", "dividesRest", "(I)Z"⟩, prog_4_method_13_code, 6, (some .boolean), 1, 23, 2, 1),
  (⟨"ThirdSheets$Loops", "addRow", "(II)V"⟩, prog_4_method_14_code, 4, none, 0, 0, 2, 2),
  (⟨"ThirdSheets$Parts", "<init>", "()V"⟩, prog_5_method_1_code, 1, none, 2, 41, 3, 0),
  (⟨"ThirdSheets$Parts", "build", "(LThirdSheets$Space;[I)V"⟩, prog_5_method_2_code, 5, none, 3, 81, 3, 2),
  (⟨"ThirdSheets$Parts", "numberCuts", "([I)I"⟩, prog_5_method_3_code, 4, (some .int), 1, 21, 3, 1),
  (⟨"ThirdSheets$Parts", "joinAcross", "(LThirdSheets$Space;[II)V"⟩, prog_5_method_4_code, 10, none, 2, 52, 3, 3),
  (⟨"ThirdSheets$Parts", "cutAt", "([IIII)I"⟩, prog_5_method_5_code, 9, (some .int), 1, 21, 3, 4),
  (⟨"ThirdSheets$Parts", "looksAway", "([IIII)Z"⟩, prog_5_method_6_code, 4, (some .boolean), 1, 21, 3, 4),
  (⟨"ThirdSheets$Parts", "isNear", "(II)Z"⟩, prog_5_method_7_code, 2, (some .boolean), 0, 0, 3, 2),
  (⟨"ThirdSheets$Parts", "countCuts", "(I)V"⟩, prog_5_method_8_code, 3, none, 0, 0, 3, 1),
  (⟨"ThirdSheets$Parts", "countArcs", "(LThirdSheets$Space;[I)V"⟩, prog_5_method_9_code, 8, none, 2, 49, 3, 2),
  (⟨"ThirdSheets$Parts", "countPoints", "(LThirdSheets$Space;[I)V"⟩, prog_5_method_10_code, 9, none, 1, 21, 3, 2),
  (⟨"ThirdSheets$Sheet", "<init>", "()V"⟩, prog_6_method_1_code, 1, none, 1, 20, 4, 0),
  (⟨"ThirdSheets$Sheet", "wipe", "()V"⟩, prog_6_method_2_code, 1, none, 1, 23, 4, 0),
  (⟨"ThirdSheets$Sheet", "notZero", "()I"⟩, prog_6_method_3_code, 6, (some .int), 0, 0, 4, 0),
  (⟨"ThirdSheets$Sheet", "cutCount", "()I"⟩, prog_6_method_4_code, 6, (some .int), 0, 0, 4, 0),
  (⟨"ThirdSheets$Sheet", "hasRoomFor", "([II)Z"⟩, prog_6_method_5_code, 4, (some .boolean), 0, 0, 4, 2),
  (⟨"ThirdSheets$Sheet", "raise", "([II)V"⟩, prog_6_method_6_code, 4, none, 0, 0, 4, 2),
  (⟨"ThirdSheets$Sheet", "isLegal", "(LThirdSheets$Space;)Z"⟩, prog_6_method_7_code, 2, (some .boolean), 3, 69, 4, 1),
  (⟨"ThirdSheets$Sheet", "fits", "(LThirdSheets$Space;)Z"⟩, prog_6_method_8_code, 3, (some .boolean), 2, 47, 4, 1),
  (⟨"ThirdSheets$Sheet", "fitsAt", "(LThirdSheets$Space;I)Z"⟩, prog_6_method_9_code, 5, (some .boolean), 1, 23, 4, 2),
  (⟨"ThirdSheets$Sheet", "mixesFours", "()Z"⟩, prog_6_method_10_code, 4, (some .boolean), 0, 0, 4, 0),
  (⟨"ThirdSheets$Sheet", "eulerNumber", "(LThirdSheets$Space;)I"⟩, prog_6_method_11_code, 2, (some .int), 2, 48, 4, 1),
  (⟨"ThirdSheets$Sheet", "points", "(LThirdSheets$Space;)I"⟩, prog_6_method_12_code, 6, (some .int), 1, 21, 4, 1),
  (⟨"ThirdSheets$Sheet", "arcs", "(LThirdSheets$Space;)I"⟩, prog_6_method_13_code, 6, (some .int), 1, 23, 4, 1),
  (⟨"ThirdSheets$Space", "<init>", "()V"⟩, prog_7_method_1_code, 1, none, 2, 41, 5, 0),
  (⟨"ThirdSheets$Space", "grow", "()V"⟩, prog_7_method_2_code, 1, none, 0, 0, 5, 0),
  (⟨"ThirdSheets$Space", "empty", "()V"⟩, prog_7_method_3_code, 1, none, 1, 23, 5, 0)]
def am_mt2 : List am_M := [(⟨"ThirdSheets$Space", "isGlued", "(I)Z"⟩, prog_7_method_4_code, 2, (some .boolean), 0, 0, 5, 1),
  (⟨"ThirdSheets$Space", "fasten", "(III)V"⟩, prog_7_method_5_code, 6, none, 1, 24, 5, 3),
  (⟨"ThirdSheets$Space", "tell", "(IIII)V"⟩, prog_7_method_6_code, 5, none, 0, 0, 5, 4),
  (⟨"ThirdSheets$Space", "loosen", "(I)V"⟩, prog_7_method_7_code, 3, none, 0, 0, 5, 1),
  (⟨"ThirdSheets$Space", "isLesser", "(I)Z"⟩, prog_7_method_8_code, 2, (some .boolean), 0, 0, 5, 1),
  (⟨"ThirdSheets$Space", "sortOut", "()V"⟩, prog_7_method_9_code, 2, none, 3, 78, 5, 0),
  (⟨"ThirdSheets$Space", "joinCorners", "(I)V"⟩, prog_7_method_10_code, 5, none, 2, 52, 5, 1),
  (⟨"ThirdSheets$Space", "joinEdges", "(I)V"⟩, prog_7_method_11_code, 7, none, 2, 52, 5, 1),
  (⟨"ThirdSheets$Space", "isEvenChange", "(I)Z"⟩, prog_7_method_12_code, 4, (some .boolean), 0, 0, 5, 1),
  (⟨"ThirdSheets$Space", "sideCount", "()I"⟩, prog_7_method_13_code, 1, (some .int), 0, 0, 5, 0),
  (⟨"ThirdSheets$Space", "openCount", "()I"⟩, prog_7_method_14_code, 1, (some .int), 0, 0, 5, 0),
  (⟨"ThirdSheets$Space", "eulerNumber", "()I"⟩, prog_7_method_15_code, 1, (some .int), 1, 20, 5, 0),
  (⟨"ThirdSheets$Space", "isEven", "()Z"⟩, prog_7_method_16_code, 1, (some .boolean), 2, 42, 5, 0),
  (⟨"ThirdSheets$Space", "isWhole", "()Z"⟩, prog_7_method_17_code, 2, (some .boolean), 3, 67, 5, 0),
  (⟨"ThirdSheets$Space", "linkOf", "(I)I"⟩, prog_7_method_18_code, 2, (some .int), 2, 46, 5, 1),
  (⟨"ThirdSheets$Space", "endsAt", "(I)I"⟩, prog_7_method_19_code, 6, (some .int), 1, 21, 5, 1),
  (⟨"ThirdSheets$Space", "sidesAt", "(I)I"⟩, prog_7_method_20_code, 6, (some .int), 1, 21, 5, 1),
  (⟨"ThirdSheets$Space", "cornersOf", "(I)I"⟩, prog_7_method_21_code, 4, (some .int), 0, 0, 5, 1),
  (⟨"ThirdSheets", "<init>", "()V"⟩, prog_1_method_1_code, 1, none, 3, 61, 6, 0),
  (⟨"ThirdSheets", "piece", "()I"⟩, prog_1_method_2_code, 1, (some .int), 5, 119, 6, 0),
  (⟨"ThirdSheets", "glue", "(IIIII)I"⟩, prog_1_method_3_code, 8, (some .int), 5, 119, 6, 5),
  (⟨"ThirdSheets", "open", "(II)I"⟩, prog_1_method_4_code, 4, (some .int), 5, 119, 6, 2),
  (⟨"ThirdSheets", "clear", "()I"⟩, prog_1_method_5_code, 2, (some .int), 5, 119, 6, 0),
  (⟨"ThirdSheets", "across", "(III)I"⟩, prog_1_method_6_code, 6, (some .int), 2, 43, 6, 3),
  (⟨"ThirdSheets", "classOf", "(III)I"⟩, prog_1_method_7_code, 4, (some .int), 1, 21, 6, 3),
  (⟨"ThirdSheets", "bent", "(I)I"⟩, prog_1_method_8_code, 2, (some .int), 1, 21, 6, 1),
  (⟨"ThirdSheets", "link", "(I)I"⟩, prog_1_method_9_code, 2, (some .int), 3, 67, 6, 1),
  (⟨"ThirdSheets", "count", "(I)I"⟩, prog_1_method_10_code, 2, (some .int), 4, 88, 6, 1),
  (⟨"ThirdSheets", "holes", "(I)I"⟩, prog_1_method_11_code, 2, (some .int), 4, 98, 6, 1),
  (⟨"ThirdSheets", "least", "()I"⟩, prog_1_method_12_code, 1, (some .int), 5, 115, 6, 0)]
def am_mt3 : List am_M := [(⟨"ThirdSheets", "number", "(II)I"⟩, prog_1_method_13_code, 3, (some .int), 5, 115, 6, 2),
  (⟨"ThirdSheets", "put", "(II)I"⟩, prog_1_method_14_code, 4, (some .int), 1, 21, 6, 2),
  (⟨"ThirdSheets", "add", "(II)I"⟩, prog_1_method_15_code, 3, (some .int), 5, 115, 6, 2),
  (⟨"ThirdSheets", "drop", "()I"⟩, prog_1_method_16_code, 2, (some .int), 2, 43, 6, 0),
  (⟨"ThirdSheets", "legal", "()I"⟩, prog_1_method_17_code, 1, (some .int), 3, 69, 6, 0),
  (⟨"ThirdSheets", "euler", "()I"⟩, prog_1_method_18_code, 1, (some .int), 4, 90, 6, 0),
  (⟨"ThirdSheets", "parts", "()I"⟩, prog_1_method_19_code, 1, (some .int), 5, 125, 6, 0),
  (⟨"ThirdSheets", "part", "(II)I"⟩, prog_1_method_20_code, 3, (some .int), 5, 125, 6, 2),
  (⟨"ThirdSheets", "hasPiece", "(I)Z"⟩, prog_1_method_21_code, 2, (some .boolean), 0, 0, 6, 1),
  (⟨"ThirdSheets", "hasSide", "(II)Z"⟩, prog_1_method_22_code, 3, (some .boolean), 1, 21, 6, 2),
  (⟨"ThirdSheets", "hasNumber", "(I)Z"⟩, prog_1_method_23_code, 2, (some .boolean), 0, 0, 6, 1),
  (⟨"ThirdSheets", "hasLeast", "(I)Z"⟩, prog_1_method_24_code, 2, (some .boolean), 0, 0, 6, 1),
  (⟨"ThirdSheets", "goesOnto", "(II)Z"⟩, prog_1_method_25_code, 3, (some .boolean), 0, 0, 6, 2),
  (⟨"ThirdSheets", "spaceChanged", "()V"⟩, prog_1_method_26_code, 1, none, 4, 99, 6, 0),
  (⟨"ThirdSheets", "freshenLeast", "()V"⟩, prog_1_method_27_code, 1, none, 4, 95, 6, 0),
  (⟨"ThirdSheets", "freshenParts", "()V"⟩, prog_1_method_28_code, 1, none, 4, 105, 6, 0),
  (⟨"ThirdSheets", "arcsAround", "([III)I"⟩, prog_1_method_29_code, 4, (some .int), 0, 0, 6, 3),
  (⟨"ThirdSheets", "meets", "(II)Z"⟩, prog_1_method_30_code, 2, (some .boolean), 0, 0, 6, 2),
  (⟨"ThirdSheetsModel", "<init>", "()V"⟩, prog_9_method_1_code, 1, none, 1, 20, 7, 0),
  (⟨"ThirdSheetsModel", "in", "(III)Z"⟩, prog_9_method_2_code, 3, (some .boolean), 0, 0, 7, 3),
  (⟨"ThirdSheetsModel", "isPiece", "(I)Z"⟩, prog_9_method_3_code, 2, (some .boolean), 1, 22, 7, 1),
  (⟨"ThirdSheetsModel", "isSide", "(II)Z"⟩, prog_9_method_4_code, 3, (some .boolean), 2, 43, 7, 2),
  (⟨"ThirdSheetsModel", "edgeOf", "(II)I"⟩, prog_9_method_5_code, 4, (some .int), 0, 0, 7, 2),
  (⟨"ThirdSheetsModel", "endOf", "(III)I"⟩, prog_9_method_6_code, 4, (some .int), 1, 23, 7, 3),
  (⟨"ThirdSheetsModel", "lesser", "(II)I"⟩, prog_9_method_7_code, 2, (some .int), 0, 0, 7, 2),
  (⟨"ThirdSheetsModel", "join", "([III)V"⟩, prog_9_method_8_code, 5, none, 1, 21, 7, 3),
  (⟨"ThirdSheetsModel", "label", "()V"⟩, prog_9_method_9_code, 2, none, 3, 71, 7, 0),
  (⟨"ThirdSheetsModel", "joinSide", "(I)V"⟩, prog_9_method_10_code, 6, none, 2, 46, 7, 1),
  (⟨"ThirdSheetsModel", "edgeLabel", "(II)I"⟩, prog_9_method_11_code, 3, (some .int), 1, 21, 7, 2),
  (⟨"ThirdSheetsModel", "isFirstEdge", "(I)Z"⟩, prog_9_method_12_code, 2, (some .boolean), 2, 43, 7, 1)]
def am_mt4 : List am_M := [(⟨"ThirdSheetsModel", "edgeClasses", "()I"⟩, prog_9_method_13_code, 3, (some .int), 3, 64, 7, 0),
  (⟨"ThirdSheetsModel", "cornerClasses", "()I"⟩, prog_9_method_14_code, 3, (some .int), 0, 0, 7, 0),
  (⟨"ThirdSheetsModel", "edgeOfClass", "(I)I"⟩, prog_9_method_15_code, 4, (some .int), 3, 64, 7, 1),
  (⟨"ThirdSheetsModel", "cornerOfClass", "(I)I"⟩, prog_9_method_16_code, 4, (some .int), 0, 0, 7, 1),
  (⟨"ThirdSheetsModel", "isBent", "(I)Z"⟩, prog_9_method_17_code, 2, (some .boolean), 0, 0, 7, 1),
  (⟨"ThirdSheetsModel", "anyBent", "()Z"⟩, prog_9_method_18_code, 3, (some .boolean), 1, 21, 7, 0),
  (⟨"ThirdSheetsModel", "piece", "()I"⟩, prog_9_method_19_code, 2, (some .int), 1, 21, 7, 0),
  (⟨"ThirdSheetsModel", "empty", "()V"⟩, prog_9_method_20_code, 2, none, 0, 0, 7, 0),
  (⟨"ThirdSheetsModel", "glue", "(IIIII)I"⟩, prog_9_method_21_code, 14, (some .int), 3, 65, 7, 5),
  (⟨"ThirdSheetsModel", "open", "(II)I"⟩, prog_9_method_22_code, 4, (some .int), 3, 65, 7, 2),
  (⟨"ThirdSheetsModel", "clear", "()I"⟩, prog_9_method_23_code, 2, (some .int), 1, 21, 7, 0),
  (⟨"ThirdSheetsModel", "across", "(III)I"⟩, prog_9_method_24_code, 5, (some .int), 3, 65, 7, 3),
  (⟨"ThirdSheetsModel", "classOf", "(III)I"⟩, prog_9_method_25_code, 6, (some .int), 4, 92, 7, 3),
  (⟨"ThirdSheetsModel", "bent", "(I)I"⟩, prog_9_method_26_code, 3, (some .int), 4, 92, 7, 1),
  (⟨"ThirdSheetsModel", "linkOf", "(I)I"⟩, prog_9_method_27_code, 10, (some .int), 2, 46, 7, 1),
  (⟨"ThirdSheetsModel", "link", "(I)I"⟩, prog_9_method_28_code, 3, (some .int), 4, 92, 7, 1),
  (⟨"ThirdSheetsModel", "sides", "(Z)I"⟩, prog_9_method_29_code, 4, (some .int), 0, 0, 7, 1),
  (⟨"ThirdSheetsModel", "isWhole", "()Z"⟩, prog_9_method_30_code, 3, (some .boolean), 3, 75, 7, 0),
  (⟨"ThirdSheetsModel", "isEvenChange", "(I)Z"⟩, prog_9_method_31_code, 5, (some .boolean), 0, 0, 7, 1),
  (⟨"ThirdSheetsModel", "isEven", "()Z"⟩, prog_9_method_32_code, 5, (some .boolean), 1, 24, 7, 0),
  (⟨"ThirdSheetsModel", "setMany", "()I"⟩, prog_9_method_33_code, 3, (some .int), 0, 0, 7, 0),
  (⟨"ThirdSheetsModel", "count", "(I)I"⟩, prog_9_method_34_code, 2, (some .int), 4, 97, 7, 1),
  (⟨"ThirdSheetsModel", "findPairs", "()V"⟩, prog_9_method_35_code, 2, none, 0, 0, 7, 0),
  (⟨"ThirdSheetsModel", "goAround", "(I)Z"⟩, prog_9_method_36_code, 14, (some .boolean), 0, 0, 7, 1),
  (⟨"ThirdSheetsModel", "layLoops", "()V"⟩, prog_9_method_37_code, 2, none, 3, 64, 7, 0),
  (⟨"ThirdSheetsModel", "cell", "(II)J"⟩, prog_9_method_38_code, 3, (some .long), 0, 0, 7, 2),
  (⟨"ThirdSheetsModel", "bring", "(I)Z"⟩, prog_9_method_39_code, 10, (some .boolean), 1, 22, 7, 1),
  (⟨"ThirdSheetsModel", "reduce", "(I)Z"⟩, prog_9_method_40_code, 7, (some .boolean), 1, 22, 7, 1),
  (⟨"ThirdSheetsModel", "holes", "(I)I"⟩, prog_9_method_41_code, 7, (some .int), 4, 92, 7, 1),
  (⟨"ThirdSheetsModel", "kindOf", "(II)I"⟩, prog_9_method_42_code, 3, (some .int), 0, 0, 7, 2)]
def am_mt5 : List am_M := [(⟨"ThirdSheetsModel", "layEquation", "(II)V"⟩, prog_9_method_43_code, 7, none, 1, 22, 7, 2),
  (⟨"ThirdSheetsModel", "side", "(I)I"⟩, prog_9_method_44_code, 4, (some .int), 0, 0, 7, 1),
  (⟨"ThirdSheetsModel", "supportOf", "(I)I"⟩, prog_9_method_45_code, 4, (some .int), 0, 0, 7, 1),
  (⟨"ThirdSheetsModel", "hasOneKind", "(I)Z"⟩, prog_9_method_46_code, 5, (some .boolean), 0, 0, 7, 1),
  (⟨"ThirdSheetsModel", "areBeside", "(III)Z"⟩, prog_9_method_47_code, 6, (some .boolean), 1, 23, 7, 3),
  (⟨"ThirdSheetsModel", "divisor", "(II)I"⟩, prog_9_method_48_code, 5, (some .int), 0, 0, 7, 2),
  (⟨"ThirdSheetsModel", "layRay", "(IIII)V"⟩, prog_9_method_49_code, 8, none, 1, 24, 7, 4),
  (⟨"ThirdSheetsModel", "meet", "()V"⟩, prog_9_method_50_code, 6, none, 2, 51, 7, 0),
  (⟨"ThirdSheetsModel", "isBefore", "(II)Z"⟩, prog_9_method_51_code, 4, (some .boolean), 0, 0, 7, 2),
  (⟨"ThirdSheetsModel", "swap", "(II)V"⟩, prog_9_method_52_code, 5, none, 0, 0, 7, 2),
  (⟨"ThirdSheetsModel", "findLeast", "()V"⟩, prog_9_method_53_code, 3, none, 3, 76, 7, 0),
  (⟨"ThirdSheetsModel", "least", "()I"⟩, prog_9_method_54_code, 1, (some .int), 4, 98, 7, 0),
  (⟨"ThirdSheetsModel", "number", "(II)I"⟩, prog_9_method_55_code, 3, (some .int), 4, 98, 7, 2),
  (⟨"ThirdSheetsModel", "put", "(II)I"⟩, prog_9_method_56_code, 4, (some .int), 1, 22, 7, 2),
  (⟨"ThirdSheetsModel", "add", "(II)I"⟩, prog_9_method_57_code, 4, (some .int), 4, 98, 7, 2),
  (⟨"ThirdSheetsModel", "drop", "()I"⟩, prog_9_method_58_code, 3, (some .int), 1, 21, 7, 0),
  (⟨"ThirdSheetsModel", "arcs", "(III)I"⟩, prog_9_method_59_code, 4, (some .int), 1, 22, 7, 3),
  (⟨"ThirdSheetsModel", "legal", "()I"⟩, prog_9_method_60_code, 3, (some .int), 2, 45, 7, 0),
  (⟨"ThirdSheetsModel", "meets", "(II)Z"⟩, prog_9_method_61_code, 3, (some .boolean), 1, 22, 7, 2),
  (⟨"ThirdSheetsModel", "euler", "()I"⟩, prog_9_method_62_code, 4, (some .int), 4, 92, 7, 0),
  (⟨"ThirdSheetsModel", "cutAt", "(III)I"⟩, prog_9_method_63_code, 9, (some .int), 1, 22, 7, 3),
  (⟨"ThirdSheetsModel", "looks", "(III)Z"⟩, prog_9_method_64_code, 4, (some .boolean), 0, 0, 7, 3),
  (⟨"ThirdSheetsModel", "sortOf", "(I)I"⟩, prog_9_method_65_code, 3, (some .int), 0, 0, 7, 1),
  (⟨"ThirdSheetsModel", "spread", "(II)I"⟩, prog_9_method_66_code, 11, (some .int), 2, 50, 7, 2),
  (⟨"ThirdSheetsModel", "findParts", "()I"⟩, prog_9_method_67_code, 5, (some .int), 4, 92, 7, 0),
  (⟨"ThirdSheetsModel", "parts", "()I"⟩, prog_9_method_68_code, 2, (some .int), 5, 116, 7, 0),
  (⟨"ThirdSheetsModel", "cutsOf", "(I)I"⟩, prog_9_method_69_code, 4, (some .int), 0, 0, 7, 1),
  (⟨"ThirdSheetsModel", "worth", "(I)I"⟩, prog_9_method_70_code, 7, (some .int), 3, 64, 7, 1),
  (⟨"ThirdSheetsModel", "part", "(II)I"⟩, prog_9_method_71_code, 6, (some .int), 5, 116, 7, 2),
  (⟨"java/util/Arrays", "fill", "([JJ)V"⟩, prog_12_method_101_code, 5, none, 0, 0, 9, 2)]
def am_mt6 : List am_M := [(⟨"java/util/Arrays", "fill", "([II)V"⟩, prog_12_method_103_code, 4, none, 0, 0, 9, 2),
  (⟨"ThirdSheetsLaw", "law", "([I)Z"⟩, code, 4, (some .boolean), 6, 147, 8, 1)]
def am_mt : List am_M := am_mt0 ++ am_mt1 ++ am_mt2 ++ am_mt3 ++ am_mt4 ++ am_mt5 ++ am_mt6
def am_m (k : Nat) : am_M := am_mt.getD k (⟨"", "", ""⟩, ⟨#[]⟩, 0, none, 0, 0, 0, 0)
def am_name (k : Nat) : MethodName := (am_m k).1
def am_code (k : Nat) : ByteArray := (am_m k).2.1
def am_maxL (k : Nat) : Nat := (am_m k).2.2.1
def am_ret (k : Nat) : Option FieldType := (am_m k).2.2.2.1
def am_fr (k : Nat) : Nat := (am_m k).2.2.2.2.1
def am_lo (k : Nat) : Nat := (am_m k).2.2.2.2.2.1
def am_mc (k : Nat) : Nat := (am_m k).2.2.2.2.2.2.1
def am_na (k : Nat) : Nat := (am_m k).2.2.2.2.2.2.2
def am_ftL : List ((Nat × Nat) × Nat × Nat) := [((0, 7), 0, 0), ((0, 13), 0, 1), ((0, 16), 0, 2), ((0, 20), 0, 3), ((0, 23), 0, 4), ((0, 32), 0, 5), ((0, 43), 0, 6), ((1, 13), 1, 2), ((1, 16), 1, 3), ((1, 20), 1, 4), ((1, 23), 1, 6), ((1, 26), 1, 7), ((1, 29), 5, 0), ((1, 43), 5, 2), ((1, 46), 5, 3), ((1, 59), 1, 0), ((1, 62), 1, 1), ((1, 75), 1, 5), ((2, 13), 2, 0), ((2, 16), 2, 1), ((2, 24), 2, 2), ((2, 28), 5, 5), ((2, 34), 0, 6), ((2, 39), 0, 4), ((2, 46), 2, 4), ((2, 49), 2, 3), ((2, 62), 5, 0), ((2, 68), 5, 2), ((2, 88), 5, 3), ((3, 14), 3, 0), ((3, 20), 3, 1), ((3, 24), 3, 2), ((3, 27), 3, 3), ((3, 37), 5, 0), ((3, 70), 5, 2), ((3, 73), 5, 3), ((3, 99), 0, 6), ((3, 102), 0, 3), ((3, 108), 5, 5), ((3, 111), 0, 4), ((4, 9), 4, 0), ((4, 31), 5, 0), ((4, 45), 5, 2), ((4, 48), 5, 3), ((4, 66), 5, 5), ((4, 70), 0, 6), ((4, 75), 0, 4), ((5, 9), 5, 2), ((5, 15), 5, 3), ((5, 23), 5, 4), ((5, 27), 5, 5), ((5, 30), 5, 6), ((5, 39), 5, 0), ((5, 43), 5, 1), ((5, 82), 0, 6), ((5, 109), 0, 4), ((5, 112), 0, 3), ((6, 10), 6, 0), ((6, 19), 6, 1), ((6, 26), 6, 2), ((6, 33), 6, 3), ((6, 40), 6, 4), ((6, 44), 6, 5), ((6, 48), 6, 6), ((6, 51), 5, 0), ((6, 86), 5, 2), ((6, 93), 5, 4), ((6, 97), 0, 3), ((6, 102), 5, 5), ((6, 105), 0, 6), ((6, 133), 5, 6), ((6, 143), 5, 1), ((6, 146), 2, 4), ((6, 155), 1, 1), ((6, 164), 1, 2), ((6, 168), 4, 0), ((6, 200), 3, 0), ((6, 203), 3, 2), ((6, 206), 3, 3), ((7, 7), 7, 1), ((7, 13), 7, 2), ((7, 16), 7, 3), ((7, 19), 7, 4), ((7, 22), 7, 5), ((7, 25), 7, 6), ((7, 28), 7, 7), ((7, 31), 7, 8), ((7, 34), 7, 10), ((7, 38), 7, 13), ((7, 42), 7, 15), ((7, 45), 7, 16), ((7, 48), 7, 17), ((7, 51), 7, 20), ((7, 54), 7, 21), ((7, 57), 7, 22), ((7, 60), 7, 23), ((7, 63), 7, 25), ((7, 67), 7, 0), ((7, 86), 7, 9), ((7, 159), 7, 12), ((7, 162), 7, 11), ((7, 189), 7, 14), ((7, 195), 7, 18), ((7, 248), 7, 24), ((7, 251), 7, 19)]
/-- static arrays: which, and whether by the nest -/
def am_gtL : List ((Nat × Nat) × Nat × Nat) := [((2, 77), 1, 1), ((2, 80), 2, 1), ((2, 91), 3, 1), ((3, 92), 4, 1), ((5, 73), 1, 1), ((5, 76), 2, 1), ((5, 79), 3, 1), ((6, 216), 4, 0), ((6, 219), 1, 0), ((6, 222), 2, 0)]
/-- calls: 0 virtual, 1 static, 2 constructor, 3 static by the nest, 4 Object's constructor, 5 arraycopy, 6 min, 7 max, 8 abs -/
def am_ctL : List ((Nat × Nat) × Nat × Nat) := [((0, 1), 4, 0), ((0, 26), 6, 0), ((0, 36), 0, 2), ((0, 40), 7, 0), ((0, 46), 0, 5), ((1, 3), 4, 0), ((1, 35), 0, 9), ((1, 39), 0, 64), ((1, 49), 0, 10), ((1, 53), 0, 11), ((1, 56), 0, 18), ((1, 65), 1, 180), ((1, 71), 3, 106), ((1, 78), 0, 12), ((1, 81), 0, 13), ((1, 85), 0, 15), ((1, 89), 0, 17), ((1, 92), 5, 0), ((1, 98), 1, 14), ((1, 101), 1, 16), ((1, 105), 0, 19), ((2, 3), 4, 0), ((2, 20), 0, 23), ((2, 42), 0, 24), ((2, 52), 6, 0), ((2, 58), 0, 25), ((2, 65), 0, 64), ((2, 71), 1, 179), ((2, 83), 0, 60), ((2, 95), 0, 26), ((2, 98), 0, 29), ((2, 101), 0, 30), ((2, 104), 0, 32), ((2, 107), 8, 0), ((2, 111), 0, 27), ((2, 115), 0, 28), ((2, 118), 1, 31), ((2, 122), 0, 33), ((3, 3), 4, 0), ((3, 11), 2, 0), ((3, 30), 0, 36), ((3, 34), 0, 1), ((3, 43), 0, 64), ((3, 47), 0, 37), ((3, 51), 0, 4), ((3, 54), 0, 41), ((3, 57), 0, 42), ((3, 61), 0, 43), ((3, 64), 6, 0), ((3, 76), 3, 106), ((3, 80), 1, 39), ((3, 84), 0, 38), ((3, 88), 0, 3), ((3, 95), 1, 40), ((3, 105), 0, 60), ((3, 114), 3, 107), ((4, 3), 4, 0), ((4, 15), 1, 180), ((4, 23), 0, 51), ((4, 27), 0, 53), ((4, 37), 0, 64), ((4, 41), 0, 52), ((4, 51), 3, 106), ((4, 55), 0, 55), ((4, 59), 0, 56), ((4, 62), 0, 47), ((4, 78), 3, 107), ((4, 82), 0, 60), ((5, 3), 4, 0), ((5, 20), 2, 0), ((5, 33), 1, 180), ((5, 46), 0, 62), ((5, 50), 0, 1), ((5, 53), 0, 64), ((5, 57), 0, 66), ((5, 60), 0, 67), ((5, 63), 0, 68), ((5, 66), 0, 3), ((5, 70), 0, 4), ((5, 85), 0, 69), ((5, 89), 0, 6), ((5, 93), 0, 70), ((5, 96), 0, 74), ((5, 100), 0, 75), ((5, 103), 0, 76), ((5, 106), 0, 77), ((5, 115), 0, 5), ((5, 118), 0, 60), ((6, 1), 4, 0), ((6, 9), 2, 57), ((6, 18), 2, 20), ((6, 25), 2, 7), ((6, 32), 2, 44), ((6, 39), 2, 34), ((6, 55), 0, 58), ((6, 58), 0, 45), ((6, 61), 0, 103), ((6, 64), 0, 99), ((6, 68), 1, 102), ((6, 71), 0, 60), ((6, 75), 0, 61), ((6, 79), 0, 63), ((6, 83), 0, 59), ((6, 90), 0, 98), ((6, 108), 0, 5), ((6, 112), 0, 74), ((6, 116), 0, 69), ((6, 120), 0, 70), ((6, 123), 0, 71), ((6, 126), 0, 73), ((6, 130), 0, 72), ((6, 136), 0, 6), ((6, 139), 0, 21), ((6, 149), 0, 22), ((6, 152), 0, 104), ((6, 158), 0, 101), ((6, 161), 0, 100), ((6, 170), 0, 48), ((6, 174), 0, 49), ((6, 178), 0, 46), ((6, 181), 0, 51), ((6, 185), 0, 53), ((6, 188), 0, 50), ((6, 191), 0, 54), ((6, 194), 0, 47), ((6, 197), 0, 105), ((6, 209), 0, 65), ((6, 212), 0, 8), ((6, 213), 0, 35), ((7, 1), 4, 0), ((7, 71), 1, 109), ((7, 75), 0, 110), ((7, 79), 0, 112), ((7, 83), 1, 114), ((7, 90), 0, 117), ((7, 94), 0, 115), ((7, 98), 0, 113), ((7, 102), 0, 118), ((7, 105), 0, 119), ((7, 108), 0, 124), ((7, 111), 0, 127), ((7, 114), 0, 111), ((7, 118), 0, 116), ((7, 121), 0, 122), ((7, 125), 0, 123), ((7, 129), 0, 134), ((7, 132), 0, 136), ((7, 136), 0, 125), ((7, 140), 0, 138), ((7, 143), 0, 121), ((7, 147), 0, 120), ((7, 150), 0, 137), ((7, 153), 0, 139), ((7, 156), 0, 140), ((7, 167), 0, 142), ((7, 170), 0, 143), ((7, 173), 0, 145), ((7, 177), 0, 144), ((7, 180), 0, 146), ((7, 183), 0, 147), ((7, 186), 1, 149), ((7, 192), 0, 152), ((7, 198), 1, 155), ((7, 201), 0, 151), ((7, 204), 0, 156), ((7, 208), 0, 153), ((7, 211), 0, 154), ((7, 214), 0, 150), ((7, 218), 0, 157), ((7, 221), 0, 158), ((7, 224), 0, 159), ((7, 227), 0, 160), ((7, 230), 0, 166), ((7, 233), 0, 167), ((7, 236), 0, 168), ((7, 239), 0, 172), ((7, 242), 0, 170), ((7, 245), 0, 171), ((7, 254), 0, 173), ((7, 257), 0, 174), ((7, 260), 0, 176), ((7, 263), 0, 177), ((8, 9), 2, 78), ((8, 12), 2, 108), ((8, 13), 0, 79), ((8, 17), 0, 126), ((8, 18), 0, 80), ((8, 22), 0, 128), ((8, 23), 0, 81), ((8, 27), 0, 129), ((8, 28), 0, 82), ((8, 31), 0, 130), ((8, 32), 0, 83), ((8, 36), 0, 131), ((8, 37), 0, 84), ((8, 40), 0, 132), ((8, 41), 0, 85), ((8, 45), 0, 133), ((8, 46), 0, 86), ((8, 49), 0, 135), ((8, 50), 0, 87), ((8, 53), 0, 141), ((8, 54), 0, 88), ((8, 57), 0, 148), ((8, 58), 0, 89), ((8, 61), 0, 161), ((8, 62), 0, 90), ((8, 65), 0, 162), ((8, 66), 0, 91), ((8, 69), 0, 163), ((8, 70), 0, 92), ((8, 73), 0, 164), ((8, 74), 0, 93), ((8, 77), 0, 165), ((8, 78), 0, 94), ((8, 81), 0, 167), ((8, 82), 0, 95), ((8, 85), 0, 169), ((8, 86), 0, 96), ((8, 89), 0, 175), ((8, 90), 0, 97), ((8, 93), 0, 178)]
def am_ccL : List ((Nat × Nat) × Int32) := [((6, 111), (-2147483648)), ((2, 94), (100000)), ((7, 41), (42000)), ((7, 128), (-2147483648))]
def am_clL : List ((Nat × Nat) × Int64) := [((2, 86), (-1)), ((4, 21), (1000)), ((7, 165), (-1))]
def am_nwL : List ((Nat × Nat) × Nat) := [((6, 7), 5), ((6, 16), 2), ((6, 23), 1), ((6, 30), 4), ((6, 37), 3), ((3, 9), 0), ((5, 18), 0), ((8, 7), 6), ((8, 10), 7)]
def am_mwL : List ((Nat × Nat) × Nat) := [((1, 11), 3), ((2, 11), 4)]
end
section
/-! an abstract machine: values are the machine's own, but a reference is a place in one growing row of cells, and a float stands for an array that is given (0 the script, 1 .. 4 the static rows) -/
abbrev am_E : Type := (Nat × vp_A) ⊕ (Nat × List Value)
abbrev am_H : Type := Nat → am_E
abbrev am_L : Type := List (Nat × Value)
/-- pc, locals, stack, how many cells, cells, cells made, slots made -/
abbrev am_Z : Type := Nat × am_L × List Value × Nat × am_H × Nat × Nat
/-- answer, how many cells, cells, cells made, slots made -/
abbrev am_R : Type := Option Value × Nat × am_H × Nat × Nat
abbrev am_X : Type := Nat × (Nat → Int32)
def am_up (h : am_H) (k : Nat) (e : am_E) : am_H := fun j => if j = k then e else h j
def am_find {β : Type} (l : List ((Nat × Nat) × β)) (a b : Nat) : Option β := (l.find? (fun q => q.1.1 == a && q.1.2 == b)).map (fun q => q.2)
def am_ld (L : am_L) (i : Nat) : Option Value := (L.find? (fun q => q.1 == i)).map (fun q => q.2)
def am_st1 (L : am_L) (i : Nat) (v : Value) : am_L := (i, v) :: L.filter (fun q => !(q.1 == i) && !(q.1 + 1 == i && q.2.category == 2))
def am_st2 (L : am_L) (i : Nat) (v : Value) : am_L := (i, v) :: L.filter (fun q => !(q.1 == i) && (!(q.1 == i + 1) && !(q.1 + 1 == i && q.2.category == 2)))
def am_C (ci : Nat) : vw_C := am_cl.getD ci ("", fun _ => ("", "", "", false), 0)
def am_ty (ci k : Nat) : FieldType := (parseFieldDescriptor ((am_C ci).2.1 k).2.2.1).getD .int
def am_sl : Nat → List Int32 := fun u => ([[0, 0, 0, 1, 1, 2], [1, 2, 3, 2, 3, 3], [0, 0, 1, 2, 0, 0, 3, 4, 1, 3, 0, 5, 2, 4, 5, 0], [0, 0, 1, 2, 0, 0, 2, 1, 1, 2, 0, 0, 2, 1, 0, 0]] : List (List Int32)).getD u []
def am_sx (X : am_X) (u : Nat) : am_X := if u = 0 then X else ((am_sl (u - 1)).length, fun j => (am_sl (u - 1)).getD j 0)
def am_okv : FieldType → Value → Bool
  | .int, .int _ => true
  | .long, .long _ => true
  | .boolean, .int v => v == 0 || v == 1
  | .array _, .ref _ => true
  | .object _, .ref _ => true
  | _, _ => false
def am_zero (t N : Nat) : am_E := if t = 1 then .inl (1, N, .inr (.inl (fun _ => 0))) else .inl (t, N, .inl (fun _ => 0))
def am_cat (st : List Value) : Nat := (st.map fun v => v.category).sum
abbrev am_O : Type := Option (am_Z ⊕ am_R)
def am_go (pc : Nat) (L : am_L) (st : List Value) (n : Nat) (h : am_H) (c s : Nat) : am_O := some (.inl (pc, L, st, n, h, c, s))
def am_jmp (pc : Nat) (off : Int) (L : am_L) (st : List Value) (n : Nat) (h : am_H) (c s : Nat) : am_O := if 0 ≤ (pc : Int) + off then am_go ((pc : Int) + off).toNat L st n h c s else none
/-- how long an instruction is (0: any) -/
def am_len : Instr → Nat
  | .aaload | .aastore | .aload_n _ | .arraylength | .astore_n _ | .baload | .bastore | .dup | .dup2 | .i2l | .iadd | .iaload | .iand | .iastore | .iconst _ | .idiv | .iload_n _ | .imul | .ineg | .ior | .irem | .ireturn | .ishl | .ishr | .istore_n _ | .isub | .ixor | .l2i | .ladd | .laload | .lastore | .lcmp | .lconst _ | .ldiv | .lload_n _ | .lmul | .lneg | .lrem | .lreturn | .lstore_n _ | .lsub | .pop | .return_ => 1
  | .bipush _ | .iload _ | .istore _ | .ldc _ | .lload _ | .lstore _ | .newarray _ => 2
  | .getfield _ | .getstatic _ | .goto _ | .ifCond _ _ | .if_icmp _ _ | .iinc _ _ | .invokespecial _ | .invokestatic _ | .invokevirtual _ | .ldc2_w _ | .new _ | .putfield _ | .sipush _ => 3
  | .multianewarray _ _ => 4
  | _ => 0
def am_br (o : ClassFile.Cond) (x y : Int32) (a b : am_O) : am_O := match o with
  | .eq => if x = y then a else b
  | .ne => if ¬ x = y then a else b
  | .lt => if x < y then a else b
  | .ge => if y ≤ x then a else b
  | .gt => if y < x then a else b
  | .le => if x ≤ y then a else b
/-- what a call answers -/
abbrev am_Cl : Type := Nat → List Value → Nat → am_H → Option am_R
def am_ret1 (ty : Option FieldType) (v : Int32) : Bool := match ty with
  | some .int => true
  | some .boolean => v == 0 || v == 1
  | _ => false
def am_back (pc : Nat) (L : am_L) (rest : List Value) (c s : Nat) (r : Option am_R) : am_O := match r with
  | some (v, n, h, c1, s1) => am_go pc L (v.toList ++ rest) n h (c + c1) (s + s1)
  | none => none
def am_okc (mi mj : Nat) (rest : List Value) : Bool := decide (am_cat rest ≤ 8) && decide (am_fr mj + 1 ≤ am_fr mi) && decide (8 + (am_maxL mj + 11) + am_lo mj ≤ am_lo mi)
def am_copy (h : am_H) (a0 a1 : Nat) (sp dp k : Int32) : Option am_H := match h a0, h a1 with
  | .inl (0, n0, .inl f), .inl (0, n1, .inl g) => if ¬ sp < 0 ∧ ¬ dp < 0 ∧ ¬ k < 0 ∧ sp.toNatClampNeg + k.toNatClampNeg ≤ n0 ∧ dp.toNatClampNeg + k.toNatClampNeg ≤ n1 then some (am_up h a1 (.inl (0, n1, .inl (va_cpy f g sp.toNatClampNeg dp.toNatClampNeg k.toNatClampNeg)))) else none
  | _, _ => none
def am_call (call : am_Cl) (mi q : Nat) (kd : Nat) (pc : Nat) (L : am_L) (st : List Value) (n : Nat) (h : am_H) (c s : Nat) : am_O :=
  match am_find am_ctL (am_mc mi) q with
  | none => none
  | some (k, mj) => if k ≠ kd then none else
    match k with
    | 0 => match st.drop (am_na mj) with
      | .ref b :: rest => match h b with
        | .inr (ci, _) => if b < n ∧ ci = am_mc mj ∧ (st.take (am_na mj)).length = am_na mj ∧ am_okc mi mj rest = true then am_back (pc + 3) L rest c s (call mj (.ref b :: (st.take (am_na mj)).reverse) n h) else none
        | _ => none
      | _ => none
    | 1 => if (st.take (am_na mj)).length = am_na mj ∧ am_okc mi mj (st.drop (am_na mj)) = true then am_back (pc + 3) L (st.drop (am_na mj)) c s (call mj (st.take (am_na mj)).reverse n h) else none
    | 2 => match st.drop (am_na mj) with
      | .ref b :: rest => if (st.take (am_na mj)).length = am_na mj ∧ am_ret mj = none ∧ am_okc mi mj rest = true then am_back (pc + 3) L rest c s (call mj (.ref b :: (st.take (am_na mj)).reverse) n h) else none
      | _ => none
    | 3 => if (st.take (am_na mj)).length = am_na mj ∧ am_okc mi mj (st.drop (am_na mj)) = true then am_back (pc + 3) L (st.drop (am_na mj)) c s (call mj (st.take (am_na mj)).reverse n h) else none
    | 4 => match st with
      | .ref _ :: rest => if 1 ≤ am_fr mi ∧ am_cat rest + 12 ≤ am_lo mi then am_go (pc + 3) L rest n h c s else none
      | _ => none
    | 6 => match st with
      | .int y :: .int x :: rest => if 1 ≤ am_fr mi ∧ am_cat rest + 13 ≤ am_lo mi then am_go (pc + 3) L (.int (if y < x then y else x) :: rest) n h c s else none
      | _ => none
    | 7 => match st with
      | .int y :: .int x :: rest => if 1 ≤ am_fr mi ∧ am_cat rest + 13 ≤ am_lo mi then am_go (pc + 3) L (.int (if x < y then y else x) :: rest) n h c s else none
      | _ => none
    | 8 => match st with
      | .long x :: rest => if 1 ≤ am_fr mi ∧ am_cat rest + 13 ≤ am_lo mi then am_go (pc + 3) L (.long (if 0 < x then x else -x) :: rest) n h c s else none
      | _ => none
    | 5 => match st with
      | .int k :: .int dp :: .ref a1 :: .int sp :: .ref a0 :: rest => match am_copy h a0 a1 sp dp k with
        | some h1 => if a0 < n ∧ a1 < n ∧ 1 ≤ am_fr mi ∧ am_cat rest + (nativeFrameWords "java/lang/System" "arraycopy" 5 + 11) ≤ am_lo mi then am_go (pc + 3) L rest n h1 c s else none
        | none => none
      | _ => none
    | _ => none
def am_in (i : Int32) (n : Nat) : Bool := decide (¬ (i < 0 ∨ n ≤ i.toNatClampNeg))
theorem am_in_vp {i : Int32} {n : Nat} (h : am_in i n = true) : vp_in i n := by
  show ¬ (i < 0 ∨ n ≤ i.toNatClampNeg)
  exact of_decide_eq_true h
def am_aload (X : am_X) (t : Nat) (st : List Value) (n : Nat) (h : am_H) : Option (List Value) := match st with
  | .int i :: .ref a :: rest => match h a with
    | .inl (u, len, .inl f) => if a < n ∧ u = t ∧ am_in i len = true then some (.int (f i.toNatClampNeg) :: rest) else none
    | _ => none
  | .int i :: .float u :: rest => if t = 0 ∧ u.toNat < 5 ∧ am_in i (am_sx X u.toNat).1 = true then some (.int ((am_sx X u.toNat).2 i.toNatClampNeg) :: rest) else none
  | _ => none
def am_lald (st : List Value) (n : Nat) (h : am_H) : Option (List Value) := match st with
  | .int i :: .ref a :: rest => match h a with
    | .inl (1, len, .inr (.inl f)) => if a < n ∧ am_in i len = true then some (.long (f i.toNatClampNeg) :: rest) else none
    | _ => none
  | _ => none
def am_aald (st : List Value) (n : Nat) (h : am_H) : Option (List Value) := match st with
  | .int i :: .ref a :: rest => match h a with
    | .inl (t, len, .inr (.inr (.inr (.inr f)))) => if a < n ∧ (t = 3 ∨ t = 4) ∧ am_in i len = true then some (va_rf (f i.toNatClampNeg) :: rest) else none
    | _ => none
  | _ => none
def am_astore (t : Nat) (st : List Value) (n : Nat) (h : am_H) : Option (List Value × am_H) := match st with
  | .int x :: .int i :: .ref a :: rest => match h a with
    | .inl (u, len, .inl f) => if a < n ∧ u = t ∧ am_in i len = true then some (rest, am_up h a (.inl (u, len, .inl (upd f i.toNatClampNeg (if t = 2 then vp_nar .boolean x else x))))) else none
    | _ => none
  | _ => none
def am_last (st : List Value) (n : Nat) (h : am_H) : Option (List Value × am_H) := match st with
  | .long x :: .int i :: .ref a :: rest => match h a with
    | .inl (1, len, .inr (.inl f)) => if a < n ∧ am_in i len = true then some (rest, am_up h a (.inl (1, len, .inr (.inl (vp_updL f i.toNatClampNeg x))))) else none
    | _ => none
  | _ => none
def am_aast (st : List Value) (n : Nat) (h : am_H) : Option (List Value × am_H) := match st with
  | .ref v :: .int i :: .ref a :: rest => match h a, h v with
    | .inl (t, len, .inr (.inr (.inr (.inr f)))), .inl (u, _, _) => if a < n ∧ v < n ∧ (t = 3 ∧ u = 0 ∨ t = 4 ∧ u = 1) ∧ am_in i len = true then some (rest, am_up h a (.inl (t, len, .inr (.inr (.inr (.inr (va_up f i.toNatClampNeg (some v)))))))) else none
    | _, _ => none
  | _ => none
def am_alen (X : am_X) (st : List Value) (n : Nat) (h : am_H) : Option (List Value) := match st with
  | .ref a :: rest => match h a with
    | .inl (t, len, _) => if a < n ∧ t < 5 then some (.int (Int32.ofNat len) :: rest) else none
    | _ => none
  | .float u :: rest => if u.toNat < 5 then some (.int (Int32.ofNat (am_sx X u.toNat).1) :: rest) else none
  | _ => none
def am_get (mi q : Nat) (st : List Value) (n : Nat) (h : am_H) : Option (List Value) := match am_find am_ftL (am_mc mi) q, st with
  | some (ci, k), .ref a :: rest => match h a with
    | .inr (cj, fs) => if a < n ∧ ci = cj then (fs[k]?).map (fun v => v :: rest) else none
    | _ => none
  | _, _ => none
def am_put (mi q : Nat) (st : List Value) (n : Nat) (h : am_H) : Option (List Value × am_H) := match am_find am_ftL (am_mc mi) q, st with
  | some (ci, k), v :: .ref a :: rest => match h a with
    | .inr (cj, fs) => if a < n ∧ ci = cj ∧ k < fs.length ∧ am_okv (am_ty ci k) v = true ∧ (((am_C ci).2.1 k).2.2.2 = false ∨ ((am_name mi).name = "<init>" ∧ ((am_C ci).2.1 k).1 = am_cn (am_mc mi))) then some (rest, am_up h a (.inr (cj, fs.set k v))) else none
    | _ => none
  | _, _ => none
def am_def (ci : Nat) : List Value := (List.range (am_C ci).2.2).map (fun k => defaultValue (am_ty ci k))
def am_atype : ArrayType → Option Nat
  | .int => some 0
  | .long => some 1
  | .boolean => some 2
  | _ => none
def am_grid (n : Nat) (h : am_H) (t N M : Nat) : am_H := fun j => if j = n then .inl (t, N, .inr (.inr (.inr (.inr (fun i => if i < N then some (n + 1 + i) else none))))) else if n < j ∧ j < n + 1 + N then am_zero (t - 3) M else h j
def am_ex (X : am_X) (call : am_Cl) (mi : Nat) (i : Instr) (len pc : Nat) (L : am_L) (st : List Value) (n : Nat) (h : am_H) (c s : Nat) : am_O :=
  match i with
  | .iconst v => am_go (pc + 1) L (.int (Int32.ofInt v) :: st) n h c s
  | .bipush v => am_go (pc + 2) L (.int (Int8.ofInt v).toInt32 :: st) n h c s
  | .sipush v => am_go (pc + 3) L (.int (Int16.ofInt v).toInt32 :: st) n h c s
  | .lconst v => am_go (pc + 1) L (.long (Int64.ofNat v) :: st) n h c s
  | .ldc q => match am_find am_ccL (am_mc mi) q with
    | some v => am_go (pc + 2) L (.int v :: st) n h c s
    | none => none
  | .ldc2_w q => match am_find am_clL (am_mc mi) q with
    | some v => am_go (pc + 3) L (.long v :: st) n h c s
    | none => none
  | .iload k => match am_ld L k with
    | some (.int x) => am_go (pc + 2) L (.int x :: st) n h c s
    | _ => none
  | .iload_n k => match am_ld L k with
    | some (.int x) => am_go (pc + 1) L (.int x :: st) n h c s
    | _ => none
  | .lload k => match am_ld L k with
    | some (.long x) => am_go (pc + 2) L (.long x :: st) n h c s
    | _ => none
  | .lload_n k => match am_ld L k with
    | some (.long x) => am_go (pc + 1) L (.long x :: st) n h c s
    | _ => none
  | .aload_n k => match am_ld L k with
    | some (.ref x) => am_go (pc + 1) L (.ref x :: st) n h c s
    | some (.float x) => am_go (pc + 1) L (.float x :: st) n h c s
    | _ => none
  | .istore k => match st with
    | .int x :: r => if k < am_maxL mi then am_go (pc + 2) (am_st1 L k (.int x)) r n h c s else none
    | _ => none
  | .istore_n k => match st with
    | .int x :: r => if (k : Nat) < am_maxL mi then am_go (pc + 1) (am_st1 L k (.int x)) r n h c s else none
    | _ => none
  | .lstore k => match st with
    | .long x :: r => if k + 1 < am_maxL mi then am_go (pc + 2) (am_st2 L k (.long x)) r n h c s else none
    | _ => none
  | .lstore_n k => match st with
    | .long x :: r => if (k : Nat) + 1 < am_maxL mi then am_go (pc + 1) (am_st2 L k (.long x)) r n h c s else none
    | _ => none
  | .astore_n k => match st with
    | .ref x :: r => if (k : Nat) < am_maxL mi then am_go (pc + 1) (am_st1 L k (.ref x)) r n h c s else none
    | _ => none
  | .iinc k v => match am_ld L k with
    | some (.int x) => if k < am_maxL mi then am_go (pc + 3) (am_st1 L k (.int (x + Int32.ofInt v))) st n h c s else none
    | _ => none
  | .iadd => match st with
    | .int y :: .int x :: r => am_go (pc + 1) L (.int (x + y) :: r) n h c s
    | _ => none
  | .isub => match st with
    | .int y :: .int x :: r => am_go (pc + 1) L (.int (x - y) :: r) n h c s
    | _ => none
  | .imul => match st with
    | .int y :: .int x :: r => am_go (pc + 1) L (.int (x * y) :: r) n h c s
    | _ => none
  | .iand => match st with
    | .int y :: .int x :: r => am_go (pc + 1) L (.int (x &&& y) :: r) n h c s
    | _ => none
  | .ior => match st with
    | .int y :: .int x :: r => am_go (pc + 1) L (.int (x ||| y) :: r) n h c s
    | _ => none
  | .ixor => match st with
    | .int y :: .int x :: r => am_go (pc + 1) L (.int (x ^^^ y) :: r) n h c s
    | _ => none
  | .idiv => match st with
    | .int y :: .int x :: r => if ¬ y = 0 then am_go (pc + 1) L (.int (x / y) :: r) n h c s else none
    | _ => none
  | .irem => match st with
    | .int y :: .int x :: r => if ¬ y = 0 then am_go (pc + 1) L (.int (x - x / y * y) :: r) n h c s else none
    | _ => none
  | .ishl => match st with
    | .int y :: .int x :: r => am_go (pc + 1) L (.int (x <<< (y &&& 31)) :: r) n h c s
    | _ => none
  | .ishr => match st with
    | .int y :: .int x :: r => am_go (pc + 1) L (.int (x >>> (y &&& 31)) :: r) n h c s
    | _ => none
  | .ineg => match st with
    | .int x :: r => am_go (pc + 1) L (.int (-x) :: r) n h c s
    | _ => none
  | .ladd => match st with
    | .long y :: .long x :: r => am_go (pc + 1) L (.long (x + y) :: r) n h c s
    | _ => none
  | .lsub => match st with
    | .long y :: .long x :: r => am_go (pc + 1) L (.long (x - y) :: r) n h c s
    | _ => none
  | .lmul => match st with
    | .long y :: .long x :: r => am_go (pc + 1) L (.long (x * y) :: r) n h c s
    | _ => none
  | .ldiv => match st with
    | .long y :: .long x :: r => if ¬ y = 0 then am_go (pc + 1) L (.long (x / y) :: r) n h c s else none
    | _ => none
  | .lrem => match st with
    | .long y :: .long x :: r => if ¬ y = 0 then am_go (pc + 1) L (.long (x - x / y * y) :: r) n h c s else none
    | _ => none
  | .lneg => match st with
    | .long x :: r => am_go (pc + 1) L (.long (-x) :: r) n h c s
    | _ => none
  | .lcmp => match st with
    | .long y :: .long x :: r => am_go (pc + 1) L (.int (lg_cmp x y) :: r) n h c s
    | _ => none
  | .i2l => match st with
    | .int x :: r => am_go (pc + 1) L (.long x.toInt64 :: r) n h c s
    | _ => none
  | .l2i => match st with
    | .long x :: r => am_go (pc + 1) L (.int x.toInt32 :: r) n h c s
    | _ => none
  | .dup => match st with
    | v :: r => if v.category = 1 then am_go (pc + 1) L (v :: v :: r) n h c s else none
    | _ => none
  | .pop => match st with
    | v :: r => if v.category = 1 then am_go (pc + 1) L r n h c s else none
    | _ => none
  | .dup2 => match st with
    | v :: w :: r => if v.category = 1 ∧ w.category = 1 then am_go (pc + 1) L (v :: w :: v :: w :: r) n h c s else none
    | _ => none
  | .goto o => am_jmp pc o L st n h c s
  | .ifCond o d => match st with
    | .int x :: r => if 0 ≤ (pc : Int) + d then am_br o x 0 (am_go ((pc : Int) + d).toNat L r n h c s) (am_go (pc + 3) L r n h c s) else none
    | _ => none
  | .if_icmp o d => match st with
    | .int y :: .int x :: r => if 0 ≤ (pc : Int) + d then am_br o x y (am_go ((pc : Int) + d).toNat L r n h c s) (am_go (pc + 3) L r n h c s) else none
    | _ => none
  | .tableswitch d lo hi offs => match st with
    | .int x :: r => if x.toInt < lo ∨ hi < x.toInt then am_jmp pc d L r n h c s else match offs[(x.toInt - lo).toNat]? with
      | some o => am_jmp pc o L r n h c s
      | none => none
    | _ => none
  | .lookupswitch d ps => match st with
    | .int x :: r => if (ps.toList.zip (ps.toList.drop 1)).all (fun (a, next) => a.1 < next.1) = true then am_jmp pc (Op.lookupswitch.offset ps.toList d x.toInt) L r n h c s else none
    | _ => none
  | .getfield q => match am_get mi q st n h with
    | some st1 => am_go (pc + 3) L st1 n h c s
    | none => none
  | .putfield q => match am_put mi q st n h with
    | some (st1, h1) => am_go (pc + 3) L st1 n h1 c s
    | none => none
  | .getstatic q => match am_find am_gtL (am_mc mi) q with
    | some (u, _) => am_go (pc + 3) L (.float (UInt32.ofNat u) :: st) n h c s
    | none => none
  | .iaload => match am_aload X 0 st n h with
    | some st1 => am_go (pc + 1) L st1 n h c s
    | none => none
  | .baload => match am_aload X 2 st n h with
    | some st1 => am_go (pc + 1) L st1 n h c s
    | none => none
  | .laload => match am_lald st n h with
    | some st1 => am_go (pc + 1) L st1 n h c s
    | none => none
  | .aaload => match am_aald st n h with
    | some st1 => am_go (pc + 1) L st1 n h c s
    | none => none
  | .iastore => match am_astore 0 st n h with
    | some (st1, h1) => am_go (pc + 1) L st1 n h1 c s
    | none => none
  | .bastore => match am_astore 2 st n h with
    | some (st1, h1) => am_go (pc + 1) L st1 n h1 c s
    | none => none
  | .lastore => match am_last st n h with
    | some (st1, h1) => am_go (pc + 1) L st1 n h1 c s
    | none => none
  | .aastore => match am_aast st n h with
    | some (st1, h1) => am_go (pc + 1) L st1 n h1 c s
    | none => none
  | .arraylength => match am_alen X st n h with
    | some st1 => am_go (pc + 1) L st1 n h c s
    | none => none
  | .new q => match am_find am_nwL (am_mc mi) q with
    | some ci => if ci < 8 then am_go (pc + 3) L (.ref n :: st) (n + 1) (am_up h n (.inr (ci, am_def ci))) (c + 1) (s + (am_C ci).2.2) else none
    | none => none
  | .newarray a => match am_atype a, st with
    | some t, .int k :: r => if ¬ k < 0 ∧ k.toNatClampNeg ≤ 1000000 then am_go (pc + 2) L (.ref n :: r) (n + 1) (am_up h n (am_zero t k.toNatClampNeg)) (c + 1) (s + k.toNatClampNeg) else none
    | _, _ => none
  | .multianewarray q d => match am_find am_mwL (am_mc mi) q, st with
    | some t, .int k :: .int j :: r => if d = 2 ∧ (t = 3 ∨ t = 4) ∧ ¬ j < 0 ∧ ¬ k < 0 ∧ j.toNatClampNeg ≤ 1000000 ∧ k.toNatClampNeg ≤ 1000000 then am_go (pc + 4) L (.ref n :: r) (n + 1 + j.toNatClampNeg) (am_grid n h t j.toNatClampNeg k.toNatClampNeg) (c + 1 + j.toNatClampNeg) (s + j.toNatClampNeg + j.toNatClampNeg * k.toNatClampNeg) else none
    | _, _ => none
  | .invokevirtual q => am_call call mi q 0 pc L st n h c s
  | .invokestatic q => match am_find am_ctL (am_mc mi) q with
    | some (k, _) => if k = 1 ∨ k = 3 ∨ k = 5 ∨ k = 6 ∨ k = 7 ∨ k = 8 then am_call call mi q k pc L st n h c s else none
    | none => none
  | .invokespecial q => match am_find am_ctL (am_mc mi) q with
    | some (k, _) => if k = 2 ∨ k = 4 then am_call call mi q k pc L st n h c s else none
    | none => none
  | .ireturn => match st with
    | [.int v] => if am_ret1 (am_ret mi) v = true then some (.inr (some (.int v), n, h, c, s)) else none
    | _ => none
  | .lreturn => match st with
    | [.long v] => if am_ret mi = some .long then some (.inr (some (.long v), n, h, c, s)) else none
    | _ => none
  | .return_ => match st with
    | [] => if am_ret mi = none then some (.inr (none, n, h, c, s)) else none
    | _ => none
  | _ => none
def am_step (X : am_X) (call : am_Cl) (mi : Nat) : am_Z → am_O
  | (pc, L, st, n, h, c, s) => match decode (am_code mi) pc with
    | .ok (i, len) => if am_len i = 0 ∨ len = am_len i then am_ex X call mi i len pc L st n h c s else none
    | .error _ => none
def am_iter (X : am_X) (call : am_Cl) (mi : Nat) : Nat → am_Z → Option am_R
  | 0, _ => none
  | N + 1, z => match am_step X call mi z with
    | some (.inl z1) => am_iter X call mi N z1
    | some (.inr r) => some r
    | none => none
def am_run (X : am_X) (N : Nat) : Nat → am_Cl
  | 0 => fun _ _ _ _ => none
  | d + 1 => fun mi as n h => if (lg_sl as).length ≤ am_maxL mi then am_iter X (am_run X N d) mi N (0, lv_args 0 as, [], n, h, 0, 0) else none
end
section
/-! how the abstract machine's things lie in the machine -/
/-- the world's first address; the given arrays' addresses; classes, slots, array classes -/
abbrev am_K : Type := Nat × (Nat → Nat) × (Nat → ClassId) × (Nat → Nat → Nat) × (Nat → ClassId)
def am_v (K : am_K) : Value → Value
  | .ref k => .ref (K.1 + k)
  | .float u => .ref (K.2.1 u.toNat)
  | v => v
theorem am_v_cat (K : am_K) (v : Value) : (am_v K v).category = v.category := by cases v <;> rfl
abbrev am_vs (K : am_K) (st : List Value) : List Value := st.map (am_v K)
theorem am_cat_vs (K : am_K) (st : List Value) : ((am_vs K st).map fun v => v.category).sum = am_cat st := by
  unfold am_cat
  rw [List.map_map]
  congr 1
  exact List.map_congr_left fun v _ => am_v_cat K v
def am_a (K : am_K) : vp_A → vp_A
  | (n, .inr (.inr (.inr (.inr f)))) => (n, .inr (.inr (.inr (.inr (fun i => (f i).map (fun k => K.1 + k))))))
  | a => a
def am_e (K : am_K) : am_E → va_E
  | .inl (t, a) => .inl (K.2.2.2.2 t, am_a K a)
  | .inr (ci, fs) => .inr (ci, fs.map (am_v K))
def am_W (K : am_K) (n : Nat) (h : am_H) : va_W := (List.range n).map (fun k => (K.1 + k, am_e K (h k)))
abbrev am_D (K : am_K) : va_G := (K.2.2.1, K.2.2.2.1)
def am_A (K : am_K) : Nat → Prop := fun q => K.1 ≤ q
def am_tys (K : am_K) : List (ClassId × FieldType) := [(K.2.2.2.2 0, .int), (K.2.2.2.2 1, .long), (K.2.2.2.2 2, .boolean), (K.2.2.2.2 3, .array .int), (K.2.2.2.2 4, .array .long)]
theorem am_W_get (K : am_K) {n k : Nat} (h : am_H) (hk : k < n) : (am_W K n h)[k]? = some (K.1 + k, am_e K (h k)) := by
  unfold am_W
  rw [List.getElem?_map, List.getElem?_range hk]
  rfl
theorem am_W_some (K : am_K) {n k : Nat} {h : am_H} {q : Nat × va_E} (hq : (am_W K n h)[k]? = some q) : k < n ∧ q = (K.1 + k, am_e K (h k)) := by
  have hk : k < n := by
    have := (List.getElem?_eq_some_iff.mp hq).1
    unfold am_W at this
    simpa using this
  rw [am_W_get K h hk] at hq
  exact ⟨hk, (Option.some.inj hq).symm⟩
theorem am_W_set (K : am_K) {n k : Nat} (h : am_H) (hk : k < n) (e : am_E) : (am_W K n h).set k (K.1 + k, am_e K e) = am_W K n (am_up h k e) := by
  apply List.ext_getElem?
  intro j
  rw [List.getElem?_set]
  by_cases hj : k = j
  · subst hj
    have hl : k < (am_W K n h).length := by unfold am_W; simpa using hk
    rw [if_pos rfl, if_pos hl, am_W_get K _ hk]
    simp [am_up]
  · rw [if_neg hj]
    by_cases hjn : j < n
    · rw [am_W_get K h hjn, am_W_get K _ hjn]
      simp [am_up, Ne.symm hj]
    · rw [List.getElem?_eq_none (by unfold am_W; simpa using Nat.not_lt.mp hjn), List.getElem?_eq_none (by unfold am_W; simpa using Nat.not_lt.mp hjn)]
theorem am_W_D (K : am_K) (n : Nat) (h : am_H) : va_D (am_A K) (am_W K n h) := by
  refine ⟨fun i j p q hi hj hpq => ?_, fun k q hk => ?_⟩
  · obtain ⟨-, rfl⟩ := am_W_some K hi
    obtain ⟨-, rfl⟩ := am_W_some K hj
    have : K.1 + i = K.1 + j := hpq
    omega
  · obtain ⟨-, rfl⟩ := am_W_some K hk
    exact Nat.le_add_right _ _
/-- words that stay -/
def am_words : List Cond := lw_tbl.filter goodWord
theorem am_good : GoodIn am_words am_words := fun w hw => ⟨hw, good_of_word (List.mem_filter.mp hw).2⟩
theorem am_in_words {w : Cond} (h : w ∈ lw_tbl) (hg : goodWord w = true) : w ∈ am_words := List.mem_filter.mpr ⟨h, hg⟩
/-- words on members of the nest, on arrays of arrays -/
def am_nestF : List (Nat × Nat × Nat) := (am_gtL.filter (fun q => q.2.2 == 1)).map (fun q => (q.1.1, q.1.2, q.2.1))
def am_sn (u : Nat) : String := (["EDGE_LOW", "EDGE_HIGH", "EDGE_OF", "FOURS_OF"] : List String).getD (u - 1) ""
def am_nestM : List (Nat × Nat × Nat) := (am_ctL.filter (fun q => q.2.1 == 3)).map (fun q => (q.1.1, q.1.2, q.2.2))
/-- what is given from the start and stays -/
def am_Fix (K : am_K) (X : am_X) (U : State) (H : Heap) : Prop :=
  (va_X (K.2.1 0) X.1 X.2 U H ∧ K.2.1 0 < K.1 ∧ X.1 < 2 ^ 31) ∧
  (∀ u, 0 < u → u < 5 → va_Z "ThirdSheets" (am_sn u) "[I" (.ref (K.2.1 u)) (am_A K) U H ∧ va_T .int (K.2.1 u) (am_sl (u - 1)).length (fun j => .int ((am_sl (u - 1)).getD j 0)) (am_A K) U H) ∧
  (∀ q ∈ am_nestF, va_Nw (.fieldLinkNest (am_cn q.1) q.2.1 "ThirdSheets" (am_sn q.2.2) "[I" "ThirdSheets") U) ∧
  (∀ q ∈ am_nestM, va_Nw (.methodLinkNest (am_cn q.1) q.2.1 (am_name q.2.2) "ThirdSheets") U) ∧
  va_Nw (.arrayOver (.array .int)) U ∧ va_Nw (.arrayOver (.array .long)) U
theorem am_Fix.moved {K : am_K} {X : am_X} {u U : State} {H : Heap} (hW : u.WarmedH U.vm) (h : am_Fix K X u H) : am_Fix K X U H := by
  obtain ⟨⟨h1, h2, h2'⟩, h3, h4, h5, h6, h7⟩ := h
  have hvm := hW.alike
  exact ⟨⟨h1.moved hvm, h2, h2'⟩, fun v a b => ⟨(h3 v a b).1.moved hvm, (h3 v a b).2.moved hvm⟩, fun q hq => va_Nw.warmF hW (h4 q hq), fun q hq => va_Nw.warmM hW (h5 q hq), Jvm.Stand.arrayOver_alikeB hvm h6, Jvm.Stand.arrayOver_alikeB hvm h7⟩
theorem am_Fix.kept {K : am_K} {X : am_X} {U : State} {H H1 : Heap} (h : am_Fix K X U H) (hq : ∀ a : Nat, a < H.size → ¬ am_A K a → H1[a]? = H[a]?) : am_Fix K X U H1 := by
  obtain ⟨⟨h1, h2, h2'⟩, h3, h4⟩ := h
  refine ⟨⟨h1.kept ?_, h2, h2'⟩, fun v a b => ⟨(h3 v a b).1.kept hq, (h3 v a b).2.kept hq⟩, h4⟩
  obtain ⟨scr, g1, -⟩ := h1
  exact hq _ (Array.getElem?_eq_some_iff.mp g1).1 (Nat.not_le.mpr h2)
theorem am_Fix.same {K : am_K} {X : am_X} {u U : State} {H : Heap} (hvm : u.vm = U.vm) (h : am_Fix K X u H) : am_Fix K X U H := by
  obtain ⟨⟨h1, h2, h2'⟩, h3, h4, h5, h6, h7⟩ := h
  have hal : u.vm.Alike U.vm := by rw [hvm]; exact Vm.Alike.refl _
  exact ⟨⟨h1.moved hal, h2, h2'⟩, fun v a b => ⟨(h3 v a b).1.moved hal, (h3 v a b).2.moved hal⟩, fun q hq => va_Nw.same rfl hvm (h4 q hq), fun q hq => va_Nw.same rfl hvm (h5 q hq), Jvm.Stand.arrayOver_alikeB hal h6, Jvm.Stand.arrayOver_alikeB hal h7⟩
/-- the whole world, in a state -/
def am_Wd (K : am_K) (X : am_X) (n : Nat) (h : am_H) (U : State) : Prop := U.heap.size = K.1 + n ∧ va_P (am_D K) am_cl (am_W K n h) U.heap ∧ va_K (am_D K) am_cl (am_tys K) U ∧ am_Fix K X U U.heap
def am_ws (mi : Nat) : List Cond := .code (am_name mi) (am_code mi) (am_maxL mi) (am_ret mi) :: am_words
def am_Pc (K : am_K) (X : am_X) (as : List Value) (n : Nat) (h : am_H) : Array Value → State → Prop := va_Pc (am_vs K as) (am_Wd K X n h)
def am_Qc (K : am_K) (X : am_X) (r : am_R) : Array Value → State → Outcome → State → Prop := fun _ st o t => o = .returned (r.1.map (am_v K)) ∧ am_Wd K X r.2.1 r.2.2.1 t ∧ va_F (am_A K) st t
def am_Met (K : am_K) (X : am_X) (l : Launch) (mi : Nat) (as : List Value) (n : Nat) (h : am_H) (r : am_R) : Prop :=
  Met l (am_name mi) (am_ws mi) ({ frames := am_fr mi, cells := r.2.2.2.1, slots := r.2.2.2.2, locals := am_lo mi } : Room) (am_Pc K X as n h) (am_Qc K X r) r.2.2.2.1 r.2.2.2.2 (am_A K)
theorem am_Pc_blind (K : am_K) (X : am_X) (as : List Value) (n : Nat) (h : am_H) : FrameBlind (am_Pc K X as n h) := by
  intro a U g mk hP
  obtain ⟨h0, h1, h2, h3, h4⟩ := hP
  exact ⟨h0, h1, h2, va_K.moved (u := U) (U := U.calling g mk a) (Vm.Alike.refl U.vm) h3, h4.same (u := U) (U := U.calling g mk a) rfl⟩
/-- where a walk stands -/
def am_At (K : am_K) (X : am_X) (mi : Nat) (p : Program) (R : Room) (s : State) (m : MethodId) (args : Array Value) (meth : Method) (c : Code) : Prop :=
  p.tables.exec = Jvm.exec ∧ c.code = am_code mi ∧ c.maxLocals = am_maxL mi ∧ s.vm.findClass (am_cn (am_mc mi)) = some m.cls ∧ (∀ w ∈ am_words, w.before args s = true) ∧ ((am_name mi).name = "<init>" → meth.name = "<init>") ∧
  va_K (am_D K) am_cl (am_tys K) s ∧ am_Fix K X s s.heap ∧ K.1 ≤ s.heap.size ∧ am_fr mi ≤ R.frames ∧ am_lo mi ≤ R.locals
/-- how the heap stands -/
def am_Hp (K : am_K) (n : Nat) (h : am_H) (s : State) (H : Heap) (locs : List Loc) (k : Nat) : Prop := s.heap.size + k = K.1 + n ∧ va_P (am_D K) am_cl (am_W K n h) H ∧ va_S (am_A K) s.heap H locs
abbrev am_Lm (K : am_K) (L : am_L) : List (Nat × Value) := L.map (fun q => (q.1, am_v K q.2))
theorem am_ld_in {K : am_K} {L : am_L} {i : Nat} {v : Value} {ls : Array Slot} {nL : Nat} (hl : lv_has ls nL (am_Lm K L)) (h : am_ld L i = some v) : ls[i]? = some (.val (am_v K v)) := by
  unfold am_ld at h
  obtain ⟨q, hq, rfl⟩ := Option.map_eq_some_iff.mp h
  have h1 := List.mem_of_find?_eq_some hq
  have h2 : q.1 = i := by simpa using List.find?_some hq
  subst h2
  exact hl.2.2 _ (List.mem_map.mpr ⟨q, h1, rfl⟩)
theorem am_ld_pos {K : am_K} {L : am_L} {i : Nat} {v : Value} (h : am_ld L i = some v) : ∃ k : Nat, (am_Lm K L)[k]? = some (i, am_v K v) := by
  unfold am_ld at h
  obtain ⟨q, hq, rfl⟩ := Option.map_eq_some_iff.mp h
  have h1 := List.mem_of_find?_eq_some hq
  have h2 : q.1 = i := by simpa using List.find?_some hq
  subst h2
  exact List.getElem?_of_mem (List.mem_map.mpr ⟨q, h1, rfl⟩)
theorem am_Lm_st1 (K : am_K) (L : am_L) (i : Nat) (v : Value) : (i, am_v K v) :: (am_Lm K L).filter (fun q => !(q.1 == i) && !(q.1 + 1 == i && q.2.category == 2)) = am_Lm K (am_st1 L i v) := by
  simp only [am_Lm, am_st1, List.map_cons, List.filter_map]
  congr 2
  apply List.filter_congr
  intro q _
  simp [Function.comp, am_v_cat]
theorem am_Lm_st2 (K : am_K) (L : am_L) (i : Nat) (v : Value) : (i, am_v K v) :: (am_Lm K L).filter (fun q => !(q.1 == i) && (!(q.1 == i + 1) && !(q.1 + 1 == i && q.2.category == 2))) = am_Lm K (am_st2 L i v) := by
  simp only [am_Lm, am_st2, List.map_cons, List.filter_map]
  congr 2
  apply List.filter_congr
  intro q _
  simp [Function.comp, am_v_cat]
theorem am_find_in {β : Type} {l : List ((Nat × Nat) × β)} {a b : Nat} {v : β} (h : am_find l a b = some v) : ((a, b), v) ∈ l := by
  unfold am_find at h
  obtain ⟨q, hq, rfl⟩ := Option.map_eq_some_iff.mp h
  have h1 := List.mem_of_find?_eq_some hq
  have h2 := List.find?_some hq
  simp only [Bool.and_eq_true, beq_iff_eq] at h2
  obtain ⟨rfl, rfl⟩ := h2
  exact h1
theorem am_tys_get (K : am_K) : (am_tys K)[0]? = some (K.2.2.2.2 0, .int) ∧ (am_tys K)[1]? = some (K.2.2.2.2 1, .long) ∧ (am_tys K)[2]? = some (K.2.2.2.2 2, .boolean) ∧ (am_tys K)[3]? = some (K.2.2.2.2 3, .array .int) ∧ (am_tys K)[4]? = some (K.2.2.2.2 4, .array .long) := ⟨rfl, rfl, rfl, rfl, rfl⟩
end
section
/-! the tables hold: entry by entry, by places -/
theorem am_w1 {w : Cond} (i : Nat) (h : tables_1_1[i]? = some w) (hg : goodWord w = true) : w ∈ am_words := am_in_words (List.mem_append_right _ (show w ∈ tables_1 from List.mem_append_left _ (List.mem_of_getElem? h))) hg
theorem am_w2 {w : Cond} (i : Nat) (h : tables_1_2[i]? = some w) (hg : goodWord w = true) : w ∈ am_words := am_in_words (List.mem_append_right _ (show w ∈ tables_1 from List.mem_append_right _ (List.mem_append_left _ (List.mem_of_getElem? h)))) hg
theorem am_w3 {w : Cond} (i : Nat) (h : tables_1_3[i]? = some w) (hg : goodWord w = true) : w ∈ am_words := am_in_words (List.mem_append_right _ (show w ∈ tables_1 from List.mem_append_right _ (List.mem_append_right _ (List.mem_append_left _ (List.mem_of_getElem? h))))) hg
theorem am_w4 {w : Cond} (i : Nat) (h : tables_1_4[i]? = some w) (hg : goodWord w = true) : w ∈ am_words := am_in_words (List.mem_append_right _ (show w ∈ tables_1 from List.mem_append_right _ (List.mem_append_right _ (List.mem_append_right _ (List.mem_append_left _ (List.mem_of_getElem? h)))))) hg
theorem am_w5 {w : Cond} (i : Nat) (h : tables_1_5[i]? = some w) (hg : goodWord w = true) : w ∈ am_words := am_in_words (List.mem_append_right _ (show w ∈ tables_1 from List.mem_append_right _ (List.mem_append_right _ (List.mem_append_right _ (List.mem_append_right _ (List.mem_of_getElem? h)))))) hg
theorem am_wp1 {y : MethodName} {n : Nat} (i : Nat) (h : lw_privs_1[i]? = some (y, n)) (hg : goodWord (.selects y.cls y y) = true) : Cond.selects y.cls y y ∈ am_words := am_in_words (List.mem_append_left _ (List.mem_map.mpr ⟨(y, n), (show (y, n) ∈ lw_privs from List.mem_append_left _ (List.mem_of_getElem? h)), rfl⟩)) hg
theorem am_wp2 {y : MethodName} {n : Nat} (i : Nat) (h : lw_privs_2[i]? = some (y, n)) (hg : goodWord (.selects y.cls y y) = true) : Cond.selects y.cls y y ∈ am_words := am_in_words (List.mem_append_left _ (List.mem_map.mpr ⟨(y, n), (show (y, n) ∈ lw_privs from List.mem_append_right _ (List.mem_append_left _ (List.mem_of_getElem? h))), rfl⟩)) hg
theorem am_wp3 {y : MethodName} {n : Nat} (i : Nat) (h : lw_privs_3[i]? = some (y, n)) (hg : goodWord (.selects y.cls y y) = true) : Cond.selects y.cls y y ∈ am_words := am_in_words (List.mem_append_left _ (List.mem_map.mpr ⟨(y, n), (show (y, n) ∈ lw_privs from List.mem_append_right _ (List.mem_append_right _ (List.mem_append_left _ (List.mem_of_getElem? h)))), rfl⟩)) hg
theorem am_wp4 {y : MethodName} {n : Nat} (i : Nat) (h : lw_privs_4[i]? = some (y, n)) (hg : goodWord (.selects y.cls y y) = true) : Cond.selects y.cls y y ∈ am_words := am_in_words (List.mem_append_left _ (List.mem_map.mpr ⟨(y, n), (show (y, n) ∈ lw_privs from List.mem_append_right _ (List.mem_append_right _ (List.mem_append_right _ (List.mem_append_left _ (List.mem_of_getElem? h))))), rfl⟩)) hg
theorem am_wp5 {y : MethodName} {n : Nat} (i : Nat) (h : lw_privs_5[i]? = some (y, n)) (hg : goodWord (.selects y.cls y y) = true) : Cond.selects y.cls y y ∈ am_words := am_in_words (List.mem_append_left _ (List.mem_map.mpr ⟨(y, n), (show (y, n) ∈ lw_privs from List.mem_append_right _ (List.mem_append_right _ (List.mem_append_right _ (List.mem_append_right _ (List.mem_append_left _ (List.mem_of_getElem? h)))))), rfl⟩)) hg
theorem am_wp6 {y : MethodName} {n : Nat} (i : Nat) (h : lw_privs_6[i]? = some (y, n)) (hg : goodWord (.selects y.cls y y) = true) : Cond.selects y.cls y y ∈ am_words := am_in_words (List.mem_append_left _ (List.mem_map.mpr ⟨(y, n), (show (y, n) ∈ lw_privs from List.mem_append_right _ (List.mem_append_right _ (List.mem_append_right _ (List.mem_append_right _ (List.mem_append_right _ (List.mem_of_getElem? h)))))), rfl⟩)) hg
def am_okM (mj : Nat) : Prop := Cond.code (am_name mj) (am_code mj) (am_maxL mj) (am_ret mj) ∈ am_words ∧ Cond.initialized (am_name mj).cls ∈ am_words ∧ (am_name mj).cls = am_cn (am_mc mj) ∧ (parseMethodDescriptor (am_name mj).desc).map (fun d => d.parameters.length) = some (am_na mj)
theorem am_pd0 : (parseMethodDescriptor "()I").map (fun d => d.parameters.length) = some 0 := by decide +kernel
theorem am_pd1 : (parseMethodDescriptor "()V").map (fun d => d.parameters.length) = some 0 := by decide +kernel
theorem am_pd2 : (parseMethodDescriptor "()Z").map (fun d => d.parameters.length) = some 0 := by decide +kernel
theorem am_pd3 : (parseMethodDescriptor "(I)I").map (fun d => d.parameters.length) = some 1 := by decide +kernel
theorem am_pd4 : (parseMethodDescriptor "(I)V").map (fun d => d.parameters.length) = some 1 := by decide +kernel
theorem am_pd5 : (parseMethodDescriptor "(I)Z").map (fun d => d.parameters.length) = some 1 := by decide +kernel
theorem am_pd6 : (parseMethodDescriptor "(II)I").map (fun d => d.parameters.length) = some 2 := by decide +kernel
theorem am_pd7 : (parseMethodDescriptor "(II)J").map (fun d => d.parameters.length) = some 2 := by decide +kernel
theorem am_pd8 : (parseMethodDescriptor "(II)V").map (fun d => d.parameters.length) = some 2 := by decide +kernel
theorem am_pd9 : (parseMethodDescriptor "(II)Z").map (fun d => d.parameters.length) = some 2 := by decide +kernel
theorem am_pd10 : (parseMethodDescriptor "(III)I").map (fun d => d.parameters.length) = some 3 := by decide +kernel
theorem am_pd11 : (parseMethodDescriptor "(III)V").map (fun d => d.parameters.length) = some 3 := by decide +kernel
theorem am_pd12 : (parseMethodDescriptor "(III)Z").map (fun d => d.parameters.length) = some 3 := by decide +kernel
theorem am_pd13 : (parseMethodDescriptor "(IIII)V").map (fun d => d.parameters.length) = some 4 := by decide +kernel
theorem am_pd14 : (parseMethodDescriptor "(IIIII)I").map (fun d => d.parameters.length) = some 5 := by decide +kernel
theorem am_pd15 : (parseMethodDescriptor "(IIZ)V").map (fun d => d.parameters.length) = some 3 := by decide +kernel
theorem am_pd16 : (parseMethodDescriptor "(JJ)J").map (fun d => d.parameters.length) = some 2 := by decide +kernel
theorem am_pd17 : (parseMethodDescriptor "(LThirdSheets$Space;)I").map (fun d => d.parameters.length) = some 1 := by decide +kernel
theorem am_pd18 : (parseMethodDescriptor "(LThirdSheets$Space;)V").map (fun d => d.parameters.length) = some 1 := by decide +kernel
theorem am_pd19 : (parseMethodDescriptor "(LThirdSheets$Space;)Z").map (fun d => d.parameters.length) = some 1 := by decide +kernel
theorem am_pd20 : (parseMethodDescriptor "(LThirdSheets$Space;I)Z").map (fun d => d.parameters.length) = some 2 := by decide +kernel
theorem am_pd21 : (parseMethodDescriptor "(LThirdSheets$Space;[I)V").map (fun d => d.parameters.length) = some 2 := by decide +kernel
theorem am_pd22 : (parseMethodDescriptor "(LThirdSheets$Space;[II)V").map (fun d => d.parameters.length) = some 3 := by decide +kernel
theorem am_pd23 : (parseMethodDescriptor "(Z)I").map (fun d => d.parameters.length) = some 1 := by decide +kernel
theorem am_pd24 : (parseMethodDescriptor "([I)I").map (fun d => d.parameters.length) = some 1 := by decide +kernel
theorem am_pd25 : (parseMethodDescriptor "([I)Z").map (fun d => d.parameters.length) = some 1 := by decide +kernel
theorem am_pd26 : (parseMethodDescriptor "([II)V").map (fun d => d.parameters.length) = some 2 := by decide +kernel
theorem am_pd27 : (parseMethodDescriptor "([II)Z").map (fun d => d.parameters.length) = some 2 := by decide +kernel
theorem am_pd28 : (parseMethodDescriptor "([III)I").map (fun d => d.parameters.length) = some 3 := by decide +kernel
theorem am_pd29 : (parseMethodDescriptor "([III)V").map (fun d => d.parameters.length) = some 3 := by decide +kernel
theorem am_pd30 : (parseMethodDescriptor "([IIII)I").map (fun d => d.parameters.length) = some 4 := by decide +kernel
theorem am_pd31 : (parseMethodDescriptor "([IIII)Z").map (fun d => d.parameters.length) = some 4 := by decide +kernel
theorem am_pd32 : (parseMethodDescriptor "([I[I)Z").map (fun d => d.parameters.length) = some 2 := by decide +kernel
theorem am_pd33 : (parseMethodDescriptor "([JJ)V").map (fun d => d.parameters.length) = some 2 := by decide +kernel
theorem am_M0 : am_okM 0 := ⟨(am_w1 30 rfl rfl), (am_w1 3 rfl rfl), rfl, am_pd4⟩
theorem am_M1 : am_okM 1 := ⟨(am_w2 16 rfl rfl), (am_w1 3 rfl rfl), rfl, am_pd4⟩
theorem am_M2 : am_okM 2 := ⟨(am_w2 35 rfl rfl), (am_w1 3 rfl rfl), rfl, am_pd3⟩
theorem am_M3 : am_okM 3 := ⟨(am_w2 31 rfl rfl), (am_w1 3 rfl rfl), rfl, am_pd15⟩
theorem am_M4 : am_okM 4 := ⟨(am_w2 56 rfl rfl), (am_w1 3 rfl rfl), rfl, am_pd1⟩
theorem am_M5 : am_okM 5 := ⟨(am_w2 115 rfl rfl), (am_w1 3 rfl rfl), rfl, am_pd5⟩
theorem am_M6 : am_okM 6 := ⟨(am_w2 164 rfl rfl), (am_w1 3 rfl rfl), rfl, am_pd2⟩
theorem am_M7 : am_okM 7 := ⟨(am_w1 144 rfl rfl), (am_w1 6 rfl rfl), rfl, am_pd1⟩
theorem am_M8 : am_okM 8 := ⟨(am_w3 12 rfl rfl), (am_w1 6 rfl rfl), rfl, am_pd18⟩
theorem am_M9 : am_okM 9 := ⟨(am_w3 16 rfl rfl), (am_w1 6 rfl rfl), rfl, am_pd4⟩
theorem am_M10 : am_okM 10 := ⟨(am_w3 22 rfl rfl), (am_w1 6 rfl rfl), rfl, am_pd13⟩
theorem am_M11 : am_okM 11 := ⟨(am_w3 31 rfl rfl), (am_w1 6 rfl rfl), rfl, am_pd1⟩
theorem am_M12 : am_okM 12 := ⟨(am_w3 35 rfl rfl), (am_w1 6 rfl rfl), rfl, am_pd4⟩
theorem am_M13 : am_okM 13 := ⟨(am_w3 42 rfl rfl), (am_w1 6 rfl rfl), rfl, am_pd9⟩
theorem am_M14 : am_okM 14 := ⟨(am_w3 45 rfl rfl), (am_w1 6 rfl rfl), rfl, am_pd5⟩
theorem am_M15 : am_okM 15 := ⟨(am_w3 49 rfl rfl), (am_w1 6 rfl rfl), rfl, am_pd8⟩
theorem am_M16 : am_okM 16 := ⟨(am_w3 52 rfl rfl), (am_w1 6 rfl rfl), rfl, am_pd6⟩
theorem am_M17 : am_okM 17 := ⟨(am_w3 56 rfl rfl), (am_w1 6 rfl rfl), rfl, am_pd1⟩
theorem am_M18 : am_okM 18 := ⟨(am_w3 60 rfl rfl), (am_w1 6 rfl rfl), rfl, am_pd1⟩
theorem am_M19 : am_okM 19 := ⟨(am_w3 64 rfl rfl), (am_w1 6 rfl rfl), rfl, am_pd32⟩
theorem am_M20 : am_okM 20 := ⟨(am_w1 118 rfl rfl), (am_w1 5 rfl rfl), rfl, am_pd1⟩
theorem am_M21 : am_okM 21 := ⟨(am_w2 179 rfl rfl), (am_w1 5 rfl rfl), rfl, am_pd18⟩
theorem am_M22 : am_okM 22 := ⟨(am_w3 0 rfl rfl), (am_w1 5 rfl rfl), rfl, am_pd3⟩
theorem am_M23 : am_okM 23 := ⟨(am_w2 183 rfl rfl), (am_w1 5 rfl rfl), rfl, am_pd18⟩
theorem am_M24 : am_okM 24 := ⟨(am_w2 188 rfl rfl), (am_w1 5 rfl rfl), rfl, am_pd20⟩
theorem am_M25 : am_okM 25 := ⟨(am_w2 201 rfl rfl), (am_w1 5 rfl rfl), rfl, am_pd5⟩
theorem am_M26 : am_okM 26 := ⟨(am_w2 206 rfl rfl), (am_w1 5 rfl rfl), rfl, am_pd5⟩
theorem am_M27 : am_okM 27 := ⟨(am_w2 213 rfl rfl), (am_w1 5 rfl rfl), rfl, am_pd8⟩
theorem am_M28 : am_okM 28 := ⟨(am_w2 217 rfl rfl), (am_w1 5 rfl rfl), rfl, am_pd8⟩
theorem am_M29 : am_okM 29 := ⟨(am_w2 221 rfl rfl), (am_w1 5 rfl rfl), rfl, am_pd5⟩
theorem am_M30 : am_okM 30 := ⟨(am_w2 228 rfl rfl), (am_w1 5 rfl rfl), rfl, am_pd5⟩
theorem am_M31 : am_okM 31 := ⟨(am_w2 224 rfl rfl), (am_w1 5 rfl rfl), rfl, am_pd16⟩
theorem am_M32 : am_okM 32 := ⟨(am_w2 232 rfl rfl), (am_w1 5 rfl rfl), rfl, am_pd5⟩
theorem am_M33 : am_okM 33 := ⟨(am_w2 236 rfl rfl), (am_w1 5 rfl rfl), rfl, am_pd8⟩
theorem am_M34 : am_okM 34 := ⟨(am_w1 190 rfl rfl), (am_w1 8 rfl rfl), rfl, am_pd1⟩
theorem am_M35 : am_okM 35 := ⟨(am_w3 164 rfl rfl), (am_w1 8 rfl rfl), rfl, am_pd21⟩
theorem am_M36 : am_okM 36 := ⟨(am_w3 168 rfl rfl), (am_w1 8 rfl rfl), rfl, am_pd24⟩
theorem am_M37 : am_okM 37 := ⟨(am_w3 175 rfl rfl), (am_w1 8 rfl rfl), rfl, am_pd22⟩
theorem am_M38 : am_okM 38 := ⟨(am_w3 186 rfl rfl), (am_w1 8 rfl rfl), rfl, am_pd30⟩
theorem am_M39 : am_okM 39 := ⟨(am_w3 179 rfl rfl), (am_w1 8 rfl rfl), rfl, am_pd31⟩
theorem am_M40 : am_okM 40 := ⟨(am_w3 182 rfl rfl), (am_w1 8 rfl rfl), rfl, am_pd9⟩
theorem am_M41 : am_okM 41 := ⟨(am_w3 193 rfl rfl), (am_w1 8 rfl rfl), rfl, am_pd4⟩
theorem am_M42 : am_okM 42 := ⟨(am_w3 197 rfl rfl), (am_w1 8 rfl rfl), rfl, am_pd21⟩
theorem am_M43 : am_okM 43 := ⟨(am_w3 202 rfl rfl), (am_w1 8 rfl rfl), rfl, am_pd21⟩
theorem am_M44 : am_okM 44 := ⟨(am_w1 179 rfl rfl), (am_w1 7 rfl rfl), rfl, am_pd1⟩
theorem am_M45 : am_okM 45 := ⟨(am_w2 3 rfl rfl), (am_w1 7 rfl rfl), rfl, am_pd1⟩
theorem am_M46 : am_okM 46 := ⟨(am_w3 101 rfl rfl), (am_w1 7 rfl rfl), rfl, am_pd0⟩
theorem am_M47 : am_okM 47 := ⟨(am_w3 151 rfl rfl), (am_w1 7 rfl rfl), rfl, am_pd0⟩
theorem am_M48 : am_okM 48 := ⟨(am_w3 88 rfl rfl), (am_w1 7 rfl rfl), rfl, am_pd27⟩
theorem am_M49 : am_okM 49 := ⟨(am_w3 93 rfl rfl), (am_w1 7 rfl rfl), rfl, am_pd26⟩
theorem am_M50 : am_okM 50 := ⟨(am_w3 127 rfl rfl), (am_w1 7 rfl rfl), rfl, am_pd19⟩
theorem am_M51 : am_okM 51 := ⟨(am_w3 109 rfl rfl), (am_w1 7 rfl rfl), rfl, am_pd19⟩
theorem am_M52 : am_okM 52 := ⟨(am_w3 114 rfl rfl), (am_w1 7 rfl rfl), rfl, am_pd20⟩
theorem am_M53 : am_okM 53 := ⟨(am_w3 119 rfl rfl), (am_w1 7 rfl rfl), rfl, am_pd2⟩
theorem am_M54 : am_okM 54 := ⟨(am_w3 133 rfl rfl), (am_w1 7 rfl rfl), rfl, am_pd17⟩
theorem am_M55 : am_okM 55 := ⟨(am_w3 137 rfl rfl), (am_w1 7 rfl rfl), rfl, am_pd17⟩
theorem am_M56 : am_okM 56 := ⟨(am_w3 146 rfl rfl), (am_w1 7 rfl rfl), rfl, am_pd17⟩
theorem am_M57 : am_okM 57 := ⟨(am_w1 24 rfl rfl), (am_w1 2 rfl rfl), rfl, am_pd1⟩
theorem am_M58 : am_okM 58 := ⟨(am_w1 239 rfl rfl), (am_w1 2 rfl rfl), rfl, am_pd1⟩
theorem am_M59 : am_okM 59 := ⟨(am_w2 99 rfl rfl), (am_w1 2 rfl rfl), rfl, am_pd1⟩
theorem am_M60 : am_okM 60 := ⟨(am_w2 75 rfl rfl), (am_w1 2 rfl rfl), rfl, am_pd5⟩
theorem am_M61 : am_okM 61 := ⟨(am_w2 79 rfl rfl), (am_w1 2 rfl rfl), rfl, am_pd11⟩
theorem am_M62 : am_okM 62 := ⟨(am_w2 83 rfl rfl), (am_w1 2 rfl rfl), rfl, am_pd13⟩
theorem am_M63 : am_okM 63 := ⟨(am_w2 91 rfl rfl), (am_w1 2 rfl rfl), rfl, am_pd4⟩
theorem am_M64 : am_okM 64 := ⟨(am_w2 23 rfl rfl), (am_w1 2 rfl rfl), rfl, am_pd5⟩
theorem am_M65 : am_okM 65 := ⟨(am_w2 12 rfl rfl), (am_w1 2 rfl rfl), rfl, am_pd1⟩
theorem am_M66 : am_okM 66 := ⟨(am_w2 27 rfl rfl), (am_w1 2 rfl rfl), rfl, am_pd4⟩
theorem am_M67 : am_okM 67 := ⟨(am_w2 42 rfl rfl), (am_w1 2 rfl rfl), rfl, am_pd4⟩
theorem am_M68 : am_okM 68 := ⟨(am_w2 52 rfl rfl), (am_w1 2 rfl rfl), rfl, am_pd5⟩
theorem am_M69 : am_okM 69 := ⟨(am_w2 146 rfl rfl), (am_w1 2 rfl rfl), rfl, am_pd0⟩
theorem am_M70 : am_okM 70 := ⟨(am_w2 150 rfl rfl), (am_w1 2 rfl rfl), rfl, am_pd0⟩
theorem am_M71 : am_okM 71 := ⟨(am_w2 154 rfl rfl), (am_w1 2 rfl rfl), rfl, am_pd0⟩
theorem am_M72 : am_okM 72 := ⟨(am_w2 170 rfl rfl), (am_w1 2 rfl rfl), rfl, am_pd2⟩
theorem am_M73 : am_okM 73 := ⟨(am_w2 159 rfl rfl), (am_w1 2 rfl rfl), rfl, am_pd2⟩
theorem am_M74 : am_okM 74 := ⟨(am_w2 124 rfl rfl), (am_w1 2 rfl rfl), rfl, am_pd3⟩
theorem am_M75 : am_okM 75 := ⟨(am_w2 128 rfl rfl), (am_w1 2 rfl rfl), rfl, am_pd3⟩
theorem am_M76 : am_okM 76 := ⟨(am_w2 133 rfl rfl), (am_w1 2 rfl rfl), rfl, am_pd3⟩
theorem am_M77 : am_okM 77 := ⟨(am_w2 138 rfl rfl), (am_w1 2 rfl rfl), rfl, am_pd3⟩
theorem am_M78 : am_okM 78 := ⟨(am_w1 16 rfl rfl), (am_w1 1 rfl rfl), rfl, am_pd1⟩
theorem am_M79 : am_okM 79 := ⟨(am_w1 235 rfl rfl), (am_w1 1 rfl rfl), rfl, am_pd0⟩
theorem am_M80 : am_okM 80 := ⟨(am_w2 60 rfl rfl), (am_w1 1 rfl rfl), rfl, am_pd14⟩
theorem am_M81 : am_okM 81 := ⟨(am_w2 87 rfl rfl), (am_w1 1 rfl rfl), rfl, am_pd6⟩
theorem am_M82 : am_okM 82 := ⟨(am_w2 95 rfl rfl), (am_w1 1 rfl rfl), rfl, am_pd0⟩
theorem am_M83 : am_okM 83 := ⟨(am_w2 103 rfl rfl), (am_w1 1 rfl rfl), rfl, am_pd10⟩
theorem am_M84 : am_okM 84 := ⟨(am_w2 107 rfl rfl), (am_w1 1 rfl rfl), rfl, am_pd10⟩
theorem am_M85 : am_okM 85 := ⟨(am_w2 111 rfl rfl), (am_w1 1 rfl rfl), rfl, am_pd3⟩
theorem am_M86 : am_okM 86 := ⟨(am_w2 119 rfl rfl), (am_w1 1 rfl rfl), rfl, am_pd3⟩
theorem am_M87 : am_okM 87 := ⟨(am_w2 142 rfl rfl), (am_w1 1 rfl rfl), rfl, am_pd3⟩
theorem am_M88 : am_okM 88 := ⟨(am_w2 174 rfl rfl), (am_w1 1 rfl rfl), rfl, am_pd3⟩
theorem am_M89 : am_okM 89 := ⟨(am_w3 4 rfl rfl), (am_w1 1 rfl rfl), rfl, am_pd0⟩
theorem am_M90 : am_okM 90 := ⟨(am_w3 68 rfl rfl), (am_w1 1 rfl rfl), rfl, am_pd6⟩
theorem am_M91 : am_okM 91 := ⟨(am_w3 80 rfl rfl), (am_w1 1 rfl rfl), rfl, am_pd6⟩
theorem am_M92 : am_okM 92 := ⟨(am_w3 84 rfl rfl), (am_w1 1 rfl rfl), rfl, am_pd6⟩
theorem am_M93 : am_okM 93 := ⟨(am_w3 97 rfl rfl), (am_w1 1 rfl rfl), rfl, am_pd0⟩
theorem am_M94 : am_okM 94 := ⟨(am_w3 105 rfl rfl), (am_w1 1 rfl rfl), rfl, am_pd0⟩
theorem am_M95 : am_okM 95 := ⟨(am_w3 123 rfl rfl), (am_w1 1 rfl rfl), rfl, am_pd0⟩
theorem am_M96 : am_okM 96 := ⟨(am_w3 155 rfl rfl), (am_w1 1 rfl rfl), rfl, am_pd0⟩
theorem am_M97 : am_okM 97 := ⟨(am_w3 207 rfl rfl), (am_w1 1 rfl rfl), rfl, am_pd6⟩
theorem am_M98 : am_okM 98 := ⟨(am_w2 68 rfl rfl), (am_w1 1 rfl rfl), rfl, am_pd5⟩
theorem am_M99 : am_okM 99 := ⟨(am_w2 64 rfl rfl), (am_w1 1 rfl rfl), rfl, am_pd9⟩
theorem am_M100 : am_okM 100 := ⟨(am_w3 76 rfl rfl), (am_w1 1 rfl rfl), rfl, am_pd5⟩
theorem am_M101 : am_okM 101 := ⟨(am_w3 72 rfl rfl), (am_w1 1 rfl rfl), rfl, am_pd5⟩
theorem am_M102 : am_okM 102 := ⟨(am_w2 71 rfl rfl), (am_w1 1 rfl rfl), rfl, am_pd9⟩
theorem am_M103 : am_okM 103 := ⟨(am_w2 8 rfl rfl), (am_w1 1 rfl rfl), rfl, am_pd1⟩
theorem am_M104 : am_okM 104 := ⟨(am_w3 8 rfl rfl), (am_w1 1 rfl rfl), rfl, am_pd1⟩
theorem am_M105 : am_okM 105 := ⟨(am_w3 160 rfl rfl), (am_w1 1 rfl rfl), rfl, am_pd1⟩
theorem am_M106 : am_okM 106 := ⟨(am_w3 25 rfl rfl), (am_w1 1 rfl rfl), rfl, am_pd28⟩
theorem am_M107 : am_okM 107 := ⟨(am_w3 140 rfl rfl), (am_w1 1 rfl rfl), rfl, am_pd9⟩
theorem am_M108 : am_okM 108 := ⟨(am_w3 212 rfl rfl), (am_w1 9 rfl rfl), rfl, am_pd1⟩
theorem am_M109 : am_okM 109 := ⟨(am_w4 76 rfl rfl), (am_w1 9 rfl rfl), rfl, am_pd12⟩
theorem am_M110 : am_okM 110 := ⟨(am_w4 73 rfl rfl), (am_w1 9 rfl rfl), rfl, am_pd5⟩
theorem am_M111 : am_okM 111 := ⟨(am_w4 69 rfl rfl), (am_w1 9 rfl rfl), rfl, am_pd9⟩
theorem am_M112 : am_okM 112 := ⟨(am_w4 115 rfl rfl), (am_w1 9 rfl rfl), rfl, am_pd6⟩
theorem am_M113 : am_okM 113 := ⟨(am_w4 111 rfl rfl), (am_w1 9 rfl rfl), rfl, am_pd10⟩
theorem am_M114 : am_okM 114 := ⟨(am_w4 107 rfl rfl), (am_w1 9 rfl rfl), rfl, am_pd6⟩
theorem am_M115 : am_okM 115 := ⟨(am_w4 104 rfl rfl), (am_w1 9 rfl rfl), rfl, am_pd29⟩
theorem am_M116 : am_okM 116 := ⟨(am_w4 96 rfl rfl), (am_w1 9 rfl rfl), rfl, am_pd1⟩
theorem am_M117 : am_okM 117 := ⟨(am_w4 100 rfl rfl), (am_w1 9 rfl rfl), rfl, am_pd4⟩
theorem am_M118 : am_okM 118 := ⟨(am_w4 119 rfl rfl), (am_w1 9 rfl rfl), rfl, am_pd6⟩
theorem am_M119 : am_okM 119 := ⟨(am_w4 123 rfl rfl), (am_w1 9 rfl rfl), rfl, am_pd5⟩
theorem am_M120 : am_okM 120 := ⟨(am_w4 160 rfl rfl), (am_w1 9 rfl rfl), rfl, am_pd0⟩
theorem am_M121 : am_okM 121 := ⟨(am_w4 156 rfl rfl), (am_w1 9 rfl rfl), rfl, am_pd0⟩
theorem am_M122 : am_okM 122 := ⟨(am_w4 131 rfl rfl), (am_w1 9 rfl rfl), rfl, am_pd3⟩
theorem am_M123 : am_okM 123 := ⟨(am_w4 143 rfl rfl), (am_w1 9 rfl rfl), rfl, am_pd3⟩
theorem am_M124 : am_okM 124 := ⟨(am_w4 135 rfl rfl), (am_w1 9 rfl rfl), rfl, am_pd5⟩
theorem am_M125 : am_okM 125 := ⟨(am_w4 172 rfl rfl), (am_w1 9 rfl rfl), rfl, am_pd2⟩
theorem am_M126 : am_okM 126 := ⟨(am_w4 57 rfl rfl), (am_w1 9 rfl rfl), rfl, am_pd0⟩
theorem am_M127 : am_okM 127 := ⟨(am_w4 61 rfl rfl), (am_w1 9 rfl rfl), rfl, am_pd1⟩
theorem am_M128 : am_okM 128 := ⟨(am_w4 65 rfl rfl), (am_w1 9 rfl rfl), rfl, am_pd14⟩
theorem am_M129 : am_okM 129 := ⟨(am_w4 80 rfl rfl), (am_w1 9 rfl rfl), rfl, am_pd6⟩
theorem am_M130 : am_okM 130 := ⟨(am_w4 84 rfl rfl), (am_w1 9 rfl rfl), rfl, am_pd0⟩
theorem am_M131 : am_okM 131 := ⟨(am_w4 88 rfl rfl), (am_w1 9 rfl rfl), rfl, am_pd10⟩
theorem am_M132 : am_okM 132 := ⟨(am_w4 92 rfl rfl), (am_w1 9 rfl rfl), rfl, am_pd10⟩
theorem am_M133 : am_okM 133 := ⟨(am_w4 127 rfl rfl), (am_w1 9 rfl rfl), rfl, am_pd3⟩
theorem am_M134 : am_okM 134 := ⟨(am_w4 148 rfl rfl), (am_w1 9 rfl rfl), rfl, am_pd3⟩
theorem am_M135 : am_okM 135 := ⟨(am_w4 139 rfl rfl), (am_w1 9 rfl rfl), rfl, am_pd3⟩
theorem am_M136 : am_okM 136 := ⟨(am_w4 164 rfl rfl), (am_w1 9 rfl rfl), rfl, am_pd23⟩
theorem am_M137 : am_okM 137 := ⟨(am_w4 168 rfl rfl), (am_w1 9 rfl rfl), rfl, am_pd2⟩
theorem am_M138 : am_okM 138 := ⟨(am_w4 180 rfl rfl), (am_w1 9 rfl rfl), rfl, am_pd5⟩
theorem am_M139 : am_okM 139 := ⟨(am_w4 176 rfl rfl), (am_w1 9 rfl rfl), rfl, am_pd2⟩
theorem am_M140 : am_okM 140 := ⟨(am_w4 184 rfl rfl), (am_w1 9 rfl rfl), rfl, am_pd0⟩
theorem am_M141 : am_okM 141 := ⟨(am_w4 152 rfl rfl), (am_w1 9 rfl rfl), rfl, am_pd3⟩
theorem am_M142 : am_okM 142 := ⟨(am_w4 196 rfl rfl), (am_w1 9 rfl rfl), rfl, am_pd1⟩
theorem am_M143 : am_okM 143 := ⟨(am_w4 200 rfl rfl), (am_w1 9 rfl rfl), rfl, am_pd5⟩
theorem am_M144 : am_okM 144 := ⟨(am_w4 192 rfl rfl), (am_w1 9 rfl rfl), rfl, am_pd1⟩
theorem am_M145 : am_okM 145 := ⟨(am_w4 209 rfl rfl), (am_w1 9 rfl rfl), rfl, am_pd7⟩
theorem am_M146 : am_okM 146 := ⟨(am_w4 205 rfl rfl), (am_w1 9 rfl rfl), rfl, am_pd5⟩
theorem am_M147 : am_okM 147 := ⟨(am_w4 213 rfl rfl), (am_w1 9 rfl rfl), rfl, am_pd5⟩
theorem am_M148 : am_okM 148 := ⟨(am_w4 188 rfl rfl), (am_w1 9 rfl rfl), rfl, am_pd3⟩
theorem am_M149 : am_okM 149 := ⟨(am_w4 228 rfl rfl), (am_w1 9 rfl rfl), rfl, am_pd6⟩
theorem am_M150 : am_okM 150 := ⟨(am_w4 225 rfl rfl), (am_w1 9 rfl rfl), rfl, am_pd8⟩
theorem am_M151 : am_okM 151 := ⟨(am_w4 236 rfl rfl), (am_w1 9 rfl rfl), rfl, am_pd3⟩
theorem am_M152 : am_okM 152 := ⟨(am_w5 7 rfl rfl), (am_w1 9 rfl rfl), rfl, am_pd3⟩
theorem am_M153 : am_okM 153 := ⟨(am_w5 11 rfl rfl), (am_w1 9 rfl rfl), rfl, am_pd5⟩
theorem am_M154 : am_okM 154 := ⟨(am_w5 15 rfl rfl), (am_w1 9 rfl rfl), rfl, am_pd12⟩
theorem am_M155 : am_okM 155 := ⟨(am_w5 3 rfl rfl), (am_w1 9 rfl rfl), rfl, am_pd6⟩
theorem am_M156 : am_okM 156 := ⟨(am_w5 0 rfl rfl), (am_w1 9 rfl rfl), rfl, am_pd13⟩
theorem am_M157 : am_okM 157 := ⟨(am_w4 232 rfl rfl), (am_w1 9 rfl rfl), rfl, am_pd1⟩
theorem am_M158 : am_okM 158 := ⟨(am_w5 19 rfl rfl), (am_w1 9 rfl rfl), rfl, am_pd9⟩
theorem am_M159 : am_okM 159 := ⟨(am_w5 23 rfl rfl), (am_w1 9 rfl rfl), rfl, am_pd8⟩
theorem am_M160 : am_okM 160 := ⟨(am_w4 221 rfl rfl), (am_w1 9 rfl rfl), rfl, am_pd1⟩
theorem am_M161 : am_okM 161 := ⟨(am_w4 217 rfl rfl), (am_w1 9 rfl rfl), rfl, am_pd0⟩
theorem am_M162 : am_okM 162 := ⟨(am_w5 27 rfl rfl), (am_w1 9 rfl rfl), rfl, am_pd6⟩
theorem am_M163 : am_okM 163 := ⟨(am_w5 31 rfl rfl), (am_w1 9 rfl rfl), rfl, am_pd6⟩
theorem am_M164 : am_okM 164 := ⟨(am_w5 35 rfl rfl), (am_w1 9 rfl rfl), rfl, am_pd6⟩
theorem am_M165 : am_okM 165 := ⟨(am_w5 39 rfl rfl), (am_w1 9 rfl rfl), rfl, am_pd0⟩
theorem am_M166 : am_okM 166 := ⟨(am_w5 47 rfl rfl), (am_w1 9 rfl rfl), rfl, am_pd10⟩
theorem am_M167 : am_okM 167 := ⟨(am_w5 43 rfl rfl), (am_w1 9 rfl rfl), rfl, am_pd0⟩
theorem am_M168 : am_okM 168 := ⟨(am_w5 56 rfl rfl), (am_w1 9 rfl rfl), rfl, am_pd9⟩
theorem am_M169 : am_okM 169 := ⟨(am_w5 51 rfl rfl), (am_w1 9 rfl rfl), rfl, am_pd0⟩
theorem am_M170 : am_okM 170 := ⟨(am_w5 76 rfl rfl), (am_w1 9 rfl rfl), rfl, am_pd10⟩
theorem am_M171 : am_okM 171 := ⟨(am_w5 80 rfl rfl), (am_w1 9 rfl rfl), rfl, am_pd12⟩
theorem am_M172 : am_okM 172 := ⟨(am_w5 72 rfl rfl), (am_w1 9 rfl rfl), rfl, am_pd3⟩
theorem am_M173 : am_okM 173 := ⟨(am_w5 68 rfl rfl), (am_w1 9 rfl rfl), rfl, am_pd6⟩
theorem am_M174 : am_okM 174 := ⟨(am_w5 64 rfl rfl), (am_w1 9 rfl rfl), rfl, am_pd0⟩
theorem am_M175 : am_okM 175 := ⟨(am_w5 60 rfl rfl), (am_w1 9 rfl rfl), rfl, am_pd0⟩
theorem am_M176 : am_okM 176 := ⟨(am_w5 88 rfl rfl), (am_w1 9 rfl rfl), rfl, am_pd3⟩
theorem am_M177 : am_okM 177 := ⟨(am_w5 92 rfl rfl), (am_w1 9 rfl rfl), rfl, am_pd3⟩
theorem am_M178 : am_okM 178 := ⟨(am_w5 84 rfl rfl), (am_w1 9 rfl rfl), rfl, am_pd6⟩
theorem am_M179 : am_okM 179 := ⟨(am_w2 191 rfl rfl), (am_w1 4 rfl rfl), rfl, am_pd33⟩
theorem am_M180 : am_okM 180 := ⟨(am_w1 70 rfl rfl), (am_w1 4 rfl rfl), rfl, am_pd26⟩
theorem am_Mg0 (mj : Nat) (h1 : 0 ≤ mj) (h2 : mj < 20) : am_okM mj := by
  rcases (show mj = 0 ∨ mj = 1 ∨ mj = 2 ∨ mj = 3 ∨ mj = 4 ∨ mj = 5 ∨ mj = 6 ∨ mj = 7 ∨ mj = 8 ∨ mj = 9 ∨ mj = 10 ∨ mj = 11 ∨ mj = 12 ∨ mj = 13 ∨ mj = 14 ∨ mj = 15 ∨ mj = 16 ∨ mj = 17 ∨ mj = 18 ∨ mj = 19 by omega) with rfl | rfl | rfl | rfl | rfl | rfl | rfl | rfl | rfl | rfl | rfl | rfl | rfl | rfl | rfl | rfl | rfl | rfl | rfl | rfl
  · exact am_M0
  · exact am_M1
  · exact am_M2
  · exact am_M3
  · exact am_M4
  · exact am_M5
  · exact am_M6
  · exact am_M7
  · exact am_M8
  · exact am_M9
  · exact am_M10
  · exact am_M11
  · exact am_M12
  · exact am_M13
  · exact am_M14
  · exact am_M15
  · exact am_M16
  · exact am_M17
  · exact am_M18
  · exact am_M19
theorem am_Mg1 (mj : Nat) (h1 : 20 ≤ mj) (h2 : mj < 40) : am_okM mj := by
  rcases (show mj = 20 ∨ mj = 21 ∨ mj = 22 ∨ mj = 23 ∨ mj = 24 ∨ mj = 25 ∨ mj = 26 ∨ mj = 27 ∨ mj = 28 ∨ mj = 29 ∨ mj = 30 ∨ mj = 31 ∨ mj = 32 ∨ mj = 33 ∨ mj = 34 ∨ mj = 35 ∨ mj = 36 ∨ mj = 37 ∨ mj = 38 ∨ mj = 39 by omega) with rfl | rfl | rfl | rfl | rfl | rfl | rfl | rfl | rfl | rfl | rfl | rfl | rfl | rfl | rfl | rfl | rfl | rfl | rfl | rfl
  · exact am_M20
  · exact am_M21
  · exact am_M22
  · exact am_M23
  · exact am_M24
  · exact am_M25
  · exact am_M26
  · exact am_M27
  · exact am_M28
  · exact am_M29
  · exact am_M30
  · exact am_M31
  · exact am_M32
  · exact am_M33
  · exact am_M34
  · exact am_M35
  · exact am_M36
  · exact am_M37
  · exact am_M38
  · exact am_M39
theorem am_Mg2 (mj : Nat) (h1 : 40 ≤ mj) (h2 : mj < 60) : am_okM mj := by
  rcases (show mj = 40 ∨ mj = 41 ∨ mj = 42 ∨ mj = 43 ∨ mj = 44 ∨ mj = 45 ∨ mj = 46 ∨ mj = 47 ∨ mj = 48 ∨ mj = 49 ∨ mj = 50 ∨ mj = 51 ∨ mj = 52 ∨ mj = 53 ∨ mj = 54 ∨ mj = 55 ∨ mj = 56 ∨ mj = 57 ∨ mj = 58 ∨ mj = 59 by omega) with rfl | rfl | rfl | rfl | rfl | rfl | rfl | rfl | rfl | rfl | rfl | rfl | rfl | rfl | rfl | rfl | rfl | rfl | rfl | rfl
  · exact am_M40
  · exact am_M41
  · exact am_M42
  · exact am_M43
  · exact am_M44
  · exact am_M45
  · exact am_M46
  · exact am_M47
  · exact am_M48
  · exact am_M49
  · exact am_M50
  · exact am_M51
  · exact am_M52
  · exact am_M53
  · exact am_M54
  · exact am_M55
  · exact am_M56
  · exact am_M57
  · exact am_M58
  · exact am_M59
theorem am_Mg3 (mj : Nat) (h1 : 60 ≤ mj) (h2 : mj < 80) : am_okM mj := by
  rcases (show mj = 60 ∨ mj = 61 ∨ mj = 62 ∨ mj = 63 ∨ mj = 64 ∨ mj = 65 ∨ mj = 66 ∨ mj = 67 ∨ mj = 68 ∨ mj = 69 ∨ mj = 70 ∨ mj = 71 ∨ mj = 72 ∨ mj = 73 ∨ mj = 74 ∨ mj = 75 ∨ mj = 76 ∨ mj = 77 ∨ mj = 78 ∨ mj = 79 by omega) with rfl | rfl | rfl | rfl | rfl | rfl | rfl | rfl | rfl | rfl | rfl | rfl | rfl | rfl | rfl | rfl | rfl | rfl | rfl | rfl
  · exact am_M60
  · exact am_M61
  · exact am_M62
  · exact am_M63
  · exact am_M64
  · exact am_M65
  · exact am_M66
  · exact am_M67
  · exact am_M68
  · exact am_M69
  · exact am_M70
  · exact am_M71
  · exact am_M72
  · exact am_M73
  · exact am_M74
  · exact am_M75
  · exact am_M76
  · exact am_M77
  · exact am_M78
  · exact am_M79
theorem am_Mg4 (mj : Nat) (h1 : 80 ≤ mj) (h2 : mj < 100) : am_okM mj := by
  rcases (show mj = 80 ∨ mj = 81 ∨ mj = 82 ∨ mj = 83 ∨ mj = 84 ∨ mj = 85 ∨ mj = 86 ∨ mj = 87 ∨ mj = 88 ∨ mj = 89 ∨ mj = 90 ∨ mj = 91 ∨ mj = 92 ∨ mj = 93 ∨ mj = 94 ∨ mj = 95 ∨ mj = 96 ∨ mj = 97 ∨ mj = 98 ∨ mj = 99 by omega) with rfl | rfl | rfl | rfl | rfl | rfl | rfl | rfl | rfl | rfl | rfl | rfl | rfl | rfl | rfl | rfl | rfl | rfl | rfl | rfl
  · exact am_M80
  · exact am_M81
  · exact am_M82
  · exact am_M83
  · exact am_M84
  · exact am_M85
  · exact am_M86
  · exact am_M87
  · exact am_M88
  · exact am_M89
  · exact am_M90
  · exact am_M91
  · exact am_M92
  · exact am_M93
  · exact am_M94
  · exact am_M95
  · exact am_M96
  · exact am_M97
  · exact am_M98
  · exact am_M99
theorem am_Mg5 (mj : Nat) (h1 : 100 ≤ mj) (h2 : mj < 120) : am_okM mj := by
  rcases (show mj = 100 ∨ mj = 101 ∨ mj = 102 ∨ mj = 103 ∨ mj = 104 ∨ mj = 105 ∨ mj = 106 ∨ mj = 107 ∨ mj = 108 ∨ mj = 109 ∨ mj = 110 ∨ mj = 111 ∨ mj = 112 ∨ mj = 113 ∨ mj = 114 ∨ mj = 115 ∨ mj = 116 ∨ mj = 117 ∨ mj = 118 ∨ mj = 119 by omega) with rfl | rfl | rfl | rfl | rfl | rfl | rfl | rfl | rfl | rfl | rfl | rfl | rfl | rfl | rfl | rfl | rfl | rfl | rfl | rfl
  · exact am_M100
  · exact am_M101
  · exact am_M102
  · exact am_M103
  · exact am_M104
  · exact am_M105
  · exact am_M106
  · exact am_M107
  · exact am_M108
  · exact am_M109
  · exact am_M110
  · exact am_M111
  · exact am_M112
  · exact am_M113
  · exact am_M114
  · exact am_M115
  · exact am_M116
  · exact am_M117
  · exact am_M118
  · exact am_M119
theorem am_Mg6 (mj : Nat) (h1 : 120 ≤ mj) (h2 : mj < 140) : am_okM mj := by
  rcases (show mj = 120 ∨ mj = 121 ∨ mj = 122 ∨ mj = 123 ∨ mj = 124 ∨ mj = 125 ∨ mj = 126 ∨ mj = 127 ∨ mj = 128 ∨ mj = 129 ∨ mj = 130 ∨ mj = 131 ∨ mj = 132 ∨ mj = 133 ∨ mj = 134 ∨ mj = 135 ∨ mj = 136 ∨ mj = 137 ∨ mj = 138 ∨ mj = 139 by omega) with rfl | rfl | rfl | rfl | rfl | rfl | rfl | rfl | rfl | rfl | rfl | rfl | rfl | rfl | rfl | rfl | rfl | rfl | rfl | rfl
  · exact am_M120
  · exact am_M121
  · exact am_M122
  · exact am_M123
  · exact am_M124
  · exact am_M125
  · exact am_M126
  · exact am_M127
  · exact am_M128
  · exact am_M129
  · exact am_M130
  · exact am_M131
  · exact am_M132
  · exact am_M133
  · exact am_M134
  · exact am_M135
  · exact am_M136
  · exact am_M137
  · exact am_M138
  · exact am_M139
theorem am_Mg7 (mj : Nat) (h1 : 140 ≤ mj) (h2 : mj < 160) : am_okM mj := by
  rcases (show mj = 140 ∨ mj = 141 ∨ mj = 142 ∨ mj = 143 ∨ mj = 144 ∨ mj = 145 ∨ mj = 146 ∨ mj = 147 ∨ mj = 148 ∨ mj = 149 ∨ mj = 150 ∨ mj = 151 ∨ mj = 152 ∨ mj = 153 ∨ mj = 154 ∨ mj = 155 ∨ mj = 156 ∨ mj = 157 ∨ mj = 158 ∨ mj = 159 by omega) with rfl | rfl | rfl | rfl | rfl | rfl | rfl | rfl | rfl | rfl | rfl | rfl | rfl | rfl | rfl | rfl | rfl | rfl | rfl | rfl
  · exact am_M140
  · exact am_M141
  · exact am_M142
  · exact am_M143
  · exact am_M144
  · exact am_M145
  · exact am_M146
  · exact am_M147
  · exact am_M148
  · exact am_M149
  · exact am_M150
  · exact am_M151
  · exact am_M152
  · exact am_M153
  · exact am_M154
  · exact am_M155
  · exact am_M156
  · exact am_M157
  · exact am_M158
  · exact am_M159
theorem am_Mg8 (mj : Nat) (h1 : 160 ≤ mj) (h2 : mj < 180) : am_okM mj := by
  rcases (show mj = 160 ∨ mj = 161 ∨ mj = 162 ∨ mj = 163 ∨ mj = 164 ∨ mj = 165 ∨ mj = 166 ∨ mj = 167 ∨ mj = 168 ∨ mj = 169 ∨ mj = 170 ∨ mj = 171 ∨ mj = 172 ∨ mj = 173 ∨ mj = 174 ∨ mj = 175 ∨ mj = 176 ∨ mj = 177 ∨ mj = 178 ∨ mj = 179 by omega) with rfl | rfl | rfl | rfl | rfl | rfl | rfl | rfl | rfl | rfl | rfl | rfl | rfl | rfl | rfl | rfl | rfl | rfl | rfl | rfl
  · exact am_M160
  · exact am_M161
  · exact am_M162
  · exact am_M163
  · exact am_M164
  · exact am_M165
  · exact am_M166
  · exact am_M167
  · exact am_M168
  · exact am_M169
  · exact am_M170
  · exact am_M171
  · exact am_M172
  · exact am_M173
  · exact am_M174
  · exact am_M175
  · exact am_M176
  · exact am_M177
  · exact am_M178
  · exact am_M179
theorem am_Mg9 (mj : Nat) (h1 : 180 ≤ mj) (h2 : mj < 181) : am_okM mj := by
  rcases (show mj = 180 by omega) with rfl
  · exact am_M180
theorem am_ckM_ok (mj : Nat) (h : mj < 181) : am_okM mj := by
  rcases (show (0 ≤ mj ∧ mj < 20) ∨ (20 ≤ mj ∧ mj < 40) ∨ (40 ≤ mj ∧ mj < 60) ∨ (60 ≤ mj ∧ mj < 80) ∨ (80 ≤ mj ∧ mj < 100) ∨ (100 ≤ mj ∧ mj < 120) ∨ (120 ≤ mj ∧ mj < 140) ∨ (140 ≤ mj ∧ mj < 160) ∨ (160 ≤ mj ∧ mj < 180) ∨ (180 ≤ mj ∧ mj < 181) by omega) with ⟨a, b⟩ | ⟨a, b⟩ | ⟨a, b⟩ | ⟨a, b⟩ | ⟨a, b⟩ | ⟨a, b⟩ | ⟨a, b⟩ | ⟨a, b⟩ | ⟨a, b⟩ | ⟨a, b⟩
  · exact am_Mg0 mj a b
  · exact am_Mg1 mj a b
  · exact am_Mg2 mj a b
  · exact am_Mg3 mj a b
  · exact am_Mg4 mj a b
  · exact am_Mg5 mj a b
  · exact am_Mg6 mj a b
  · exact am_Mg7 mj a b
  · exact am_Mg8 mj a b
  · exact am_Mg9 mj a b
def am_okC (q : (Nat × Nat) × Nat × Nat) : Prop := match q.2.1 with
  | 0 => q.2.2 < 181 ∧ Cond.methodLink (am_cn q.1.1) q.1.2 (am_name q.2.2) ∈ am_words ∧ Cond.instanceMethod (am_name q.2.2) ∈ am_words ∧ Cond.selects (am_name q.2.2).cls (am_name q.2.2) (am_name q.2.2) ∈ am_words ∧ am_mc q.2.2 < 8
  | 1 => q.2.2 < 181 ∧ Cond.methodLink (am_cn q.1.1) q.1.2 (am_name q.2.2) ∈ am_words ∧ Cond.static (am_name q.2.2) ∈ am_words
  | 2 => q.2.2 < 181 ∧ Cond.methodLink (am_cn q.1.1) q.1.2 (am_name q.2.2) ∈ am_words ∧ Cond.instanceMethod (am_name q.2.2) ∈ am_words ∧ (am_name q.2.2).name = "<init>"
  | 3 => q.2.2 < 181 ∧ Cond.static (am_name q.2.2) ∈ am_words ∧ (q.1.1, q.1.2, q.2.2) ∈ am_nestM
  | 4 => Cond.methodLink (am_cn q.1.1) q.1.2 Lib.objectInit ∈ am_words
  | 5 => Cond.methodLink (am_cn q.1.1) q.1.2 arraycopyName ∈ am_words
  | 6 => Cond.methodLink (am_cn q.1.1) q.1.2 Lib.Math.min.name ∈ am_words
  | 7 => Cond.methodLink (am_cn q.1.1) q.1.2 Lib.Math.max.name ∈ am_words
  | 8 => Cond.methodLink (am_cn q.1.1) q.1.2 Lib.MathLoose.abs_long.x ∈ am_words
  | _ => False
theorem am_c0 : am_okC ((0, 1), 4, 0) := (am_w1 31 rfl rfl)
theorem am_c1 : am_okC ((0, 26), 6, 0) := (am_w2 17 rfl rfl)
theorem am_c2 : am_okC ((0, 36), 0, 2) := ⟨by decide, (am_w2 32 rfl rfl), (am_w2 34 rfl rfl), (am_wp1 2 (n := 7) rfl rfl), by decide⟩
theorem am_c3 : am_okC ((0, 40), 7, 0) := (am_w2 36 rfl rfl)
theorem am_c4 : am_okC ((0, 46), 0, 5) := ⟨by decide, (am_w2 165 rfl rfl), (am_w2 113 rfl rfl), (am_w2 114 rfl rfl), by decide⟩
theorem am_c5 : am_okC ((1, 3), 4, 0) := (am_w1 145 rfl rfl)
theorem am_c6 : am_okC ((1, 35), 0, 9) := ⟨by decide, (am_w3 13 rfl rfl), (am_w3 15 rfl rfl), (am_wp2 6 (n := 8) rfl rfl), by decide⟩
theorem am_c7 : am_okC ((1, 39), 0, 64) := ⟨by decide, (am_w3 18 rfl rfl), (am_w2 21 rfl rfl), (am_w2 22 rfl rfl), by decide⟩
theorem am_c8 : am_okC ((1, 49), 0, 10) := ⟨by decide, (am_w3 19 rfl rfl), (am_w3 21 rfl rfl), (am_wp2 7 (n := 8) rfl rfl), by decide⟩
theorem am_c9 : am_okC ((1, 53), 0, 11) := ⟨by decide, (am_w3 28 rfl rfl), (am_w3 30 rfl rfl), (am_wp2 8 (n := 8) rfl rfl), by decide⟩
theorem am_c10 : am_okC ((1, 56), 0, 18) := ⟨by decide, (am_w3 57 rfl rfl), (am_w3 59 rfl rfl), (am_wp2 13 (n := 8) rfl rfl), by decide⟩
theorem am_c11 : am_okC ((1, 65), 1, 180) := ⟨by decide, (am_w3 17 rfl rfl), (am_w1 69 rfl rfl)⟩
theorem am_c12 : am_okC ((1, 71), 3, 106) := ⟨by decide, (am_w3 24 rfl rfl), by decide +kernel⟩
theorem am_c13 : am_okC ((1, 78), 0, 12) := ⟨by decide, (am_w3 32 rfl rfl), (am_w3 34 rfl rfl), (am_wp2 9 (n := 8) rfl rfl), by decide⟩
theorem am_c14 : am_okC ((1, 81), 0, 13) := ⟨by decide, (am_w3 39 rfl rfl), (am_w3 41 rfl rfl), (am_wp2 10 (n := 8) rfl rfl), by decide⟩
theorem am_c15 : am_okC ((1, 85), 0, 15) := ⟨by decide, (am_w3 46 rfl rfl), (am_w3 48 rfl rfl), (am_wp2 11 (n := 8) rfl rfl), by decide⟩
theorem am_c16 : am_okC ((1, 89), 0, 17) := ⟨by decide, (am_w3 53 rfl rfl), (am_w3 55 rfl rfl), (am_wp2 12 (n := 8) rfl rfl), by decide⟩
theorem am_c17 : am_okC ((1, 92), 5, 0) := (am_w3 36 rfl rfl)
theorem am_c18 : am_okC ((1, 98), 1, 14) := ⟨by decide, (am_w3 43 rfl rfl), (am_w3 44 rfl rfl)⟩
theorem am_c19 : am_okC ((1, 101), 1, 16) := ⟨by decide, (am_w3 50 rfl rfl), (am_w3 51 rfl rfl)⟩
theorem am_c20 : am_okC ((1, 105), 0, 19) := ⟨by decide, (am_w3 61 rfl rfl), (am_w3 63 rfl rfl), (am_wp2 14 (n := 8) rfl rfl), by decide⟩
theorem am_c21 : am_okC ((2, 3), 4, 0) := (am_w1 119 rfl rfl)
theorem am_c22 : am_okC ((2, 20), 0, 23) := ⟨by decide, (am_w2 180 rfl rfl), (am_w2 182 rfl rfl), (am_wp1 11 (n := 5) rfl rfl), by decide⟩
theorem am_c23 : am_okC ((2, 42), 0, 24) := ⟨by decide, (am_w2 185 rfl rfl), (am_w2 187 rfl rfl), (am_wp1 12 (n := 5) rfl rfl), by decide⟩
theorem am_c24 : am_okC ((2, 52), 6, 0) := (am_w2 197 rfl rfl)
theorem am_c25 : am_okC ((2, 58), 0, 25) := ⟨by decide, (am_w2 198 rfl rfl), (am_w2 200 rfl rfl), (am_wp1 13 (n := 5) rfl rfl), by decide⟩
theorem am_c26 : am_okC ((2, 65), 0, 64) := ⟨by decide, (am_w2 184 rfl rfl), (am_w2 21 rfl rfl), (am_w2 22 rfl rfl), by decide⟩
theorem am_c27 : am_okC ((2, 71), 1, 179) := ⟨by decide, (am_w2 189 rfl rfl), (am_w2 190 rfl rfl)⟩
theorem am_c28 : am_okC ((2, 83), 0, 60) := ⟨by decide, (am_w2 194 rfl rfl), (am_w2 73 rfl rfl), (am_w2 74 rfl rfl), by decide⟩
theorem am_c29 : am_okC ((2, 95), 0, 26) := ⟨by decide, (am_w2 203 rfl rfl), (am_w2 205 rfl rfl), (am_wp1 14 (n := 5) rfl rfl), by decide⟩
theorem am_c30 : am_okC ((2, 98), 0, 29) := ⟨by decide, (am_w2 218 rfl rfl), (am_w2 220 rfl rfl), (am_wp2 1 (n := 5) rfl rfl), by decide⟩
theorem am_c31 : am_okC ((2, 101), 0, 30) := ⟨by decide, (am_w2 225 rfl rfl), (am_w2 227 rfl rfl), (am_wp2 2 (n := 5) rfl rfl), by decide⟩
theorem am_c32 : am_okC ((2, 104), 0, 32) := ⟨by decide, (am_w2 229 rfl rfl), (am_w2 231 rfl rfl), (am_wp2 3 (n := 5) rfl rfl), by decide⟩
theorem am_c33 : am_okC ((2, 107), 8, 0) := (am_w2 207 rfl rfl)
theorem am_c34 : am_okC ((2, 111), 0, 27) := ⟨by decide, (am_w2 210 rfl rfl), (am_w2 212 rfl rfl), (am_wp1 15 (n := 5) rfl rfl), by decide⟩
theorem am_c35 : am_okC ((2, 115), 0, 28) := ⟨by decide, (am_w2 214 rfl rfl), (am_w2 216 rfl rfl), (am_wp2 0 (n := 5) rfl rfl), by decide⟩
theorem am_c36 : am_okC ((2, 118), 1, 31) := ⟨by decide, (am_w2 222 rfl rfl), (am_w2 223 rfl rfl)⟩
theorem am_c37 : am_okC ((2, 122), 0, 33) := ⟨by decide, (am_w2 233 rfl rfl), (am_w2 235 rfl rfl), (am_wp2 4 (n := 5) rfl rfl), by decide⟩
theorem am_c38 : am_okC ((3, 3), 4, 0) := (am_w1 191 rfl rfl)
theorem am_c39 : am_okC ((3, 11), 2, 0) := ⟨by decide, (am_w1 193 rfl rfl), (am_w1 29 rfl rfl), rfl⟩
theorem am_c40 : am_okC ((3, 30), 0, 36) := ⟨by decide, (am_w3 165 rfl rfl), (am_w3 167 rfl rfl), (am_wp3 5 (n := 4) rfl rfl), by decide⟩
theorem am_c41 : am_okC ((3, 34), 0, 1) := ⟨by decide, (am_w3 170 rfl rfl), (am_w2 14 rfl rfl), (am_w2 15 rfl rfl), by decide⟩
theorem am_c42 : am_okC ((3, 43), 0, 64) := ⟨by decide, (am_w3 171 rfl rfl), (am_w2 21 rfl rfl), (am_w2 22 rfl rfl), by decide⟩
theorem am_c43 : am_okC ((3, 47), 0, 37) := ⟨by decide, (am_w3 172 rfl rfl), (am_w3 174 rfl rfl), (am_wp3 6 (n := 4) rfl rfl), by decide⟩
theorem am_c44 : am_okC ((3, 51), 0, 4) := ⟨by decide, (am_w3 189 rfl rfl), (am_w2 54 rfl rfl), (am_w2 55 rfl rfl), by decide⟩
theorem am_c45 : am_okC ((3, 54), 0, 41) := ⟨by decide, (am_w3 190 rfl rfl), (am_w3 192 rfl rfl), (am_wp3 8 (n := 4) rfl rfl), by decide⟩
theorem am_c46 : am_okC ((3, 57), 0, 42) := ⟨by decide, (am_w3 194 rfl rfl), (am_w3 196 rfl rfl), (am_wp3 9 (n := 4) rfl rfl), by decide⟩
theorem am_c47 : am_okC ((3, 61), 0, 43) := ⟨by decide, (am_w3 199 rfl rfl), (am_w3 201 rfl rfl), (am_wp3 10 (n := 4) rfl rfl), by decide⟩
theorem am_c48 : am_okC ((3, 64), 6, 0) := (am_w3 169 rfl rfl)
theorem am_c49 : am_okC ((3, 76), 3, 106) := ⟨by decide, (am_w3 24 rfl rfl), by decide +kernel⟩
theorem am_c50 : am_okC ((3, 80), 1, 39) := ⟨by decide, (am_w3 177 rfl rfl), (am_w3 178 rfl rfl)⟩
theorem am_c51 : am_okC ((3, 84), 0, 38) := ⟨by decide, (am_w3 183 rfl rfl), (am_w3 185 rfl rfl), (am_wp3 7 (n := 4) rfl rfl), by decide⟩
theorem am_c52 : am_okC ((3, 88), 0, 3) := ⟨by decide, (am_w3 188 rfl rfl), (am_w2 29 rfl rfl), (am_w2 30 rfl rfl), by decide⟩
theorem am_c53 : am_okC ((3, 95), 1, 40) := ⟨by decide, (am_w3 180 rfl rfl), (am_w3 181 rfl rfl)⟩
theorem am_c54 : am_okC ((3, 105), 0, 60) := ⟨by decide, (am_w3 198 rfl rfl), (am_w2 73 rfl rfl), (am_w2 74 rfl rfl), by decide⟩
theorem am_c55 : am_okC ((3, 114), 3, 107) := ⟨by decide, (am_w3 139 rfl rfl), by decide +kernel⟩
theorem am_c56 : am_okC ((4, 3), 4, 0) := (am_w1 180 rfl rfl)
theorem am_c57 : am_okC ((4, 15), 1, 180) := ⟨by decide, (am_w2 4 rfl rfl), (am_w1 69 rfl rfl)⟩
theorem am_c58 : am_okC ((4, 23), 0, 51) := ⟨by decide, (am_w3 128 rfl rfl), (am_w3 107 rfl rfl), (am_w3 108 rfl rfl), by decide⟩
theorem am_c59 : am_okC ((4, 27), 0, 53) := ⟨by decide, (am_w3 129 rfl rfl), (am_w3 117 rfl rfl), (am_w3 118 rfl rfl), by decide⟩
theorem am_c60 : am_okC ((4, 37), 0, 64) := ⟨by decide, (am_w3 110 rfl rfl), (am_w2 21 rfl rfl), (am_w2 22 rfl rfl), by decide⟩
theorem am_c61 : am_okC ((4, 41), 0, 52) := ⟨by decide, (am_w3 111 rfl rfl), (am_w3 113 rfl rfl), (am_wp3 1 (n := 1) rfl rfl), by decide⟩
theorem am_c62 : am_okC ((4, 51), 3, 106) := ⟨by decide, (am_w3 24 rfl rfl), by decide +kernel⟩
theorem am_c63 : am_okC ((4, 55), 0, 55) := ⟨by decide, (am_w3 134 rfl rfl), (am_w3 136 rfl rfl), (am_wp3 2 (n := 1) rfl rfl), by decide⟩
theorem am_c64 : am_okC ((4, 59), 0, 56) := ⟨by decide, (am_w3 143 rfl rfl), (am_w3 145 rfl rfl), (am_wp3 3 (n := 1) rfl rfl), by decide⟩
theorem am_c65 : am_okC ((4, 62), 0, 47) := ⟨by decide, (am_w3 148 rfl rfl), (am_w3 149 rfl rfl), (am_w3 150 rfl rfl), by decide⟩
theorem am_c66 : am_okC ((4, 78), 3, 107) := ⟨by decide, (am_w3 139 rfl rfl), by decide +kernel⟩
theorem am_c67 : am_okC ((4, 82), 0, 60) := ⟨by decide, (am_w3 147 rfl rfl), (am_w2 73 rfl rfl), (am_w2 74 rfl rfl), by decide⟩
theorem am_c68 : am_okC ((5, 3), 4, 0) := (am_w1 25 rfl rfl)
theorem am_c69 : am_okC ((5, 20), 2, 0) := ⟨by decide, (am_w1 28 rfl rfl), (am_w1 29 rfl rfl), rfl⟩
theorem am_c70 : am_okC ((5, 33), 1, 180) := ⟨by decide, (am_w1 68 rfl rfl), (am_w1 69 rfl rfl)⟩
theorem am_c71 : am_okC ((5, 46), 0, 62) := ⟨by decide, (am_w2 80 rfl rfl), (am_w2 82 rfl rfl), (am_wp1 7 (n := 7) rfl rfl), by decide⟩
theorem am_c72 : am_okC ((5, 50), 0, 1) := ⟨by decide, (am_w2 13 rfl rfl), (am_w2 14 rfl rfl), (am_w2 15 rfl rfl), by decide⟩
theorem am_c73 : am_okC ((5, 53), 0, 64) := ⟨by decide, (am_w2 20 rfl rfl), (am_w2 21 rfl rfl), (am_w2 22 rfl rfl), by decide⟩
theorem am_c74 : am_okC ((5, 57), 0, 66) := ⟨by decide, (am_w2 24 rfl rfl), (am_w2 26 rfl rfl), (am_wp1 1 (n := 7) rfl rfl), by decide⟩
theorem am_c75 : am_okC ((5, 60), 0, 67) := ⟨by decide, (am_w2 39 rfl rfl), (am_w2 41 rfl rfl), (am_wp1 3 (n := 7) rfl rfl), by decide⟩
theorem am_c76 : am_okC ((5, 63), 0, 68) := ⟨by decide, (am_w2 49 rfl rfl), (am_w2 51 rfl rfl), (am_wp1 4 (n := 7) rfl rfl), by decide⟩
theorem am_c77 : am_okC ((5, 66), 0, 3) := ⟨by decide, (am_w2 28 rfl rfl), (am_w2 29 rfl rfl), (am_w2 30 rfl rfl), by decide⟩
theorem am_c78 : am_okC ((5, 70), 0, 4) := ⟨by decide, (am_w2 53 rfl rfl), (am_w2 54 rfl rfl), (am_w2 55 rfl rfl), by decide⟩
theorem am_c79 : am_okC ((5, 85), 0, 69) := ⟨by decide, (am_w2 155 rfl rfl), (am_w2 144 rfl rfl), (am_w2 145 rfl rfl), by decide⟩
theorem am_c80 : am_okC ((5, 89), 0, 6) := ⟨by decide, (am_w2 161 rfl rfl), (am_w2 162 rfl rfl), (am_w2 163 rfl rfl), by decide⟩
theorem am_c81 : am_okC ((5, 93), 0, 70) := ⟨by decide, (am_w2 160 rfl rfl), (am_w2 148 rfl rfl), (am_w2 149 rfl rfl), by decide⟩
theorem am_c82 : am_okC ((5, 96), 0, 74) := ⟨by decide, (am_w2 166 rfl rfl), (am_w2 122 rfl rfl), (am_w2 123 rfl rfl), by decide⟩
theorem am_c83 : am_okC ((5, 100), 0, 75) := ⟨by decide, (am_w2 125 rfl rfl), (am_w2 127 rfl rfl), (am_wp1 8 (n := 7) rfl rfl), by decide⟩
theorem am_c84 : am_okC ((5, 103), 0, 76) := ⟨by decide, (am_w2 130 rfl rfl), (am_w2 132 rfl rfl), (am_wp1 9 (n := 7) rfl rfl), by decide⟩
theorem am_c85 : am_okC ((5, 106), 0, 77) := ⟨by decide, (am_w2 135 rfl rfl), (am_w2 137 rfl rfl), (am_wp1 10 (n := 7) rfl rfl), by decide⟩
theorem am_c86 : am_okC ((5, 115), 0, 5) := ⟨by decide, (am_w2 129 rfl rfl), (am_w2 113 rfl rfl), (am_w2 114 rfl rfl), by decide⟩
theorem am_c87 : am_okC ((5, 118), 0, 60) := ⟨by decide, (am_w2 134 rfl rfl), (am_w2 73 rfl rfl), (am_w2 74 rfl rfl), by decide⟩
theorem am_c88 : am_okC ((6, 1), 4, 0) := (am_w1 17 rfl rfl)
theorem am_c89 : am_okC ((6, 9), 2, 57) := ⟨by decide, (am_w1 22 rfl rfl), (am_w1 23 rfl rfl), rfl⟩
theorem am_c90 : am_okC ((6, 18), 2, 20) := ⟨by decide, (am_w1 116 rfl rfl), (am_w1 117 rfl rfl), rfl⟩
theorem am_c91 : am_okC ((6, 25), 2, 7) := ⟨by decide, (am_w1 142 rfl rfl), (am_w1 143 rfl rfl), rfl⟩
theorem am_c92 : am_okC ((6, 32), 2, 44) := ⟨by decide, (am_w1 177 rfl rfl), (am_w1 178 rfl rfl), rfl⟩
theorem am_c93 : am_okC ((6, 39), 2, 34) := ⟨by decide, (am_w1 188 rfl rfl), (am_w1 189 rfl rfl), rfl⟩
theorem am_c94 : am_okC ((6, 55), 0, 58) := ⟨by decide, (am_w1 236 rfl rfl), (am_w1 237 rfl rfl), (am_w1 238 rfl rfl), by decide⟩
theorem am_c95 : am_okC ((6, 58), 0, 45) := ⟨by decide, (am_w2 0 rfl rfl), (am_w2 1 rfl rfl), (am_w2 2 rfl rfl), by decide⟩
theorem am_c96 : am_okC ((6, 61), 0, 103) := ⟨by decide, (am_w2 5 rfl rfl), (am_w2 7 rfl rfl), (am_wp1 0 (n := 7) rfl rfl), by decide⟩
theorem am_c97 : am_okC ((6, 64), 0, 99) := ⟨by decide, (am_w2 61 rfl rfl), (am_w2 63 rfl rfl), (am_wp1 5 (n := 7) rfl rfl), by decide⟩
theorem am_c98 : am_okC ((6, 68), 1, 102) := ⟨by decide, (am_w2 69 rfl rfl), (am_w2 70 rfl rfl)⟩
theorem am_c99 : am_okC ((6, 71), 0, 60) := ⟨by decide, (am_w2 72 rfl rfl), (am_w2 73 rfl rfl), (am_w2 74 rfl rfl), by decide⟩
theorem am_c100 : am_okC ((6, 75), 0, 61) := ⟨by decide, (am_w2 76 rfl rfl), (am_w2 77 rfl rfl), (am_w2 78 rfl rfl), by decide⟩
theorem am_c101 : am_okC ((6, 79), 0, 63) := ⟨by decide, (am_w2 88 rfl rfl), (am_w2 89 rfl rfl), (am_w2 90 rfl rfl), by decide⟩
theorem am_c102 : am_okC ((6, 83), 0, 59) := ⟨by decide, (am_w2 96 rfl rfl), (am_w2 97 rfl rfl), (am_w2 98 rfl rfl), by decide⟩
theorem am_c103 : am_okC ((6, 90), 0, 98) := ⟨by decide, (am_w2 65 rfl rfl), (am_w2 67 rfl rfl), (am_wp1 6 (n := 7) rfl rfl), by decide⟩
theorem am_c104 : am_okC ((6, 108), 0, 5) := ⟨by decide, (am_w2 112 rfl rfl), (am_w2 113 rfl rfl), (am_w2 114 rfl rfl), by decide⟩
theorem am_c105 : am_okC ((6, 112), 0, 74) := ⟨by decide, (am_w2 121 rfl rfl), (am_w2 122 rfl rfl), (am_w2 123 rfl rfl), by decide⟩
theorem am_c106 : am_okC ((6, 116), 0, 69) := ⟨by decide, (am_w2 143 rfl rfl), (am_w2 144 rfl rfl), (am_w2 145 rfl rfl), by decide⟩
theorem am_c107 : am_okC ((6, 120), 0, 70) := ⟨by decide, (am_w2 147 rfl rfl), (am_w2 148 rfl rfl), (am_w2 149 rfl rfl), by decide⟩
theorem am_c108 : am_okC ((6, 123), 0, 71) := ⟨by decide, (am_w2 151 rfl rfl), (am_w2 152 rfl rfl), (am_w2 153 rfl rfl), by decide⟩
theorem am_c109 : am_okC ((6, 126), 0, 73) := ⟨by decide, (am_w2 156 rfl rfl), (am_w2 157 rfl rfl), (am_w2 158 rfl rfl), by decide⟩
theorem am_c110 : am_okC ((6, 130), 0, 72) := ⟨by decide, (am_w2 167 rfl rfl), (am_w2 168 rfl rfl), (am_w2 169 rfl rfl), by decide⟩
theorem am_c111 : am_okC ((6, 136), 0, 6) := ⟨by decide, (am_w2 175 rfl rfl), (am_w2 162 rfl rfl), (am_w2 163 rfl rfl), by decide⟩
theorem am_c112 : am_okC ((6, 139), 0, 21) := ⟨by decide, (am_w2 176 rfl rfl), (am_w2 177 rfl rfl), (am_w2 178 rfl rfl), by decide⟩
theorem am_c113 : am_okC ((6, 149), 0, 22) := ⟨by decide, (am_w2 237 rfl rfl), (am_w2 238 rfl rfl), (am_w2 239 rfl rfl), by decide⟩
theorem am_c114 : am_okC ((6, 152), 0, 104) := ⟨by decide, (am_w3 5 rfl rfl), (am_w3 7 rfl rfl), (am_wp2 5 (n := 7) rfl rfl), by decide⟩
theorem am_c115 : am_okC ((6, 158), 0, 101) := ⟨by decide, (am_w3 69 rfl rfl), (am_w3 71 rfl rfl), (am_wp2 15 (n := 7) rfl rfl), by decide⟩
theorem am_c116 : am_okC ((6, 161), 0, 100) := ⟨by decide, (am_w3 73 rfl rfl), (am_w3 75 rfl rfl), (am_wp3 0 (n := 7) rfl rfl), by decide⟩
theorem am_c117 : am_okC ((6, 170), 0, 48) := ⟨by decide, (am_w3 85 rfl rfl), (am_w3 86 rfl rfl), (am_w3 87 rfl rfl), by decide⟩
theorem am_c118 : am_okC ((6, 174), 0, 49) := ⟨by decide, (am_w3 90 rfl rfl), (am_w3 91 rfl rfl), (am_w3 92 rfl rfl), by decide⟩
theorem am_c119 : am_okC ((6, 178), 0, 46) := ⟨by decide, (am_w3 98 rfl rfl), (am_w3 99 rfl rfl), (am_w3 100 rfl rfl), by decide⟩
theorem am_c120 : am_okC ((6, 181), 0, 51) := ⟨by decide, (am_w3 106 rfl rfl), (am_w3 107 rfl rfl), (am_w3 108 rfl rfl), by decide⟩
theorem am_c121 : am_okC ((6, 185), 0, 53) := ⟨by decide, (am_w3 116 rfl rfl), (am_w3 117 rfl rfl), (am_w3 118 rfl rfl), by decide⟩
theorem am_c122 : am_okC ((6, 188), 0, 50) := ⟨by decide, (am_w3 124 rfl rfl), (am_w3 125 rfl rfl), (am_w3 126 rfl rfl), by decide⟩
theorem am_c123 : am_okC ((6, 191), 0, 54) := ⟨by decide, (am_w3 130 rfl rfl), (am_w3 131 rfl rfl), (am_w3 132 rfl rfl), by decide⟩
theorem am_c124 : am_okC ((6, 194), 0, 47) := ⟨by decide, (am_w3 156 rfl rfl), (am_w3 149 rfl rfl), (am_w3 150 rfl rfl), by decide⟩
theorem am_c125 : am_okC ((6, 197), 0, 105) := ⟨by decide, (am_w3 157 rfl rfl), (am_w3 159 rfl rfl), (am_wp3 4 (n := 7) rfl rfl), by decide⟩
theorem am_c126 : am_okC ((6, 209), 0, 65) := ⟨by decide, (am_w2 9 rfl rfl), (am_w2 10 rfl rfl), (am_w2 11 rfl rfl), by decide⟩
theorem am_c127 : am_okC ((6, 212), 0, 8) := ⟨by decide, (am_w3 9 rfl rfl), (am_w3 10 rfl rfl), (am_w3 11 rfl rfl), by decide⟩
theorem am_c128 : am_okC ((6, 213), 0, 35) := ⟨by decide, (am_w3 161 rfl rfl), (am_w3 162 rfl rfl), (am_w3 163 rfl rfl), by decide⟩
theorem am_c129 : am_okC ((7, 1), 4, 0) := (am_w3 213 rfl rfl)
theorem am_c130 : am_okC ((7, 71), 1, 109) := ⟨by decide, (am_w4 74 rfl rfl), (am_w4 75 rfl rfl)⟩
theorem am_c131 : am_okC ((7, 75), 0, 110) := ⟨by decide, (am_w4 70 rfl rfl), (am_w4 72 rfl rfl), (am_wp3 13 (n := 26) rfl rfl), by decide⟩
theorem am_c132 : am_okC ((7, 79), 0, 112) := ⟨by decide, (am_w4 112 rfl rfl), (am_w4 114 rfl rfl), (am_wp4 2 (n := 26) rfl rfl), by decide⟩
theorem am_c133 : am_okC ((7, 83), 1, 114) := ⟨by decide, (am_w4 105 rfl rfl), (am_w4 106 rfl rfl)⟩
theorem am_c134 : am_okC ((7, 90), 0, 117) := ⟨by decide, (am_w4 97 rfl rfl), (am_w4 99 rfl rfl), (am_wp3 15 (n := 26) rfl rfl), by decide⟩
theorem am_c135 : am_okC ((7, 94), 0, 115) := ⟨by decide, (am_w4 101 rfl rfl), (am_w4 103 rfl rfl), (am_wp4 0 (n := 26) rfl rfl), by decide⟩
theorem am_c136 : am_okC ((7, 98), 0, 113) := ⟨by decide, (am_w4 108 rfl rfl), (am_w4 110 rfl rfl), (am_wp4 1 (n := 26) rfl rfl), by decide⟩
theorem am_c137 : am_okC ((7, 102), 0, 118) := ⟨by decide, (am_w4 116 rfl rfl), (am_w4 118 rfl rfl), (am_wp4 3 (n := 26) rfl rfl), by decide⟩
theorem am_c138 : am_okC ((7, 105), 0, 119) := ⟨by decide, (am_w4 120 rfl rfl), (am_w4 122 rfl rfl), (am_wp4 4 (n := 26) rfl rfl), by decide⟩
theorem am_c139 : am_okC ((7, 108), 0, 124) := ⟨by decide, (am_w4 132 rfl rfl), (am_w4 134 rfl rfl), (am_wp4 6 (n := 26) rfl rfl), by decide⟩
theorem am_c140 : am_okC ((7, 111), 0, 127) := ⟨by decide, (am_w4 58 rfl rfl), (am_w4 60 rfl rfl), (am_wp3 11 (n := 26) rfl rfl), by decide⟩
theorem am_c141 : am_okC ((7, 114), 0, 111) := ⟨by decide, (am_w4 66 rfl rfl), (am_w4 68 rfl rfl), (am_wp3 12 (n := 26) rfl rfl), by decide⟩
theorem am_c142 : am_okC ((7, 118), 0, 116) := ⟨by decide, (am_w4 93 rfl rfl), (am_w4 95 rfl rfl), (am_wp3 14 (n := 26) rfl rfl), by decide⟩
theorem am_c143 : am_okC ((7, 121), 0, 122) := ⟨by decide, (am_w4 128 rfl rfl), (am_w4 130 rfl rfl), (am_wp4 5 (n := 26) rfl rfl), by decide⟩
theorem am_c144 : am_okC ((7, 125), 0, 123) := ⟨by decide, (am_w4 140 rfl rfl), (am_w4 142 rfl rfl), (am_wp4 7 (n := 26) rfl rfl), by decide⟩
theorem am_c145 : am_okC ((7, 129), 0, 134) := ⟨by decide, (am_w4 145 rfl rfl), (am_w4 147 rfl rfl), (am_wp4 8 (n := 26) rfl rfl), by decide⟩
theorem am_c146 : am_okC ((7, 132), 0, 136) := ⟨by decide, (am_w4 161 rfl rfl), (am_w4 163 rfl rfl), (am_wp4 11 (n := 26) rfl rfl), by decide⟩
theorem am_c147 : am_okC ((7, 136), 0, 125) := ⟨by decide, (am_w4 169 rfl rfl), (am_w4 171 rfl rfl), (am_wp4 13 (n := 26) rfl rfl), by decide⟩
theorem am_c148 : am_okC ((7, 140), 0, 138) := ⟨by decide, (am_w4 177 rfl rfl), (am_w4 179 rfl rfl), (am_wp4 15 (n := 26) rfl rfl), by decide⟩
theorem am_c149 : am_okC ((7, 143), 0, 121) := ⟨by decide, (am_w4 153 rfl rfl), (am_w4 155 rfl rfl), (am_wp4 9 (n := 26) rfl rfl), by decide⟩
theorem am_c150 : am_okC ((7, 147), 0, 120) := ⟨by decide, (am_w4 157 rfl rfl), (am_w4 159 rfl rfl), (am_wp4 10 (n := 26) rfl rfl), by decide⟩
theorem am_c151 : am_okC ((7, 150), 0, 137) := ⟨by decide, (am_w4 165 rfl rfl), (am_w4 167 rfl rfl), (am_wp4 12 (n := 26) rfl rfl), by decide⟩
theorem am_c152 : am_okC ((7, 153), 0, 139) := ⟨by decide, (am_w4 173 rfl rfl), (am_w4 175 rfl rfl), (am_wp4 14 (n := 26) rfl rfl), by decide⟩
theorem am_c153 : am_okC ((7, 156), 0, 140) := ⟨by decide, (am_w4 181 rfl rfl), (am_w4 183 rfl rfl), (am_wp5 0 (n := 26) rfl rfl), by decide⟩
theorem am_c154 : am_okC ((7, 167), 0, 142) := ⟨by decide, (am_w4 193 rfl rfl), (am_w4 195 rfl rfl), (am_wp5 2 (n := 26) rfl rfl), by decide⟩
theorem am_c155 : am_okC ((7, 170), 0, 143) := ⟨by decide, (am_w4 197 rfl rfl), (am_w4 199 rfl rfl), (am_wp5 3 (n := 26) rfl rfl), by decide⟩
theorem am_c156 : am_okC ((7, 173), 0, 145) := ⟨by decide, (am_w4 206 rfl rfl), (am_w4 208 rfl rfl), (am_wp5 5 (n := 26) rfl rfl), by decide⟩
theorem am_c157 : am_okC ((7, 177), 0, 144) := ⟨by decide, (am_w4 189 rfl rfl), (am_w4 191 rfl rfl), (am_wp5 1 (n := 26) rfl rfl), by decide⟩
theorem am_c158 : am_okC ((7, 180), 0, 146) := ⟨by decide, (am_w4 202 rfl rfl), (am_w4 204 rfl rfl), (am_wp5 4 (n := 26) rfl rfl), by decide⟩
theorem am_c159 : am_okC ((7, 183), 0, 147) := ⟨by decide, (am_w4 210 rfl rfl), (am_w4 212 rfl rfl), (am_wp5 6 (n := 26) rfl rfl), by decide⟩
theorem am_c160 : am_okC ((7, 186), 1, 149) := ⟨by decide, (am_w4 226 rfl rfl), (am_w4 227 rfl rfl)⟩
theorem am_c161 : am_okC ((7, 192), 0, 152) := ⟨by decide, (am_w5 4 rfl rfl), (am_w5 6 rfl rfl), (am_wp5 12 (n := 26) rfl rfl), by decide⟩
theorem am_c162 : am_okC ((7, 198), 1, 155) := ⟨by decide, (am_w5 1 rfl rfl), (am_w5 2 rfl rfl)⟩
theorem am_c163 : am_okC ((7, 201), 0, 151) := ⟨by decide, (am_w4 233 rfl rfl), (am_w4 235 rfl rfl), (am_wp5 10 (n := 26) rfl rfl), by decide⟩
theorem am_c164 : am_okC ((7, 204), 0, 156) := ⟨by decide, (am_w4 237 rfl rfl), (am_w4 239 rfl rfl), (am_wp5 11 (n := 26) rfl rfl), by decide⟩
theorem am_c165 : am_okC ((7, 208), 0, 153) := ⟨by decide, (am_w5 8 rfl rfl), (am_w5 10 rfl rfl), (am_wp5 13 (n := 26) rfl rfl), by decide⟩
theorem am_c166 : am_okC ((7, 211), 0, 154) := ⟨by decide, (am_w5 12 rfl rfl), (am_w5 14 rfl rfl), (am_wp5 14 (n := 26) rfl rfl), by decide⟩
theorem am_c167 : am_okC ((7, 214), 0, 150) := ⟨by decide, (am_w4 222 rfl rfl), (am_w4 224 rfl rfl), (am_wp5 8 (n := 26) rfl rfl), by decide⟩
theorem am_c168 : am_okC ((7, 218), 0, 157) := ⟨by decide, (am_w4 229 rfl rfl), (am_w4 231 rfl rfl), (am_wp5 9 (n := 26) rfl rfl), by decide⟩
theorem am_c169 : am_okC ((7, 221), 0, 158) := ⟨by decide, (am_w5 16 rfl rfl), (am_w5 18 rfl rfl), (am_wp5 15 (n := 26) rfl rfl), by decide⟩
theorem am_c170 : am_okC ((7, 224), 0, 159) := ⟨by decide, (am_w5 20 rfl rfl), (am_w5 22 rfl rfl), (am_wp6 0 (n := 26) rfl rfl), by decide⟩
theorem am_c171 : am_okC ((7, 227), 0, 160) := ⟨by decide, (am_w4 218 rfl rfl), (am_w4 220 rfl rfl), (am_wp5 7 (n := 26) rfl rfl), by decide⟩
theorem am_c172 : am_okC ((7, 230), 0, 166) := ⟨by decide, (am_w5 44 rfl rfl), (am_w5 46 rfl rfl), (am_wp6 1 (n := 26) rfl rfl), by decide⟩
theorem am_c173 : am_okC ((7, 233), 0, 167) := ⟨by decide, (am_w5 52 rfl rfl), (am_w5 41 rfl rfl), (am_w5 42 rfl rfl), by decide⟩
theorem am_c174 : am_okC ((7, 236), 0, 168) := ⟨by decide, (am_w5 53 rfl rfl), (am_w5 55 rfl rfl), (am_wp6 2 (n := 26) rfl rfl), by decide⟩
theorem am_c175 : am_okC ((7, 239), 0, 172) := ⟨by decide, (am_w5 69 rfl rfl), (am_w5 71 rfl rfl), (am_wp6 5 (n := 26) rfl rfl), by decide⟩
theorem am_c176 : am_okC ((7, 242), 0, 170) := ⟨by decide, (am_w5 73 rfl rfl), (am_w5 75 rfl rfl), (am_wp6 6 (n := 26) rfl rfl), by decide⟩
theorem am_c177 : am_okC ((7, 245), 0, 171) := ⟨by decide, (am_w5 77 rfl rfl), (am_w5 79 rfl rfl), (am_wp6 7 (n := 26) rfl rfl), by decide⟩
theorem am_c178 : am_okC ((7, 254), 0, 173) := ⟨by decide, (am_w5 65 rfl rfl), (am_w5 67 rfl rfl), (am_wp6 4 (n := 26) rfl rfl), by decide⟩
theorem am_c179 : am_okC ((7, 257), 0, 174) := ⟨by decide, (am_w5 61 rfl rfl), (am_w5 63 rfl rfl), (am_wp6 3 (n := 26) rfl rfl), by decide⟩
theorem am_c180 : am_okC ((7, 260), 0, 176) := ⟨by decide, (am_w5 85 rfl rfl), (am_w5 87 rfl rfl), (am_wp6 8 (n := 26) rfl rfl), by decide⟩
theorem am_c181 : am_okC ((7, 263), 0, 177) := ⟨by decide, (am_w5 89 rfl rfl), (am_w5 91 rfl rfl), (am_wp6 9 (n := 26) rfl rfl), by decide⟩
theorem am_c182 : am_okC ((8, 9), 2, 78) := ⟨by decide, (am_w1 14 rfl rfl), (am_w1 15 rfl rfl), rfl⟩
theorem am_c183 : am_okC ((8, 12), 2, 108) := ⟨by decide, (am_w3 210 rfl rfl), (am_w3 211 rfl rfl), rfl⟩
theorem am_c184 : am_okC ((8, 13), 0, 79) := ⟨by decide, (am_w1 232 rfl rfl), (am_w1 233 rfl rfl), (am_w1 234 rfl rfl), by decide⟩
theorem am_c185 : am_okC ((8, 17), 0, 126) := ⟨by decide, (am_w4 54 rfl rfl), (am_w4 55 rfl rfl), (am_w4 56 rfl rfl), by decide⟩
theorem am_c186 : am_okC ((8, 18), 0, 80) := ⟨by decide, (am_w2 57 rfl rfl), (am_w2 58 rfl rfl), (am_w2 59 rfl rfl), by decide⟩
theorem am_c187 : am_okC ((8, 22), 0, 128) := ⟨by decide, (am_w4 62 rfl rfl), (am_w4 63 rfl rfl), (am_w4 64 rfl rfl), by decide⟩
theorem am_c188 : am_okC ((8, 23), 0, 81) := ⟨by decide, (am_w2 84 rfl rfl), (am_w2 85 rfl rfl), (am_w2 86 rfl rfl), by decide⟩
theorem am_c189 : am_okC ((8, 27), 0, 129) := ⟨by decide, (am_w4 77 rfl rfl), (am_w4 78 rfl rfl), (am_w4 79 rfl rfl), by decide⟩
theorem am_c190 : am_okC ((8, 28), 0, 82) := ⟨by decide, (am_w2 92 rfl rfl), (am_w2 93 rfl rfl), (am_w2 94 rfl rfl), by decide⟩
theorem am_c191 : am_okC ((8, 31), 0, 130) := ⟨by decide, (am_w4 81 rfl rfl), (am_w4 82 rfl rfl), (am_w4 83 rfl rfl), by decide⟩
theorem am_c192 : am_okC ((8, 32), 0, 83) := ⟨by decide, (am_w2 100 rfl rfl), (am_w2 101 rfl rfl), (am_w2 102 rfl rfl), by decide⟩
theorem am_c193 : am_okC ((8, 36), 0, 131) := ⟨by decide, (am_w4 85 rfl rfl), (am_w4 86 rfl rfl), (am_w4 87 rfl rfl), by decide⟩
theorem am_c194 : am_okC ((8, 37), 0, 84) := ⟨by decide, (am_w2 104 rfl rfl), (am_w2 105 rfl rfl), (am_w2 106 rfl rfl), by decide⟩
theorem am_c195 : am_okC ((8, 40), 0, 132) := ⟨by decide, (am_w4 89 rfl rfl), (am_w4 90 rfl rfl), (am_w4 91 rfl rfl), by decide⟩
theorem am_c196 : am_okC ((8, 41), 0, 85) := ⟨by decide, (am_w2 108 rfl rfl), (am_w2 109 rfl rfl), (am_w2 110 rfl rfl), by decide⟩
theorem am_c197 : am_okC ((8, 45), 0, 133) := ⟨by decide, (am_w4 124 rfl rfl), (am_w4 125 rfl rfl), (am_w4 126 rfl rfl), by decide⟩
theorem am_c198 : am_okC ((8, 46), 0, 86) := ⟨by decide, (am_w2 116 rfl rfl), (am_w2 117 rfl rfl), (am_w2 118 rfl rfl), by decide⟩
theorem am_c199 : am_okC ((8, 49), 0, 135) := ⟨by decide, (am_w4 136 rfl rfl), (am_w4 137 rfl rfl), (am_w4 138 rfl rfl), by decide⟩
theorem am_c200 : am_okC ((8, 50), 0, 87) := ⟨by decide, (am_w2 139 rfl rfl), (am_w2 140 rfl rfl), (am_w2 141 rfl rfl), by decide⟩
theorem am_c201 : am_okC ((8, 53), 0, 141) := ⟨by decide, (am_w4 149 rfl rfl), (am_w4 150 rfl rfl), (am_w4 151 rfl rfl), by decide⟩
theorem am_c202 : am_okC ((8, 54), 0, 88) := ⟨by decide, (am_w2 171 rfl rfl), (am_w2 172 rfl rfl), (am_w2 173 rfl rfl), by decide⟩
theorem am_c203 : am_okC ((8, 57), 0, 148) := ⟨by decide, (am_w4 185 rfl rfl), (am_w4 186 rfl rfl), (am_w4 187 rfl rfl), by decide⟩
theorem am_c204 : am_okC ((8, 58), 0, 89) := ⟨by decide, (am_w3 1 rfl rfl), (am_w3 2 rfl rfl), (am_w3 3 rfl rfl), by decide⟩
theorem am_c205 : am_okC ((8, 61), 0, 161) := ⟨by decide, (am_w4 214 rfl rfl), (am_w4 215 rfl rfl), (am_w4 216 rfl rfl), by decide⟩
theorem am_c206 : am_okC ((8, 62), 0, 90) := ⟨by decide, (am_w3 65 rfl rfl), (am_w3 66 rfl rfl), (am_w3 67 rfl rfl), by decide⟩
theorem am_c207 : am_okC ((8, 65), 0, 162) := ⟨by decide, (am_w5 24 rfl rfl), (am_w5 25 rfl rfl), (am_w5 26 rfl rfl), by decide⟩
theorem am_c208 : am_okC ((8, 66), 0, 91) := ⟨by decide, (am_w3 77 rfl rfl), (am_w3 78 rfl rfl), (am_w3 79 rfl rfl), by decide⟩
theorem am_c209 : am_okC ((8, 69), 0, 163) := ⟨by decide, (am_w5 28 rfl rfl), (am_w5 29 rfl rfl), (am_w5 30 rfl rfl), by decide⟩
theorem am_c210 : am_okC ((8, 70), 0, 92) := ⟨by decide, (am_w3 81 rfl rfl), (am_w3 82 rfl rfl), (am_w3 83 rfl rfl), by decide⟩
theorem am_c211 : am_okC ((8, 73), 0, 164) := ⟨by decide, (am_w5 32 rfl rfl), (am_w5 33 rfl rfl), (am_w5 34 rfl rfl), by decide⟩
theorem am_c212 : am_okC ((8, 74), 0, 93) := ⟨by decide, (am_w3 94 rfl rfl), (am_w3 95 rfl rfl), (am_w3 96 rfl rfl), by decide⟩
theorem am_c213 : am_okC ((8, 77), 0, 165) := ⟨by decide, (am_w5 36 rfl rfl), (am_w5 37 rfl rfl), (am_w5 38 rfl rfl), by decide⟩
theorem am_c214 : am_okC ((8, 78), 0, 94) := ⟨by decide, (am_w3 102 rfl rfl), (am_w3 103 rfl rfl), (am_w3 104 rfl rfl), by decide⟩
theorem am_c215 : am_okC ((8, 81), 0, 167) := ⟨by decide, (am_w5 40 rfl rfl), (am_w5 41 rfl rfl), (am_w5 42 rfl rfl), by decide⟩
theorem am_c216 : am_okC ((8, 82), 0, 95) := ⟨by decide, (am_w3 120 rfl rfl), (am_w3 121 rfl rfl), (am_w3 122 rfl rfl), by decide⟩
theorem am_c217 : am_okC ((8, 85), 0, 169) := ⟨by decide, (am_w5 48 rfl rfl), (am_w5 49 rfl rfl), (am_w5 50 rfl rfl), by decide⟩
theorem am_c218 : am_okC ((8, 86), 0, 96) := ⟨by decide, (am_w3 152 rfl rfl), (am_w3 153 rfl rfl), (am_w3 154 rfl rfl), by decide⟩
theorem am_c219 : am_okC ((8, 89), 0, 175) := ⟨by decide, (am_w5 57 rfl rfl), (am_w5 58 rfl rfl), (am_w5 59 rfl rfl), by decide⟩
theorem am_c220 : am_okC ((8, 90), 0, 97) := ⟨by decide, (am_w3 204 rfl rfl), (am_w3 205 rfl rfl), (am_w3 206 rfl rfl), by decide⟩
theorem am_c221 : am_okC ((8, 93), 0, 178) := ⟨by decide, (am_w5 81 rfl rfl), (am_w5 82 rfl rfl), (am_w5 83 rfl rfl), by decide⟩
set_option maxRecDepth 20000 in
theorem am_ckC_ok : ∀ q ∈ am_ctL, am_okC q := List.forall_mem_cons.mpr ⟨am_c0, List.forall_mem_cons.mpr ⟨am_c1, List.forall_mem_cons.mpr ⟨am_c2, List.forall_mem_cons.mpr ⟨am_c3, List.forall_mem_cons.mpr ⟨am_c4, List.forall_mem_cons.mpr ⟨am_c5, List.forall_mem_cons.mpr ⟨am_c6, List.forall_mem_cons.mpr ⟨am_c7, List.forall_mem_cons.mpr ⟨am_c8, List.forall_mem_cons.mpr ⟨am_c9, List.forall_mem_cons.mpr ⟨am_c10, List.forall_mem_cons.mpr ⟨am_c11, List.forall_mem_cons.mpr ⟨am_c12, List.forall_mem_cons.mpr ⟨am_c13, List.forall_mem_cons.mpr ⟨am_c14, List.forall_mem_cons.mpr ⟨am_c15, List.forall_mem_cons.mpr ⟨am_c16, List.forall_mem_cons.mpr ⟨am_c17, List.forall_mem_cons.mpr ⟨am_c18, List.forall_mem_cons.mpr ⟨am_c19, List.forall_mem_cons.mpr ⟨am_c20, List.forall_mem_cons.mpr ⟨am_c21, List.forall_mem_cons.mpr ⟨am_c22, List.forall_mem_cons.mpr ⟨am_c23, List.forall_mem_cons.mpr ⟨am_c24, List.forall_mem_cons.mpr ⟨am_c25, List.forall_mem_cons.mpr ⟨am_c26, List.forall_mem_cons.mpr ⟨am_c27, List.forall_mem_cons.mpr ⟨am_c28, List.forall_mem_cons.mpr ⟨am_c29, List.forall_mem_cons.mpr ⟨am_c30, List.forall_mem_cons.mpr ⟨am_c31, List.forall_mem_cons.mpr ⟨am_c32, List.forall_mem_cons.mpr ⟨am_c33, List.forall_mem_cons.mpr ⟨am_c34, List.forall_mem_cons.mpr ⟨am_c35, List.forall_mem_cons.mpr ⟨am_c36, List.forall_mem_cons.mpr ⟨am_c37, List.forall_mem_cons.mpr ⟨am_c38, List.forall_mem_cons.mpr ⟨am_c39, List.forall_mem_cons.mpr ⟨am_c40, List.forall_mem_cons.mpr ⟨am_c41, List.forall_mem_cons.mpr ⟨am_c42, List.forall_mem_cons.mpr ⟨am_c43, List.forall_mem_cons.mpr ⟨am_c44, List.forall_mem_cons.mpr ⟨am_c45, List.forall_mem_cons.mpr ⟨am_c46, List.forall_mem_cons.mpr ⟨am_c47, List.forall_mem_cons.mpr ⟨am_c48, List.forall_mem_cons.mpr ⟨am_c49, List.forall_mem_cons.mpr ⟨am_c50, List.forall_mem_cons.mpr ⟨am_c51, List.forall_mem_cons.mpr ⟨am_c52, List.forall_mem_cons.mpr ⟨am_c53, List.forall_mem_cons.mpr ⟨am_c54, List.forall_mem_cons.mpr ⟨am_c55, List.forall_mem_cons.mpr ⟨am_c56, List.forall_mem_cons.mpr ⟨am_c57, List.forall_mem_cons.mpr ⟨am_c58, List.forall_mem_cons.mpr ⟨am_c59, List.forall_mem_cons.mpr ⟨am_c60, List.forall_mem_cons.mpr ⟨am_c61, List.forall_mem_cons.mpr ⟨am_c62, List.forall_mem_cons.mpr ⟨am_c63, List.forall_mem_cons.mpr ⟨am_c64, List.forall_mem_cons.mpr ⟨am_c65, List.forall_mem_cons.mpr ⟨am_c66, List.forall_mem_cons.mpr ⟨am_c67, List.forall_mem_cons.mpr ⟨am_c68, List.forall_mem_cons.mpr ⟨am_c69, List.forall_mem_cons.mpr ⟨am_c70, List.forall_mem_cons.mpr ⟨am_c71, List.forall_mem_cons.mpr ⟨am_c72, List.forall_mem_cons.mpr ⟨am_c73, List.forall_mem_cons.mpr ⟨am_c74, List.forall_mem_cons.mpr ⟨am_c75, List.forall_mem_cons.mpr ⟨am_c76, List.forall_mem_cons.mpr ⟨am_c77, List.forall_mem_cons.mpr ⟨am_c78, List.forall_mem_cons.mpr ⟨am_c79, List.forall_mem_cons.mpr ⟨am_c80, List.forall_mem_cons.mpr ⟨am_c81, List.forall_mem_cons.mpr ⟨am_c82, List.forall_mem_cons.mpr ⟨am_c83, List.forall_mem_cons.mpr ⟨am_c84, List.forall_mem_cons.mpr ⟨am_c85, List.forall_mem_cons.mpr ⟨am_c86, List.forall_mem_cons.mpr ⟨am_c87, List.forall_mem_cons.mpr ⟨am_c88, List.forall_mem_cons.mpr ⟨am_c89, List.forall_mem_cons.mpr ⟨am_c90, List.forall_mem_cons.mpr ⟨am_c91, List.forall_mem_cons.mpr ⟨am_c92, List.forall_mem_cons.mpr ⟨am_c93, List.forall_mem_cons.mpr ⟨am_c94, List.forall_mem_cons.mpr ⟨am_c95, List.forall_mem_cons.mpr ⟨am_c96, List.forall_mem_cons.mpr ⟨am_c97, List.forall_mem_cons.mpr ⟨am_c98, List.forall_mem_cons.mpr ⟨am_c99, List.forall_mem_cons.mpr ⟨am_c100, List.forall_mem_cons.mpr ⟨am_c101, List.forall_mem_cons.mpr ⟨am_c102, List.forall_mem_cons.mpr ⟨am_c103, List.forall_mem_cons.mpr ⟨am_c104, List.forall_mem_cons.mpr ⟨am_c105, List.forall_mem_cons.mpr ⟨am_c106, List.forall_mem_cons.mpr ⟨am_c107, List.forall_mem_cons.mpr ⟨am_c108, List.forall_mem_cons.mpr ⟨am_c109, List.forall_mem_cons.mpr ⟨am_c110, List.forall_mem_cons.mpr ⟨am_c111, List.forall_mem_cons.mpr ⟨am_c112, List.forall_mem_cons.mpr ⟨am_c113, List.forall_mem_cons.mpr ⟨am_c114, List.forall_mem_cons.mpr ⟨am_c115, List.forall_mem_cons.mpr ⟨am_c116, List.forall_mem_cons.mpr ⟨am_c117, List.forall_mem_cons.mpr ⟨am_c118, List.forall_mem_cons.mpr ⟨am_c119, List.forall_mem_cons.mpr ⟨am_c120, List.forall_mem_cons.mpr ⟨am_c121, List.forall_mem_cons.mpr ⟨am_c122, List.forall_mem_cons.mpr ⟨am_c123, List.forall_mem_cons.mpr ⟨am_c124, List.forall_mem_cons.mpr ⟨am_c125, List.forall_mem_cons.mpr ⟨am_c126, List.forall_mem_cons.mpr ⟨am_c127, List.forall_mem_cons.mpr ⟨am_c128, List.forall_mem_cons.mpr ⟨am_c129, List.forall_mem_cons.mpr ⟨am_c130, List.forall_mem_cons.mpr ⟨am_c131, List.forall_mem_cons.mpr ⟨am_c132, List.forall_mem_cons.mpr ⟨am_c133, List.forall_mem_cons.mpr ⟨am_c134, List.forall_mem_cons.mpr ⟨am_c135, List.forall_mem_cons.mpr ⟨am_c136, List.forall_mem_cons.mpr ⟨am_c137, List.forall_mem_cons.mpr ⟨am_c138, List.forall_mem_cons.mpr ⟨am_c139, List.forall_mem_cons.mpr ⟨am_c140, List.forall_mem_cons.mpr ⟨am_c141, List.forall_mem_cons.mpr ⟨am_c142, List.forall_mem_cons.mpr ⟨am_c143, List.forall_mem_cons.mpr ⟨am_c144, List.forall_mem_cons.mpr ⟨am_c145, List.forall_mem_cons.mpr ⟨am_c146, List.forall_mem_cons.mpr ⟨am_c147, List.forall_mem_cons.mpr ⟨am_c148, List.forall_mem_cons.mpr ⟨am_c149, List.forall_mem_cons.mpr ⟨am_c150, List.forall_mem_cons.mpr ⟨am_c151, List.forall_mem_cons.mpr ⟨am_c152, List.forall_mem_cons.mpr ⟨am_c153, List.forall_mem_cons.mpr ⟨am_c154, List.forall_mem_cons.mpr ⟨am_c155, List.forall_mem_cons.mpr ⟨am_c156, List.forall_mem_cons.mpr ⟨am_c157, List.forall_mem_cons.mpr ⟨am_c158, List.forall_mem_cons.mpr ⟨am_c159, List.forall_mem_cons.mpr ⟨am_c160, List.forall_mem_cons.mpr ⟨am_c161, List.forall_mem_cons.mpr ⟨am_c162, List.forall_mem_cons.mpr ⟨am_c163, List.forall_mem_cons.mpr ⟨am_c164, List.forall_mem_cons.mpr ⟨am_c165, List.forall_mem_cons.mpr ⟨am_c166, List.forall_mem_cons.mpr ⟨am_c167, List.forall_mem_cons.mpr ⟨am_c168, List.forall_mem_cons.mpr ⟨am_c169, List.forall_mem_cons.mpr ⟨am_c170, List.forall_mem_cons.mpr ⟨am_c171, List.forall_mem_cons.mpr ⟨am_c172, List.forall_mem_cons.mpr ⟨am_c173, List.forall_mem_cons.mpr ⟨am_c174, List.forall_mem_cons.mpr ⟨am_c175, List.forall_mem_cons.mpr ⟨am_c176, List.forall_mem_cons.mpr ⟨am_c177, List.forall_mem_cons.mpr ⟨am_c178, List.forall_mem_cons.mpr ⟨am_c179, List.forall_mem_cons.mpr ⟨am_c180, List.forall_mem_cons.mpr ⟨am_c181, List.forall_mem_cons.mpr ⟨am_c182, List.forall_mem_cons.mpr ⟨am_c183, List.forall_mem_cons.mpr ⟨am_c184, List.forall_mem_cons.mpr ⟨am_c185, List.forall_mem_cons.mpr ⟨am_c186, List.forall_mem_cons.mpr ⟨am_c187, List.forall_mem_cons.mpr ⟨am_c188, List.forall_mem_cons.mpr ⟨am_c189, List.forall_mem_cons.mpr ⟨am_c190, List.forall_mem_cons.mpr ⟨am_c191, List.forall_mem_cons.mpr ⟨am_c192, List.forall_mem_cons.mpr ⟨am_c193, List.forall_mem_cons.mpr ⟨am_c194, List.forall_mem_cons.mpr ⟨am_c195, List.forall_mem_cons.mpr ⟨am_c196, List.forall_mem_cons.mpr ⟨am_c197, List.forall_mem_cons.mpr ⟨am_c198, List.forall_mem_cons.mpr ⟨am_c199, List.forall_mem_cons.mpr ⟨am_c200, List.forall_mem_cons.mpr ⟨am_c201, List.forall_mem_cons.mpr ⟨am_c202, List.forall_mem_cons.mpr ⟨am_c203, List.forall_mem_cons.mpr ⟨am_c204, List.forall_mem_cons.mpr ⟨am_c205, List.forall_mem_cons.mpr ⟨am_c206, List.forall_mem_cons.mpr ⟨am_c207, List.forall_mem_cons.mpr ⟨am_c208, List.forall_mem_cons.mpr ⟨am_c209, List.forall_mem_cons.mpr ⟨am_c210, List.forall_mem_cons.mpr ⟨am_c211, List.forall_mem_cons.mpr ⟨am_c212, List.forall_mem_cons.mpr ⟨am_c213, List.forall_mem_cons.mpr ⟨am_c214, List.forall_mem_cons.mpr ⟨am_c215, List.forall_mem_cons.mpr ⟨am_c216, List.forall_mem_cons.mpr ⟨am_c217, List.forall_mem_cons.mpr ⟨am_c218, List.forall_mem_cons.mpr ⟨am_c219, List.forall_mem_cons.mpr ⟨am_c220, List.forall_mem_cons.mpr ⟨am_c221, fun _ h => absurd h List.not_mem_nil⟩⟩⟩⟩⟩⟩⟩⟩⟩⟩⟩⟩⟩⟩⟩⟩⟩⟩⟩⟩⟩⟩⟩⟩⟩⟩⟩⟩⟩⟩⟩⟩⟩⟩⟩⟩⟩⟩⟩⟩⟩⟩⟩⟩⟩⟩⟩⟩⟩⟩⟩⟩⟩⟩⟩⟩⟩⟩⟩⟩⟩⟩⟩⟩⟩⟩⟩⟩⟩⟩⟩⟩⟩⟩⟩⟩⟩⟩⟩⟩⟩⟩⟩⟩⟩⟩⟩⟩⟩⟩⟩⟩⟩⟩⟩⟩⟩⟩⟩⟩⟩⟩⟩⟩⟩⟩⟩⟩⟩⟩⟩⟩⟩⟩⟩⟩⟩⟩⟩⟩⟩⟩⟩⟩⟩⟩⟩⟩⟩⟩⟩⟩⟩⟩⟩⟩⟩⟩⟩⟩⟩⟩⟩⟩⟩⟩⟩⟩⟩⟩⟩⟩⟩⟩⟩⟩⟩⟩⟩⟩⟩⟩⟩⟩⟩⟩⟩⟩⟩⟩⟩⟩⟩⟩⟩⟩⟩⟩⟩⟩⟩⟩⟩⟩⟩⟩⟩⟩⟩⟩⟩⟩⟩⟩⟩⟩⟩⟩⟩⟩⟩⟩⟩⟩⟩⟩⟩⟩⟩⟩⟩⟩⟩⟩⟩⟩⟩⟩⟩⟩⟩⟩
def am_okF (q : (Nat × Nat) × Nat × Nat) : Prop := q.2.1 < 8 ∧ q.2.2 < (am_C q.2.1).2.2 ∧ Cond.fieldLink (am_cn q.1.1) q.1.2 ((am_C q.2.1).2.1 q.2.2).1 ((am_C q.2.1).2.1 q.2.2).2.1 ((am_C q.2.1).2.1 q.2.2).2.2.1 ∈ am_words
theorem am_f0 : am_okF ((0, 7), 0, 0) := ⟨by decide, by decide, (am_w1 32 rfl rfl)⟩
theorem am_f1 : am_okF ((0, 13), 0, 1) := ⟨by decide, by decide, (am_w1 33 rfl rfl)⟩
theorem am_f2 : am_okF ((0, 16), 0, 2) := ⟨by decide, by decide, (am_w1 34 rfl rfl)⟩
theorem am_f3 : am_okF ((0, 20), 0, 3) := ⟨by decide, by decide, (am_w1 35 rfl rfl)⟩
theorem am_f4 : am_okF ((0, 23), 0, 4) := ⟨by decide, by decide, (am_w1 39 rfl rfl)⟩
theorem am_f5 : am_okF ((0, 32), 0, 5) := ⟨by decide, by decide, (am_w1 44 rfl rfl)⟩
theorem am_f6 : am_okF ((0, 43), 0, 6) := ⟨by decide, by decide, (am_w1 46 rfl rfl)⟩
theorem am_f7 : am_okF ((1, 13), 1, 2) := ⟨by decide, by decide, (am_w1 151 rfl rfl)⟩
theorem am_f8 : am_okF ((1, 16), 1, 3) := ⟨by decide, by decide, (am_w1 153 rfl rfl)⟩
theorem am_f9 : am_okF ((1, 20), 1, 4) := ⟨by decide, by decide, (am_w1 154 rfl rfl)⟩
theorem am_f10 : am_okF ((1, 23), 1, 6) := ⟨by decide, by decide, (am_w1 156 rfl rfl)⟩
theorem am_f11 : am_okF ((1, 26), 1, 7) := ⟨by decide, by decide, (am_w1 157 rfl rfl)⟩
theorem am_f12 : am_okF ((1, 29), 5, 0) := ⟨by decide, by decide, (am_w1 73 rfl rfl)⟩
theorem am_f13 : am_okF ((1, 43), 5, 2) := ⟨by decide, by decide, (am_w1 80 rfl rfl)⟩
theorem am_f14 : am_okF ((1, 46), 5, 3) := ⟨by decide, by decide, (am_w1 86 rfl rfl)⟩
theorem am_f15 : am_okF ((1, 59), 1, 0) := ⟨by decide, by decide, (am_w1 148 rfl rfl)⟩
theorem am_f16 : am_okF ((1, 62), 1, 1) := ⟨by decide, by decide, (am_w1 149 rfl rfl)⟩
theorem am_f17 : am_okF ((1, 75), 1, 5) := ⟨by decide, by decide, (am_w1 155 rfl rfl)⟩
theorem am_f18 : am_okF ((2, 13), 2, 0) := ⟨by decide, by decide, (am_w1 122 rfl rfl)⟩
theorem am_f19 : am_okF ((2, 16), 2, 1) := ⟨by decide, by decide, (am_w1 123 rfl rfl)⟩
theorem am_f20 : am_okF ((2, 24), 2, 2) := ⟨by decide, by decide, (am_w1 124 rfl rfl)⟩
theorem am_f21 : am_okF ((2, 28), 5, 5) := ⟨by decide, by decide, (am_w1 93 rfl rfl)⟩
theorem am_f22 : am_okF ((2, 34), 0, 6) := ⟨by decide, by decide, (am_w1 45 rfl rfl)⟩
theorem am_f23 : am_okF ((2, 39), 0, 4) := ⟨by decide, by decide, (am_w1 40 rfl rfl)⟩
theorem am_f24 : am_okF ((2, 46), 2, 4) := ⟨by decide, by decide, (am_w1 126 rfl rfl)⟩
theorem am_f25 : am_okF ((2, 49), 2, 3) := ⟨by decide, by decide, (am_w1 125 rfl rfl)⟩
theorem am_f26 : am_okF ((2, 62), 5, 0) := ⟨by decide, by decide, (am_w1 75 rfl rfl)⟩
theorem am_f27 : am_okF ((2, 68), 5, 2) := ⟨by decide, by decide, (am_w1 82 rfl rfl)⟩
theorem am_f28 : am_okF ((2, 88), 5, 3) := ⟨by decide, by decide, (am_w1 88 rfl rfl)⟩
theorem am_f29 : am_okF ((3, 14), 3, 0) := ⟨by decide, by decide, (am_w1 194 rfl rfl)⟩
theorem am_f30 : am_okF ((3, 20), 3, 1) := ⟨by decide, by decide, (am_w1 196 rfl rfl)⟩
theorem am_f31 : am_okF ((3, 24), 3, 2) := ⟨by decide, by decide, (am_w1 197 rfl rfl)⟩
theorem am_f32 : am_okF ((3, 27), 3, 3) := ⟨by decide, by decide, (am_w1 199 rfl rfl)⟩
theorem am_f33 : am_okF ((3, 37), 5, 0) := ⟨by decide, by decide, (am_w1 74 rfl rfl)⟩
theorem am_f34 : am_okF ((3, 70), 5, 2) := ⟨by decide, by decide, (am_w1 81 rfl rfl)⟩
theorem am_f35 : am_okF ((3, 73), 5, 3) := ⟨by decide, by decide, (am_w1 87 rfl rfl)⟩
theorem am_f36 : am_okF ((3, 99), 0, 6) := ⟨by decide, by decide, (am_w1 47 rfl rfl)⟩
theorem am_f37 : am_okF ((3, 102), 0, 3) := ⟨by decide, by decide, (am_w1 37 rfl rfl)⟩
theorem am_f38 : am_okF ((3, 108), 5, 5) := ⟨by decide, by decide, (am_w1 95 rfl rfl)⟩
theorem am_f39 : am_okF ((3, 111), 0, 4) := ⟨by decide, by decide, (am_w1 41 rfl rfl)⟩
theorem am_f40 : am_okF ((4, 9), 4, 0) := ⟨by decide, by decide, (am_w1 181 rfl rfl)⟩
theorem am_f41 : am_okF ((4, 31), 5, 0) := ⟨by decide, by decide, (am_w1 76 rfl rfl)⟩
theorem am_f42 : am_okF ((4, 45), 5, 2) := ⟨by decide, by decide, (am_w1 84 rfl rfl)⟩
theorem am_f43 : am_okF ((4, 48), 5, 3) := ⟨by decide, by decide, (am_w1 89 rfl rfl)⟩
theorem am_f44 : am_okF ((4, 66), 5, 5) := ⟨by decide, by decide, (am_w1 96 rfl rfl)⟩
theorem am_f45 : am_okF ((4, 70), 0, 6) := ⟨by decide, by decide, (am_w1 49 rfl rfl)⟩
theorem am_f46 : am_okF ((4, 75), 0, 4) := ⟨by decide, by decide, (am_w1 42 rfl rfl)⟩
theorem am_f47 : am_okF ((5, 9), 5, 2) := ⟨by decide, by decide, (am_w1 79 rfl rfl)⟩
theorem am_f48 : am_okF ((5, 15), 5, 3) := ⟨by decide, by decide, (am_w1 85 rfl rfl)⟩
theorem am_f49 : am_okF ((5, 23), 5, 4) := ⟨by decide, by decide, (am_w1 90 rfl rfl)⟩
theorem am_f50 : am_okF ((5, 27), 5, 5) := ⟨by decide, by decide, (am_w1 92 rfl rfl)⟩
theorem am_f51 : am_okF ((5, 30), 5, 6) := ⟨by decide, by decide, (am_w1 97 rfl rfl)⟩
theorem am_f52 : am_okF ((5, 39), 5, 0) := ⟨by decide, by decide, (am_w1 71 rfl rfl)⟩
theorem am_f53 : am_okF ((5, 43), 5, 1) := ⟨by decide, by decide, (am_w1 77 rfl rfl)⟩
theorem am_f54 : am_okF ((5, 82), 0, 6) := ⟨by decide, by decide, (am_w1 50 rfl rfl)⟩
theorem am_f55 : am_okF ((5, 109), 0, 4) := ⟨by decide, by decide, (am_w1 43 rfl rfl)⟩
theorem am_f56 : am_okF ((5, 112), 0, 3) := ⟨by decide, by decide, (am_w1 38 rfl rfl)⟩
theorem am_f57 : am_okF ((6, 10), 6, 0) := ⟨by decide, by decide, (am_w1 210 rfl rfl)⟩
theorem am_f58 : am_okF ((6, 19), 6, 1) := ⟨by decide, by decide, (am_w1 211 rfl rfl)⟩
theorem am_f59 : am_okF ((6, 26), 6, 2) := ⟨by decide, by decide, (am_w1 212 rfl rfl)⟩
theorem am_f60 : am_okF ((6, 33), 6, 3) := ⟨by decide, by decide, (am_w1 213 rfl rfl)⟩
theorem am_f61 : am_okF ((6, 40), 6, 4) := ⟨by decide, by decide, (am_w1 214 rfl rfl)⟩
theorem am_f62 : am_okF ((6, 44), 6, 5) := ⟨by decide, by decide, (am_w1 215 rfl rfl)⟩
theorem am_f63 : am_okF ((6, 48), 6, 6) := ⟨by decide, by decide, (am_w1 216 rfl rfl)⟩
theorem am_f64 : am_okF ((6, 51), 5, 0) := ⟨by decide, by decide, (am_w1 72 rfl rfl)⟩
theorem am_f65 : am_okF ((6, 86), 5, 2) := ⟨by decide, by decide, (am_w1 83 rfl rfl)⟩
theorem am_f66 : am_okF ((6, 93), 5, 4) := ⟨by decide, by decide, (am_w1 91 rfl rfl)⟩
theorem am_f67 : am_okF ((6, 97), 0, 3) := ⟨by decide, by decide, (am_w1 36 rfl rfl)⟩
theorem am_f68 : am_okF ((6, 102), 5, 5) := ⟨by decide, by decide, (am_w1 94 rfl rfl)⟩
theorem am_f69 : am_okF ((6, 105), 0, 6) := ⟨by decide, by decide, (am_w1 48 rfl rfl)⟩
theorem am_f70 : am_okF ((6, 133), 5, 6) := ⟨by decide, by decide, (am_w1 98 rfl rfl)⟩
theorem am_f71 : am_okF ((6, 143), 5, 1) := ⟨by decide, by decide, (am_w1 78 rfl rfl)⟩
theorem am_f72 : am_okF ((6, 146), 2, 4) := ⟨by decide, by decide, (am_w1 127 rfl rfl)⟩
theorem am_f73 : am_okF ((6, 155), 1, 1) := ⟨by decide, by decide, (am_w1 150 rfl rfl)⟩
theorem am_f74 : am_okF ((6, 164), 1, 2) := ⟨by decide, by decide, (am_w1 152 rfl rfl)⟩
theorem am_f75 : am_okF ((6, 168), 4, 0) := ⟨by decide, by decide, (am_w1 182 rfl rfl)⟩
theorem am_f76 : am_okF ((6, 200), 3, 0) := ⟨by decide, by decide, (am_w1 195 rfl rfl)⟩
theorem am_f77 : am_okF ((6, 203), 3, 2) := ⟨by decide, by decide, (am_w1 198 rfl rfl)⟩
theorem am_f78 : am_okF ((6, 206), 3, 3) := ⟨by decide, by decide, (am_w1 200 rfl rfl)⟩
theorem am_f79 : am_okF ((7, 7), 7, 1) := ⟨by decide, by decide, (am_w3 216 rfl rfl)⟩
theorem am_f80 : am_okF ((7, 13), 7, 2) := ⟨by decide, by decide, (am_w3 217 rfl rfl)⟩
theorem am_f81 : am_okF ((7, 16), 7, 3) := ⟨by decide, by decide, (am_w3 218 rfl rfl)⟩
theorem am_f82 : am_okF ((7, 19), 7, 4) := ⟨by decide, by decide, (am_w3 219 rfl rfl)⟩
theorem am_f83 : am_okF ((7, 22), 7, 5) := ⟨by decide, by decide, (am_w3 220 rfl rfl)⟩
theorem am_f84 : am_okF ((7, 25), 7, 6) := ⟨by decide, by decide, (am_w3 221 rfl rfl)⟩
theorem am_f85 : am_okF ((7, 28), 7, 7) := ⟨by decide, by decide, (am_w3 222 rfl rfl)⟩
theorem am_f86 : am_okF ((7, 31), 7, 8) := ⟨by decide, by decide, (am_w3 223 rfl rfl)⟩
theorem am_f87 : am_okF ((7, 34), 7, 10) := ⟨by decide, by decide, (am_w3 225 rfl rfl)⟩
theorem am_f88 : am_okF ((7, 38), 7, 13) := ⟨by decide, by decide, (am_w3 228 rfl rfl)⟩
theorem am_f89 : am_okF ((7, 42), 7, 15) := ⟨by decide, by decide, (am_w3 230 rfl rfl)⟩
theorem am_f90 : am_okF ((7, 45), 7, 16) := ⟨by decide, by decide, (am_w3 231 rfl rfl)⟩
theorem am_f91 : am_okF ((7, 48), 7, 17) := ⟨by decide, by decide, (am_w3 232 rfl rfl)⟩
theorem am_f92 : am_okF ((7, 51), 7, 20) := ⟨by decide, by decide, (am_w3 235 rfl rfl)⟩
theorem am_f93 : am_okF ((7, 54), 7, 21) := ⟨by decide, by decide, (am_w3 236 rfl rfl)⟩
theorem am_f94 : am_okF ((7, 57), 7, 22) := ⟨by decide, by decide, (am_w3 237 rfl rfl)⟩
theorem am_f95 : am_okF ((7, 60), 7, 23) := ⟨by decide, by decide, (am_w3 238 rfl rfl)⟩
theorem am_f96 : am_okF ((7, 63), 7, 25) := ⟨by decide, by decide, (am_w4 0 rfl rfl)⟩
theorem am_f97 : am_okF ((7, 67), 7, 0) := ⟨by decide, by decide, (am_w3 215 rfl rfl)⟩
theorem am_f98 : am_okF ((7, 86), 7, 9) := ⟨by decide, by decide, (am_w3 224 rfl rfl)⟩
theorem am_f99 : am_okF ((7, 159), 7, 12) := ⟨by decide, by decide, (am_w3 227 rfl rfl)⟩
theorem am_f100 : am_okF ((7, 162), 7, 11) := ⟨by decide, by decide, (am_w3 226 rfl rfl)⟩
theorem am_f101 : am_okF ((7, 189), 7, 14) := ⟨by decide, by decide, (am_w3 229 rfl rfl)⟩
theorem am_f102 : am_okF ((7, 195), 7, 18) := ⟨by decide, by decide, (am_w3 233 rfl rfl)⟩
theorem am_f103 : am_okF ((7, 248), 7, 24) := ⟨by decide, by decide, (am_w3 239 rfl rfl)⟩
theorem am_f104 : am_okF ((7, 251), 7, 19) := ⟨by decide, by decide, (am_w3 234 rfl rfl)⟩
set_option maxRecDepth 20000 in
theorem am_ckF_ok : ∀ q ∈ am_ftL, am_okF q := List.forall_mem_cons.mpr ⟨am_f0, List.forall_mem_cons.mpr ⟨am_f1, List.forall_mem_cons.mpr ⟨am_f2, List.forall_mem_cons.mpr ⟨am_f3, List.forall_mem_cons.mpr ⟨am_f4, List.forall_mem_cons.mpr ⟨am_f5, List.forall_mem_cons.mpr ⟨am_f6, List.forall_mem_cons.mpr ⟨am_f7, List.forall_mem_cons.mpr ⟨am_f8, List.forall_mem_cons.mpr ⟨am_f9, List.forall_mem_cons.mpr ⟨am_f10, List.forall_mem_cons.mpr ⟨am_f11, List.forall_mem_cons.mpr ⟨am_f12, List.forall_mem_cons.mpr ⟨am_f13, List.forall_mem_cons.mpr ⟨am_f14, List.forall_mem_cons.mpr ⟨am_f15, List.forall_mem_cons.mpr ⟨am_f16, List.forall_mem_cons.mpr ⟨am_f17, List.forall_mem_cons.mpr ⟨am_f18, List.forall_mem_cons.mpr ⟨am_f19, List.forall_mem_cons.mpr ⟨am_f20, List.forall_mem_cons.mpr ⟨am_f21, List.forall_mem_cons.mpr ⟨am_f22, List.forall_mem_cons.mpr ⟨am_f23, List.forall_mem_cons.mpr ⟨am_f24, List.forall_mem_cons.mpr ⟨am_f25, List.forall_mem_cons.mpr ⟨am_f26, List.forall_mem_cons.mpr ⟨am_f27, List.forall_mem_cons.mpr ⟨am_f28, List.forall_mem_cons.mpr ⟨am_f29, List.forall_mem_cons.mpr ⟨am_f30, List.forall_mem_cons.mpr ⟨am_f31, List.forall_mem_cons.mpr ⟨am_f32, List.forall_mem_cons.mpr ⟨am_f33, List.forall_mem_cons.mpr ⟨am_f34, List.forall_mem_cons.mpr ⟨am_f35, List.forall_mem_cons.mpr ⟨am_f36, List.forall_mem_cons.mpr ⟨am_f37, List.forall_mem_cons.mpr ⟨am_f38, List.forall_mem_cons.mpr ⟨am_f39, List.forall_mem_cons.mpr ⟨am_f40, List.forall_mem_cons.mpr ⟨am_f41, List.forall_mem_cons.mpr ⟨am_f42, List.forall_mem_cons.mpr ⟨am_f43, List.forall_mem_cons.mpr ⟨am_f44, List.forall_mem_cons.mpr ⟨am_f45, List.forall_mem_cons.mpr ⟨am_f46, List.forall_mem_cons.mpr ⟨am_f47, List.forall_mem_cons.mpr ⟨am_f48, List.forall_mem_cons.mpr ⟨am_f49, List.forall_mem_cons.mpr ⟨am_f50, List.forall_mem_cons.mpr ⟨am_f51, List.forall_mem_cons.mpr ⟨am_f52, List.forall_mem_cons.mpr ⟨am_f53, List.forall_mem_cons.mpr ⟨am_f54, List.forall_mem_cons.mpr ⟨am_f55, List.forall_mem_cons.mpr ⟨am_f56, List.forall_mem_cons.mpr ⟨am_f57, List.forall_mem_cons.mpr ⟨am_f58, List.forall_mem_cons.mpr ⟨am_f59, List.forall_mem_cons.mpr ⟨am_f60, List.forall_mem_cons.mpr ⟨am_f61, List.forall_mem_cons.mpr ⟨am_f62, List.forall_mem_cons.mpr ⟨am_f63, List.forall_mem_cons.mpr ⟨am_f64, List.forall_mem_cons.mpr ⟨am_f65, List.forall_mem_cons.mpr ⟨am_f66, List.forall_mem_cons.mpr ⟨am_f67, List.forall_mem_cons.mpr ⟨am_f68, List.forall_mem_cons.mpr ⟨am_f69, List.forall_mem_cons.mpr ⟨am_f70, List.forall_mem_cons.mpr ⟨am_f71, List.forall_mem_cons.mpr ⟨am_f72, List.forall_mem_cons.mpr ⟨am_f73, List.forall_mem_cons.mpr ⟨am_f74, List.forall_mem_cons.mpr ⟨am_f75, List.forall_mem_cons.mpr ⟨am_f76, List.forall_mem_cons.mpr ⟨am_f77, List.forall_mem_cons.mpr ⟨am_f78, List.forall_mem_cons.mpr ⟨am_f79, List.forall_mem_cons.mpr ⟨am_f80, List.forall_mem_cons.mpr ⟨am_f81, List.forall_mem_cons.mpr ⟨am_f82, List.forall_mem_cons.mpr ⟨am_f83, List.forall_mem_cons.mpr ⟨am_f84, List.forall_mem_cons.mpr ⟨am_f85, List.forall_mem_cons.mpr ⟨am_f86, List.forall_mem_cons.mpr ⟨am_f87, List.forall_mem_cons.mpr ⟨am_f88, List.forall_mem_cons.mpr ⟨am_f89, List.forall_mem_cons.mpr ⟨am_f90, List.forall_mem_cons.mpr ⟨am_f91, List.forall_mem_cons.mpr ⟨am_f92, List.forall_mem_cons.mpr ⟨am_f93, List.forall_mem_cons.mpr ⟨am_f94, List.forall_mem_cons.mpr ⟨am_f95, List.forall_mem_cons.mpr ⟨am_f96, List.forall_mem_cons.mpr ⟨am_f97, List.forall_mem_cons.mpr ⟨am_f98, List.forall_mem_cons.mpr ⟨am_f99, List.forall_mem_cons.mpr ⟨am_f100, List.forall_mem_cons.mpr ⟨am_f101, List.forall_mem_cons.mpr ⟨am_f102, List.forall_mem_cons.mpr ⟨am_f103, List.forall_mem_cons.mpr ⟨am_f104, fun _ h => absurd h List.not_mem_nil⟩⟩⟩⟩⟩⟩⟩⟩⟩⟩⟩⟩⟩⟩⟩⟩⟩⟩⟩⟩⟩⟩⟩⟩⟩⟩⟩⟩⟩⟩⟩⟩⟩⟩⟩⟩⟩⟩⟩⟩⟩⟩⟩⟩⟩⟩⟩⟩⟩⟩⟩⟩⟩⟩⟩⟩⟩⟩⟩⟩⟩⟩⟩⟩⟩⟩⟩⟩⟩⟩⟩⟩⟩⟩⟩⟩⟩⟩⟩⟩⟩⟩⟩⟩⟩⟩⟩⟩⟩⟩⟩⟩⟩⟩⟩⟩⟩⟩⟩⟩⟩⟩⟩⟩⟩
def am_okG (q : (Nat × Nat) × Nat × Nat) : Prop := 0 < q.2.1 ∧ q.2.1 < 5 ∧ (q.2.2 = 1 ∧ (q.1.1, q.1.2, q.2.1) ∈ am_nestF ∨ Cond.fieldLink (am_cn q.1.1) q.1.2 "ThirdSheets" (am_sn q.2.1) "[I" ∈ am_words)
theorem am_g0 : am_okG ((2, 77), 1, 1) := ⟨by decide, by decide, Or.inl ⟨rfl, by decide +kernel⟩⟩
theorem am_g1 : am_okG ((2, 80), 2, 1) := ⟨by decide, by decide, Or.inl ⟨rfl, by decide +kernel⟩⟩
theorem am_g2 : am_okG ((2, 91), 3, 1) := ⟨by decide, by decide, Or.inl ⟨rfl, by decide +kernel⟩⟩
theorem am_g3 : am_okG ((3, 92), 4, 1) := ⟨by decide, by decide, Or.inl ⟨rfl, by decide +kernel⟩⟩
theorem am_g4 : am_okG ((5, 73), 1, 1) := ⟨by decide, by decide, Or.inl ⟨rfl, by decide +kernel⟩⟩
theorem am_g5 : am_okG ((5, 76), 2, 1) := ⟨by decide, by decide, Or.inl ⟨rfl, by decide +kernel⟩⟩
theorem am_g6 : am_okG ((5, 79), 3, 1) := ⟨by decide, by decide, Or.inl ⟨rfl, by decide +kernel⟩⟩
theorem am_g7 : am_okG ((6, 216), 4, 0) := ⟨by decide, by decide, Or.inr (am_w3 26 rfl rfl)⟩
theorem am_g8 : am_okG ((6, 219), 1, 0) := ⟨by decide, by decide, Or.inr (am_w3 141 rfl rfl)⟩
theorem am_g9 : am_okG ((6, 222), 2, 0) := ⟨by decide, by decide, Or.inr (am_w3 142 rfl rfl)⟩
set_option maxRecDepth 20000 in
theorem am_ckG_ok : ∀ q ∈ am_gtL, am_okG q := List.forall_mem_cons.mpr ⟨am_g0, List.forall_mem_cons.mpr ⟨am_g1, List.forall_mem_cons.mpr ⟨am_g2, List.forall_mem_cons.mpr ⟨am_g3, List.forall_mem_cons.mpr ⟨am_g4, List.forall_mem_cons.mpr ⟨am_g5, List.forall_mem_cons.mpr ⟨am_g6, List.forall_mem_cons.mpr ⟨am_g7, List.forall_mem_cons.mpr ⟨am_g8, List.forall_mem_cons.mpr ⟨am_g9, fun _ h => absurd h List.not_mem_nil⟩⟩⟩⟩⟩⟩⟩⟩⟩⟩
def am_okI (q : (Nat × Nat) × Int32) : Prop := Cond.constant (am_cn q.1.1) q.1.2 q.2 ∈ am_words
set_option maxRecDepth 20000 in
theorem am_ckI_ok : ∀ q ∈ am_ccL, am_okI q := List.forall_mem_cons.mpr ⟨(am_w2 120 rfl rfl), List.forall_mem_cons.mpr ⟨(am_w2 202 rfl rfl), List.forall_mem_cons.mpr ⟨(am_w3 214 rfl rfl), List.forall_mem_cons.mpr ⟨(am_w4 144 rfl rfl), fun _ h => absurd h List.not_mem_nil⟩⟩⟩⟩
def am_okL (q : (Nat × Nat) × Int64) : Prop := Cond.constantLong (am_cn q.1.1) q.1.2 q.2 ∈ am_words
set_option maxRecDepth 20000 in
theorem am_ckL_ok : ∀ q ∈ am_clL, am_okL q := List.forall_mem_cons.mpr ⟨(am_w2 195 rfl rfl), List.forall_mem_cons.mpr ⟨(am_w3 89 rfl rfl), List.forall_mem_cons.mpr ⟨(am_w4 201 rfl rfl), fun _ h => absurd h List.not_mem_nil⟩⟩⟩
def am_okN (q : (Nat × Nat) × Nat) : Prop := q.2 < 8 ∧ Cond.classLink (am_cn q.1.1) q.1.2 (am_C q.2).1 ∈ am_words ∧ Cond.instantiable (am_C q.2).1 (am_C q.2).2.2 ∈ am_words ∧ Cond.initialized (am_C q.2).1 ∈ am_words
set_option maxRecDepth 20000 in
theorem am_ckN_ok : ∀ q ∈ am_nwL, am_okN q := List.forall_mem_cons.mpr ⟨⟨by decide, (am_w1 20 rfl rfl), (am_w1 21 rfl rfl), (am_w1 2 rfl rfl)⟩, List.forall_mem_cons.mpr ⟨⟨by decide, (am_w1 114 rfl rfl), (am_w1 115 rfl rfl), (am_w1 5 rfl rfl)⟩, List.forall_mem_cons.mpr ⟨⟨by decide, (am_w1 140 rfl rfl), (am_w1 141 rfl rfl), (am_w1 6 rfl rfl)⟩, List.forall_mem_cons.mpr ⟨⟨by decide, (am_w1 175 rfl rfl), (am_w1 176 rfl rfl), (am_w1 7 rfl rfl)⟩, List.forall_mem_cons.mpr ⟨⟨by decide, (am_w1 186 rfl rfl), (am_w1 187 rfl rfl), (am_w1 8 rfl rfl)⟩, List.forall_mem_cons.mpr ⟨⟨by decide, (am_w1 192 rfl rfl), (am_w1 27 rfl rfl), (am_w1 3 rfl rfl)⟩, List.forall_mem_cons.mpr ⟨⟨by decide, (am_w1 26 rfl rfl), (am_w1 27 rfl rfl), (am_w1 3 rfl rfl)⟩, List.forall_mem_cons.mpr ⟨⟨by decide, (am_w1 12 rfl rfl), (am_w1 13 rfl rfl), (am_w1 1 rfl rfl)⟩, List.forall_mem_cons.mpr ⟨⟨by decide, (am_w3 208 rfl rfl), (am_w3 209 rfl rfl), (am_w1 9 rfl rfl)⟩, fun _ h => absurd h List.not_mem_nil⟩⟩⟩⟩⟩⟩⟩⟩⟩
def am_okW (q : (Nat × Nat) × Nat) : Prop := (q.2 = 3 ∧ Cond.classLink (am_cn q.1.1) q.1.2 "[[I" ∈ am_words) ∨ (q.2 = 4 ∧ Cond.classLink (am_cn q.1.1) q.1.2 "[[J" ∈ am_words)
set_option maxRecDepth 20000 in
theorem am_ckW_ok : ∀ q ∈ am_mwL, am_okW q := List.forall_mem_cons.mpr ⟨Or.inl ⟨rfl, (am_w1 146 rfl rfl)⟩, List.forall_mem_cons.mpr ⟨Or.inr ⟨rfl, (am_w1 120 rfl rfl)⟩, fun _ h => absurd h List.not_mem_nil⟩⟩
theorem am_u0 (k : Nat) (h : k < 7) : u_lay (am_C 0).1 (am_C 0).2.1 k ∈ am_words := by
  rcases (show k = 0 ∨ k = 1 ∨ k = 2 ∨ k = 3 ∨ k = 4 ∨ k = 5 ∨ k = 6 by omega) with rfl | rfl | rfl | rfl | rfl | rfl | rfl
  · exact (am_w1 51 rfl rfl)
  · exact (am_w1 53 rfl rfl)
  · exact (am_w1 55 rfl rfl)
  · exact (am_w1 57 rfl rfl)
  · exact (am_w1 59 rfl rfl)
  · exact (am_w1 61 rfl rfl)
  · exact (am_w1 63 rfl rfl)
theorem am_u1 (k : Nat) (h : k < 8) : u_lay (am_C 1).1 (am_C 1).2.1 k ∈ am_words := by
  rcases (show k = 0 ∨ k = 1 ∨ k = 2 ∨ k = 3 ∨ k = 4 ∨ k = 5 ∨ k = 6 ∨ k = 7 by omega) with rfl | rfl | rfl | rfl | rfl | rfl | rfl | rfl
  · exact (am_w1 158 rfl rfl)
  · exact (am_w1 160 rfl rfl)
  · exact (am_w1 162 rfl rfl)
  · exact (am_w1 164 rfl rfl)
  · exact (am_w1 166 rfl rfl)
  · exact (am_w1 168 rfl rfl)
  · exact (am_w1 170 rfl rfl)
  · exact (am_w1 172 rfl rfl)
theorem am_u2 (k : Nat) (h : k < 5) : u_lay (am_C 2).1 (am_C 2).2.1 k ∈ am_words := by
  rcases (show k = 0 ∨ k = 1 ∨ k = 2 ∨ k = 3 ∨ k = 4 by omega) with rfl | rfl | rfl | rfl | rfl
  · exact (am_w1 128 rfl rfl)
  · exact (am_w1 130 rfl rfl)
  · exact (am_w1 132 rfl rfl)
  · exact (am_w1 134 rfl rfl)
  · exact (am_w1 136 rfl rfl)
theorem am_u3 (k : Nat) (h : k < 4) : u_lay (am_C 3).1 (am_C 3).2.1 k ∈ am_words := by
  rcases (show k = 0 ∨ k = 1 ∨ k = 2 ∨ k = 3 by omega) with rfl | rfl | rfl | rfl
  · exact (am_w1 201 rfl rfl)
  · exact (am_w1 203 rfl rfl)
  · exact (am_w1 205 rfl rfl)
  · exact (am_w1 207 rfl rfl)
theorem am_u4 (k : Nat) (h : k < 1) : u_lay (am_C 4).1 (am_C 4).2.1 k ∈ am_words := by
  rcases (show k = 0 by omega) with rfl
  · exact (am_w1 183 rfl rfl)
theorem am_u5 (k : Nat) (h : k < 7) : u_lay (am_C 5).1 (am_C 5).2.1 k ∈ am_words := by
  rcases (show k = 0 ∨ k = 1 ∨ k = 2 ∨ k = 3 ∨ k = 4 ∨ k = 5 ∨ k = 6 by omega) with rfl | rfl | rfl | rfl | rfl | rfl | rfl
  · exact (am_w1 99 rfl rfl)
  · exact (am_w1 101 rfl rfl)
  · exact (am_w1 103 rfl rfl)
  · exact (am_w1 105 rfl rfl)
  · exact (am_w1 107 rfl rfl)
  · exact (am_w1 109 rfl rfl)
  · exact (am_w1 111 rfl rfl)
theorem am_u6 (k : Nat) (h : k < 7) : u_lay (am_C 6).1 (am_C 6).2.1 k ∈ am_words := by
  rcases (show k = 0 ∨ k = 1 ∨ k = 2 ∨ k = 3 ∨ k = 4 ∨ k = 5 ∨ k = 6 by omega) with rfl | rfl | rfl | rfl | rfl | rfl | rfl
  · exact (am_w1 217 rfl rfl)
  · exact (am_w1 219 rfl rfl)
  · exact (am_w1 221 rfl rfl)
  · exact (am_w1 223 rfl rfl)
  · exact (am_w1 225 rfl rfl)
  · exact (am_w1 227 rfl rfl)
  · exact (am_w1 229 rfl rfl)
theorem am_u7 (k : Nat) (h : k < 26) : u_lay (am_C 7).1 (am_C 7).2.1 k ∈ am_words := by
  rcases (show k = 0 ∨ k = 1 ∨ k = 2 ∨ k = 3 ∨ k = 4 ∨ k = 5 ∨ k = 6 ∨ k = 7 ∨ k = 8 ∨ k = 9 ∨ k = 10 ∨ k = 11 ∨ k = 12 ∨ k = 13 ∨ k = 14 ∨ k = 15 ∨ k = 16 ∨ k = 17 ∨ k = 18 ∨ k = 19 ∨ k = 20 ∨ k = 21 ∨ k = 22 ∨ k = 23 ∨ k = 24 ∨ k = 25 by omega) with rfl | rfl | rfl | rfl | rfl | rfl | rfl | rfl | rfl | rfl | rfl | rfl | rfl | rfl | rfl | rfl | rfl | rfl | rfl | rfl | rfl | rfl | rfl | rfl | rfl | rfl
  · exact (am_w4 1 rfl rfl)
  · exact (am_w4 3 rfl rfl)
  · exact (am_w4 5 rfl rfl)
  · exact (am_w4 7 rfl rfl)
  · exact (am_w4 9 rfl rfl)
  · exact (am_w4 11 rfl rfl)
  · exact (am_w4 13 rfl rfl)
  · exact (am_w4 15 rfl rfl)
  · exact (am_w4 17 rfl rfl)
  · exact (am_w4 19 rfl rfl)
  · exact (am_w4 21 rfl rfl)
  · exact (am_w4 23 rfl rfl)
  · exact (am_w4 25 rfl rfl)
  · exact (am_w4 27 rfl rfl)
  · exact (am_w4 29 rfl rfl)
  · exact (am_w4 31 rfl rfl)
  · exact (am_w4 33 rfl rfl)
  · exact (am_w4 35 rfl rfl)
  · exact (am_w4 37 rfl rfl)
  · exact (am_w4 39 rfl rfl)
  · exact (am_w4 41 rfl rfl)
  · exact (am_w4 43 rfl rfl)
  · exact (am_w4 45 rfl rfl)
  · exact (am_w4 47 rfl rfl)
  · exact (am_w4 49 rfl rfl)
  · exact (am_w4 51 rfl rfl)
theorem am_u_ok (ci : Nat) (h : ci < 8) : ∀ w ∈ u_ws (am_C ci).1 (am_C ci).2.1 (am_C ci).2.2, w ∈ am_words := by
  intro w hw
  obtain ⟨k, hk, rfl⟩ := List.mem_map.mp hw
  have hk := List.mem_range.mp hk
  rcases (show ci = 0 ∨ ci = 1 ∨ ci = 2 ∨ ci = 3 ∨ ci = 4 ∨ ci = 5 ∨ ci = 6 ∨ ci = 7 by omega) with rfl | rfl | rfl | rfl | rfl | rfl | rfl | rfl
  · exact am_u0 k hk
  · exact am_u1 k hk
  · exact am_u2 k hk
  · exact am_u3 k hk
  · exact am_u4 k hk
  · exact am_u5 k hk
  · exact am_u6 k hk
  · exact am_u7 k hk
theorem am_ct0 : ∀ k, k < 7 → parseFieldDescriptor ((am_C 0).2.1 k).2.2.1 = some (am_ty 0 k) := by decide +kernel
theorem am_cu0 : ∀ a, a < 7 → ∀ b, b < 7 → a ≠ b → ((am_C 0).2.1 a).2.1 ≠ ((am_C 0).2.1 b).2.1 := by decide +kernel
theorem am_ct1 : ∀ k, k < 8 → parseFieldDescriptor ((am_C 1).2.1 k).2.2.1 = some (am_ty 1 k) := by decide +kernel
theorem am_cu1 : ∀ a, a < 8 → ∀ b, b < 8 → a ≠ b → ((am_C 1).2.1 a).2.1 ≠ ((am_C 1).2.1 b).2.1 := by decide +kernel
theorem am_ct2 : ∀ k, k < 5 → parseFieldDescriptor ((am_C 2).2.1 k).2.2.1 = some (am_ty 2 k) := by decide +kernel
theorem am_cu2 : ∀ a, a < 5 → ∀ b, b < 5 → a ≠ b → ((am_C 2).2.1 a).2.1 ≠ ((am_C 2).2.1 b).2.1 := by decide +kernel
theorem am_ct3 : ∀ k, k < 4 → parseFieldDescriptor ((am_C 3).2.1 k).2.2.1 = some (am_ty 3 k) := by decide +kernel
theorem am_cu3 : ∀ a, a < 4 → ∀ b, b < 4 → a ≠ b → ((am_C 3).2.1 a).2.1 ≠ ((am_C 3).2.1 b).2.1 := by decide +kernel
theorem am_ct4 : ∀ k, k < 1 → parseFieldDescriptor ((am_C 4).2.1 k).2.2.1 = some (am_ty 4 k) := by decide +kernel
theorem am_cu4 : ∀ a, a < 1 → ∀ b, b < 1 → a ≠ b → ((am_C 4).2.1 a).2.1 ≠ ((am_C 4).2.1 b).2.1 := by decide +kernel
theorem am_ct5 : ∀ k, k < 7 → parseFieldDescriptor ((am_C 5).2.1 k).2.2.1 = some (am_ty 5 k) := by decide +kernel
theorem am_cu5 : ∀ a, a < 7 → ∀ b, b < 7 → a ≠ b → ((am_C 5).2.1 a).2.1 ≠ ((am_C 5).2.1 b).2.1 := by decide +kernel
theorem am_ct6 : ∀ k, k < 7 → parseFieldDescriptor ((am_C 6).2.1 k).2.2.1 = some (am_ty 6 k) := by decide +kernel
theorem am_cu6 : ∀ a, a < 7 → ∀ b, b < 7 → a ≠ b → ((am_C 6).2.1 a).2.1 ≠ ((am_C 6).2.1 b).2.1 := by decide +kernel
theorem am_ct7 : ∀ k, k < 26 → parseFieldDescriptor ((am_C 7).2.1 k).2.2.1 = some (am_ty 7 k) := by decide +kernel
theorem am_cu7 : ∀ a, a < 26 → ∀ b, b < 26 → a ≠ b → ((am_C 7).2.1 a).2.1 ≠ ((am_C 7).2.1 b).2.1 := by decide +kernel
theorem am_ckT_ok (ci : Nat) (h : ci < 8) : ∀ k, k < (am_C ci).2.2 → parseFieldDescriptor ((am_C ci).2.1 k).2.2.1 = some (am_ty ci k) := by
  rcases (show ci = 0 ∨ ci = 1 ∨ ci = 2 ∨ ci = 3 ∨ ci = 4 ∨ ci = 5 ∨ ci = 6 ∨ ci = 7 by omega) with rfl | rfl | rfl | rfl | rfl | rfl | rfl | rfl
  · exact am_ct0
  · exact am_ct1
  · exact am_ct2
  · exact am_ct3
  · exact am_ct4
  · exact am_ct5
  · exact am_ct6
  · exact am_ct7
theorem am_ckU_ok (ci : Nat) (h : ci < 8) : ∀ a, a < (am_C ci).2.2 → ∀ b, b < (am_C ci).2.2 → a ≠ b → ((am_C ci).2.1 a).2.1 ≠ ((am_C ci).2.1 b).2.1 := by
  rcases (show ci = 0 ∨ ci = 1 ∨ ci = 2 ∨ ci = 3 ∨ ci = 4 ∨ ci = 5 ∨ ci = 6 ∨ ci = 7 by omega) with rfl | rfl | rfl | rfl | rfl | rfl | rfl | rfl
  · exact am_cu0
  · exact am_cu1
  · exact am_cu2
  · exact am_cu3
  · exact am_cu4
  · exact am_cu5
  · exact am_cu6
  · exact am_cu7
theorem am_ac_i : Cond.arrayClass .int ∈ am_words := (am_w1 66 rfl rfl)
theorem am_ac_l : Cond.arrayClass .long ∈ am_words := (am_w1 139 rfl rfl)
theorem am_ac_z : Cond.arrayClass .boolean ∈ am_words := (am_w1 67 rfl rfl)
theorem am_cp_s : Cond.static arraycopyName ∈ am_words := (am_w3 37 rfl rfl)
theorem am_cp_n : Cond.native arraycopyName ∈ am_words := (am_w3 38 rfl rfl)
theorem am_cp_i : Cond.initialized "java/lang/System" ∈ am_words := (am_w1 11 rfl rfl)
theorem am_ma_i : Cond.initialized "java/lang/Math" ∈ am_words := (am_w1 10 rfl rfl)
theorem am_ma_smin : Cond.static Lib.Math.min.name ∈ am_words := (am_w2 18 rfl rfl)
theorem am_ma_cmin : Cond.code Lib.Math.min.name Lib.Math.min.code 2 (some .int) ∈ am_words := (am_w2 19 rfl rfl)
theorem am_ma_smax : Cond.static Lib.Math.max.name ∈ am_words := (am_w2 37 rfl rfl)
theorem am_ma_cmax : Cond.code Lib.Math.max.name Lib.Math.max.code 2 (some .int) ∈ am_words := (am_w2 38 rfl rfl)
theorem am_ma_sabs : Cond.static Lib.MathLoose.abs_long.x ∈ am_words := (am_w2 208 rfl rfl)
theorem am_ma_cabs : Cond.code Lib.MathLoose.abs_long.x Lib.MathLoose.abs_long.code 2 (some .long) ∈ am_words := (am_w2 209 rfl rfl)
theorem am_ob_i : Cond.instanceMethod Lib.objectInit ∈ am_words := (am_w1 18 rfl rfl)
theorem am_ob_c : Cond.code Lib.objectInit ⟨#[0xb1]⟩ 1 none ∈ am_words := (am_w1 19 rfl rfl)
theorem am_cl_get : ∀ ci, ci < 8 → am_cl[ci]? = some (am_C ci) := by
  intro ci h
  have h1 : ci < am_cl.length := h
  rw [List.getElem?_eq_getElem h1]
  unfold am_C
  rw [List.getD_eq_getElem?_getD, List.getElem?_eq_getElem h1]
  rfl
theorem am_cn_C (ci : Nat) (h : ci < 8) : am_cn ci = (am_C ci).1 := by
  rcases (show ci = 0 ∨ ci = 1 ∨ ci = 2 ∨ ci = 3 ∨ ci = 4 ∨ ci = 5 ∨ ci = 6 ∨ ci = 7 by omega) with rfl | rfl | rfl | rfl | rfl | rfl | rfl | rfl <;> rfl
theorem am_ws_good (mj : Nat) (h : mj < 181) : GoodIn am_words (am_ws mj) := by
  have h1 := am_ckM_ok mj h
  intro w hw
  rcases List.mem_cons.mp hw with rfl | hw
  · exact am_good _ h1.1
  · exact am_good _ hw
theorem am_pn0 : plainName (am_cn 0) = true ∧ am_cn 0 ≠ "java/lang/invoke/MethodHandle" ∧ am_cn 0 ≠ "java/lang/invoke/VarHandle" := by decide +kernel
theorem am_pn1 : plainName (am_cn 1) = true ∧ am_cn 1 ≠ "java/lang/invoke/MethodHandle" ∧ am_cn 1 ≠ "java/lang/invoke/VarHandle" := by decide +kernel
theorem am_pn2 : plainName (am_cn 2) = true ∧ am_cn 2 ≠ "java/lang/invoke/MethodHandle" ∧ am_cn 2 ≠ "java/lang/invoke/VarHandle" := by decide +kernel
theorem am_pn3 : plainName (am_cn 3) = true ∧ am_cn 3 ≠ "java/lang/invoke/MethodHandle" ∧ am_cn 3 ≠ "java/lang/invoke/VarHandle" := by decide +kernel
theorem am_pn4 : plainName (am_cn 4) = true ∧ am_cn 4 ≠ "java/lang/invoke/MethodHandle" ∧ am_cn 4 ≠ "java/lang/invoke/VarHandle" := by decide +kernel
theorem am_pn5 : plainName (am_cn 5) = true ∧ am_cn 5 ≠ "java/lang/invoke/MethodHandle" ∧ am_cn 5 ≠ "java/lang/invoke/VarHandle" := by decide +kernel
theorem am_pn6 : plainName (am_cn 6) = true ∧ am_cn 6 ≠ "java/lang/invoke/MethodHandle" ∧ am_cn 6 ≠ "java/lang/invoke/VarHandle" := by decide +kernel
theorem am_pn7 : plainName (am_cn 7) = true ∧ am_cn 7 ≠ "java/lang/invoke/MethodHandle" ∧ am_cn 7 ≠ "java/lang/invoke/VarHandle" := by decide +kernel
theorem am_pn8 : plainName (am_cn 8) = true ∧ am_cn 8 ≠ "java/lang/invoke/MethodHandle" ∧ am_cn 8 ≠ "java/lang/invoke/VarHandle" := by decide +kernel
theorem am_pn9 : plainName (am_cn 9) = true ∧ am_cn 9 ≠ "java/lang/invoke/MethodHandle" ∧ am_cn 9 ≠ "java/lang/invoke/VarHandle" := by decide +kernel
theorem am_pn_ok (ci : Nat) (h : ci < 10) : plainName (am_cn ci) = true ∧ am_cn ci ≠ "java/lang/invoke/MethodHandle" ∧ am_cn ci ≠ "java/lang/invoke/VarHandle" := by
  rcases (show ci = 0 ∨ ci = 1 ∨ ci = 2 ∨ ci = 3 ∨ ci = 4 ∨ ci = 5 ∨ ci = 6 ∨ ci = 7 ∨ ci = 8 ∨ ci = 9 by omega) with rfl | rfl | rfl | rfl | rfl | rfl | rfl | rfl | rfl | rfl
  · exact am_pn0
  · exact am_pn1
  · exact am_pn2
  · exact am_pn3
  · exact am_pn4
  · exact am_pn5
  · exact am_pn6
  · exact am_pn7
  · exact am_pn8
  · exact am_pn9
theorem am_mc_ok : ∀ mj, mj < 182 → am_mc mj < 10 := by decide +kernel
end
section
/-! each step of the abstract machine is the machine's -/
section AMS
variable {p : Program} {l : Launch} {e : Env} {R : Room} {s : State} {m : MethodId} {args : Array Value} {below : List Frame} {meth : Method} {c : Code} {Q : State → Prop}
def am_Go (K : am_K) (mi : Nat) (p : Program) (l : Launch) (e : Env) (R : Room) (s : State) (m : MethodId) (args : Array Value) (below : List Frame) (meth : Method) (c : Code) (Q : State → Prop) (z : am_Z) : Prop :=
  ∀ (H : Heap) (locs : List Loc) (ls : Array Slot), am_Hp K z.2.2.2.1 z.2.2.2.2.1 s H locs z.2.2.2.2.2.1 → lv_has ls (am_maxL mi) (am_Lm K z.2.1) → W p l e R s m args below meth c H locs z.2.2.2.2.2.1 z.2.2.2.2.2.2 Q (F0 m z.1 ls (am_vs K z.2.2.1))
theorem am_go_inj {pc : Nat} {L : am_L} {st : List Value} {n : Nat} {h : am_H} {k j : Nat} {z : am_Z} (hh : am_go pc L st n h k j = some (.inl z)) : z = (pc, L, st, n, h, k, j) := by
  unfold am_go at hh
  exact (Sum.inl.inj (Option.some.inj hh)).symm
theorem am_jmp_inj {pc : Nat} {off : Int} {L : am_L} {st : List Value} {n : Nat} {h : am_H} {k j : Nat} {z : am_Z} (hh : am_jmp pc off L st n h k j = some (.inl z)) : ∃ t : Nat, (pc : Int) + off = (t : Int) ∧ z = (t, L, st, n, h, k, j) := by
  unfold am_jmp at hh
  split at hh
  · rename_i h0
    exact ⟨_, (Int.toNat_of_nonneg h0).symm, am_go_inj hh⟩
  · cases hh
variable {K : am_K} {X : am_X} {mi : Nat} {pc : Nat} {L : am_L} {st : List Value} {n : Nat} {h : am_H} {k j : Nat} {z : am_Z} {call : am_Cl} {len : Nat}

theorem am_s_iconst {v : Int} (hA : am_At K X mi p R s m args meth c) (hd : decode (am_code mi) pc = .ok (.iconst v, 1)) (hx : am_ex X call mi (.iconst v) 1 pc L st n h k j = some (.inl z)) (go : am_Go K mi p l e R s m args below meth c Q z) : am_Go K mi p l e R s m args below meth c Q (pc, L, st, n, h, k, j) := by
  obtain ⟨hex, hb, hml, hown, hts, hnm, hK, hF, hbs, hfr, hlo⟩ := hA
  dsimp only [am_ex] at hx
  obtain rfl := am_go_inj hx
  intro H locs ls hH hl
  exact lv_iconst hex hb hd rfl (go H locs ls hH hl)
theorem am_s_bipush {v : Int} (hA : am_At K X mi p R s m args meth c) (hd : decode (am_code mi) pc = .ok (.bipush v, 2)) (hx : am_ex X call mi (.bipush v) 2 pc L st n h k j = some (.inl z)) (go : am_Go K mi p l e R s m args below meth c Q z) : am_Go K mi p l e R s m args below meth c Q (pc, L, st, n, h, k, j) := by
  obtain ⟨hex, hb, hml, hown, hts, hnm, hK, hF, hbs, hfr, hlo⟩ := hA
  dsimp only [am_ex] at hx
  obtain rfl := am_go_inj hx
  intro H locs ls hH hl
  exact lv_bipush hex hb hd rfl (go H locs ls hH hl)
theorem am_s_sipush {v : Int} (hA : am_At K X mi p R s m args meth c) (hd : decode (am_code mi) pc = .ok (.sipush v, 3)) (hx : am_ex X call mi (.sipush v) 3 pc L st n h k j = some (.inl z)) (go : am_Go K mi p l e R s m args below meth c Q z) : am_Go K mi p l e R s m args below meth c Q (pc, L, st, n, h, k, j) := by
  obtain ⟨hex, hb, hml, hown, hts, hnm, hK, hF, hbs, hfr, hlo⟩ := hA
  dsimp only [am_ex] at hx
  obtain rfl := am_go_inj hx
  intro H locs ls hH hl
  exact lv_sipush hex hb hd rfl (go H locs ls hH hl)
theorem am_s_lconst {v : Fin 2} (hA : am_At K X mi p R s m args meth c) (hd : decode (am_code mi) pc = .ok (.lconst v, 1)) (hx : am_ex X call mi (.lconst v) 1 pc L st n h k j = some (.inl z)) (go : am_Go K mi p l e R s m args below meth c Q z) : am_Go K mi p l e R s m args below meth c Q (pc, L, st, n, h, k, j) := by
  obtain ⟨hex, hb, hml, hown, hts, hnm, hK, hF, hbs, hfr, hlo⟩ := hA
  dsimp only [am_ex] at hx
  obtain rfl := am_go_inj hx
  intro H locs ls hH hl
  exact lv_lconst hex hb hd rfl (go H locs ls hH hl)
theorem am_s_ldc {q : Nat} (hA : am_At K X mi p R s m args meth c) (hd : decode (am_code mi) pc = .ok (.ldc q, 2)) (hx : am_ex X call mi (.ldc q) 2 pc L st n h k j = some (.inl z)) (go : am_Go K mi p l e R s m args below meth c Q z) : am_Go K mi p l e R s m args below meth c Q (pc, L, st, n, h, k, j) := by
  obtain ⟨hex, hb, hml, hown, hts, hnm, hK, hF, hbs, hfr, hlo⟩ := hA
  dsimp only [am_ex] at hx
  split at hx
  · rename_i v hv
    obtain rfl := am_go_inj hx
    intro H locs ls hH hl
    exact lv_ldc hex hb hown (hts _ (am_ckI_ok _ (am_find_in hv))) hd (go H locs ls hH hl)
  · cases hx
theorem am_s_ldc2_w {q : Nat} (hA : am_At K X mi p R s m args meth c) (hd : decode (am_code mi) pc = .ok (.ldc2_w q, 3)) (hx : am_ex X call mi (.ldc2_w q) 3 pc L st n h k j = some (.inl z)) (go : am_Go K mi p l e R s m args below meth c Q z) : am_Go K mi p l e R s m args below meth c Q (pc, L, st, n, h, k, j) := by
  obtain ⟨hex, hb, hml, hown, hts, hnm, hK, hF, hbs, hfr, hlo⟩ := hA
  dsimp only [am_ex] at hx
  split at hx
  · rename_i v hv
    obtain rfl := am_go_inj hx
    intro H locs ls hH hl
    exact lv_ldc2 hex hb hown (hts _ (am_ckL_ok _ (am_find_in hv))) hd (go H locs ls hH hl)
  · cases hx
theorem am_s_iload {i : Nat} (hA : am_At K X mi p R s m args meth c) (hd : decode (am_code mi) pc = .ok (.iload i, 2)) (hx : am_ex X call mi (.iload i) 2 pc L st n h k j = some (.inl z)) (go : am_Go K mi p l e R s m args below meth c Q z) : am_Go K mi p l e R s m args below meth c Q (pc, L, st, n, h, k, j) := by
  obtain ⟨hex, hb, hml, hown, hts, hnm, hK, hF, hbs, hfr, hlo⟩ := hA
  dsimp only [am_ex] at hx
  split at hx
  · rename_i v hv
    obtain rfl := am_go_inj hx
    intro H locs ls hH hl
    exact lv_iload hex hb hd (am_ld_in hl hv) (go H locs ls hH hl)
  · cases hx
theorem am_s_lload {i : Nat} (hA : am_At K X mi p R s m args meth c) (hd : decode (am_code mi) pc = .ok (.lload i, 2)) (hx : am_ex X call mi (.lload i) 2 pc L st n h k j = some (.inl z)) (go : am_Go K mi p l e R s m args below meth c Q z) : am_Go K mi p l e R s m args below meth c Q (pc, L, st, n, h, k, j) := by
  obtain ⟨hex, hb, hml, hown, hts, hnm, hK, hF, hbs, hfr, hlo⟩ := hA
  dsimp only [am_ex] at hx
  split at hx
  · rename_i v hv
    obtain rfl := am_go_inj hx
    intro H locs ls hH hl
    exact lv_lload hex hb hd (am_ld_in hl hv) (go H locs ls hH hl)
  · cases hx
theorem am_s_iload_n {i : Fin 4} (hA : am_At K X mi p R s m args meth c) (hd : decode (am_code mi) pc = .ok (.iload_n i, 1)) (hx : am_ex X call mi (.iload_n i) 1 pc L st n h k j = some (.inl z)) (go : am_Go K mi p l e R s m args below meth c Q z) : am_Go K mi p l e R s m args below meth c Q (pc, L, st, n, h, k, j) := by
  obtain ⟨hex, hb, hml, hown, hts, hnm, hK, hF, hbs, hfr, hlo⟩ := hA
  dsimp only [am_ex] at hx
  split at hx
  · rename_i v hv
    obtain rfl := am_go_inj hx
    intro H locs ls hH hl
    exact lv_iload_n hex hb hd rfl (am_ld_in hl hv) (go H locs ls hH hl)
  · cases hx
theorem am_s_lload_n {i : Fin 4} (hA : am_At K X mi p R s m args meth c) (hd : decode (am_code mi) pc = .ok (.lload_n i, 1)) (hx : am_ex X call mi (.lload_n i) 1 pc L st n h k j = some (.inl z)) (go : am_Go K mi p l e R s m args below meth c Q z) : am_Go K mi p l e R s m args below meth c Q (pc, L, st, n, h, k, j) := by
  obtain ⟨hex, hb, hml, hown, hts, hnm, hK, hF, hbs, hfr, hlo⟩ := hA
  dsimp only [am_ex] at hx
  split at hx
  · rename_i v hv
    obtain rfl := am_go_inj hx
    intro H locs ls hH hl
    exact lv_lload_n hex hb hd rfl (am_ld_in hl hv) (go H locs ls hH hl)
  · cases hx
theorem am_s_aload_n {i : Fin 4} (hA : am_At K X mi p R s m args meth c) (hd : decode (am_code mi) pc = .ok (.aload_n i, 1)) (hx : am_ex X call mi (.aload_n i) 1 pc L st n h k j = some (.inl z)) (go : am_Go K mi p l e R s m args below meth c Q z) : am_Go K mi p l e R s m args below meth c Q (pc, L, st, n, h, k, j) := by
  obtain ⟨hex, hb, hml, hown, hts, hnm, hK, hF, hbs, hfr, hlo⟩ := hA
  dsimp only [am_ex] at hx
  split at hx
  · rename_i v hv
    obtain rfl := am_go_inj hx
    intro H locs ls hH hl
    exact lv_aload_n hex hb hd rfl (am_ld_in hl hv) (go H locs ls hH hl)
  · rename_i v hv
    obtain rfl := am_go_inj hx
    intro H locs ls hH hl
    exact lv_aload_n hex hb hd rfl (am_ld_in hl hv) (go H locs ls hH hl)
  · cases hx
theorem am_s_istore {i : Nat} (hA : am_At K X mi p R s m args meth c) (hd : decode (am_code mi) pc = .ok (.istore i, 2)) (hx : am_ex X call mi (.istore i) 2 pc L st n h k j = some (.inl z)) (go : am_Go K mi p l e R s m args below meth c Q z) : am_Go K mi p l e R s m args below meth c Q (pc, L, st, n, h, k, j) := by
  obtain ⟨hex, hb, hml, hown, hts, hnm, hK, hF, hbs, hfr, hlo⟩ := hA
  dsimp only [am_ex] at hx
  split at hx
  · split at hx
    · rename_i hi
      obtain rfl := am_go_inj hx
      intro H locs ls hH hl
      exact lv_istore hex hb hd hl hi (am_Lm_st1 K L _ (.int _)) (fun ls' hl' => go H locs ls' hH hl')
    · cases hx
  · cases hx
theorem am_s_istore_n {i : Fin 4} (hA : am_At K X mi p R s m args meth c) (hd : decode (am_code mi) pc = .ok (.istore_n i, 1)) (hx : am_ex X call mi (.istore_n i) 1 pc L st n h k j = some (.inl z)) (go : am_Go K mi p l e R s m args below meth c Q z) : am_Go K mi p l e R s m args below meth c Q (pc, L, st, n, h, k, j) := by
  obtain ⟨hex, hb, hml, hown, hts, hnm, hK, hF, hbs, hfr, hlo⟩ := hA
  dsimp only [am_ex] at hx
  split at hx
  · split at hx
    · rename_i hi
      obtain rfl := am_go_inj hx
      intro H locs ls hH hl
      exact lv_istore_n hex hb hd rfl hl hi (am_Lm_st1 K L _ (.int _)) (fun ls' hl' => go H locs ls' hH hl')
    · cases hx
  · cases hx
theorem am_s_lstore {i : Nat} (hA : am_At K X mi p R s m args meth c) (hd : decode (am_code mi) pc = .ok (.lstore i, 2)) (hx : am_ex X call mi (.lstore i) 2 pc L st n h k j = some (.inl z)) (go : am_Go K mi p l e R s m args below meth c Q z) : am_Go K mi p l e R s m args below meth c Q (pc, L, st, n, h, k, j) := by
  obtain ⟨hex, hb, hml, hown, hts, hnm, hK, hF, hbs, hfr, hlo⟩ := hA
  dsimp only [am_ex] at hx
  split at hx
  · split at hx
    · rename_i hi
      obtain rfl := am_go_inj hx
      intro H locs ls hH hl
      exact lv_lstore hex hb hd hl hi (am_Lm_st2 K L _ (.long _)) (fun ls' hl' => go H locs ls' hH hl')
    · cases hx
  · cases hx
theorem am_s_lstore_n {i : Fin 4} (hA : am_At K X mi p R s m args meth c) (hd : decode (am_code mi) pc = .ok (.lstore_n i, 1)) (hx : am_ex X call mi (.lstore_n i) 1 pc L st n h k j = some (.inl z)) (go : am_Go K mi p l e R s m args below meth c Q z) : am_Go K mi p l e R s m args below meth c Q (pc, L, st, n, h, k, j) := by
  obtain ⟨hex, hb, hml, hown, hts, hnm, hK, hF, hbs, hfr, hlo⟩ := hA
  dsimp only [am_ex] at hx
  split at hx
  · split at hx
    · rename_i hi
      obtain rfl := am_go_inj hx
      intro H locs ls hH hl
      exact lv_lstore_n hex hb hd rfl hl hi (am_Lm_st2 K L _ (.long _)) (fun ls' hl' => go H locs ls' hH hl')
    · cases hx
  · cases hx
theorem am_s_astore_n {i : Fin 4} (hA : am_At K X mi p R s m args meth c) (hd : decode (am_code mi) pc = .ok (.astore_n i, 1)) (hx : am_ex X call mi (.astore_n i) 1 pc L st n h k j = some (.inl z)) (go : am_Go K mi p l e R s m args below meth c Q z) : am_Go K mi p l e R s m args below meth c Q (pc, L, st, n, h, k, j) := by
  obtain ⟨hex, hb, hml, hown, hts, hnm, hK, hF, hbs, hfr, hlo⟩ := hA
  dsimp only [am_ex] at hx
  split at hx
  · split at hx
    · rename_i hi
      obtain rfl := am_go_inj hx
      intro H locs ls hH hl
      exact lv_astore_n hex hb hd rfl hl hi (am_Lm_st1 K L _ (.ref _)) (fun ls' hl' => go H locs ls' hH hl')
    · cases hx
  · cases hx
theorem am_s_iinc {i : Nat} {v : Int} (hA : am_At K X mi p R s m args meth c) (hd : decode (am_code mi) pc = .ok (.iinc i v, 3)) (hx : am_ex X call mi (.iinc i v) 3 pc L st n h k j = some (.inl z)) (go : am_Go K mi p l e R s m args below meth c Q z) : am_Go K mi p l e R s m args below meth c Q (pc, L, st, n, h, k, j) := by
  obtain ⟨hex, hb, hml, hown, hts, hnm, hK, hF, hbs, hfr, hlo⟩ := hA
  dsimp only [am_ex] at hx
  split at hx
  · rename_i x hv
    split at hx
    · rename_i hi
      obtain rfl := am_go_inj hx
      intro H locs ls hH hl
      obtain ⟨q, hq⟩ := am_ld_pos (K := K) hv
      exact lv_iinc hex hb hd hl hq rfl hi (am_Lm_st1 K L _ (.int _)) (fun ls' hl' => go H locs ls' hH hl')
    · cases hx
  · cases hx
theorem am_s_iadd  (hA : am_At K X mi p R s m args meth c) (hd : decode (am_code mi) pc = .ok (.iadd, 1)) (hx : am_ex X call mi (.iadd) 1 pc L st n h k j = some (.inl z)) (go : am_Go K mi p l e R s m args below meth c Q z) : am_Go K mi p l e R s m args below meth c Q (pc, L, st, n, h, k, j) := by
  obtain ⟨hex, hb, hml, hown, hts, hnm, hK, hF, hbs, hfr, hlo⟩ := hA
  dsimp only [am_ex] at hx
  split at hx
  · obtain rfl := am_go_inj hx
    intro H locs ls hH hl
    exact lv_iadd hex hb hd (go H locs ls hH hl)
  · cases hx
theorem am_s_isub  (hA : am_At K X mi p R s m args meth c) (hd : decode (am_code mi) pc = .ok (.isub, 1)) (hx : am_ex X call mi (.isub) 1 pc L st n h k j = some (.inl z)) (go : am_Go K mi p l e R s m args below meth c Q z) : am_Go K mi p l e R s m args below meth c Q (pc, L, st, n, h, k, j) := by
  obtain ⟨hex, hb, hml, hown, hts, hnm, hK, hF, hbs, hfr, hlo⟩ := hA
  dsimp only [am_ex] at hx
  split at hx
  · obtain rfl := am_go_inj hx
    intro H locs ls hH hl
    exact lv_isub hex hb hd (go H locs ls hH hl)
  · cases hx
theorem am_s_imul  (hA : am_At K X mi p R s m args meth c) (hd : decode (am_code mi) pc = .ok (.imul, 1)) (hx : am_ex X call mi (.imul) 1 pc L st n h k j = some (.inl z)) (go : am_Go K mi p l e R s m args below meth c Q z) : am_Go K mi p l e R s m args below meth c Q (pc, L, st, n, h, k, j) := by
  obtain ⟨hex, hb, hml, hown, hts, hnm, hK, hF, hbs, hfr, hlo⟩ := hA
  dsimp only [am_ex] at hx
  split at hx
  · obtain rfl := am_go_inj hx
    intro H locs ls hH hl
    exact lv_imul hex hb hd (go H locs ls hH hl)
  · cases hx
theorem am_s_iand  (hA : am_At K X mi p R s m args meth c) (hd : decode (am_code mi) pc = .ok (.iand, 1)) (hx : am_ex X call mi (.iand) 1 pc L st n h k j = some (.inl z)) (go : am_Go K mi p l e R s m args below meth c Q z) : am_Go K mi p l e R s m args below meth c Q (pc, L, st, n, h, k, j) := by
  obtain ⟨hex, hb, hml, hown, hts, hnm, hK, hF, hbs, hfr, hlo⟩ := hA
  dsimp only [am_ex] at hx
  split at hx
  · obtain rfl := am_go_inj hx
    intro H locs ls hH hl
    exact lv_iand hex hb hd (go H locs ls hH hl)
  · cases hx
theorem am_s_ior  (hA : am_At K X mi p R s m args meth c) (hd : decode (am_code mi) pc = .ok (.ior, 1)) (hx : am_ex X call mi (.ior) 1 pc L st n h k j = some (.inl z)) (go : am_Go K mi p l e R s m args below meth c Q z) : am_Go K mi p l e R s m args below meth c Q (pc, L, st, n, h, k, j) := by
  obtain ⟨hex, hb, hml, hown, hts, hnm, hK, hF, hbs, hfr, hlo⟩ := hA
  dsimp only [am_ex] at hx
  split at hx
  · obtain rfl := am_go_inj hx
    intro H locs ls hH hl
    exact lv_ior hex hb hd (go H locs ls hH hl)
  · cases hx
theorem am_s_ixor  (hA : am_At K X mi p R s m args meth c) (hd : decode (am_code mi) pc = .ok (.ixor, 1)) (hx : am_ex X call mi (.ixor) 1 pc L st n h k j = some (.inl z)) (go : am_Go K mi p l e R s m args below meth c Q z) : am_Go K mi p l e R s m args below meth c Q (pc, L, st, n, h, k, j) := by
  obtain ⟨hex, hb, hml, hown, hts, hnm, hK, hF, hbs, hfr, hlo⟩ := hA
  dsimp only [am_ex] at hx
  split at hx
  · obtain rfl := am_go_inj hx
    intro H locs ls hH hl
    exact lv_ixor hex hb hd (go H locs ls hH hl)
  · cases hx
theorem am_s_ishl  (hA : am_At K X mi p R s m args meth c) (hd : decode (am_code mi) pc = .ok (.ishl, 1)) (hx : am_ex X call mi (.ishl) 1 pc L st n h k j = some (.inl z)) (go : am_Go K mi p l e R s m args below meth c Q z) : am_Go K mi p l e R s m args below meth c Q (pc, L, st, n, h, k, j) := by
  obtain ⟨hex, hb, hml, hown, hts, hnm, hK, hF, hbs, hfr, hlo⟩ := hA
  dsimp only [am_ex] at hx
  split at hx
  · obtain rfl := am_go_inj hx
    intro H locs ls hH hl
    exact lv_ishl hex hb hd (go H locs ls hH hl)
  · cases hx
theorem am_s_ishr  (hA : am_At K X mi p R s m args meth c) (hd : decode (am_code mi) pc = .ok (.ishr, 1)) (hx : am_ex X call mi (.ishr) 1 pc L st n h k j = some (.inl z)) (go : am_Go K mi p l e R s m args below meth c Q z) : am_Go K mi p l e R s m args below meth c Q (pc, L, st, n, h, k, j) := by
  obtain ⟨hex, hb, hml, hown, hts, hnm, hK, hF, hbs, hfr, hlo⟩ := hA
  dsimp only [am_ex] at hx
  split at hx
  · obtain rfl := am_go_inj hx
    intro H locs ls hH hl
    exact lv_ishr hex hb hd (go H locs ls hH hl)
  · cases hx
theorem am_s_ineg  (hA : am_At K X mi p R s m args meth c) (hd : decode (am_code mi) pc = .ok (.ineg, 1)) (hx : am_ex X call mi (.ineg) 1 pc L st n h k j = some (.inl z)) (go : am_Go K mi p l e R s m args below meth c Q z) : am_Go K mi p l e R s m args below meth c Q (pc, L, st, n, h, k, j) := by
  obtain ⟨hex, hb, hml, hown, hts, hnm, hK, hF, hbs, hfr, hlo⟩ := hA
  dsimp only [am_ex] at hx
  split at hx
  · obtain rfl := am_go_inj hx
    intro H locs ls hH hl
    exact lv_ineg hex hb hd (go H locs ls hH hl)
  · cases hx
theorem am_s_ladd  (hA : am_At K X mi p R s m args meth c) (hd : decode (am_code mi) pc = .ok (.ladd, 1)) (hx : am_ex X call mi (.ladd) 1 pc L st n h k j = some (.inl z)) (go : am_Go K mi p l e R s m args below meth c Q z) : am_Go K mi p l e R s m args below meth c Q (pc, L, st, n, h, k, j) := by
  obtain ⟨hex, hb, hml, hown, hts, hnm, hK, hF, hbs, hfr, hlo⟩ := hA
  dsimp only [am_ex] at hx
  split at hx
  · obtain rfl := am_go_inj hx
    intro H locs ls hH hl
    exact lv_ladd hex hb hd (go H locs ls hH hl)
  · cases hx
theorem am_s_lsub  (hA : am_At K X mi p R s m args meth c) (hd : decode (am_code mi) pc = .ok (.lsub, 1)) (hx : am_ex X call mi (.lsub) 1 pc L st n h k j = some (.inl z)) (go : am_Go K mi p l e R s m args below meth c Q z) : am_Go K mi p l e R s m args below meth c Q (pc, L, st, n, h, k, j) := by
  obtain ⟨hex, hb, hml, hown, hts, hnm, hK, hF, hbs, hfr, hlo⟩ := hA
  dsimp only [am_ex] at hx
  split at hx
  · obtain rfl := am_go_inj hx
    intro H locs ls hH hl
    exact lv_lsub hex hb hd (go H locs ls hH hl)
  · cases hx
theorem am_s_lmul  (hA : am_At K X mi p R s m args meth c) (hd : decode (am_code mi) pc = .ok (.lmul, 1)) (hx : am_ex X call mi (.lmul) 1 pc L st n h k j = some (.inl z)) (go : am_Go K mi p l e R s m args below meth c Q z) : am_Go K mi p l e R s m args below meth c Q (pc, L, st, n, h, k, j) := by
  obtain ⟨hex, hb, hml, hown, hts, hnm, hK, hF, hbs, hfr, hlo⟩ := hA
  dsimp only [am_ex] at hx
  split at hx
  · obtain rfl := am_go_inj hx
    intro H locs ls hH hl
    exact lv_lmul hex hb hd (go H locs ls hH hl)
  · cases hx
theorem am_s_lneg  (hA : am_At K X mi p R s m args meth c) (hd : decode (am_code mi) pc = .ok (.lneg, 1)) (hx : am_ex X call mi (.lneg) 1 pc L st n h k j = some (.inl z)) (go : am_Go K mi p l e R s m args below meth c Q z) : am_Go K mi p l e R s m args below meth c Q (pc, L, st, n, h, k, j) := by
  obtain ⟨hex, hb, hml, hown, hts, hnm, hK, hF, hbs, hfr, hlo⟩ := hA
  dsimp only [am_ex] at hx
  split at hx
  · obtain rfl := am_go_inj hx
    intro H locs ls hH hl
    exact lv_lneg hex hb hd (go H locs ls hH hl)
  · cases hx
theorem am_s_idiv  (hA : am_At K X mi p R s m args meth c) (hd : decode (am_code mi) pc = .ok (.idiv, 1)) (hx : am_ex X call mi (.idiv) 1 pc L st n h k j = some (.inl z)) (go : am_Go K mi p l e R s m args below meth c Q z) : am_Go K mi p l e R s m args below meth c Q (pc, L, st, n, h, k, j) := by
  obtain ⟨hex, hb, hml, hown, hts, hnm, hK, hF, hbs, hfr, hlo⟩ := hA
  dsimp only [am_ex] at hx
  split at hx
  · split at hx
    · rename_i hne
      obtain rfl := am_go_inj hx
      intro H locs ls hH hl
      exact lv_idiv hex hb hd hne (go H locs ls hH hl)
    · cases hx
  · cases hx
theorem am_s_irem  (hA : am_At K X mi p R s m args meth c) (hd : decode (am_code mi) pc = .ok (.irem, 1)) (hx : am_ex X call mi (.irem) 1 pc L st n h k j = some (.inl z)) (go : am_Go K mi p l e R s m args below meth c Q z) : am_Go K mi p l e R s m args below meth c Q (pc, L, st, n, h, k, j) := by
  obtain ⟨hex, hb, hml, hown, hts, hnm, hK, hF, hbs, hfr, hlo⟩ := hA
  dsimp only [am_ex] at hx
  split at hx
  · split at hx
    · rename_i hne
      obtain rfl := am_go_inj hx
      intro H locs ls hH hl
      exact lv_irem hex hb hd hne (go H locs ls hH hl)
    · cases hx
  · cases hx
theorem am_s_ldiv  (hA : am_At K X mi p R s m args meth c) (hd : decode (am_code mi) pc = .ok (.ldiv, 1)) (hx : am_ex X call mi (.ldiv) 1 pc L st n h k j = some (.inl z)) (go : am_Go K mi p l e R s m args below meth c Q z) : am_Go K mi p l e R s m args below meth c Q (pc, L, st, n, h, k, j) := by
  obtain ⟨hex, hb, hml, hown, hts, hnm, hK, hF, hbs, hfr, hlo⟩ := hA
  dsimp only [am_ex] at hx
  split at hx
  · split at hx
    · rename_i hne
      obtain rfl := am_go_inj hx
      intro H locs ls hH hl
      exact lv_ldiv hex hb hd hne (go H locs ls hH hl)
    · cases hx
  · cases hx
theorem am_s_lrem  (hA : am_At K X mi p R s m args meth c) (hd : decode (am_code mi) pc = .ok (.lrem, 1)) (hx : am_ex X call mi (.lrem) 1 pc L st n h k j = some (.inl z)) (go : am_Go K mi p l e R s m args below meth c Q z) : am_Go K mi p l e R s m args below meth c Q (pc, L, st, n, h, k, j) := by
  obtain ⟨hex, hb, hml, hown, hts, hnm, hK, hF, hbs, hfr, hlo⟩ := hA
  dsimp only [am_ex] at hx
  split at hx
  · split at hx
    · rename_i hne
      obtain rfl := am_go_inj hx
      intro H locs ls hH hl
      exact lv_lrem hex hb hd hne (go H locs ls hH hl)
    · cases hx
  · cases hx
theorem am_s_lcmp  (hA : am_At K X mi p R s m args meth c) (hd : decode (am_code mi) pc = .ok (.lcmp, 1)) (hx : am_ex X call mi (.lcmp) 1 pc L st n h k j = some (.inl z)) (go : am_Go K mi p l e R s m args below meth c Q z) : am_Go K mi p l e R s m args below meth c Q (pc, L, st, n, h, k, j) := by
  obtain ⟨hex, hb, hml, hown, hts, hnm, hK, hF, hbs, hfr, hlo⟩ := hA
  dsimp only [am_ex] at hx
  split at hx
  · obtain rfl := am_go_inj hx
    intro H locs ls hH hl
    exact W.lcmp hex hb hd (go H locs ls hH hl)
  · cases hx
theorem am_s_i2l  (hA : am_At K X mi p R s m args meth c) (hd : decode (am_code mi) pc = .ok (.i2l, 1)) (hx : am_ex X call mi (.i2l) 1 pc L st n h k j = some (.inl z)) (go : am_Go K mi p l e R s m args below meth c Q z) : am_Go K mi p l e R s m args below meth c Q (pc, L, st, n, h, k, j) := by
  obtain ⟨hex, hb, hml, hown, hts, hnm, hK, hF, hbs, hfr, hlo⟩ := hA
  dsimp only [am_ex] at hx
  split at hx
  · obtain rfl := am_go_inj hx
    intro H locs ls hH hl
    exact lv_i2l hex hb hd rfl (go H locs ls hH hl)
  · cases hx
theorem am_s_l2i  (hA : am_At K X mi p R s m args meth c) (hd : decode (am_code mi) pc = .ok (.l2i, 1)) (hx : am_ex X call mi (.l2i) 1 pc L st n h k j = some (.inl z)) (go : am_Go K mi p l e R s m args below meth c Q z) : am_Go K mi p l e R s m args below meth c Q (pc, L, st, n, h, k, j) := by
  obtain ⟨hex, hb, hml, hown, hts, hnm, hK, hF, hbs, hfr, hlo⟩ := hA
  dsimp only [am_ex] at hx
  split at hx
  · obtain rfl := am_go_inj hx
    intro H locs ls hH hl
    exact lv_l2i hex hb hd rfl (go H locs ls hH hl)
  · cases hx
theorem am_s_dup  (hA : am_At K X mi p R s m args meth c) (hd : decode (am_code mi) pc = .ok (.dup, 1)) (hx : am_ex X call mi (.dup) 1 pc L st n h k j = some (.inl z)) (go : am_Go K mi p l e R s m args below meth c Q z) : am_Go K mi p l e R s m args below meth c Q (pc, L, st, n, h, k, j) := by
  obtain ⟨hex, hb, hml, hown, hts, hnm, hK, hF, hbs, hfr, hlo⟩ := hA
  dsimp only [am_ex] at hx
  split at hx
  · split at hx
    · rename_i hc
      obtain rfl := am_go_inj hx
      intro H locs ls hH hl
      exact lv_dup hex hb hd ((am_v_cat K _).trans hc) (go H locs ls hH hl)
    · cases hx
  · cases hx
theorem am_s_pop  (hA : am_At K X mi p R s m args meth c) (hd : decode (am_code mi) pc = .ok (.pop, 1)) (hx : am_ex X call mi (.pop) 1 pc L st n h k j = some (.inl z)) (go : am_Go K mi p l e R s m args below meth c Q z) : am_Go K mi p l e R s m args below meth c Q (pc, L, st, n, h, k, j) := by
  obtain ⟨hex, hb, hml, hown, hts, hnm, hK, hF, hbs, hfr, hlo⟩ := hA
  dsimp only [am_ex] at hx
  split at hx
  · split at hx
    · rename_i hc
      obtain rfl := am_go_inj hx
      intro H locs ls hH hl
      exact lv_pop hex hb hd ((am_v_cat K _).trans hc) (go H locs ls hH hl)
    · cases hx
  · cases hx
theorem am_s_dup2  (hA : am_At K X mi p R s m args meth c) (hd : decode (am_code mi) pc = .ok (.dup2, 1)) (hx : am_ex X call mi (.dup2) 1 pc L st n h k j = some (.inl z)) (go : am_Go K mi p l e R s m args below meth c Q z) : am_Go K mi p l e R s m args below meth c Q (pc, L, st, n, h, k, j) := by
  obtain ⟨hex, hb, hml, hown, hts, hnm, hK, hF, hbs, hfr, hlo⟩ := hA
  dsimp only [am_ex] at hx
  split at hx
  · split at hx
    · rename_i hc
      obtain rfl := am_go_inj hx
      intro H locs ls hH hl
      exact lv_dup2_11 hex hb hd ((am_v_cat K _).trans hc.1) ((am_v_cat K _).trans hc.2) (go H locs ls hH hl)
    · cases hx
  · cases hx
theorem am_s_goto {o : Int} (hA : am_At K X mi p R s m args meth c) (hd : decode (am_code mi) pc = .ok (.goto o, 3)) (hx : am_ex X call mi (.goto o) 3 pc L st n h k j = some (.inl z)) (go : am_Go K mi p l e R s m args below meth c Q z) : am_Go K mi p l e R s m args below meth c Q (pc, L, st, n, h, k, j) := by
  obtain ⟨hex, hb, hml, hown, hts, hnm, hK, hF, hbs, hfr, hlo⟩ := hA
  dsimp only [am_ex] at hx
  obtain ⟨t, ht, rfl⟩ := am_jmp_inj hx
  intro H locs ls hH hl
  exact lv_goto hex hb hd ht (go H locs ls hH hl)
theorem am_s_ifCond {o : ClassFile.Cond} {d : Int} (hA : am_At K X mi p R s m args meth c) (hd : decode (am_code mi) pc = .ok (.ifCond o d, 3)) (hx : am_ex X call mi (.ifCond o d) 3 pc L st n h k j = some (.inl z)) (go : am_Go K mi p l e R s m args below meth c Q z) : am_Go K mi p l e R s m args below meth c Q (pc, L, st, n, h, k, j) := by
  obtain ⟨hex, hb, hml, hown, hts, hnm, hK, hF, hbs, hfr, hlo⟩ := hA
  dsimp only [am_ex] at hx
  split at hx
  · split at hx
    · rename_i h0
      have ht : (pc : Int) + d = ((((pc : Int) + d).toNat : Nat) : Int) := (Int.toNat_of_nonneg h0).symm
      cases o with
      | eq =>
        dsimp only [am_br] at hx
        split at hx
        · rename_i hc
          obtain rfl := am_go_inj hx
          intro H locs ls hH hl
          exact lv_if_eq hex hb hd ht (fun _ => go H locs ls hH hl) (fun q => absurd q (fun r => r hc))
        · rename_i hc
          obtain rfl := am_go_inj hx
          intro H locs ls hH hl
          exact lv_if_eq hex hb hd ht (fun q => absurd q hc) (fun q => go H locs ls hH hl)
      | ne =>
        dsimp only [am_br] at hx
        split at hx
        · rename_i hc
          obtain rfl := am_go_inj hx
          intro H locs ls hH hl
          exact lv_if_ne hex hb hd ht (fun _ => go H locs ls hH hl) (fun q => absurd q hc)
        · rename_i hc
          obtain rfl := am_go_inj hx
          intro H locs ls hH hl
          exact lv_if_ne hex hb hd ht (fun q => absurd q hc) (fun q => go H locs ls hH hl)
      | lt =>
        dsimp only [am_br] at hx
        split at hx
        · rename_i hc
          obtain rfl := am_go_inj hx
          intro H locs ls hH hl
          exact lv_if_lt hex hb hd ht (fun _ => go H locs ls hH hl) (fun q => absurd q (fun r => r hc))
        · rename_i hc
          obtain rfl := am_go_inj hx
          intro H locs ls hH hl
          exact lv_if_lt hex hb hd ht (fun q => absurd q hc) (fun q => go H locs ls hH hl)
      | ge =>
        dsimp only [am_br] at hx
        split at hx
        · rename_i hc
          obtain rfl := am_go_inj hx
          intro H locs ls hH hl
          exact lv_if_ge hex hb hd ht (fun _ => go H locs ls hH hl) (fun q => absurd q (fun r => r hc))
        · rename_i hc
          obtain rfl := am_go_inj hx
          intro H locs ls hH hl
          exact lv_if_ge hex hb hd ht (fun q => absurd q hc) (fun q => go H locs ls hH hl)
      | gt =>
        dsimp only [am_br] at hx
        split at hx
        · rename_i hc
          obtain rfl := am_go_inj hx
          intro H locs ls hH hl
          exact lv_if_gt hex hb hd ht (fun _ => go H locs ls hH hl) (fun q => absurd q (fun r => r hc))
        · rename_i hc
          obtain rfl := am_go_inj hx
          intro H locs ls hH hl
          exact lv_if_gt hex hb hd ht (fun q => absurd q hc) (fun q => go H locs ls hH hl)
      | le =>
        dsimp only [am_br] at hx
        split at hx
        · rename_i hc
          obtain rfl := am_go_inj hx
          intro H locs ls hH hl
          exact lv_if_le hex hb hd ht (fun _ => go H locs ls hH hl) (fun q => absurd q (fun r => r hc))
        · rename_i hc
          obtain rfl := am_go_inj hx
          intro H locs ls hH hl
          exact lv_if_le hex hb hd ht (fun q => absurd q hc) (fun q => go H locs ls hH hl)
    · cases hx
  · cases hx
theorem am_s_if_icmp {o : ClassFile.Cond} {d : Int} (hA : am_At K X mi p R s m args meth c) (hd : decode (am_code mi) pc = .ok (.if_icmp o d, 3)) (hx : am_ex X call mi (.if_icmp o d) 3 pc L st n h k j = some (.inl z)) (go : am_Go K mi p l e R s m args below meth c Q z) : am_Go K mi p l e R s m args below meth c Q (pc, L, st, n, h, k, j) := by
  obtain ⟨hex, hb, hml, hown, hts, hnm, hK, hF, hbs, hfr, hlo⟩ := hA
  dsimp only [am_ex] at hx
  split at hx
  · split at hx
    · rename_i h0
      have ht : (pc : Int) + d = ((((pc : Int) + d).toNat : Nat) : Int) := (Int.toNat_of_nonneg h0).symm
      cases o with
      | eq =>
        dsimp only [am_br] at hx
        split at hx
        · rename_i hc
          obtain rfl := am_go_inj hx
          intro H locs ls hH hl
          exact lv_icmp_eq hex hb hd ht (fun _ => go H locs ls hH hl) (fun q => absurd q (fun r => r hc))
        · rename_i hc
          obtain rfl := am_go_inj hx
          intro H locs ls hH hl
          exact lv_icmp_eq hex hb hd ht (fun q => absurd q hc) (fun q => go H locs ls hH hl)
      | ne =>
        dsimp only [am_br] at hx
        split at hx
        · rename_i hc
          obtain rfl := am_go_inj hx
          intro H locs ls hH hl
          exact lv_icmp_ne hex hb hd ht (fun _ => go H locs ls hH hl) (fun q => absurd q hc)
        · rename_i hc
          obtain rfl := am_go_inj hx
          intro H locs ls hH hl
          exact lv_icmp_ne hex hb hd ht (fun q => absurd q hc) (fun q => go H locs ls hH hl)
      | lt =>
        dsimp only [am_br] at hx
        split at hx
        · rename_i hc
          obtain rfl := am_go_inj hx
          intro H locs ls hH hl
          exact lv_icmp_lt hex hb hd ht (fun _ => go H locs ls hH hl) (fun q => absurd q (fun r => r hc))
        · rename_i hc
          obtain rfl := am_go_inj hx
          intro H locs ls hH hl
          exact lv_icmp_lt hex hb hd ht (fun q => absurd q hc) (fun q => go H locs ls hH hl)
      | ge =>
        dsimp only [am_br] at hx
        split at hx
        · rename_i hc
          obtain rfl := am_go_inj hx
          intro H locs ls hH hl
          exact lv_icmp_ge hex hb hd ht (fun _ => go H locs ls hH hl) (fun q => absurd q (fun r => r hc))
        · rename_i hc
          obtain rfl := am_go_inj hx
          intro H locs ls hH hl
          exact lv_icmp_ge hex hb hd ht (fun q => absurd q hc) (fun q => go H locs ls hH hl)
      | gt =>
        dsimp only [am_br] at hx
        split at hx
        · rename_i hc
          obtain rfl := am_go_inj hx
          intro H locs ls hH hl
          exact lv_icmp_gt hex hb hd ht (fun _ => go H locs ls hH hl) (fun q => absurd q (fun r => r hc))
        · rename_i hc
          obtain rfl := am_go_inj hx
          intro H locs ls hH hl
          exact lv_icmp_gt hex hb hd ht (fun q => absurd q hc) (fun q => go H locs ls hH hl)
      | le =>
        dsimp only [am_br] at hx
        split at hx
        · rename_i hc
          obtain rfl := am_go_inj hx
          intro H locs ls hH hl
          exact lv_icmp_le hex hb hd ht (fun _ => go H locs ls hH hl) (fun q => absurd q (fun r => r hc))
        · rename_i hc
          obtain rfl := am_go_inj hx
          intro H locs ls hH hl
          exact lv_icmp_le hex hb hd ht (fun q => absurd q hc) (fun q => go H locs ls hH hl)
    · cases hx
  · cases hx
end AMS
end
section
/-! each step of the abstract machine is the machine's: switches, fields, arrays -/
section AMT
variable {p : Program} {l : Launch} {e : Env} {R : Room} {s : State} {m : MethodId} {args : Array Value} {below : List Frame} {meth : Method} {c : Code} {Q : State → Prop}
variable {K : am_K} {X : am_X} {mi : Nat} {pc : Nat} {L : am_L} {st : List Value} {n : Nat} {h : am_H} {k j : Nat} {z : am_Z} {call : am_Cl} {len : Nat}
theorem am_s_tableswitch {d lo hi : Int} {offs : Array Int} {len : Nat} (hA : am_At K X mi p R s m args meth c) (hd : decode (am_code mi) pc = .ok (.tableswitch d lo hi offs, len)) (hx : am_ex X call mi (.tableswitch d lo hi offs) len pc L st n h k j = some (.inl z)) (go : am_Go K mi p l e R s m args below meth c Q z) : am_Go K mi p l e R s m args below meth c Q (pc, L, st, n, h, k, j) := by
  obtain ⟨hex, hb, hml, hown, hts, hnm, hK, hF, hbs, hfr, hlo⟩ := hA
  dsimp only [am_ex] at hx
  split at hx
  · split at hx
    · rename_i hc
      obtain ⟨t, ht, rfl⟩ := am_jmp_inj hx
      intro H locs ls hH hl
      exact lv_tableOut hex hb hd hc ht (go H locs ls hH hl)
    · rename_i hc
      split at hx
      · rename_i o ho
        obtain ⟨t, ht, rfl⟩ := am_jmp_inj hx
        intro H locs ls hH hl
        exact lv_tableIn hex hb hd (fun q => hc (Or.inl q)) (fun q => hc (Or.inr q)) ho ht (go H locs ls hH hl)
      · cases hx
  · cases hx
theorem am_s_lookupswitch {d : Int} {ps : Array (Int × Int)} {len : Nat} (hA : am_At K X mi p R s m args meth c) (hd : decode (am_code mi) pc = .ok (.lookupswitch d ps, len)) (hx : am_ex X call mi (.lookupswitch d ps) len pc L st n h k j = some (.inl z)) (go : am_Go K mi p l e R s m args below meth c Q z) : am_Go K mi p l e R s m args below meth c Q (pc, L, st, n, h, k, j) := by
  obtain ⟨hex, hb, hml, hown, hts, hnm, hK, hF, hbs, hfr, hlo⟩ := hA
  dsimp only [am_ex] at hx
  split at hx
  · split at hx
    · rename_i hc
      obtain ⟨t, ht, rfl⟩ := am_jmp_inj hx
      intro H locs ls hH hl
      exact lv_lookup hex hb hd hc rfl ht (go H locs ls hH hl)
    · cases hx
  · cases hx
theorem am_s_getfield {q : Nat} (hA : am_At K X mi p R s m args meth c) (hd : decode (am_code mi) pc = .ok (.getfield q, 3)) (hx : am_ex X call mi (.getfield q) 3 pc L st n h k j = some (.inl z)) (go : am_Go K mi p l e R s m args below meth c Q z) : am_Go K mi p l e R s m args below meth c Q (pc, L, st, n, h, k, j) := by
  obtain ⟨hex, hb, hml, hown, hts, hnm, hK, hF, hbs, hfr, hlo⟩ := hA
  dsimp only [am_ex] at hx
  split at hx
  · rename_i st1 hg
    obtain rfl := am_go_inj hx
    intro H locs ls hH hl
    unfold am_get at hg
    split at hg
    · rename_i ci f a rest hfd
      split at hg
      · rename_i cj fs he
        split at hg
        · rename_i hc
          obtain ⟨ha, rfl⟩ := hc
          obtain ⟨v, hv, rfl⟩ := Option.map_eq_some_iff.mp hg
          obtain ⟨h1, h2, h3⟩ := am_ckF_ok _ (am_find_in hfd)
          refine va_get (D := am_D K) (v := am_v K v) (fs := am_vs K fs) hex hb hts (am_u_ok ci h1) hown hK hH.2.1 a ?_ (am_cl_get ci h1) f h2 (hts _ h3) (fun _ q => q) ?_ hd (go H locs ls hH hl)
          · rw [am_W_get K h ha, he]; rfl
          · rw [List.getElem?_map, hv]; rfl
        · cases hg
      · cases hg
    · cases hg
  · cases hx
theorem am_okv_ok {K : am_K} {ty : FieldType} {v : Value} (h : am_okv ty v = true) : narrow ty (am_v K v) = am_v K v ∧ fits ty (am_v K v) = true := by
  unfold am_okv at h
  split at h
  · exact ⟨rfl, rfl⟩
  · exact ⟨rfl, rfl⟩
  · rename_i v
    rcases Bool.or_eq_true_iff.mp h with h | h
    · rw [show v = 0 from by simpa using h]; exact ⟨rfl, rfl⟩
    · rw [show v = 1 from by simpa using h]; exact ⟨rfl, rfl⟩
  · exact ⟨rfl, rfl⟩
  · exact ⟨rfl, rfl⟩
  · cases h
theorem am_s_putfield {q : Nat} (hA : am_At K X mi p R s m args meth c) (hd : decode (am_code mi) pc = .ok (.putfield q, 3)) (hx : am_ex X call mi (.putfield q) 3 pc L st n h k j = some (.inl z)) (go : am_Go K mi p l e R s m args below meth c Q z) : am_Go K mi p l e R s m args below meth c Q (pc, L, st, n, h, k, j) := by
  obtain ⟨hex, hb, hml, hown, hts, hnm, hK, hF, hbs, hfr, hlo⟩ := hA
  dsimp only [am_ex] at hx
  split at hx
  · rename_i st1 h1 hg
    obtain rfl := am_go_inj hx
    intro H locs ls hH hl
    unfold am_put at hg
    split at hg
    · rename_i ci f v a rest hfd
      split at hg
      · rename_i cj fs he
        split at hg
        · rename_i hc
          obtain ⟨ha, rfl, hlen, hok, hfin⟩ := hc
          cases hg
          obtain ⟨g1, g2, g3⟩ := am_ckF_ok _ (am_find_in hfd)
          obtain ⟨o1, o2⟩ := am_okv_ok (K := K) hok
          have hw : (am_W K n h)[a]? = some (K.1 + a, .inr (ci, am_vs K fs)) := by rw [am_W_get K h ha, he]; rfl
          have hset : (am_W K n h).set a (K.1 + a, .inr (ci, (am_vs K fs).set f (am_v K v))) = am_W K n (am_up h a (.inr (ci, fs.set f v))) := by
            rw [← am_W_set K h ha]
            congr 2
            show _ = am_e K (.inr (ci, fs.set f v))
            unfold am_e
            dsimp only
            rw [List.map_set]
          have kk : ∀ (H1 : Heap) (locs1 : List Loc), va_P (am_D K) am_cl ((am_W K n h).set a (K.1 + a, .inr (ci, (am_vs K fs).set f (am_v K v)))) H1 → va_D (am_A K) ((am_W K n h).set a (K.1 + a, .inr (ci, (am_vs K fs).set f (am_v K v)))) → va_S (am_A K) s.heap H1 locs1 → W p l e R s m args below meth c H1 locs1 k j Q (F0 m (pc + 3) ls (am_vs K st1)) := by
            intro H1 locs1 hP1 _ hS1
            rw [hset] at hP1
            exact go H1 locs1 ls ⟨hH.1, hP1, hS1⟩ hl
          rcases hfin with hfin | ⟨hin, hdc⟩
          · exact va_put (D := am_D K) (v := am_v K v) (fs := am_vs K fs) (ty := am_ty ci f) hex hb hts (am_u_ok ci g1) (am_ty ci) (am_ckT_ok ci g1) (am_ckU_ok ci g1) hown hK hH.2.1 (am_W_D K n h) hH.2.2 a hw (am_cl_get ci g1) f g2 (hts _ g3) (fun _ q => q) hfin (am_ckT_ok ci g1 f g2) o1 o2 (by simpa using hlen) hd kk
          · by_cases hfin : ((am_C ci).2.1 f).2.2.2 = true
            · exact va_putF (D := am_D K) (v := am_v K v) (fs := am_vs K fs) (ty := am_ty ci f) hex hb hts (am_u_ok ci g1) (am_ty ci) (am_ckT_ok ci g1) (am_ckU_ok ci g1) hown hK hH.2.1 (am_W_D K n h) hH.2.2 a hw (am_cl_get ci g1) f g2 (hts _ g3) (fun _ q => q) hfin (hnm hin) hdc (am_ckT_ok ci g1 f g2) o1 o2 (by simpa using hlen) hd kk
            · exact va_put (D := am_D K) (v := am_v K v) (fs := am_vs K fs) (ty := am_ty ci f) hex hb hts (am_u_ok ci g1) (am_ty ci) (am_ckT_ok ci g1) (am_ckU_ok ci g1) hown hK hH.2.1 (am_W_D K n h) hH.2.2 a hw (am_cl_get ci g1) f g2 (hts _ g3) (fun _ q => q) (by simpa using hfin) (am_ckT_ok ci g1 f g2) o1 o2 (by simpa using hlen) hd kk
        · cases hg
      · cases hg
    · cases hg
  · cases hx
theorem am_s_getstatic {q : Nat} (hA : am_At K X mi p R s m args meth c) (hd : decode (am_code mi) pc = .ok (.getstatic q, 3)) (hx : am_ex X call mi (.getstatic q) 3 pc L st n h k j = some (.inl z)) (go : am_Go K mi p l e R s m args below meth c Q z) : am_Go K mi p l e R s m args below meth c Q (pc, L, st, n, h, k, j) := by
  obtain ⟨hex, hb, hml, hown, hts, hnm, hK, hF, hbs, hfr, hlo⟩ := hA
  dsimp only [am_ex] at hx
  split at hx
  · rename_i u b hg
    obtain rfl := am_go_inj hx
    intro H locs ls hH hl
    have g := am_ckG_ok _ (am_find_in hg)
    obtain ⟨u1, u2, g⟩ := g
    have hz := (hF.2.1 u u1 u2).1
    have hu : (UInt32.ofNat u).toNat = u := by
      rw [UInt32.toNat_ofNat']
      exact Nat.mod_eq_of_lt (Nat.lt_trans u2 (by decide))
    have hgo := go H locs ls hH hl
    have e1 : am_v K (.float (UInt32.ofNat u)) = .ref (K.2.1 u) := by
      show Value.ref (K.2.1 (UInt32.ofNat u).toNat) = _
      rw [hu]
    have hgo : W p l e R s m args below meth c H locs k j Q (F0 m (pc + 3) ls (.ref (K.2.1 u) :: am_vs K st)) := by
      rw [← e1]
      exact hgo
    rcases g with ⟨-, g⟩ | g
    · have hN : va_Nw (.fieldLinkNest (am_cn (am_mc mi)) q "ThirdSheets" (am_sn u) "[I" "ThirdSheets") s := hF.2.2.1 (am_mc mi, q, u) g
      have hN2 : (Cond.fieldLinkNest (am_cn (am_mc mi)) q "ThirdSheets" (am_sn u) "[I" "ThirdSheets").before args s = true := va_Nw.use rfl hN
      exact va_getsN (C := "ThirdSheets") (n := am_sn u) (d := "[I") (ref := "ThirdSheets") hex hb hz hH.2.2 hown hN2 (fun _ q => q) hd hgo
    · have hN2 : (Cond.fieldLink (am_cn (am_mc mi)) q "ThirdSheets" (am_sn u) "[I").before args s = true := hts _ g
      exact va_gets (C := "ThirdSheets") (n := am_sn u) (d := "[I") (ref := "ThirdSheets") hex hb hz hH.2.2 hown hN2 (fun _ q => q) hd hgo
  · cases hx
theorem am_s_aload {i : Instr} {t : Nat} (hi : i = .iaload ∧ t = 0 ∨ i = .baload ∧ t = 2) (hA : am_At K X mi p R s m args meth c) (hd : decode (am_code mi) pc = .ok (i, 1)) {st1 : List Value} (hg : am_aload X t st n h = some st1) (go : am_Go K mi p l e R s m args below meth c Q (pc + 1, L, st1, n, h, k, j)) : am_Go K mi p l e R s m args below meth c Q (pc, L, st, n, h, k, j) := by
  obtain ⟨hex, hb, hml, hown, hts, hnm, hK, hF, hbs, hfr, hlo⟩ := hA
  intro H locs ls hH hl
  unfold am_aload at hg
  split at hg
  · rename_i i9 a rest
    split at hg
    · rename_i u len f he
      split at hg
      · rename_i hc
        obtain ⟨ha, rfl, hin⟩ := hc
        cases hg
        have hw : (am_W K n h)[a]? = some (K.1 + a, .inl (K.2.2.2.2 u, len, .inl f)) := by rw [am_W_get K h ha, he]; rfl
        rcases hi with ⟨rfl, rfl⟩ | ⟨rfl, rfl⟩
        · exact va_iald hex hb hK hH.2.1 a 0 hw rfl (am_in_vp hin) hd (go H locs ls hH hl)
        · exact va_zald hex hb hK hH.2.1 a 2 hw rfl (am_in_vp hin) hd (go H locs ls hH hl)
      · cases hg
    · cases hg
  · rename_i i9 u rest
    split at hg
    · rename_i hc
      obtain ⟨rfl, hu, hin⟩ := hc
      cases hg
      rcases hi with ⟨rfl, -⟩ | ⟨-, q⟩
      · by_cases h0 : u.toNat = 0
        · have ee : am_sx X u.toNat = X := by unfold am_sx; rw [if_pos h0]
          have hgo := go H locs ls hH hl
          rw [ee] at hin hgo
          have hsld := va_sld (Q := Q) (rest := am_vs K rest) hex hb hF.1.1 (Nat.lt_of_lt_of_le hF.1.2.1 hbs) (Nat.not_le.mpr hF.1.2.1) hH.2.2 (am_in_vp hin) hd hgo
          show W p l e R s m args below meth c H locs k j Q (F0 m pc ls (.int i9 :: .ref (K.2.1 u.toNat) :: am_vs K rest))
          rw [h0]
          exact hsld
        · have ee : am_sx X u.toNat = ((am_sl (u.toNat - 1)).length, fun j => (am_sl (u.toNat - 1)).getD j 0) := by unfold am_sx; rw [if_neg h0]
          have hgo := go H locs ls hH hl
          rw [ee] at hin hgo
          exact va_ti hex hb (hF.2.1 u.toNat (Nat.pos_of_ne_zero h0) hu).2 hH.2.2 (am_in_vp hin) rfl hd hgo
      · cases q
    · cases hg
  · cases hg
theorem am_s_iaload (hA : am_At K X mi p R s m args meth c) (hd : decode (am_code mi) pc = .ok (.iaload, 1)) (hx : am_ex X call mi .iaload 1 pc L st n h k j = some (.inl z)) (go : am_Go K mi p l e R s m args below meth c Q z) : am_Go K mi p l e R s m args below meth c Q (pc, L, st, n, h, k, j) := by
  dsimp only [am_ex] at hx
  split at hx
  · rename_i st1 hg
    obtain rfl := am_go_inj hx
    exact am_s_aload (Or.inl ⟨rfl, rfl⟩) hA hd hg go
  · cases hx
theorem am_s_baload (hA : am_At K X mi p R s m args meth c) (hd : decode (am_code mi) pc = .ok (.baload, 1)) (hx : am_ex X call mi .baload 1 pc L st n h k j = some (.inl z)) (go : am_Go K mi p l e R s m args below meth c Q z) : am_Go K mi p l e R s m args below meth c Q (pc, L, st, n, h, k, j) := by
  dsimp only [am_ex] at hx
  split at hx
  · rename_i st1 hg
    obtain rfl := am_go_inj hx
    exact am_s_aload (Or.inr ⟨rfl, rfl⟩) hA hd hg go
  · cases hx
theorem am_s_laload (hA : am_At K X mi p R s m args meth c) (hd : decode (am_code mi) pc = .ok (.laload, 1)) (hx : am_ex X call mi .laload 1 pc L st n h k j = some (.inl z)) (go : am_Go K mi p l e R s m args below meth c Q z) : am_Go K mi p l e R s m args below meth c Q (pc, L, st, n, h, k, j) := by
  obtain ⟨hex, hb, hml, hown, hts, hnm, hK, hF, hbs, hfr, hlo⟩ := hA
  dsimp only [am_ex] at hx
  split at hx
  · rename_i st1 hg
    obtain rfl := am_go_inj hx
    intro H locs ls hH hl
    unfold am_lald at hg
    split at hg
    · rename_i i9 a rest
      split at hg
      · rename_i len f he
        split at hg
        · rename_i hc
          cases hg
          have hw : (am_W K n h)[a]? = some (K.1 + a, .inl (K.2.2.2.2 1, len, .inr (.inl f))) := by rw [am_W_get K h hc.1, he]; rfl
          exact va_lald hex hb hK hH.2.1 a 1 hw rfl (am_in_vp hc.2) hd (go H locs ls hH hl)
        · cases hg
      · cases hg
    · cases hg
  · cases hx
theorem am_rf (K : am_K) (o : Option Nat) : va_rf (o.map (fun k => K.1 + k)) = am_v K (va_rf o) := by cases o <;> rfl
theorem am_s_aaload (hA : am_At K X mi p R s m args meth c) (hd : decode (am_code mi) pc = .ok (.aaload, 1)) (hx : am_ex X call mi .aaload 1 pc L st n h k j = some (.inl z)) (go : am_Go K mi p l e R s m args below meth c Q z) : am_Go K mi p l e R s m args below meth c Q (pc, L, st, n, h, k, j) := by
  obtain ⟨hex, hb, hml, hown, hts, hnm, hK, hF, hbs, hfr, hlo⟩ := hA
  dsimp only [am_ex] at hx
  split at hx
  · rename_i st1 hg
    obtain rfl := am_go_inj hx
    intro H locs ls hH hl
    unfold am_aald at hg
    split at hg
    · rename_i i9 a rest
      split at hg
      · rename_i t len f he
        split at hg
        · rename_i hc
          obtain ⟨ha, ht, hin⟩ := hc
          cases hg
          have hin' := am_in_vp hin
          have hlt : i9.toNatClampNeg < len := Nat.not_le.mp fun q => hin' (Or.inr q)
          have hw : (am_W K n h)[a]? = some (K.1 + a, .inl (K.2.2.2.2 t, len, .inr (.inr (.inr (.inr (fun i => (f i).map (fun k => K.1 + k))))))) := by rw [am_W_get K h ha, he]; rfl
          have hgo := go H locs ls hH hl
          have hgo : W p l e R s m args below meth c H locs k j Q (F0 m (pc + 1) ls (va_rf ((f i9.toNatClampNeg).map (fun k => K.1 + k)) :: am_vs K rest)) := by
            rw [am_rf]
            exact hgo
          rcases ht with rfl | rfl
          · exact W.aald (v := va_rf ((f i9.toNatClampNeg).map (fun k => K.1 + k))) (ty := .array .int) hex hb (hH.2.1 a _ hw) ((hK.2 3 _ rfl).1 len (fun j => va_rf ((f j).map (fun k => K.1 + k)))) rfl (fun q => by cases q) (by show ¬ (i9 < 0 ∨ (arrV _ _ _).slots.size ≤ _); rw [arrV_size]; exact hin') (by show (arrV _ _ _).slots[_]? = _; rw [arrV_read _ _ hlt]) rfl rfl hd hgo
          · exact W.aald (v := va_rf ((f i9.toNatClampNeg).map (fun k => K.1 + k))) (ty := .array .long) hex hb (hH.2.1 a _ hw) ((hK.2 4 _ rfl).1 len (fun j => va_rf ((f j).map (fun k => K.1 + k)))) rfl (fun q => by cases q) (by show ¬ (i9 < 0 ∨ (arrV _ _ _).slots.size ≤ _); rw [arrV_size]; exact hin') (by show (arrV _ _ _).slots[_]? = _; rw [arrV_read _ _ hlt]) rfl rfl hd hgo
        · cases hg
      · cases hg
    · cases hg
  · cases hx
theorem am_s_arraylength (hA : am_At K X mi p R s m args meth c) (hd : decode (am_code mi) pc = .ok (.arraylength, 1)) (hx : am_ex X call mi .arraylength 1 pc L st n h k j = some (.inl z)) (go : am_Go K mi p l e R s m args below meth c Q z) : am_Go K mi p l e R s m args below meth c Q (pc, L, st, n, h, k, j) := by
  obtain ⟨hex, hb, hml, hown, hts, hnm, hK, hF, hbs, hfr, hlo⟩ := hA
  dsimp only [am_ex] at hx
  split at hx
  · rename_i st1 hg
    obtain rfl := am_go_inj hx
    intro H locs ls hH hl
    unfold am_alen at hg
    split at hg
    · rename_i a rest
      split at hg
      · rename_i t len f he
        split at hg
        · rename_i hc
          obtain ⟨ha, ht⟩ := hc
          cases hg
          have hw : (am_W K n h)[a]? = some (K.1 + a, .inl (K.2.2.2.2 t, am_a K (len, f))) := by rw [am_W_get K h ha, he]; rfl
          have e1 : (am_a K (len, f)).1 = len := by
            unfold am_a
            split
            · rename_i h9; cases h9; rfl
            · rfl
          have hty : ∃ ty, (am_tys K)[t]? = some (K.2.2.2.2 t, ty) := by
            rcases (show t = 0 ∨ t = 1 ∨ t = 2 ∨ t = 3 ∨ t = 4 by omega) with rfl | rfl | rfl | rfl | rfl <;> exact ⟨_, rfl⟩
          obtain ⟨ty, hty⟩ := hty
          exact va_alen hex hb hK hH.2.1 a t hw hty (by rw [e1]) hd (go H locs ls hH hl)
        · cases hg
      · cases hg
    · rename_i u rest
      split at hg
      · rename_i hu
        cases hg
        by_cases h0 : u.toNat = 0
        · have ee : am_sx X u.toNat = X := by unfold am_sx; rw [if_pos h0]
          have hgo := go H locs ls hH hl
          rw [ee] at hgo
          have hsl := va_slen (Q := Q) (rest := am_vs K rest) hex hb hF.1.1 (Nat.lt_of_lt_of_le hF.1.2.1 hbs) (Nat.not_le.mpr hF.1.2.1) hH.2.2 hd hgo
          show W p l e R s m args below meth c H locs k j Q (F0 m pc ls (.ref (K.2.1 u.toNat) :: am_vs K rest))
          rw [h0]
          exact hsl
        · have ee : am_sx X u.toNat = ((am_sl (u.toNat - 1)).length, fun j => (am_sl (u.toNat - 1)).getD j 0) := by unfold am_sx; rw [if_neg h0]
          have hgo := go H locs ls hH hl
          rw [ee] at hgo
          exact va_tlen hex hb (hF.2.1 u.toNat (Nat.pos_of_ne_zero h0) hu).2 hH.2.2 rfl hd hgo
      · cases hg
    · cases hg
  · cases hx
end AMT
end
section
/-! each step of the abstract machine is the machine's: stores, new cells -/
section AMU
variable {p : Program} {l : Launch} {e : Env} {R : Room} {s : State} {m : MethodId} {args : Array Value} {below : List Frame} {meth : Method} {c : Code} {Q : State → Prop}
variable {K : am_K} {X : am_X} {mi : Nat} {pc : Nat} {L : am_L} {st : List Value} {n : Nat} {h : am_H} {k j : Nat} {z : am_Z} {call : am_Cl} {len : Nat}
theorem am_s_iastore (hA : am_At K X mi p R s m args meth c) (hd : decode (am_code mi) pc = .ok (.iastore, 1)) (hx : am_ex X call mi .iastore 1 pc L st n h k j = some (.inl z)) (go : am_Go K mi p l e R s m args below meth c Q z) : am_Go K mi p l e R s m args below meth c Q (pc, L, st, n, h, k, j) := by
  obtain ⟨hex, hb, hml, hown, hts, hnm, hK, hF, hbs, hfr, hlo⟩ := hA
  dsimp only [am_ex] at hx
  split at hx
  · rename_i st1 h1 hg
    obtain rfl := am_go_inj hx
    intro H locs ls hH hl
    unfold am_astore at hg
    split at hg
    · rename_i x i9 a rest
      split at hg
      · rename_i u len f he
        split at hg
        · rename_i hc
          obtain ⟨ha, rfl, hin⟩ := hc
          cases hg
          have hw : (am_W K n h)[a]? = some (K.1 + a, .inl (K.2.2.2.2 0, len, .inl f)) := by rw [am_W_get K h ha, he]; rfl
          refine va_iast hex hb hK hH.2.1 (am_W_D K n h) hH.2.2 a 0 hw rfl (am_in_vp hin) hd (fun H1 locs1 hP1 _ hS1 => ?_)
          exact go H1 locs1 ls ⟨hH.1, (am_W_set K h ha (.inl (0, len, .inl (upd f i9.toNatClampNeg x)))) ▸ hP1, hS1⟩ hl
        · cases hg
      · cases hg
    · cases hg
  · cases hx
theorem am_s_bastore (hA : am_At K X mi p R s m args meth c) (hd : decode (am_code mi) pc = .ok (.bastore, 1)) (hx : am_ex X call mi .bastore 1 pc L st n h k j = some (.inl z)) (go : am_Go K mi p l e R s m args below meth c Q z) : am_Go K mi p l e R s m args below meth c Q (pc, L, st, n, h, k, j) := by
  obtain ⟨hex, hb, hml, hown, hts, hnm, hK, hF, hbs, hfr, hlo⟩ := hA
  dsimp only [am_ex] at hx
  split at hx
  · rename_i st1 h1 hg
    obtain rfl := am_go_inj hx
    intro H locs ls hH hl
    unfold am_astore at hg
    split at hg
    · rename_i x i9 a rest
      split at hg
      · rename_i u len f he
        split at hg
        · rename_i hc
          obtain ⟨ha, rfl, hin⟩ := hc
          cases hg
          have hw : (am_W K n h)[a]? = some (K.1 + a, .inl (K.2.2.2.2 2, len, .inl f)) := by rw [am_W_get K h ha, he]; rfl
          refine va_zast hex hb hK hH.2.1 (am_W_D K n h) hH.2.2 a 2 hw rfl (am_in_vp hin) hd (fun H1 locs1 hP1 _ hS1 => ?_)
          exact go H1 locs1 ls ⟨hH.1, (am_W_set K h ha (.inl (2, len, .inl (upd f i9.toNatClampNeg (vp_nar .boolean x))))) ▸ hP1, hS1⟩ hl
        · cases hg
      · cases hg
    · cases hg
  · cases hx
theorem am_s_lastore (hA : am_At K X mi p R s m args meth c) (hd : decode (am_code mi) pc = .ok (.lastore, 1)) (hx : am_ex X call mi .lastore 1 pc L st n h k j = some (.inl z)) (go : am_Go K mi p l e R s m args below meth c Q z) : am_Go K mi p l e R s m args below meth c Q (pc, L, st, n, h, k, j) := by
  obtain ⟨hex, hb, hml, hown, hts, hnm, hK, hF, hbs, hfr, hlo⟩ := hA
  dsimp only [am_ex] at hx
  split at hx
  · rename_i st1 h1 hg
    obtain rfl := am_go_inj hx
    intro H locs ls hH hl
    unfold am_last at hg
    split at hg
    · rename_i x i9 a rest
      split at hg
      · rename_i len f he
        split at hg
        · rename_i hc
          obtain ⟨ha, hin⟩ := hc
          cases hg
          have hw : (am_W K n h)[a]? = some (K.1 + a, .inl (K.2.2.2.2 1, len, .inr (.inl f))) := by rw [am_W_get K h ha, he]; rfl
          refine va_last hex hb hK hH.2.1 (am_W_D K n h) hH.2.2 a 1 hw rfl (am_in_vp hin) hd (fun H1 locs1 hP1 _ hS1 => ?_)
          exact go H1 locs1 ls ⟨hH.1, (am_W_set K h ha (.inl (1, len, .inr (.inl (vp_updL f i9.toNatClampNeg x))))) ▸ hP1, hS1⟩ hl
        · cases hg
      · cases hg
    · cases hg
  · cases hx
theorem am_over {ty : FieldType} {cA cE : ClassId} {U : State} (h : va_Nw (.arrayOver (.array ty)) U) (hA : U.vm.findClass ("[" ++ (FieldType.array ty).toString) = some cA) (hE : U.vm.findClass (FieldType.array ty).toString = some cE) : ∃ kA, U.vm.classes[cA]? = some kA ∧ kA.kind = .array cE (.array ty) := by
  obtain ⟨comp, c9, k9, h1, -, h3, h4, h5⟩ := Jvm.Stand.arrayOver_specB h
  cases h1.symm.trans hE
  cases h5.symm.trans hA
  exact ⟨k9, h3, h4⟩
theorem am_aast_row {ty : FieldType} {t u : Nat} (hA : am_At K X mi p R s m args meth c) (hov : va_Nw (.arrayOver (.array ty)) s) (hT : (am_tys K)[t]? = some (K.2.2.2.2 t, .array ty)) (hU : (am_tys K)[u]? = some (K.2.2.2.2 u, ty)) (hnE : "[" ++ ty.toString = (FieldType.array ty).toString) (hra : ∀ cA, va_RA s cA ty → s.vm.findClass ("[" ++ ty.toString) = some cA) {H : Heap} {locs : List Loc} {ls : Array Slot} (hH : am_Hp K n h s H locs k)
    {a v len len2 : Nat} {f : Nat → Option Nat} {g : (Nat → Int32) ⊕ (Nat → Int64) ⊕ (Nat → UInt32) ⊕ (Nat → UInt64) ⊕ (Nat → Option Nat)} {i9 : Int32} {rest : List Value} (ha : a < n) (hv : v < n) (he : h a = .inl (t, len, .inr (.inr (.inr (.inr f))))) (hv2 : h v = .inl (u, len2, g)) (hin : vp_in i9 len) (hd : decode (am_code mi) pc = .ok (.aastore, 1))
    (go : ∀ (H1 : Heap) (locs1 : List Loc), am_Hp K n (am_up h a (.inl (t, len, .inr (.inr (.inr (.inr (va_up f i9.toNatClampNeg (some v)))))))) s H1 locs1 k → W p l e R s m args below meth c H1 locs1 k j Q (F0 m (pc + 1) ls (am_vs K rest))) : W p l e R s m args below meth c H locs k j Q (F0 m pc ls (.ref (K.1 + v) :: .int i9 :: .ref (K.1 + a) :: am_vs K rest)) := by
  obtain ⟨hex, hb, hml, hown, hts, hnm, hK, hF, hbs, hfr, hlo⟩ := hA
  have hlt : i9.toNatClampNeg < len := Nat.not_le.mp fun q => hin (Or.inr q)
  have h0 : ¬ i9 < 0 := fun q => hin (Or.inl q)
  have hw : (am_W K n h)[a]? = some (K.1 + a, .inl (K.2.2.2.2 t, len, .inr (.inr (.inr (.inr (fun i => (f i).map (fun k => K.1 + k))))))) := by rw [am_W_get K h ha, he]; rfl
  have hwv : (am_W K n h)[v]? = some (K.1 + v, .inl (K.2.2.2.2 u, am_a K (len2, g))) := by rw [am_W_get K h hv, hv2]; rfl
  have hcA := (hK.2 t _ hT).2
  have hcE := hra _ (hK.2 u _ hU).2
  rw [hnE] at hcE
  have hcA : s.vm.findClass ("[" ++ (FieldType.array ty).toString) = some (K.2.2.2.2 t) := hcA
  obtain ⟨kA, hkA, hkind⟩ := am_over hov hcA hcE
  obtain ⟨kE, hkE, -⟩ := Vm.findClass_spec hcE
  have hcv : ∃ cv, H[K.1 + v]? = some cv ∧ cv.cls = K.2.2.2.2 u ∧ cv.vm = .none := by
    refine ⟨_, hH.2.1 v _ hwv, ?_, ?_⟩
    · rcases am_a K (len2, g) with ⟨n9, g9 | g9 | g9 | g9 | g9⟩ <;> rfl
    · rcases am_a K (len2, g) with ⟨n9, g9 | g9 | g9 | g9 | g9⟩ <;> rfl
  obtain ⟨cv, c1, c2, c3⟩ := hcv
  refine W.aast hex hb (hH.2.1 a _ hw) (fun q h => by cases h) (fun h => by cases h) hkA hkind rfl hkE ⟨h0, by show _ < (arrV _ _ _).slots.size; rw [arrV_size]; exact hlt⟩ c1 (fun q h => by rw [c3] at h; cases h) (by rw [c2]; exact hkE) (by rw [c2]; exact va_asg _ _) rfl rfl hd fun H1 e1 z oq => ?_
  have e9 : (va_up (fun i => (f i).map (fun k => K.1 + k)) i9.toNatClampNeg (some (K.1 + v)) : Nat → Option Nat) = fun i => (va_up f i9.toNatClampNeg (some v) i).map (fun k => K.1 + k) := by
    funext i
    by_cases hi : i = i9.toNatClampNeg <;> simp [va_up, hi]
  have hat : va_at (am_D K) am_cl (K.1 + a, .inl (K.2.2.2.2 t, len, .inr (.inr (.inr (.inr (va_up (fun i => (f i).map (fun k => K.1 + k)) i9.toNatClampNeg (some (K.1 + v)))))))) H1 := by
    show H1[K.1 + a]? = some (vp_cell _ _)
    rw [e1]
    rw [vp_cell_q, vp_cell_q, arrV_store]
    congr 2
    funext q
    by_cases hq : q = i9.toNatClampNeg
    · subst hq
      simp [updV, va_up, va_rf]
    · simp [updV, va_up, hq]
  have hP1 := hH.2.1.set (am_W_D K n h) hw hat oq
  rw [e9] at hP1
  have e10 := am_W_set K h ha (.inl (t, len, .inr (.inr (.inr (.inr (va_up f i9.toNatClampNeg (some v)))))))
  have e11 : am_e K (.inl (t, len, .inr (.inr (.inr (.inr (va_up f i9.toNatClampNeg (some v))))))) = .inl (K.2.2.2.2 t, len, .inr (.inr (.inr (.inr (fun i => (va_up f i9.toNatClampNeg (some v) i).map (fun k => K.1 + k)))))) := rfl
  rw [e11] at e10
  rw [e10] at hP1
  exact go H1 _ ⟨hH.1, hP1, hH.2.2.put z oq ((am_W_D K n h).2 a _ hw)⟩
theorem am_s_aastore (hA : am_At K X mi p R s m args meth c) (hd : decode (am_code mi) pc = .ok (.aastore, 1)) (hx : am_ex X call mi .aastore 1 pc L st n h k j = some (.inl z)) (go : am_Go K mi p l e R s m args below meth c Q z) : am_Go K mi p l e R s m args below meth c Q (pc, L, st, n, h, k, j) := by
  have hA' := hA
  obtain ⟨hex, hb, hml, hown, hts, hnm, hK, hF, hbs, hfr, hlo⟩ := hA
  dsimp only [am_ex] at hx
  split at hx
  · rename_i st1 h1 hg
    obtain rfl := am_go_inj hx
    intro H locs ls hH hl
    unfold am_aast at hg
    split at hg
    · rename_i v i9 a rest
      split at hg
      · rename_i t len f u len2 g he hv2
        split at hg
        · rename_i hc
          obtain ⟨ha, hv, ht, hin⟩ := hc
          cases hg
          rcases ht with ⟨rfl, rfl⟩ | ⟨rfl, rfl⟩
          · exact am_aast_row hA' hF.2.2.2.2.1 rfl rfl rfl (fun cA h => h) hH ha hv he hv2 (am_in_vp hin) hd (fun H1 locs1 hH1 => go H1 locs1 ls hH1 hl)
          · exact am_aast_row hA' hF.2.2.2.2.2 rfl rfl rfl (fun cA h => h) hH ha hv he hv2 (am_in_vp hin) hd (fun H1 locs1 hH1 => go H1 locs1 ls hH1 hl)
        · cases hg
      · cases hg
    · cases hg
  · cases hx
/-- how large the heap is -/
theorem am_sized {H : Heap} {locs : List Loc} {g : JFrame} (hH : am_Hp K n h s H locs k) (hbs : K.1 ≤ s.heap.size) (f : H.size = K.1 + n → W p l e R s m args below meth c H locs k j Q g) : W p l e R s m args below meth c H locs k j Q g := by
  intro T hT X9
  have h1 := X9.heapSize
  rw [hT] at h1
  refine f ?_ T hT X9
  have h2 : K.1 + n ≤ H.size := by
    by_cases h0 : n = 0
    · subst h0
      have := hH.2.2.1
      omega
    · have hw := am_W_get K h (show n - 1 < n by omega)
      have := (hH.2.1 _ _ hw).lt
      have e9 : K.1 + (n - 1) < H.size := this
      omega
  have h3 : s.heap.size + k = K.1 + n := hH.1
  omega
theorem am_W_push (K : am_K) (n : Nat) (h : am_H) (x : am_E) : am_W K (n + 1) (am_up h n x) = am_W K n h ++ [(K.1 + n, am_e K x)] := by
  unfold am_W
  rw [List.range_succ, List.map_append]
  congr 1
  · apply List.map_congr_left
    intro q hq
    have : q < n := List.mem_range.mp hq
    simp [am_up, Nat.ne_of_lt this]
  · simp [am_up]
end AMU
end
section
/-! each step of the abstract machine is the machine's: new cells, the library's methods -/
section AMV
variable {p : Program} {l : Launch} {e : Env} {R : Room} {s : State} {m : MethodId} {args : Array Value} {below : List Frame} {meth : Method} {c : Code} {Q : State → Prop}
variable {K : am_K} {X : am_X} {mi : Nat} {pc : Nat} {L : am_L} {st : List Value} {n : Nat} {h : am_H} {k j : Nat} {z : am_Z} {call : am_Cl} {len : Nat}
theorem am_nofloat : ∀ ci, ci < 8 → ∀ k, k < (am_C ci).2.2 → am_ty ci k ≠ .float := by
  intro ci h1 k h2
  rcases (show ci = 0 ∨ ci = 1 ∨ ci = 2 ∨ ci = 3 ∨ ci = 4 ∨ ci = 5 ∨ ci = 6 ∨ ci = 7 by omega) with rfl | rfl | rfl | rfl | rfl | rfl | rfl | rfl
  · revert k; decide +kernel
  · revert k; decide +kernel
  · revert k; decide +kernel
  · revert k; decide +kernel
  · revert k; decide +kernel
  · revert k; decide +kernel
  · revert k; decide +kernel
  · revert k; decide +kernel
theorem am_v_def (K : am_K) {ty : FieldType} (h : ty ≠ .float) : am_v K (defaultValue ty) = defaultValue ty := by
  cases ty <;> first | rfl | exact absurd rfl h
theorem am_s_new {q : Nat} (hA : am_At K X mi p R s m args meth c) (hd : decode (am_code mi) pc = .ok (.new q, 3)) (hx : am_ex X call mi (.new q) 3 pc L st n h k j = some (.inl z)) (hR : z.2.2.2.2.2.1 ≤ R.cells ∧ z.2.2.2.2.2.2 ≤ R.slots) (go : am_Go K mi p l e R s m args below meth c Q z) : am_Go K mi p l e R s m args below meth c Q (pc, L, st, n, h, k, j) := by
  obtain ⟨hex, hb, hml, hown, hts, hnm, hK, hF, hbs, hfr, hlo⟩ := hA
  dsimp only [am_ex] at hx
  split at hx
  · rename_i ci hg
    split at hx
    · rename_i hci
      obtain rfl := am_go_inj hx
      intro H locs ls hH hl
      obtain ⟨g1, g2, g3, g4⟩ := am_ckN_ok _ (am_find_in hg)
      have hc := am_cl_get ci hci
      have hKn := hK.1 ci _ hc
      refine am_sized hH hbs (fun hsz => ?_)
      refine W.newcK hex hb hown (hts _ g2) (hts _ g3) (hts _ g4) rfl hd hR.1 hR.2 hKn.2.1 hsz fun H1 kC hkC e1 z1 o1 => ?_
      refine go H1 locs ls ⟨?_, ?_, ?_⟩ hl
      · have hH1 : s.heap.size + k = K.1 + n := hH.1
        show s.heap.size + (k + 1) = K.1 + (n + 1)
        omega
      · show va_P (am_D K) am_cl (am_W K (n + 1) (am_up h n (.inr (ci, am_def ci)))) H1
        rw [am_W_push]
        have hk : ∀ (k : Nat) (x : Nat × va_E), (am_W K n h)[k]? = some x → H1[x.1]? = H[x.1]? := fun k x hx => o1 x.1 (hsz ▸ (hH.2.1 k x hx).lt)
        refine (hH.2.1.kept hk).app (fun k9 x hx => ?_)
        have hz : k9 < 1 := (List.getElem?_eq_some_iff.mp hx).1
        rw [show k9 = 0 by omega] at hx
        cases hx
        refine ⟨_, hc, (u_born (am_ty ci) hts (am_u_ok ci hci) hKn hkC e1 (am_ckT_ok ci hci)).to (fun i hi => ?_)⟩
        show defaultValue (am_ty ci i) = ((am_def ci).map (am_v K)).getD i .null
        have hi : i < (am_C ci).2.2 := hi
        unfold am_def
        rw [List.map_map, List.getD_eq_getElem?_getD, List.getElem?_map, List.getElem?_range hi]
        exact (am_v_def K (am_nofloat ci hci i hi)).symm
      · have h2 := hH.2.2
        refine ⟨Nat.le_trans h2.1 (by omega), fun x h3 h4 => (o1 x (by have := h2.1; omega)).trans (h2.2.1 x h3 h4), h2.2.2⟩
    · cases hx
  · cases hx
theorem am_zero_cell {t N : Nat} {at_ : ArrayType} (h : am_atype at_ = some t) (K : am_K) (cA : ClassId) : ∃ a0 : vp_A, am_e K (am_zero t N) = .inl (K.2.2.2.2 t, a0) ∧ vp_cell cA a0 = arrV cA N (fun _ => defaultValue (newarray.typeOf at_)) ∧ (am_tys K)[t]? = some (K.2.2.2.2 t, newarray.typeOf at_) := by
  unfold am_atype at h
  split at h
  · cases h; exact ⟨_, rfl, rfl, rfl⟩
  · cases h; exact ⟨_, rfl, rfl, rfl⟩
  · cases h; exact ⟨_, rfl, rfl, rfl⟩
  · cases h
theorem am_s_newarray {at_ : ArrayType} (hA : am_At K X mi p R s m args meth c) (hd : decode (am_code mi) pc = .ok (.newarray at_, 2)) (hx : am_ex X call mi (.newarray at_) 2 pc L st n h k j = some (.inl z)) (hR : z.2.2.2.2.2.1 ≤ R.cells ∧ z.2.2.2.2.2.2 ≤ R.slots) (go : am_Go K mi p l e R s m args below meth c Q z) : am_Go K mi p l e R s m args below meth c Q (pc, L, st, n, h, k, j) := by
  obtain ⟨hex, hb, hml, hown, hts, hnm, hK, hF, hbs, hfr, hlo⟩ := hA
  dsimp only [am_ex] at hx
  split at hx
  · rename_i t i9 r hg
    split at hx
    · rename_i hc
      obtain rfl := am_go_inj hx
      intro H locs ls hH hl
      have harr : (Cond.arrayClass (newarray.typeOf at_)).before args s = true := by
        unfold am_atype at hg
        split at hg
        · exact hts _ am_ac_i
        · exact hts _ am_ac_l
        · exact hts _ am_ac_z
        · cases hg
      have hby : i9.toNatClampNeg * componentBytes (newarray.typeOf at_) ≤ 536870912 := by
        have h8 : componentBytes (newarray.typeOf at_) ≤ 8 := by
          unfold am_atype at hg
          split at hg
          · decide
          · decide
          · decide
          · cases hg
        calc i9.toNatClampNeg * componentBytes (newarray.typeOf at_) ≤ 1000000 * 8 := Nat.mul_le_mul hc.2 h8
          _ ≤ 536870912 := by decide
      refine am_sized hH hbs (fun hsz => ?_)
      refine va_newaK hex hb harr (g := F0 m pc ls (.int i9 :: am_vs K r)) rfl hd rfl hc.1 rfl hby hR.1 hR.2 hsz fun H1 cA e1 z1 o1 hAr hNm => ?_
      obtain ⟨a0, w1, w2, w3⟩ := am_zero_cell (N := i9.toNatClampNeg) hg K cA
      have hcA : cA = K.2.2.2.2 t := by
        have h1 := (hK.2 t _ w3).2
        have h2 : s.vm.findClass ("[" ++ (newarray.typeOf at_).toString) = some (K.2.2.2.2 t) := by
          unfold am_atype at hg
          split at hg
          · exact h1
          · exact h1
          · exact h1
          · cases hg
        exact Option.some.inj (hNm.symm.trans h2)
      refine go H1 locs ls ⟨?_, ?_, ?_⟩ hl
      · have hH1 : s.heap.size + k = K.1 + n := hH.1
        show s.heap.size + (k + 1) = K.1 + (n + 1)
        omega
      · show va_P (am_D K) am_cl (am_W K (n + 1) (am_up h n (am_zero t i9.toNatClampNeg))) H1
        rw [am_W_push, w1]
        have hk : ∀ (k : Nat) (x : Nat × va_E), (am_W K n h)[k]? = some x → H1[x.1]? = H[x.1]? := fun k x hx => o1 x.1 (hsz ▸ (hH.2.1 k x hx).lt)
        refine (hH.2.1.kept hk).app (fun k9 x hx => ?_)
        have hz : k9 < 1 := (List.getElem?_eq_some_iff.mp hx).1
        rw [show k9 = 0 by omega] at hx
        cases hx
        show H1[K.1 + n]? = some (vp_cell _ _)
        rw [← hcA, w2]
        exact e1
      · have h2 := hH.2.2
        refine ⟨Nat.le_trans h2.1 (by omega), fun x h3 h4 => (o1 x (by have := h2.1; omega)).trans (h2.2.1 x h3 h4), h2.2.2⟩
    · cases hx
  · cases hx
theorem am_grid_get (K : am_K) (n : Nat) (h : am_H) (t N M : Nat) {q : Nat} : (q < n → am_grid n h t N M q = h q) ∧ (∀ i, i < N → am_grid n h t N M (n + 1 + i) = am_zero (t - 3) M) ∧ am_grid n h t N M n = .inl (t, N, .inr (.inr (.inr (.inr (fun i => if i < N then some (n + 1 + i) else none))))) := by
  refine ⟨fun hq => ?_, fun i hi => ?_, ?_⟩
  · unfold am_grid
    rw [if_neg (Nat.ne_of_lt hq), if_neg (fun a => by omega)]
  · unfold am_grid
    rw [if_neg (by omega), if_pos (by omega)]
  · unfold am_grid
    rw [if_pos rfl]
theorem am_outer (c : ClassId) (N h0 : Nat) : ∀ i : Nat, Jvm.Free.Multi.outerC c N h0 i = arrV c N (fun j => va_rf (if j < i then some (h0 + 1 + j) else none))
  | 0 => by
    show ({ cls := c, slots := Array.replicate N .null, vm := .none } : Cell) = _
    rw [arrV_new]
    refine congrArg (arrV c N) (funext fun j => ?_)
    simp [va_rf]
  | i + 1 => by
    show (Jvm.Free.Multi.outerC c N h0 i).setSlot i (.ref (h0 + 1 + i)) = _
    rw [am_outer c N h0 i, arrV_store]
    refine congrArg (arrV c N) (funext fun j => ?_)
    by_cases e : j = i
    · subst e
      simp [updV, va_rf]
    · by_cases h : j < i
      · simp [updV, e, h, Nat.lt_succ_of_lt h]
      · simp [updV, e, h, show ¬ j < i + 1 by omega]
theorem am_mna_row {q t : Nat} {ty : FieldType} {x9 y9 : Int32} {r : List Value} (hA : am_At K X mi p R s m args meth c) (hov : va_Nw (.arrayOver (.array ty)) s) (hac : Cond.arrayClass ty ∈ am_words) (ht : t = 3 ∨ t = 4) (hT : (am_tys K)[t]? = some (K.2.2.2.2 t, .array ty)) (hU : (am_tys K)[t - 3]? = some (K.2.2.2.2 (t - 3), ty)) (hnE : "[" ++ ty.toString = (FieldType.array ty).toString) (hra : ∀ cA, va_RA s cA ty → s.vm.findClass ("[" ++ ty.toString) = some cA)
    (hcl : Cond.classLink (am_cn (am_mc mi)) q ("[" ++ (FieldType.array ty).toString) ∈ am_words) (hz : ∀ M, ∃ a0 : vp_A, am_e K (am_zero (t - 3) M) = .inl (K.2.2.2.2 (t - 3), a0) ∧ ∀ c : ClassId, Jvm.Free.Multi.innerC c M (defaultValue ty) = vp_cell c a0) (hb8 : componentBytes ty ≤ 8) (hdf : fits ty (defaultValue ty) = true) (hdd : (defaultValue ty).isDefault = true)
    (hd : decode (am_code mi) pc = .ok (.multianewarray q 2, 4)) (hc : ¬ y9 < 0 ∧ ¬ x9 < 0 ∧ y9.toNatClampNeg ≤ 1000000 ∧ x9.toNatClampNeg ≤ 1000000) (hR : k + 1 + y9.toNatClampNeg ≤ R.cells ∧ j + y9.toNatClampNeg + y9.toNatClampNeg * x9.toNatClampNeg ≤ R.slots)
    (go : am_Go K mi p l e R s m args below meth c Q (pc + 4, L, .ref n :: r, n + 1 + y9.toNatClampNeg, am_grid n h t y9.toNatClampNeg x9.toNatClampNeg, k + 1 + y9.toNatClampNeg, j + y9.toNatClampNeg + y9.toNatClampNeg * x9.toNatClampNeg)) : am_Go K mi p l e R s m args below meth c Q (pc, L, .int x9 :: .int y9 :: r, n, h, k, j) := by
  obtain ⟨hex, hb, hml, hown, hts, hnm, hK, hF, hbs, hfr, hlo⟩ := hA
  intro H locs ls hH hl
  refine am_sized hH hbs (fun hsz => ?_)
  have hsz : H.size = K.1 + n := hsz
  have hH1 : s.heap.size + k = K.1 + n := hH.1
  have hr1 : k + (1 + y9.toNatClampNeg) ≤ R.cells := by omega
  have hr2 : j + (y9.toNatClampNeg + y9.toNatClampNeg * x9.toNatClampNeg) ≤ R.slots := by omega
  intro T hT9 Xs
  obtain ⟨vm₁, cA, comp, hW1, fA, fC, hO, -, X', step⟩ := Xs.multianewarray2F hex hown (hts _ hcl) (Jvm.Stand.arrayOver_alikeB (Vm.Alike.refl _) hov) (hts _ hac) (g := F0 m pc ls (.int x9 :: .int y9 :: am_vs K r)) rfl (by rw [hb]; exact hd) rfl hc.1 hc.2.1 (by omega) (by
    calc x9.toNatClampNeg * componentBytes ty ≤ 1000000 * 8 := Nat.mul_le_mul hc.2.2.2 hb8
      _ ≤ 536870912 := by decide) (by omega) hdf hdd hr1 hr2
  have hcA : cA = K.2.2.2.2 t := by
    have h1 := (hK.2 t _ hT).2
    exact Option.some.inj (fA.symm.trans h1)
  have hcE : comp = K.2.2.2.2 (t - 3) := by
    have h1 := hra _ (hK.2 (t - 3) _ hU).2
    rw [hnE] at h1
    exact Option.some.inj (fC.symm.trans h1)
  subst hcA
  subst hcE
  generalize hFF : Jvm.Free.Multi.fill (T.setVm vm₁) (K.2.2.2.2 t) (K.2.2.2.2 (t - 3)) y9.toNatClampNeg x9.toNatClampNeg (defaultValue ty) y9.toNatClampNeg = F at X' step
  have hTh : (T.setVm vm₁).heap = H := hT9
  obtain ⟨f1, f2, -, -⟩ := Jvm.Free.Multi.fill_facts (T.setVm vm₁) (K.2.2.2.2 t) (K.2.2.2.2 (t - 3)) y9.toNatClampNeg x9.toNatClampNeg (defaultValue ty) y9.toNatClampNeg
  rw [hFF, hTh] at f1 f2
  have hold : ∀ x : Nat, x < H.size → F.heap[x]? = H[x]? := fun x hx => by
    have := Jvm.Free.Multi.fill_old (T.setVm vm₁) (K.2.2.2.2 t) (K.2.2.2.2 (t - 3)) y9.toNatClampNeg x9.toNatClampNeg (defaultValue ty) (a := x) (by rw [hTh]; exact hx) y9.toNatClampNeg
    rw [hFF, hTh] at this
    exact this
  obtain ⟨a0, w1, w2⟩ := hz x9.toNatClampNeg
  have hrow : ∀ i : Nat, i < y9.toNatClampNeg → F.heap[H.size + 1 + i]? = some (vp_cell (K.2.2.2.2 (t - 3)) a0) := fun i hi => by
    have := Jvm.Free.Multi.fill_inner (T.setVm vm₁) (K.2.2.2.2 t) (K.2.2.2.2 (t - 3)) y9.toNatClampNeg x9.toNatClampNeg (defaultValue ty) y9.toNatClampNeg i hi
    rw [hFF, hTh, w2] at this
    exact this
  have hgo := go F.heap locs ls ⟨?_, ?_, ?_⟩ hl
  · obtain ⟨t9, a1, b1⟩ := hgo F rfl X'
    refine ⟨t9, step t9 ?_, b1⟩
    have e9 : T.heap.size = K.1 + n := by rw [hT9]; exact hsz
    rw [e9]
    exact a1
  · show s.heap.size + (k + 1 + y9.toNatClampNeg) = K.1 + (n + 1 + y9.toNatClampNeg)
    omega
  · intro q9 x hx
    obtain ⟨hq9, rfl⟩ := am_W_some K hx
    have hq9 : q9 < n + 1 + y9.toNatClampNeg := hq9
    by_cases c1 : q9 < n
    · show va_at (am_D K) am_cl (K.1 + q9, am_e K (am_grid n h t y9.toNatClampNeg x9.toNatClampNeg q9)) F.heap
      rw [(am_grid_get K n h t y9.toNatClampNeg x9.toNatClampNeg).1 c1]
      have hw := am_W_get K h c1
      exact (hH.2.1 _ _ hw).kept (hold _ ((hH.2.1 _ _ hw).lt))
    · by_cases c2 : q9 = n
      · subst c2
        show va_at (am_D K) am_cl (K.1 + q9, am_e K (am_grid q9 h t y9.toNatClampNeg x9.toNatClampNeg q9)) F.heap
        rw [(am_grid_get (q := 0) K q9 h t y9.toNatClampNeg x9.toNatClampNeg).2.2]
        show F.heap[K.1 + q9]? = some (vp_cell _ _)
        rw [← hsz, f2, am_outer]
        show some (arrV _ _ _) = some (arrV _ _ (fun i => va_rf ((if i < y9.toNatClampNeg then some (q9 + 1 + i) else none).map (fun k => K.1 + k))))
        refine congrArg (fun f => some (arrV _ _ f)) (funext fun i => ?_)
        by_cases hi : i < y9.toNatClampNeg
        · rw [if_pos hi, if_pos hi, hsz]
          exact congrArg Value.ref (show (K.1 + q9 + 1 + i : Nat) = K.1 + (q9 + 1 + i) by omega)
        · rw [if_neg hi, if_neg hi]
          rfl
      · have hi : q9 - (n + 1) < y9.toNatClampNeg := by omega
        have eq9 : q9 = n + 1 + (q9 - (n + 1)) := by omega
        show va_at (am_D K) am_cl (K.1 + q9, am_e K (am_grid n h t y9.toNatClampNeg x9.toNatClampNeg q9)) F.heap
        rw [eq9, (am_grid_get (q := 0) K n h t y9.toNatClampNeg x9.toNatClampNeg).2.1 _ hi, w1]
        show F.heap[K.1 + (n + 1 + (q9 - (n + 1)))]? = some (vp_cell _ _)
        rw [← hrow _ hi, hsz]
        congr 1
        omega
  · have h2 := hH.2.2
    exact ⟨by rw [f1]; have := h2.1; omega, fun x h3 h4 => (hold x (Nat.lt_of_lt_of_le h3 h2.1)).trans (h2.2.1 x h3 h4), h2.2.2⟩
end AMV
end
section
/-! each step of the abstract machine is the machine's: calls -/
section AMC
variable {p : Program} {l : Launch} {e : Env} {R : Room} {s : State} {m : MethodId} {args : Array Value} {below : List Frame} {meth : Method} {c : Code} {Q : State → Prop}
variable {K : am_K} {X : am_X} {mi : Nat} {pc : Nat} {L : am_L} {st : List Value} {n : Nat} {h : am_H} {k j : Nat} {z : am_Z} {call : am_Cl} {len : Nat}
theorem am_s_multianewarray {q d : Nat} (hA : am_At K X mi p R s m args meth c) (hd : decode (am_code mi) pc = .ok (.multianewarray q d, 4)) (hx : am_ex X call mi (.multianewarray q d) 4 pc L st n h k j = some (.inl z)) (hR : z.2.2.2.2.2.1 ≤ R.cells ∧ z.2.2.2.2.2.2 ≤ R.slots) (go : am_Go K mi p l e R s m args below meth c Q z) : am_Go K mi p l e R s m args below meth c Q (pc, L, st, n, h, k, j) := by
  have hA' := hA
  obtain ⟨hex, hb, hml, hown, hts, hnm, hK, hF, hbs, hfr, hlo⟩ := hA
  dsimp only [am_ex] at hx
  split at hx
  · rename_i t x9 y9 r hg
    split at hx
    · rename_i hc
      obtain ⟨rfl, ht, hc⟩ := hc
      obtain rfl := am_go_inj hx
      rcases am_ckW_ok _ (am_find_in hg) with ⟨rfl, g⟩ | ⟨rfl, g⟩
      · refine am_mna_row (ty := .int) hA' hF.2.2.2.2.1 am_ac_i (Or.inl rfl) rfl rfl rfl (fun cA h => h) ?_ (fun M => ⟨(M, .inl (fun _ => 0)), rfl, fun c => ?_⟩) (by decide) (by decide) (by decide) hd hc hR go
        · exact g
        · show ({ cls := c, slots := Array.replicate M (Value.int 0), vm := .none } : Cell) = _
          rw [arrV_new]
          rfl
      · refine am_mna_row (ty := .long) hA' hF.2.2.2.2.2 am_ac_l (Or.inr rfl) rfl rfl rfl (fun cA h => h) ?_ (fun M => ⟨(M, .inr (.inl (fun _ => 0))), rfl, fun c => ?_⟩) (by decide) (by decide) (by decide) hd hc hR go
        · exact g
        · show ({ cls := c, slots := Array.replicate M (Value.long 0), vm := .none } : Cell) = _
          rw [arrV_new]
          rfl
    · cases hx
  · cases hx
/-- behind a call -/
theorem am_after {r : am_R} {a9 : Array Value} {st0 rest : List Value} {H : Heap} {locs : List Loc} {ls : Array Slot} (hcnt : r.2.1 = n + r.2.2.2.1) (hrun : va_Run p l e R s m args below meth c H locs k j r.2.2.2.1 r.2.2.2.2 (F0 m pc ls st0) (am_vs K rest) (am_Qc K X r a9) (am_A K)) (hH : am_Hp K n h s H locs k) (hl : lv_has ls (am_maxL mi) (am_Lm K L))
    (go : am_Go K mi p l e R s m args below meth c Q (pc + 3, L, r.1.toList ++ rest, r.2.1, r.2.2.1, k + r.2.2.2.1, j + r.2.2.2.2)) : W p l e R s m args below meth c H locs k j Q (F0 m pc ls st0) := by
  intro T hT X9
  obtain ⟨v, st₀, t, T', Lc, h0, X', hL, e1, e2, ⟨hv, hWd, hz, hk⟩, stp⟩ := hrun T hT X9
  have hv : v = r.1.map (am_v K) := by
    injection hv
  subst hv
  rw [h0] at hz hk
  have hS := hH.2.2
  have hgo := go T'.heap (locs ++ Lc) ls ⟨?_, ?_, ?_⟩ hl T' rfl X'
  · obtain ⟨t2, a1, b1⟩ := hgo
    refine ⟨t2, stp t2 ?_, b1⟩
    have e9 : (r.1.map (am_v K)).toList ++ am_vs K rest = am_vs K (r.1.toList ++ rest) := by
      cases r.1 <;> simp [am_vs]
    rw [e9]
    exact a1
  · have h1 : s.heap.size + k = K.1 + n := hH.1
    show s.heap.size + (k + r.2.2.2.1) = K.1 + r.2.1
    omega
  · rw [e1]
    exact hWd.2.1
  · refine ⟨Nat.le_trans hS.1 (by rw [e1]; exact hz), fun q h1 h2 => by rw [e1, hk q (Nat.lt_of_lt_of_le h1 hS.1) h2]; exact hS.2.1 q h1 h2, fun q hq => ?_⟩
    rcases List.mem_append.mp hq with h | h
    · exact hS.2.2 q h
    · exact hL q h
theorem am_pre {as : List Value} {H : Heap} {locs : List Loc} (hA : am_At K X mi p R s m args meth c) (hH : am_Hp K n h s H locs k) (hsz : H.size = K.1 + n) (U : State) (hU : U.heap = H) (hW : s.WarmedH U.vm) : am_Pc K X as n h (am_vs K as).toArray U := by
  obtain ⟨hex, hb, hml, hown, hts, hnm, hK, hF, hbs, hfr, hlo⟩ := hA
  refine ⟨rfl, by rw [hU]; exact hsz, by rw [hU]; exact hH.2.1, va_K.moved hW.alike hK, ?_⟩
  have h1 : am_Fix K X s H := hF.kept (fun a h1 h2 => hH.2.2.2.1 a h1 h2)
  rw [hU]
  exact h1.moved hW
theorem am_okc_ok {mj : Nat} {rest : List Value} (h : am_okc mi mj rest = true) : am_cat rest ≤ 8 ∧ am_fr mj + 1 ≤ am_fr mi ∧ 8 + (am_maxL mj + 11) + am_lo mj ≤ am_lo mi := by
  unfold am_okc at h
  simp only [Bool.and_eq_true, decide_eq_true_eq] at h
  exact ⟨h.1.1, h.1.2, h.2⟩
theorem am_room {ls : Array Slot} {st0 rest : List Value} (h : am_cat rest ≤ 8) : 2 * (F0 m pc ls st0).monitorRoom + ((am_vs K rest).map fun v => v.category).sum ≤ 8 := by
  rw [am_cat_vs]
  have := lv_room (m := m) (pc := pc) (ls := ls) (rest := st0) (st := rest) h
  exact this
theorem am_nm {mj : Nat} (h : mj < 181) : plainName (am_name mj).cls = true ∧ (am_name mj).cls ≠ "java/lang/invoke/MethodHandle" ∧ (am_name mj).cls ≠ "java/lang/invoke/VarHandle" := by
  have h1 := am_ckM_ok mj h
  rw [h1.2.2.1]
  exact am_pn_ok _ (am_mc_ok mj (by omega))
theorem am_split {na : Nat} {st r : List Value} (h : st.drop na = r) : am_vs K st = (am_vs K (st.take na).reverse).reverse ++ am_vs K r := by
  rw [← List.map_reverse, List.reverse_reverse, ← List.map_append, ← h, List.take_append_drop]
theorem am_s_call {q kd : Nat} {i : Instr} (hi : i = .invokevirtual q ∧ kd = 0 ∨ i = .invokestatic q ∧ (kd = 1 ∨ kd = 3 ∨ kd = 5 ∨ kd = 6 ∨ kd = 7 ∨ kd = 8) ∨ i = .invokespecial q ∧ (kd = 2 ∨ kd = 4)) (hA : am_At K X mi p R s m args meth c) (hcall : ∀ mj as n h r, call mj as n h = some r → r.2.1 = n + r.2.2.2.1 ∧ ∀ l, mj < 181 → am_Met K X l mj as n h r) (hd : decode (am_code mi) pc = .ok (i, 3)) (hx : am_call call mi q kd pc L st n h k j = some (.inl z)) (hR : z.2.2.2.2.2.1 ≤ R.cells ∧ z.2.2.2.2.2.2 ≤ R.slots) (go : am_Go K mi p l e R s m args below meth c Q z) : am_Go K mi p l e R s m args below meth c Q (pc, L, st, n, h, k, j) := by
  have hA' := hA
  obtain ⟨hex, hb, hml, hown, hts, hnm, hK, hF, hbs, hfr, hlo⟩ := hA
  unfold am_call at hx
  split at hx
  · cases hx
  · rename_i kd' mj hct
    split at hx
    · cases hx
    · rename_i hkd
      have hkd : kd' = kd := Classical.byContradiction hkd
      subst hkd
      have hck := am_ckC_ok _ (am_find_in hct)
      intro H locs ls hH hl
      have hml2 : c.maxLocals = ls.size := hml.trans hl.1.symm
      refine am_sized hH hbs (fun hsz => ?_)
      split at hx
      · -- virtual
        obtain ⟨c1, c2, c3, c4, c5⟩ := hck
        split at hx
        · rename_i b rest hdr
          split at hx
          · rename_i ci fs he
            split at hx
            · rename_i hc
              obtain ⟨hbn, rfl, hlen, hok⟩ := hc
              unfold am_back at hx
              split at hx
              · rename_i v n1 h1 k1 j1 hcl
                obtain rfl := am_go_inj hx
                obtain ⟨hcnt, hM⟩ := hcall _ _ _ _ _ hcl
                obtain ⟨o1, o2, o3⟩ := am_okc_ok hok
                have hi : i = .invokevirtual q := by rcases hi with ⟨a, -⟩ | ⟨-, b⟩ | ⟨-, b⟩ <;> first | exact a | omega
                subst hi
                have hm := am_ckM_ok mj c1
                have hw : (am_W K n h)[b]? = some (K.1 + b, .inr (am_mc mj, am_vs K fs)) := by rw [am_W_get K h hbn, he]; rfl
                have hrc := va_recv hK hH.2.1 (am_cl_get _ c5) hw
                have hcls : (am_C (am_mc mj)).1 = (am_name mj).cls := by rw [hm.2.2.1]; exact (am_cn_C _ c5).symm
                rw [hcls] at hrc
                have hT : GoodIn am_words (wsV (am_cn (am_mc mi)) q (am_name mj).cls (am_name mj) (am_ws mj)) := by
                  intro w hw9
                  rcases List.mem_append.mp hw9 with h9 | h9
                  · simp only [List.mem_cons, List.not_mem_nil, or_false] at h9
                    rcases h9 with rfl | rfl | rfl | rfl
                    · exact am_good _ c2
                    · exact am_good _ c3
                    · exact am_good _ c4
                    · exact am_good _ hm.2.1
                  · exact am_ws_good mj c1 w h9
                refine am_after (a9 := (Value.ref (K.1 + b) :: am_vs K (st.take (am_na mj)).reverse).toArray) (r := (v, n1, h1, k1, j1)) hcnt (va_runV (As := am_vs K (st.take (am_na mj)).reverse) (rest := am_vs K rest) (b := K.1 + b) (C := (am_name mj).cls) ⟨hex, hb, hml, hown, hts⟩ (hM l c1) (cwV (am_na mj) hts hT rfl rfl rfl ⟨rfl, (am_nm c1).2.1, (am_nm c1).2.2, hm.2.2.2⟩ ⟨by show am_fr mj + 1 ≤ R.frames; omega, by show 8 + (am_maxL mj + 11) + am_lo mj ≤ R.locals; omega⟩) ⟨am_Pc_blind K X _ n h, hrc, fun U hU hW => am_pre (as := .ref b :: (st.take (am_na mj)).reverse) hA' hH hsz U hU hW⟩ rfl (by rw [List.length_map, List.length_reverse]; exact hlen) hl.1 ?_ (am_room o1) hd hR) hH hl go
                exact am_split hdr
              · cases hx
            · cases hx
          · cases hx
        · cases hx
      · -- static
        obtain ⟨c1, c2, c3⟩ := hck
        split at hx
        · rename_i hc
          obtain ⟨hlen, hok⟩ := hc
          unfold am_back at hx
          split at hx
          · rename_i v n1 h1 k1 j1 hcl
            obtain rfl := am_go_inj hx
            obtain ⟨hcnt, hM⟩ := hcall _ _ _ _ _ hcl
            obtain ⟨o1, o2, o3⟩ := am_okc_ok hok
            have hi : i = .invokestatic q := by rcases hi with ⟨-, b⟩ | ⟨a, -⟩ | ⟨-, b⟩ <;> first | exact a | omega
            subst hi
            have hm := am_ckM_ok mj c1
            have hT : GoodIn am_words (va_wsS (am_cn (am_mc mi)) q (am_name mj) (am_ws mj)) := by
              intro w hw9
              rcases List.mem_append.mp hw9 with h9 | h9
              · simp only [List.mem_cons, List.not_mem_nil, or_false] at h9
                rcases h9 with rfl | rfl | rfl
                · exact am_good _ c2
                · exact am_good _ c3
                · exact am_good _ hm.2.1
              · exact am_ws_good mj c1 w h9
            refine am_after (a9 := (am_vs K (st.take (am_na mj)).reverse).toArray) (r := (v, n1, h1, k1, j1)) hcnt (va_runS (As := am_vs K (st.take (am_na mj)).reverse) (rest := am_vs K (st.drop (am_na mj))) ⟨hex, hb, hml, hown, hts⟩ (hM l c1) (va_cwS (am_na mj) hts hT rfl rfl rfl ⟨(am_nm c1).2.1, (am_nm c1).2.2, hm.2.2.2⟩ ⟨by show am_fr mj + 1 ≤ R.frames; omega, by show 8 + (am_maxL mj + 11) + am_lo mj ≤ R.locals; omega⟩) ⟨am_Pc_blind K X _ n h, fun U hU hW => am_pre hA' hH hsz U hU hW⟩ rfl (by rw [List.length_map, List.length_reverse]; exact hlen) hl.1 ?_ (am_room o1) hd hR) hH hl go
            exact am_split rfl
          · cases hx
        · cases hx
      · -- constructor
        obtain ⟨c1, c2, c3, c4⟩ := hck
        split at hx
        · rename_i b rest hdr
          split at hx
          · rename_i hc
            obtain ⟨hlen, hret, hok⟩ := hc
            unfold am_back at hx
            split at hx
            · rename_i v n1 h1 k1 j1 hcl
              obtain rfl := am_go_inj hx
              obtain ⟨hcnt, hM⟩ := hcall _ _ _ _ _ hcl
              obtain ⟨o1, o2, o3⟩ := am_okc_ok hok
              have hi : i = .invokespecial q := by rcases hi with ⟨-, b⟩ | ⟨-, b⟩ | ⟨a, -⟩ <;> first | exact a | omega
              subst hi
              have hm := am_ckM_ok mj c1
              refine am_after (a9 := (Value.ref (K.1 + b) :: am_vs K (st.take (am_na mj)).reverse).toArray) (r := (v, n1, h1, k1, j1)) hcnt (va_runI (As := am_vs K (st.take (am_na mj)).reverse) (rest := am_vs K rest) (b := K.1 + b) ⟨hex, hb, hml, hown, hts⟩ (hM l c1) (cwI (am_na mj) hts (am_ws_good mj c1) (by unfold am_ws; rw [hret]) rfl rfl (hts _ hm.2.1) (hts _ c2) (hts _ c3) c4 ⟨(am_nm c1).2.1, (am_nm c1).2.2, hm.2.2.2⟩ ⟨by show am_fr mj + 1 ≤ R.frames; omega, by show 8 + (am_maxL mj + 11) + am_lo mj ≤ R.locals; omega⟩) ⟨am_Pc_blind K X _ n h, fun U hU hW => am_pre (as := .ref b :: (st.take (am_na mj)).reverse) hA' hH hsz U hU hW⟩ rfl (by rw [List.length_map, List.length_reverse]; exact hlen) hl.1 ?_ (am_room o1) hd hR) hH hl go
              exact am_split hdr
            · cases hx
          · cases hx
        · cases hx
      · -- static by the nest
        obtain ⟨c1, c2, c3⟩ := hck
        split at hx
        · rename_i hc
          obtain ⟨hlen, hok⟩ := hc
          unfold am_back at hx
          split at hx
          · rename_i v n1 h1 k1 j1 hcl
            obtain rfl := am_go_inj hx
            obtain ⟨hcnt, hM⟩ := hcall _ _ _ _ _ hcl
            obtain ⟨o1, o2, o3⟩ := am_okc_ok hok
            have hi : i = .invokestatic q := by rcases hi with ⟨-, b⟩ | ⟨a, -⟩ | ⟨-, b⟩ <;> first | exact a | omega
            subst hi
            have hm := am_ckM_ok mj c1
            have hN : va_Nw (.methodLinkNest (am_cn (am_mc mi)) q (am_name mj) "ThirdSheets") s := hF.2.2.2.1 (am_mc mi, q, mj) c3
            refine am_after (a9 := (am_vs K (st.take (am_na mj)).reverse).toArray) (r := (v, n1, h1, k1, j1)) hcnt (va_runSN (As := am_vs K (st.take (am_na mj)).reverse) (rest := am_vs K (st.drop (am_na mj))) ⟨hex, hb, hml, hown, hts⟩ (hM l c1) ⟨va_cnB (am_na mj) hts (am_ws_good mj c1) rfl rfl rfl hN (hts _ hm.2.1) ⟨(am_nm c1).2.1, (am_nm c1).2.2, hm.2.2.2⟩ ⟨by show am_fr mj + 1 ≤ R.frames; omega, by show 8 + (am_maxL mj + 11) + am_lo mj ≤ R.locals; omega⟩, hts _ c2, trivial⟩ ⟨am_Pc_blind K X _ n h, fun U hU hW => am_pre hA' hH hsz U hU hW⟩ rfl (by rw [List.length_map, List.length_reverse]; exact hlen) hl.1 ?_ (am_room o1) hd hR) hH hl go
            exact am_split rfl
          · cases hx
        · cases hx
      · -- Object's constructor
        split at hx
        · rename_i b rest
          split at hx
          · rename_i hc
            obtain rfl := am_go_inj hx
            have hi : i = .invokespecial q := by rcases hi with ⟨-, b⟩ | ⟨-, b⟩ | ⟨a, -⟩ <;> first | exact a | omega
            subst hi
            refine W.objInit hex hb hown (hts _ hck) (hts _ am_ob_i) (hts _ am_ob_c) (g := F0 m pc ls (.ref (K.1 + b) :: am_vs K rest)) rfl (hml2.symm) rfl hd (by omega) ?_ (go H locs ls hH hl)
            show 2 * 0 + ((am_vs K rest).map fun v => v.category).sum + 12 ≤ R.locals
            rw [am_cat_vs]
            omega
          · cases hx
        · cases hx
      · -- min
        split at hx
        · rename_i y9 x9 rest
          split at hx
          · rename_i hc
            obtain rfl := am_go_inj hx
            have hi : i = .invokestatic q := by rcases hi with ⟨-, b⟩ | ⟨a, -⟩ | ⟨-, b⟩ <;> first | exact a | omega
            subst hi
            exact va_mmin hex hb hml2 hown (hts _ hck) (hts _ am_ma_smin) (hts _ am_ma_i) (hts _ am_ma_cmin) (by omega) (by rw [am_cat_vs]; omega) hR.1 hR.2 hd (go H locs ls hH hl)
          · cases hx
        · cases hx
      · -- max
        split at hx
        · rename_i y9 x9 rest
          split at hx
          · rename_i hc
            obtain rfl := am_go_inj hx
            have hi : i = .invokestatic q := by rcases hi with ⟨-, b⟩ | ⟨a, -⟩ | ⟨-, b⟩ <;> first | exact a | omega
            subst hi
            exact va_mmax hex hb hml2 hown (hts _ hck) (hts _ am_ma_smax) (hts _ am_ma_i) (hts _ am_ma_cmax) (by omega) (by rw [am_cat_vs]; omega) hR.1 hR.2 hd (go H locs ls hH hl)
          · cases hx
        · cases hx
      · -- abs
        split at hx
        · rename_i x9 rest
          split at hx
          · rename_i hc
            obtain rfl := am_go_inj hx
            have hi : i = .invokestatic q := by rcases hi with ⟨-, b⟩ | ⟨a, -⟩ | ⟨-, b⟩ <;> first | exact a | omega
            subst hi
            exact va_mabs_long hex hb hml2 hown (hts _ hck) (hts _ am_ma_sabs) (hts _ am_ma_i) (hts _ am_ma_cabs) (by omega) (by rw [am_cat_vs]; omega) hR.1 hR.2 hd (go H locs ls hH hl)
          · cases hx
        · cases hx
      · -- arraycopy
        split at hx
        · rename_i k9 dp a1 sp a0 rest
          split at hx
          · rename_i h1 hcp
            split at hx
            · rename_i hc
              obtain ⟨hb0, hb1, hc3, hc4⟩ := hc
              obtain rfl := am_go_inj hx
              have hi : i = .invokestatic q := by rcases hi with ⟨-, b⟩ | ⟨a, -⟩ | ⟨-, b⟩ <;> first | exact a | omega
              subst hi
              unfold am_copy at hcp
              split at hcp
              · rename_i n0 f n1 g he0 he1
                split at hcp
                · rename_i hq
                  cases hcp
                  have hw0 : (am_W K n h)[a0]? = some (K.1 + a0, .inl (K.2.2.2.2 0, n0, .inl f)) := by rw [am_W_get K h hb0, he0]; rfl
                  have hw1 : (am_W K n h)[a1]? = some (K.1 + a1, .inl (K.2.2.2.2 0, n1, .inl g)) := by rw [am_W_get K h hb1, he1]; rfl
                  refine va_copyi hex hb hml2 hown (hts _ hck) (hts _ am_cp_n) (hts _ am_cp_s) (hts _ am_cp_i) hK hH.2.1 (am_W_D K n h) hH.2.2 a0 a1 0 0 hw0 hw1 (ty := .int) rfl rfl rfl hq.1 hq.2.1 hq.2.2.1 hq.2.2.2.1 hq.2.2.2.2 (fun i _ => rfl) (by omega) (by rw [am_cat_vs]; omega) hd (fun H1 locs1 hP1 _ hS1 => ?_)
                  exact go H1 locs1 ls ⟨hH.1, (am_W_set K h hb1 (.inl (0, n1, .inl (va_cpy f g sp.toNatClampNeg dp.toNatClampNeg k9.toNatClampNeg)))) ▸ hP1, hS1⟩ hl
                · cases hcp
              · cases hcp
            · cases hx
          · cases hx
        · cases hx
      · cases hx
end AMC
end
section
/-! a run of the abstract machine is a contract of the machine -/
section AMM
variable {p : Program} {l : Launch} {e : Env} {R : Room} {s : State} {m : MethodId} {args : Array Value} {below : List Frame} {meth : Method} {c : Code} {Q : State → Prop}
variable {K : am_K} {X : am_X} {mi : Nat} {pc : Nat} {L : am_L} {st : List Value} {n : Nat} {h : am_H} {k j : Nat} {z : am_Z} {call : am_Cl} {len : Nat}
/-- what the calls below owe -/
def am_Cok (K : am_K) (X : am_X) (call : am_Cl) : Prop := ∀ mj as n h r, call mj as n h = some r → r.2.1 = n + r.2.2.2.1 ∧ ∀ l, mj < 181 → am_Met K X l mj as n h r
theorem am_s_invoke {q : Nat} {i : Instr} (hi : i = .invokevirtual q ∨ i = .invokestatic q ∨ i = .invokespecial q) (hA : am_At K X mi p R s m args meth c) (hcall : am_Cok K X call) (hd : decode (am_code mi) pc = .ok (i, 3)) (hx : am_ex X call mi i 3 pc L st n h k j = some (.inl z)) (hR : z.2.2.2.2.2.1 ≤ R.cells ∧ z.2.2.2.2.2.2 ≤ R.slots) (go : am_Go K mi p l e R s m args below meth c Q z) : am_Go K mi p l e R s m args below meth c Q (pc, L, st, n, h, k, j) := by
  rcases hi with rfl | rfl | rfl
  · dsimp only [am_ex] at hx
    exact am_s_call (Or.inl ⟨rfl, rfl⟩) hA hcall hd hx hR go
  · dsimp only [am_ex] at hx
    split at hx
    · split at hx
      · rename_i hk
        exact am_s_call (Or.inr (Or.inl ⟨rfl, hk⟩)) hA hcall hd hx hR go
      · cases hx
    · cases hx
  · dsimp only [am_ex] at hx
    split at hx
    · split at hx
      · rename_i hk
        exact am_s_call (Or.inr (Or.inr ⟨rfl, hk⟩)) hA hcall hd hx hR go
      · cases hx
    · cases hx
theorem am_s_step (hA : am_At K X mi p R s m args meth c) (hcall : am_Cok K X call) (hx : am_step X call mi (pc, L, st, n, h, k, j) = some (.inl z)) (hR : z.2.2.2.2.2.1 ≤ R.cells ∧ z.2.2.2.2.2.2 ≤ R.slots) (go : am_Go K mi p l e R s m args below meth c Q z) : am_Go K mi p l e R s m args below meth c Q (pc, L, st, n, h, k, j) := by
  unfold am_step at hx
  dsimp only at hx
  split at hx
  · rename_i i len hd
    split at hx
    · rename_i hlen
      cases i with
      | iconst a0 =>
        rcases hlen with hl | hl
        · cases hl
        · subst hl
          exact am_s_iconst hA hd hx go
      | bipush a0 =>
        rcases hlen with hl | hl
        · cases hl
        · subst hl
          exact am_s_bipush hA hd hx go
      | sipush a0 =>
        rcases hlen with hl | hl
        · cases hl
        · subst hl
          exact am_s_sipush hA hd hx go
      | lconst a0 =>
        rcases hlen with hl | hl
        · cases hl
        · subst hl
          exact am_s_lconst hA hd hx go
      | ldc a0 =>
        rcases hlen with hl | hl
        · cases hl
        · subst hl
          exact am_s_ldc hA hd hx go
      | ldc2_w a0 =>
        rcases hlen with hl | hl
        · cases hl
        · subst hl
          exact am_s_ldc2_w hA hd hx go
      | iload a0 =>
        rcases hlen with hl | hl
        · cases hl
        · subst hl
          exact am_s_iload hA hd hx go
      | lload a0 =>
        rcases hlen with hl | hl
        · cases hl
        · subst hl
          exact am_s_lload hA hd hx go
      | iload_n a0 =>
        rcases hlen with hl | hl
        · cases hl
        · subst hl
          exact am_s_iload_n hA hd hx go
      | lload_n a0 =>
        rcases hlen with hl | hl
        · cases hl
        · subst hl
          exact am_s_lload_n hA hd hx go
      | aload_n a0 =>
        rcases hlen with hl | hl
        · cases hl
        · subst hl
          exact am_s_aload_n hA hd hx go
      | istore a0 =>
        rcases hlen with hl | hl
        · cases hl
        · subst hl
          exact am_s_istore hA hd hx go
      | istore_n a0 =>
        rcases hlen with hl | hl
        · cases hl
        · subst hl
          exact am_s_istore_n hA hd hx go
      | lstore a0 =>
        rcases hlen with hl | hl
        · cases hl
        · subst hl
          exact am_s_lstore hA hd hx go
      | lstore_n a0 =>
        rcases hlen with hl | hl
        · cases hl
        · subst hl
          exact am_s_lstore_n hA hd hx go
      | astore_n a0 =>
        rcases hlen with hl | hl
        · cases hl
        · subst hl
          exact am_s_astore_n hA hd hx go
      | iinc a0 a1 =>
        rcases hlen with hl | hl
        · cases hl
        · subst hl
          exact am_s_iinc hA hd hx go
      | iadd =>
        rcases hlen with hl | hl
        · cases hl
        · subst hl
          exact am_s_iadd hA hd hx go
      | isub =>
        rcases hlen with hl | hl
        · cases hl
        · subst hl
          exact am_s_isub hA hd hx go
      | imul =>
        rcases hlen with hl | hl
        · cases hl
        · subst hl
          exact am_s_imul hA hd hx go
      | iand =>
        rcases hlen with hl | hl
        · cases hl
        · subst hl
          exact am_s_iand hA hd hx go
      | ior =>
        rcases hlen with hl | hl
        · cases hl
        · subst hl
          exact am_s_ior hA hd hx go
      | ixor =>
        rcases hlen with hl | hl
        · cases hl
        · subst hl
          exact am_s_ixor hA hd hx go
      | ishl =>
        rcases hlen with hl | hl
        · cases hl
        · subst hl
          exact am_s_ishl hA hd hx go
      | ishr =>
        rcases hlen with hl | hl
        · cases hl
        · subst hl
          exact am_s_ishr hA hd hx go
      | ineg =>
        rcases hlen with hl | hl
        · cases hl
        · subst hl
          exact am_s_ineg hA hd hx go
      | ladd =>
        rcases hlen with hl | hl
        · cases hl
        · subst hl
          exact am_s_ladd hA hd hx go
      | lsub =>
        rcases hlen with hl | hl
        · cases hl
        · subst hl
          exact am_s_lsub hA hd hx go
      | lmul =>
        rcases hlen with hl | hl
        · cases hl
        · subst hl
          exact am_s_lmul hA hd hx go
      | lneg =>
        rcases hlen with hl | hl
        · cases hl
        · subst hl
          exact am_s_lneg hA hd hx go
      | idiv =>
        rcases hlen with hl | hl
        · cases hl
        · subst hl
          exact am_s_idiv hA hd hx go
      | irem =>
        rcases hlen with hl | hl
        · cases hl
        · subst hl
          exact am_s_irem hA hd hx go
      | ldiv =>
        rcases hlen with hl | hl
        · cases hl
        · subst hl
          exact am_s_ldiv hA hd hx go
      | lrem =>
        rcases hlen with hl | hl
        · cases hl
        · subst hl
          exact am_s_lrem hA hd hx go
      | lcmp =>
        rcases hlen with hl | hl
        · cases hl
        · subst hl
          exact am_s_lcmp hA hd hx go
      | i2l =>
        rcases hlen with hl | hl
        · cases hl
        · subst hl
          exact am_s_i2l hA hd hx go
      | l2i =>
        rcases hlen with hl | hl
        · cases hl
        · subst hl
          exact am_s_l2i hA hd hx go
      | dup =>
        rcases hlen with hl | hl
        · cases hl
        · subst hl
          exact am_s_dup hA hd hx go
      | pop =>
        rcases hlen with hl | hl
        · cases hl
        · subst hl
          exact am_s_pop hA hd hx go
      | dup2 =>
        rcases hlen with hl | hl
        · cases hl
        · subst hl
          exact am_s_dup2 hA hd hx go
      | goto a0 =>
        rcases hlen with hl | hl
        · cases hl
        · subst hl
          exact am_s_goto hA hd hx go
      | ifCond a0 a1 =>
        rcases hlen with hl | hl
        · cases hl
        · subst hl
          exact am_s_ifCond hA hd hx go
      | if_icmp a0 a1 =>
        rcases hlen with hl | hl
        · cases hl
        · subst hl
          exact am_s_if_icmp hA hd hx go
      | getfield a0 =>
        rcases hlen with hl | hl
        · cases hl
        · subst hl
          exact am_s_getfield hA hd hx go
      | putfield a0 =>
        rcases hlen with hl | hl
        · cases hl
        · subst hl
          exact am_s_putfield hA hd hx go
      | getstatic a0 =>
        rcases hlen with hl | hl
        · cases hl
        · subst hl
          exact am_s_getstatic hA hd hx go
      | iaload =>
        rcases hlen with hl | hl
        · cases hl
        · subst hl
          exact am_s_iaload hA hd hx go
      | baload =>
        rcases hlen with hl | hl
        · cases hl
        · subst hl
          exact am_s_baload hA hd hx go
      | laload =>
        rcases hlen with hl | hl
        · cases hl
        · subst hl
          exact am_s_laload hA hd hx go
      | aaload =>
        rcases hlen with hl | hl
        · cases hl
        · subst hl
          exact am_s_aaload hA hd hx go
      | arraylength =>
        rcases hlen with hl | hl
        · cases hl
        · subst hl
          exact am_s_arraylength hA hd hx go
      | iastore =>
        rcases hlen with hl | hl
        · cases hl
        · subst hl
          exact am_s_iastore hA hd hx go
      | bastore =>
        rcases hlen with hl | hl
        · cases hl
        · subst hl
          exact am_s_bastore hA hd hx go
      | lastore =>
        rcases hlen with hl | hl
        · cases hl
        · subst hl
          exact am_s_lastore hA hd hx go
      | aastore =>
        rcases hlen with hl | hl
        · cases hl
        · subst hl
          exact am_s_aastore hA hd hx go
      | new a0 =>
        rcases hlen with hl | hl
        · cases hl
        · subst hl
          exact am_s_new hA hd hx hR go
      | newarray a0 =>
        rcases hlen with hl | hl
        · cases hl
        · subst hl
          exact am_s_newarray hA hd hx hR go
      | multianewarray a0 a1 =>
        rcases hlen with hl | hl
        · cases hl
        · subst hl
          exact am_s_multianewarray hA hd hx hR go
      | invokevirtual a0 =>
        rcases hlen with hl | hl
        · cases hl
        · subst hl
          exact am_s_invoke (Or.inl rfl) hA hcall hd hx hR go
      | invokestatic a0 =>
        rcases hlen with hl | hl
        · cases hl
        · subst hl
          exact am_s_invoke (Or.inr (Or.inl rfl)) hA hcall hd hx hR go
      | invokespecial a0 =>
        rcases hlen with hl | hl
        · cases hl
        · subst hl
          exact am_s_invoke (Or.inr (Or.inr rfl)) hA hcall hd hx hR go
      | tableswitch a0 a1 a2 a3 => exact am_s_tableswitch hA hd hx go
      | lookupswitch a0 a1 => exact am_s_lookupswitch hA hd hx go
      | ireturn =>
        dsimp only [am_ex] at hx
        split at hx
        · split at hx <;> cases hx
        · cases hx
      | lreturn =>
        dsimp only [am_ex] at hx
        split at hx
        · split at hx <;> cases hx
        · cases hx
      | return_ =>
        dsimp only [am_ex] at hx
        split at hx
        · split at hx <;> cases hx
        · cases hx
      | _ => cases hx
    · cases hx
  · cases hx
/-- the counts -/
theorem am_go_cnt {z1 : am_Z} (hx : am_go pc L st n h k j = some (.inl z1)) : z1.2.2.2.1 = n ∧ z1.2.2.2.2.2.1 = k ∧ z1.2.2.2.2.2.2 = j := by
  obtain rfl := am_go_inj hx
  exact ⟨rfl, rfl, rfl⟩
end AMM
end
section
/-! how many cells are made -/
section AMN
variable {X : am_X} {mi : Nat} {pc : Nat} {L : am_L} {st : List Value} {n : Nat} {h : am_H} {k j : Nat} {z : am_Z} {call : am_Cl} {len : Nat}
abbrev am_ct (n k j : Nat) (z : am_Z) : Prop := z.2.2.2.1 + k = n + z.2.2.2.2.2.1 ∧ k ≤ z.2.2.2.2.2.1 ∧ j ≤ z.2.2.2.2.2.2
theorem am_ct_go {pc1 : Nat} {L1 : am_L} {st1 : List Value} {h1 : am_H} (hx : am_go pc1 L1 st1 n h1 k j = some (.inl z)) : am_ct n k j z := by
  obtain rfl := am_go_inj hx
  exact ⟨rfl, Nat.le_refl _, Nat.le_refl _⟩
theorem am_ct_jmp {pc1 : Nat} {o : Int} {L1 : am_L} {st1 : List Value} {h1 : am_H} (hx : am_jmp pc1 o L1 st1 n h1 k j = some (.inl z)) : am_ct n k j z := by
  obtain ⟨_, _, rfl⟩ := am_jmp_inj hx
  exact ⟨rfl, Nat.le_refl _, Nat.le_refl _⟩
theorem am_ct_br {o : ClassFile.Cond} {x y : Int32} {a b : am_O} (ha : a = some (.inl z) → am_ct n k j z) (hb : b = some (.inl z) → am_ct n k j z) (hx : am_br o x y a b = some (.inl z)) : am_ct n k j z := by
  unfold am_br at hx
  cases o <;> dsimp only at hx <;> split at hx <;> first | exact ha hx | exact hb hx
theorem am_ct_call {q kd : Nat} (hc : ∀ mj as n h r, call mj as n h = some r → r.2.1 = n + r.2.2.2.1) (hx : am_call call mi q kd pc L st n h k j = some (.inl z)) : am_ct n k j z := by
  have hbk : ∀ {rest : List Value} {mj : Nat} {as : List Value}, am_back (pc + 3) L rest k j (call mj as n h) = some (.inl z) → am_ct n k j z := by
    intro rest mj as hx
    unfold am_back at hx
    split at hx
    · rename_i v n1 h1 k1 j1 hcl
      obtain rfl := am_go_inj hx
      have := hc _ _ _ _ _ hcl
      have h9 : n1 = n + k1 := this
      refine ⟨?_, Nat.le_add_right _ _, Nat.le_add_right _ _⟩
      show n1 + k = n + (k + k1)
      omega
    · cases hx
  unfold am_call at hx
  split at hx
  · cases hx
  · split at hx
    · cases hx
    · split at hx
      · split at hx
        · split at hx
          · split at hx
            · exact hbk hx
            · cases hx
          · cases hx
        · cases hx
      · split at hx
        · exact hbk hx
        · cases hx
      · split at hx
        · split at hx
          · exact hbk hx
          · cases hx
        · cases hx
      · split at hx
        · exact hbk hx
        · cases hx
      · split at hx
        · split at hx
          · exact am_ct_go hx
          · cases hx
        · cases hx
      · split at hx
        · split at hx
          · exact am_ct_go hx
          · cases hx
        · cases hx
      · split at hx
        · split at hx
          · exact am_ct_go hx
          · cases hx
        · cases hx
      · split at hx
        · split at hx
          · exact am_ct_go hx
          · cases hx
        · cases hx
      · split at hx
        · split at hx
          · split at hx
            · exact am_ct_go hx
            · cases hx
          · cases hx
        · cases hx
      · cases hx
theorem am_ct_step (hc : ∀ mj as n h r, call mj as n h = some r → r.2.1 = n + r.2.2.2.1) (hx : am_step X call mi (pc, L, st, n, h, k, j) = some (.inl z)) : am_ct n k j z := by
  unfold am_step at hx
  dsimp only at hx
  split at hx
  · rename_i i len hd
    split at hx
    · cases i with
      | iconst a0 =>
        dsimp only [am_ex] at hx
        first | exact am_ct_go hx | exact am_ct_jmp hx | (split at hx <;> first | exact am_ct_go hx | exact am_ct_jmp hx | (cases hx; done) | (split at hx <;> first | exact am_ct_go hx | exact am_ct_jmp hx | (cases hx; done) | (split at hx <;> first | exact am_ct_go hx | exact am_ct_jmp hx | (cases hx; done))))
      | bipush a0 =>
        dsimp only [am_ex] at hx
        first | exact am_ct_go hx | exact am_ct_jmp hx | (split at hx <;> first | exact am_ct_go hx | exact am_ct_jmp hx | (cases hx; done) | (split at hx <;> first | exact am_ct_go hx | exact am_ct_jmp hx | (cases hx; done) | (split at hx <;> first | exact am_ct_go hx | exact am_ct_jmp hx | (cases hx; done))))
      | sipush a0 =>
        dsimp only [am_ex] at hx
        first | exact am_ct_go hx | exact am_ct_jmp hx | (split at hx <;> first | exact am_ct_go hx | exact am_ct_jmp hx | (cases hx; done) | (split at hx <;> first | exact am_ct_go hx | exact am_ct_jmp hx | (cases hx; done) | (split at hx <;> first | exact am_ct_go hx | exact am_ct_jmp hx | (cases hx; done))))
      | lconst a0 =>
        dsimp only [am_ex] at hx
        first | exact am_ct_go hx | exact am_ct_jmp hx | (split at hx <;> first | exact am_ct_go hx | exact am_ct_jmp hx | (cases hx; done) | (split at hx <;> first | exact am_ct_go hx | exact am_ct_jmp hx | (cases hx; done) | (split at hx <;> first | exact am_ct_go hx | exact am_ct_jmp hx | (cases hx; done))))
      | ldc a0 =>
        dsimp only [am_ex] at hx
        first | exact am_ct_go hx | exact am_ct_jmp hx | (split at hx <;> first | exact am_ct_go hx | exact am_ct_jmp hx | (cases hx; done) | (split at hx <;> first | exact am_ct_go hx | exact am_ct_jmp hx | (cases hx; done) | (split at hx <;> first | exact am_ct_go hx | exact am_ct_jmp hx | (cases hx; done))))
      | ldc2_w a0 =>
        dsimp only [am_ex] at hx
        first | exact am_ct_go hx | exact am_ct_jmp hx | (split at hx <;> first | exact am_ct_go hx | exact am_ct_jmp hx | (cases hx; done) | (split at hx <;> first | exact am_ct_go hx | exact am_ct_jmp hx | (cases hx; done) | (split at hx <;> first | exact am_ct_go hx | exact am_ct_jmp hx | (cases hx; done))))
      | iload a0 =>
        dsimp only [am_ex] at hx
        first | exact am_ct_go hx | exact am_ct_jmp hx | (split at hx <;> first | exact am_ct_go hx | exact am_ct_jmp hx | (cases hx; done) | (split at hx <;> first | exact am_ct_go hx | exact am_ct_jmp hx | (cases hx; done) | (split at hx <;> first | exact am_ct_go hx | exact am_ct_jmp hx | (cases hx; done))))
      | lload a0 =>
        dsimp only [am_ex] at hx
        first | exact am_ct_go hx | exact am_ct_jmp hx | (split at hx <;> first | exact am_ct_go hx | exact am_ct_jmp hx | (cases hx; done) | (split at hx <;> first | exact am_ct_go hx | exact am_ct_jmp hx | (cases hx; done) | (split at hx <;> first | exact am_ct_go hx | exact am_ct_jmp hx | (cases hx; done))))
      | iload_n a0 =>
        dsimp only [am_ex] at hx
        first | exact am_ct_go hx | exact am_ct_jmp hx | (split at hx <;> first | exact am_ct_go hx | exact am_ct_jmp hx | (cases hx; done) | (split at hx <;> first | exact am_ct_go hx | exact am_ct_jmp hx | (cases hx; done) | (split at hx <;> first | exact am_ct_go hx | exact am_ct_jmp hx | (cases hx; done))))
      | lload_n a0 =>
        dsimp only [am_ex] at hx
        first | exact am_ct_go hx | exact am_ct_jmp hx | (split at hx <;> first | exact am_ct_go hx | exact am_ct_jmp hx | (cases hx; done) | (split at hx <;> first | exact am_ct_go hx | exact am_ct_jmp hx | (cases hx; done) | (split at hx <;> first | exact am_ct_go hx | exact am_ct_jmp hx | (cases hx; done))))
      | aload_n a0 =>
        dsimp only [am_ex] at hx
        first | exact am_ct_go hx | exact am_ct_jmp hx | (split at hx <;> first | exact am_ct_go hx | exact am_ct_jmp hx | (cases hx; done) | (split at hx <;> first | exact am_ct_go hx | exact am_ct_jmp hx | (cases hx; done) | (split at hx <;> first | exact am_ct_go hx | exact am_ct_jmp hx | (cases hx; done))))
      | istore a0 =>
        dsimp only [am_ex] at hx
        first | exact am_ct_go hx | exact am_ct_jmp hx | (split at hx <;> first | exact am_ct_go hx | exact am_ct_jmp hx | (cases hx; done) | (split at hx <;> first | exact am_ct_go hx | exact am_ct_jmp hx | (cases hx; done) | (split at hx <;> first | exact am_ct_go hx | exact am_ct_jmp hx | (cases hx; done))))
      | istore_n a0 =>
        dsimp only [am_ex] at hx
        first | exact am_ct_go hx | exact am_ct_jmp hx | (split at hx <;> first | exact am_ct_go hx | exact am_ct_jmp hx | (cases hx; done) | (split at hx <;> first | exact am_ct_go hx | exact am_ct_jmp hx | (cases hx; done) | (split at hx <;> first | exact am_ct_go hx | exact am_ct_jmp hx | (cases hx; done))))
      | lstore a0 =>
        dsimp only [am_ex] at hx
        first | exact am_ct_go hx | exact am_ct_jmp hx | (split at hx <;> first | exact am_ct_go hx | exact am_ct_jmp hx | (cases hx; done) | (split at hx <;> first | exact am_ct_go hx | exact am_ct_jmp hx | (cases hx; done) | (split at hx <;> first | exact am_ct_go hx | exact am_ct_jmp hx | (cases hx; done))))
      | lstore_n a0 =>
        dsimp only [am_ex] at hx
        first | exact am_ct_go hx | exact am_ct_jmp hx | (split at hx <;> first | exact am_ct_go hx | exact am_ct_jmp hx | (cases hx; done) | (split at hx <;> first | exact am_ct_go hx | exact am_ct_jmp hx | (cases hx; done) | (split at hx <;> first | exact am_ct_go hx | exact am_ct_jmp hx | (cases hx; done))))
      | astore_n a0 =>
        dsimp only [am_ex] at hx
        first | exact am_ct_go hx | exact am_ct_jmp hx | (split at hx <;> first | exact am_ct_go hx | exact am_ct_jmp hx | (cases hx; done) | (split at hx <;> first | exact am_ct_go hx | exact am_ct_jmp hx | (cases hx; done) | (split at hx <;> first | exact am_ct_go hx | exact am_ct_jmp hx | (cases hx; done))))
      | iinc a0 a1 =>
        dsimp only [am_ex] at hx
        first | exact am_ct_go hx | exact am_ct_jmp hx | (split at hx <;> first | exact am_ct_go hx | exact am_ct_jmp hx | (cases hx; done) | (split at hx <;> first | exact am_ct_go hx | exact am_ct_jmp hx | (cases hx; done) | (split at hx <;> first | exact am_ct_go hx | exact am_ct_jmp hx | (cases hx; done))))
      | iadd =>
        dsimp only [am_ex] at hx
        first | exact am_ct_go hx | exact am_ct_jmp hx | (split at hx <;> first | exact am_ct_go hx | exact am_ct_jmp hx | (cases hx; done) | (split at hx <;> first | exact am_ct_go hx | exact am_ct_jmp hx | (cases hx; done) | (split at hx <;> first | exact am_ct_go hx | exact am_ct_jmp hx | (cases hx; done))))
      | isub =>
        dsimp only [am_ex] at hx
        first | exact am_ct_go hx | exact am_ct_jmp hx | (split at hx <;> first | exact am_ct_go hx | exact am_ct_jmp hx | (cases hx; done) | (split at hx <;> first | exact am_ct_go hx | exact am_ct_jmp hx | (cases hx; done) | (split at hx <;> first | exact am_ct_go hx | exact am_ct_jmp hx | (cases hx; done))))
      | imul =>
        dsimp only [am_ex] at hx
        first | exact am_ct_go hx | exact am_ct_jmp hx | (split at hx <;> first | exact am_ct_go hx | exact am_ct_jmp hx | (cases hx; done) | (split at hx <;> first | exact am_ct_go hx | exact am_ct_jmp hx | (cases hx; done) | (split at hx <;> first | exact am_ct_go hx | exact am_ct_jmp hx | (cases hx; done))))
      | iand =>
        dsimp only [am_ex] at hx
        first | exact am_ct_go hx | exact am_ct_jmp hx | (split at hx <;> first | exact am_ct_go hx | exact am_ct_jmp hx | (cases hx; done) | (split at hx <;> first | exact am_ct_go hx | exact am_ct_jmp hx | (cases hx; done) | (split at hx <;> first | exact am_ct_go hx | exact am_ct_jmp hx | (cases hx; done))))
      | ior =>
        dsimp only [am_ex] at hx
        first | exact am_ct_go hx | exact am_ct_jmp hx | (split at hx <;> first | exact am_ct_go hx | exact am_ct_jmp hx | (cases hx; done) | (split at hx <;> first | exact am_ct_go hx | exact am_ct_jmp hx | (cases hx; done) | (split at hx <;> first | exact am_ct_go hx | exact am_ct_jmp hx | (cases hx; done))))
      | ixor =>
        dsimp only [am_ex] at hx
        first | exact am_ct_go hx | exact am_ct_jmp hx | (split at hx <;> first | exact am_ct_go hx | exact am_ct_jmp hx | (cases hx; done) | (split at hx <;> first | exact am_ct_go hx | exact am_ct_jmp hx | (cases hx; done) | (split at hx <;> first | exact am_ct_go hx | exact am_ct_jmp hx | (cases hx; done))))
      | ishl =>
        dsimp only [am_ex] at hx
        first | exact am_ct_go hx | exact am_ct_jmp hx | (split at hx <;> first | exact am_ct_go hx | exact am_ct_jmp hx | (cases hx; done) | (split at hx <;> first | exact am_ct_go hx | exact am_ct_jmp hx | (cases hx; done) | (split at hx <;> first | exact am_ct_go hx | exact am_ct_jmp hx | (cases hx; done))))
      | ishr =>
        dsimp only [am_ex] at hx
        first | exact am_ct_go hx | exact am_ct_jmp hx | (split at hx <;> first | exact am_ct_go hx | exact am_ct_jmp hx | (cases hx; done) | (split at hx <;> first | exact am_ct_go hx | exact am_ct_jmp hx | (cases hx; done) | (split at hx <;> first | exact am_ct_go hx | exact am_ct_jmp hx | (cases hx; done))))
      | ineg =>
        dsimp only [am_ex] at hx
        first | exact am_ct_go hx | exact am_ct_jmp hx | (split at hx <;> first | exact am_ct_go hx | exact am_ct_jmp hx | (cases hx; done) | (split at hx <;> first | exact am_ct_go hx | exact am_ct_jmp hx | (cases hx; done) | (split at hx <;> first | exact am_ct_go hx | exact am_ct_jmp hx | (cases hx; done))))
      | ladd =>
        dsimp only [am_ex] at hx
        first | exact am_ct_go hx | exact am_ct_jmp hx | (split at hx <;> first | exact am_ct_go hx | exact am_ct_jmp hx | (cases hx; done) | (split at hx <;> first | exact am_ct_go hx | exact am_ct_jmp hx | (cases hx; done) | (split at hx <;> first | exact am_ct_go hx | exact am_ct_jmp hx | (cases hx; done))))
      | lsub =>
        dsimp only [am_ex] at hx
        first | exact am_ct_go hx | exact am_ct_jmp hx | (split at hx <;> first | exact am_ct_go hx | exact am_ct_jmp hx | (cases hx; done) | (split at hx <;> first | exact am_ct_go hx | exact am_ct_jmp hx | (cases hx; done) | (split at hx <;> first | exact am_ct_go hx | exact am_ct_jmp hx | (cases hx; done))))
      | lmul =>
        dsimp only [am_ex] at hx
        first | exact am_ct_go hx | exact am_ct_jmp hx | (split at hx <;> first | exact am_ct_go hx | exact am_ct_jmp hx | (cases hx; done) | (split at hx <;> first | exact am_ct_go hx | exact am_ct_jmp hx | (cases hx; done) | (split at hx <;> first | exact am_ct_go hx | exact am_ct_jmp hx | (cases hx; done))))
      | lneg =>
        dsimp only [am_ex] at hx
        first | exact am_ct_go hx | exact am_ct_jmp hx | (split at hx <;> first | exact am_ct_go hx | exact am_ct_jmp hx | (cases hx; done) | (split at hx <;> first | exact am_ct_go hx | exact am_ct_jmp hx | (cases hx; done) | (split at hx <;> first | exact am_ct_go hx | exact am_ct_jmp hx | (cases hx; done))))
      | idiv =>
        dsimp only [am_ex] at hx
        first | exact am_ct_go hx | exact am_ct_jmp hx | (split at hx <;> first | exact am_ct_go hx | exact am_ct_jmp hx | (cases hx; done) | (split at hx <;> first | exact am_ct_go hx | exact am_ct_jmp hx | (cases hx; done) | (split at hx <;> first | exact am_ct_go hx | exact am_ct_jmp hx | (cases hx; done))))
      | irem =>
        dsimp only [am_ex] at hx
        first | exact am_ct_go hx | exact am_ct_jmp hx | (split at hx <;> first | exact am_ct_go hx | exact am_ct_jmp hx | (cases hx; done) | (split at hx <;> first | exact am_ct_go hx | exact am_ct_jmp hx | (cases hx; done) | (split at hx <;> first | exact am_ct_go hx | exact am_ct_jmp hx | (cases hx; done))))
      | ldiv =>
        dsimp only [am_ex] at hx
        first | exact am_ct_go hx | exact am_ct_jmp hx | (split at hx <;> first | exact am_ct_go hx | exact am_ct_jmp hx | (cases hx; done) | (split at hx <;> first | exact am_ct_go hx | exact am_ct_jmp hx | (cases hx; done) | (split at hx <;> first | exact am_ct_go hx | exact am_ct_jmp hx | (cases hx; done))))
      | lrem =>
        dsimp only [am_ex] at hx
        first | exact am_ct_go hx | exact am_ct_jmp hx | (split at hx <;> first | exact am_ct_go hx | exact am_ct_jmp hx | (cases hx; done) | (split at hx <;> first | exact am_ct_go hx | exact am_ct_jmp hx | (cases hx; done) | (split at hx <;> first | exact am_ct_go hx | exact am_ct_jmp hx | (cases hx; done))))
      | lcmp =>
        dsimp only [am_ex] at hx
        first | exact am_ct_go hx | exact am_ct_jmp hx | (split at hx <;> first | exact am_ct_go hx | exact am_ct_jmp hx | (cases hx; done) | (split at hx <;> first | exact am_ct_go hx | exact am_ct_jmp hx | (cases hx; done) | (split at hx <;> first | exact am_ct_go hx | exact am_ct_jmp hx | (cases hx; done))))
      | i2l =>
        dsimp only [am_ex] at hx
        first | exact am_ct_go hx | exact am_ct_jmp hx | (split at hx <;> first | exact am_ct_go hx | exact am_ct_jmp hx | (cases hx; done) | (split at hx <;> first | exact am_ct_go hx | exact am_ct_jmp hx | (cases hx; done) | (split at hx <;> first | exact am_ct_go hx | exact am_ct_jmp hx | (cases hx; done))))
      | l2i =>
        dsimp only [am_ex] at hx
        first | exact am_ct_go hx | exact am_ct_jmp hx | (split at hx <;> first | exact am_ct_go hx | exact am_ct_jmp hx | (cases hx; done) | (split at hx <;> first | exact am_ct_go hx | exact am_ct_jmp hx | (cases hx; done) | (split at hx <;> first | exact am_ct_go hx | exact am_ct_jmp hx | (cases hx; done))))
      | dup =>
        dsimp only [am_ex] at hx
        first | exact am_ct_go hx | exact am_ct_jmp hx | (split at hx <;> first | exact am_ct_go hx | exact am_ct_jmp hx | (cases hx; done) | (split at hx <;> first | exact am_ct_go hx | exact am_ct_jmp hx | (cases hx; done) | (split at hx <;> first | exact am_ct_go hx | exact am_ct_jmp hx | (cases hx; done))))
      | pop =>
        dsimp only [am_ex] at hx
        first | exact am_ct_go hx | exact am_ct_jmp hx | (split at hx <;> first | exact am_ct_go hx | exact am_ct_jmp hx | (cases hx; done) | (split at hx <;> first | exact am_ct_go hx | exact am_ct_jmp hx | (cases hx; done) | (split at hx <;> first | exact am_ct_go hx | exact am_ct_jmp hx | (cases hx; done))))
      | dup2 =>
        dsimp only [am_ex] at hx
        first | exact am_ct_go hx | exact am_ct_jmp hx | (split at hx <;> first | exact am_ct_go hx | exact am_ct_jmp hx | (cases hx; done) | (split at hx <;> first | exact am_ct_go hx | exact am_ct_jmp hx | (cases hx; done) | (split at hx <;> first | exact am_ct_go hx | exact am_ct_jmp hx | (cases hx; done))))
      | goto a0 =>
        dsimp only [am_ex] at hx
        first | exact am_ct_go hx | exact am_ct_jmp hx | (split at hx <;> first | exact am_ct_go hx | exact am_ct_jmp hx | (cases hx; done) | (split at hx <;> first | exact am_ct_go hx | exact am_ct_jmp hx | (cases hx; done) | (split at hx <;> first | exact am_ct_go hx | exact am_ct_jmp hx | (cases hx; done))))
      | getfield a0 =>
        dsimp only [am_ex] at hx
        first | exact am_ct_go hx | exact am_ct_jmp hx | (split at hx <;> first | exact am_ct_go hx | exact am_ct_jmp hx | (cases hx; done) | (split at hx <;> first | exact am_ct_go hx | exact am_ct_jmp hx | (cases hx; done) | (split at hx <;> first | exact am_ct_go hx | exact am_ct_jmp hx | (cases hx; done))))
      | putfield a0 =>
        dsimp only [am_ex] at hx
        first | exact am_ct_go hx | exact am_ct_jmp hx | (split at hx <;> first | exact am_ct_go hx | exact am_ct_jmp hx | (cases hx; done) | (split at hx <;> first | exact am_ct_go hx | exact am_ct_jmp hx | (cases hx; done) | (split at hx <;> first | exact am_ct_go hx | exact am_ct_jmp hx | (cases hx; done))))
      | getstatic a0 =>
        dsimp only [am_ex] at hx
        first | exact am_ct_go hx | exact am_ct_jmp hx | (split at hx <;> first | exact am_ct_go hx | exact am_ct_jmp hx | (cases hx; done) | (split at hx <;> first | exact am_ct_go hx | exact am_ct_jmp hx | (cases hx; done) | (split at hx <;> first | exact am_ct_go hx | exact am_ct_jmp hx | (cases hx; done))))
      | iaload =>
        dsimp only [am_ex] at hx
        first | exact am_ct_go hx | exact am_ct_jmp hx | (split at hx <;> first | exact am_ct_go hx | exact am_ct_jmp hx | (cases hx; done) | (split at hx <;> first | exact am_ct_go hx | exact am_ct_jmp hx | (cases hx; done) | (split at hx <;> first | exact am_ct_go hx | exact am_ct_jmp hx | (cases hx; done))))
      | baload =>
        dsimp only [am_ex] at hx
        first | exact am_ct_go hx | exact am_ct_jmp hx | (split at hx <;> first | exact am_ct_go hx | exact am_ct_jmp hx | (cases hx; done) | (split at hx <;> first | exact am_ct_go hx | exact am_ct_jmp hx | (cases hx; done) | (split at hx <;> first | exact am_ct_go hx | exact am_ct_jmp hx | (cases hx; done))))
      | laload =>
        dsimp only [am_ex] at hx
        first | exact am_ct_go hx | exact am_ct_jmp hx | (split at hx <;> first | exact am_ct_go hx | exact am_ct_jmp hx | (cases hx; done) | (split at hx <;> first | exact am_ct_go hx | exact am_ct_jmp hx | (cases hx; done) | (split at hx <;> first | exact am_ct_go hx | exact am_ct_jmp hx | (cases hx; done))))
      | aaload =>
        dsimp only [am_ex] at hx
        first | exact am_ct_go hx | exact am_ct_jmp hx | (split at hx <;> first | exact am_ct_go hx | exact am_ct_jmp hx | (cases hx; done) | (split at hx <;> first | exact am_ct_go hx | exact am_ct_jmp hx | (cases hx; done) | (split at hx <;> first | exact am_ct_go hx | exact am_ct_jmp hx | (cases hx; done))))
      | arraylength =>
        dsimp only [am_ex] at hx
        first | exact am_ct_go hx | exact am_ct_jmp hx | (split at hx <;> first | exact am_ct_go hx | exact am_ct_jmp hx | (cases hx; done) | (split at hx <;> first | exact am_ct_go hx | exact am_ct_jmp hx | (cases hx; done) | (split at hx <;> first | exact am_ct_go hx | exact am_ct_jmp hx | (cases hx; done))))
      | iastore =>
        dsimp only [am_ex] at hx
        first | exact am_ct_go hx | exact am_ct_jmp hx | (split at hx <;> first | exact am_ct_go hx | exact am_ct_jmp hx | (cases hx; done) | (split at hx <;> first | exact am_ct_go hx | exact am_ct_jmp hx | (cases hx; done) | (split at hx <;> first | exact am_ct_go hx | exact am_ct_jmp hx | (cases hx; done))))
      | bastore =>
        dsimp only [am_ex] at hx
        first | exact am_ct_go hx | exact am_ct_jmp hx | (split at hx <;> first | exact am_ct_go hx | exact am_ct_jmp hx | (cases hx; done) | (split at hx <;> first | exact am_ct_go hx | exact am_ct_jmp hx | (cases hx; done) | (split at hx <;> first | exact am_ct_go hx | exact am_ct_jmp hx | (cases hx; done))))
      | lastore =>
        dsimp only [am_ex] at hx
        first | exact am_ct_go hx | exact am_ct_jmp hx | (split at hx <;> first | exact am_ct_go hx | exact am_ct_jmp hx | (cases hx; done) | (split at hx <;> first | exact am_ct_go hx | exact am_ct_jmp hx | (cases hx; done) | (split at hx <;> first | exact am_ct_go hx | exact am_ct_jmp hx | (cases hx; done))))
      | aastore =>
        dsimp only [am_ex] at hx
        first | exact am_ct_go hx | exact am_ct_jmp hx | (split at hx <;> first | exact am_ct_go hx | exact am_ct_jmp hx | (cases hx; done) | (split at hx <;> first | exact am_ct_go hx | exact am_ct_jmp hx | (cases hx; done) | (split at hx <;> first | exact am_ct_go hx | exact am_ct_jmp hx | (cases hx; done))))
      | tableswitch a0 a1 a2 a3 =>
        dsimp only [am_ex] at hx
        first | exact am_ct_go hx | exact am_ct_jmp hx | (split at hx <;> first | exact am_ct_go hx | exact am_ct_jmp hx | (cases hx; done) | (split at hx <;> first | exact am_ct_go hx | exact am_ct_jmp hx | (cases hx; done) | (split at hx <;> first | exact am_ct_go hx | exact am_ct_jmp hx | (cases hx; done))))
      | lookupswitch a0 a1 =>
        dsimp only [am_ex] at hx
        first | exact am_ct_go hx | exact am_ct_jmp hx | (split at hx <;> first | exact am_ct_go hx | exact am_ct_jmp hx | (cases hx; done) | (split at hx <;> first | exact am_ct_go hx | exact am_ct_jmp hx | (cases hx; done) | (split at hx <;> first | exact am_ct_go hx | exact am_ct_jmp hx | (cases hx; done))))
      | ifCond a0 a1 =>
        dsimp only [am_ex] at hx
        split at hx
        · split at hx
          · exact am_ct_br am_ct_go am_ct_go hx
          · cases hx
        · cases hx
      | if_icmp a0 a1 =>
        dsimp only [am_ex] at hx
        split at hx
        · split at hx
          · exact am_ct_br am_ct_go am_ct_go hx
          · cases hx
        · cases hx
      | new a0 =>
        dsimp only [am_ex] at hx
        split at hx
        · split at hx
          · obtain rfl := am_go_inj hx
            exact ⟨by show n + 1 + k = n + (k + 1); omega, Nat.le_add_right _ _, Nat.le_add_right _ _⟩
          · cases hx
        · cases hx
      | newarray a0 =>
        dsimp only [am_ex] at hx
        split at hx
        · split at hx
          · obtain rfl := am_go_inj hx
            exact ⟨by show n + 1 + k = n + (k + 1); omega, Nat.le_add_right _ _, Nat.le_add_right _ _⟩
          · cases hx
        · cases hx
      | multianewarray a0 a1 =>
        dsimp only [am_ex] at hx
        split at hx
        · rename_i t x9 y9 r hg
          split at hx
          · obtain rfl := am_go_inj hx
            exact ⟨by show n + 1 + y9.toNatClampNeg + k = n + (k + 1 + y9.toNatClampNeg); omega, by show k ≤ k + 1 + y9.toNatClampNeg; omega, by show j ≤ j + y9.toNatClampNeg + y9.toNatClampNeg * x9.toNatClampNeg; omega⟩
          · cases hx
        · cases hx
      | invokevirtual a0 =>
        dsimp only [am_ex] at hx
        exact am_ct_call hc hx
      | invokestatic a0 =>
        dsimp only [am_ex] at hx
        split at hx
        · split at hx
          · exact am_ct_call hc hx
          · cases hx
        · cases hx
      | invokespecial a0 =>
        dsimp only [am_ex] at hx
        split at hx
        · split at hx
          · exact am_ct_call hc hx
          · cases hx
        · cases hx
      | ireturn =>
        dsimp only [am_ex] at hx
        split at hx
        · split at hx <;> cases hx
        · cases hx
      | lreturn =>
        dsimp only [am_ex] at hx
        split at hx
        · split at hx <;> cases hx
        · cases hx
      | return_ =>
        dsimp only [am_ex] at hx
        split at hx
        · split at hx <;> cases hx
        · cases hx
      | _ => cases hx
    · cases hx
  · cases hx

theorem am_br_inr {o : ClassFile.Cond} {x y : Int32} {a b : am_O} {r : am_R} (ha : a ≠ some (.inr r)) (hb : b ≠ some (.inr r)) : am_br o x y a b ≠ some (.inr r) := by
  intro hx
  unfold am_br at hx
  cases o <;> dsimp only at hx <;> split at hx <;> first | exact ha hx | exact hb hx
theorem am_go_inr {r : am_R} : am_go pc L st n h k j ≠ some (.inr r) := fun hx => by
  unfold am_go at hx
  cases hx
theorem am_jmp_inr {r : am_R} {o : Int} : am_jmp pc o L st n h k j ≠ some (.inr r) := fun hx => by
  unfold am_jmp at hx
  split at hx
  · exact am_go_inr hx
  · cases hx
theorem am_call_inr {q kd : Nat} {r : am_R} : am_call call mi q kd pc L st n h k j ≠ some (.inr r) := by
  intro hx
  have hbk : ∀ {rest : List Value} {o9 : Option am_R}, am_back (pc + 3) L rest k j o9 ≠ some (.inr r) := by
    intro rest o9 hx
    unfold am_back at hx
    split at hx
    · exact am_go_inr hx
    · cases hx
  unfold am_call at hx
  split at hx
  · cases hx
  · split at hx
    · cases hx
    · split at hx
      · split at hx
        · split at hx
          · split at hx
            · exact hbk hx
            · cases hx
          · cases hx
        · cases hx
      · split at hx
        · exact hbk hx
        · cases hx
      · split at hx
        · split at hx
          · exact hbk hx
          · cases hx
        · cases hx
      · split at hx
        · exact hbk hx
        · cases hx
      · split at hx
        · split at hx
          · exact am_go_inr hx
          · cases hx
        · cases hx
      · split at hx
        · split at hx
          · exact am_go_inr hx
          · cases hx
        · cases hx
      · split at hx
        · split at hx
          · exact am_go_inr hx
          · cases hx
        · cases hx
      · split at hx
        · split at hx
          · exact am_go_inr hx
          · cases hx
        · cases hx
      · split at hx
        · split at hx
          · split at hx
            · exact am_go_inr hx
            · cases hx
          · cases hx
        · cases hx
      · cases hx
/-- what a return is -/
def am_Rt (mi pc : Nat) (st : List Value) (n : Nat) (h : am_H) (k j : Nat) (r : am_R) : Prop :=
  (∃ v, decode (am_code mi) pc = .ok (.ireturn, 1) ∧ st = [.int v] ∧ am_ret1 (am_ret mi) v = true ∧ r = (some (.int v), n, h, k, j)) ∨
  (∃ v, decode (am_code mi) pc = .ok (.lreturn, 1) ∧ st = [.long v] ∧ am_ret mi = some .long ∧ r = (some (.long v), n, h, k, j)) ∨
  (decode (am_code mi) pc = .ok (.return_, 1) ∧ st = [] ∧ am_ret mi = none ∧ r = (none, n, h, k, j))
theorem am_rt_step {r : am_R} (hx : am_step X call mi (pc, L, st, n, h, k, j) = some (.inr r)) : am_Rt mi pc st n h k j r := by
  unfold am_step at hx
  dsimp only at hx
  split at hx
  · rename_i i len hd
    split at hx
    · rename_i hlen
      cases i with
      | iconst a0 =>
        dsimp only [am_ex] at hx
        first | exact absurd hx am_go_inr | exact absurd hx am_jmp_inr | (split at hx <;> first | exact absurd hx am_go_inr | exact absurd hx am_jmp_inr | (cases hx; done) | (split at hx <;> first | exact absurd hx am_go_inr | exact absurd hx am_jmp_inr | (cases hx; done) | (split at hx <;> first | exact absurd hx am_go_inr | exact absurd hx am_jmp_inr | (cases hx; done))))
      | bipush a0 =>
        dsimp only [am_ex] at hx
        first | exact absurd hx am_go_inr | exact absurd hx am_jmp_inr | (split at hx <;> first | exact absurd hx am_go_inr | exact absurd hx am_jmp_inr | (cases hx; done) | (split at hx <;> first | exact absurd hx am_go_inr | exact absurd hx am_jmp_inr | (cases hx; done) | (split at hx <;> first | exact absurd hx am_go_inr | exact absurd hx am_jmp_inr | (cases hx; done))))
      | sipush a0 =>
        dsimp only [am_ex] at hx
        first | exact absurd hx am_go_inr | exact absurd hx am_jmp_inr | (split at hx <;> first | exact absurd hx am_go_inr | exact absurd hx am_jmp_inr | (cases hx; done) | (split at hx <;> first | exact absurd hx am_go_inr | exact absurd hx am_jmp_inr | (cases hx; done) | (split at hx <;> first | exact absurd hx am_go_inr | exact absurd hx am_jmp_inr | (cases hx; done))))
      | lconst a0 =>
        dsimp only [am_ex] at hx
        first | exact absurd hx am_go_inr | exact absurd hx am_jmp_inr | (split at hx <;> first | exact absurd hx am_go_inr | exact absurd hx am_jmp_inr | (cases hx; done) | (split at hx <;> first | exact absurd hx am_go_inr | exact absurd hx am_jmp_inr | (cases hx; done) | (split at hx <;> first | exact absurd hx am_go_inr | exact absurd hx am_jmp_inr | (cases hx; done))))
      | ldc a0 =>
        dsimp only [am_ex] at hx
        first | exact absurd hx am_go_inr | exact absurd hx am_jmp_inr | (split at hx <;> first | exact absurd hx am_go_inr | exact absurd hx am_jmp_inr | (cases hx; done) | (split at hx <;> first | exact absurd hx am_go_inr | exact absurd hx am_jmp_inr | (cases hx; done) | (split at hx <;> first | exact absurd hx am_go_inr | exact absurd hx am_jmp_inr | (cases hx; done))))
      | ldc2_w a0 =>
        dsimp only [am_ex] at hx
        first | exact absurd hx am_go_inr | exact absurd hx am_jmp_inr | (split at hx <;> first | exact absurd hx am_go_inr | exact absurd hx am_jmp_inr | (cases hx; done) | (split at hx <;> first | exact absurd hx am_go_inr | exact absurd hx am_jmp_inr | (cases hx; done) | (split at hx <;> first | exact absurd hx am_go_inr | exact absurd hx am_jmp_inr | (cases hx; done))))
      | iload a0 =>
        dsimp only [am_ex] at hx
        first | exact absurd hx am_go_inr | exact absurd hx am_jmp_inr | (split at hx <;> first | exact absurd hx am_go_inr | exact absurd hx am_jmp_inr | (cases hx; done) | (split at hx <;> first | exact absurd hx am_go_inr | exact absurd hx am_jmp_inr | (cases hx; done) | (split at hx <;> first | exact absurd hx am_go_inr | exact absurd hx am_jmp_inr | (cases hx; done))))
      | lload a0 =>
        dsimp only [am_ex] at hx
        first | exact absurd hx am_go_inr | exact absurd hx am_jmp_inr | (split at hx <;> first | exact absurd hx am_go_inr | exact absurd hx am_jmp_inr | (cases hx; done) | (split at hx <;> first | exact absurd hx am_go_inr | exact absurd hx am_jmp_inr | (cases hx; done) | (split at hx <;> first | exact absurd hx am_go_inr | exact absurd hx am_jmp_inr | (cases hx; done))))
      | iload_n a0 =>
        dsimp only [am_ex] at hx
        first | exact absurd hx am_go_inr | exact absurd hx am_jmp_inr | (split at hx <;> first | exact absurd hx am_go_inr | exact absurd hx am_jmp_inr | (cases hx; done) | (split at hx <;> first | exact absurd hx am_go_inr | exact absurd hx am_jmp_inr | (cases hx; done) | (split at hx <;> first | exact absurd hx am_go_inr | exact absurd hx am_jmp_inr | (cases hx; done))))
      | lload_n a0 =>
        dsimp only [am_ex] at hx
        first | exact absurd hx am_go_inr | exact absurd hx am_jmp_inr | (split at hx <;> first | exact absurd hx am_go_inr | exact absurd hx am_jmp_inr | (cases hx; done) | (split at hx <;> first | exact absurd hx am_go_inr | exact absurd hx am_jmp_inr | (cases hx; done) | (split at hx <;> first | exact absurd hx am_go_inr | exact absurd hx am_jmp_inr | (cases hx; done))))
      | aload_n a0 =>
        dsimp only [am_ex] at hx
        first | exact absurd hx am_go_inr | exact absurd hx am_jmp_inr | (split at hx <;> first | exact absurd hx am_go_inr | exact absurd hx am_jmp_inr | (cases hx; done) | (split at hx <;> first | exact absurd hx am_go_inr | exact absurd hx am_jmp_inr | (cases hx; done) | (split at hx <;> first | exact absurd hx am_go_inr | exact absurd hx am_jmp_inr | (cases hx; done))))
      | istore a0 =>
        dsimp only [am_ex] at hx
        first | exact absurd hx am_go_inr | exact absurd hx am_jmp_inr | (split at hx <;> first | exact absurd hx am_go_inr | exact absurd hx am_jmp_inr | (cases hx; done) | (split at hx <;> first | exact absurd hx am_go_inr | exact absurd hx am_jmp_inr | (cases hx; done) | (split at hx <;> first | exact absurd hx am_go_inr | exact absurd hx am_jmp_inr | (cases hx; done))))
      | istore_n a0 =>
        dsimp only [am_ex] at hx
        first | exact absurd hx am_go_inr | exact absurd hx am_jmp_inr | (split at hx <;> first | exact absurd hx am_go_inr | exact absurd hx am_jmp_inr | (cases hx; done) | (split at hx <;> first | exact absurd hx am_go_inr | exact absurd hx am_jmp_inr | (cases hx; done) | (split at hx <;> first | exact absurd hx am_go_inr | exact absurd hx am_jmp_inr | (cases hx; done))))
      | lstore a0 =>
        dsimp only [am_ex] at hx
        first | exact absurd hx am_go_inr | exact absurd hx am_jmp_inr | (split at hx <;> first | exact absurd hx am_go_inr | exact absurd hx am_jmp_inr | (cases hx; done) | (split at hx <;> first | exact absurd hx am_go_inr | exact absurd hx am_jmp_inr | (cases hx; done) | (split at hx <;> first | exact absurd hx am_go_inr | exact absurd hx am_jmp_inr | (cases hx; done))))
      | lstore_n a0 =>
        dsimp only [am_ex] at hx
        first | exact absurd hx am_go_inr | exact absurd hx am_jmp_inr | (split at hx <;> first | exact absurd hx am_go_inr | exact absurd hx am_jmp_inr | (cases hx; done) | (split at hx <;> first | exact absurd hx am_go_inr | exact absurd hx am_jmp_inr | (cases hx; done) | (split at hx <;> first | exact absurd hx am_go_inr | exact absurd hx am_jmp_inr | (cases hx; done))))
      | astore_n a0 =>
        dsimp only [am_ex] at hx
        first | exact absurd hx am_go_inr | exact absurd hx am_jmp_inr | (split at hx <;> first | exact absurd hx am_go_inr | exact absurd hx am_jmp_inr | (cases hx; done) | (split at hx <;> first | exact absurd hx am_go_inr | exact absurd hx am_jmp_inr | (cases hx; done) | (split at hx <;> first | exact absurd hx am_go_inr | exact absurd hx am_jmp_inr | (cases hx; done))))
      | iinc a0 a1 =>
        dsimp only [am_ex] at hx
        first | exact absurd hx am_go_inr | exact absurd hx am_jmp_inr | (split at hx <;> first | exact absurd hx am_go_inr | exact absurd hx am_jmp_inr | (cases hx; done) | (split at hx <;> first | exact absurd hx am_go_inr | exact absurd hx am_jmp_inr | (cases hx; done) | (split at hx <;> first | exact absurd hx am_go_inr | exact absurd hx am_jmp_inr | (cases hx; done))))
      | iadd =>
        dsimp only [am_ex] at hx
        first | exact absurd hx am_go_inr | exact absurd hx am_jmp_inr | (split at hx <;> first | exact absurd hx am_go_inr | exact absurd hx am_jmp_inr | (cases hx; done) | (split at hx <;> first | exact absurd hx am_go_inr | exact absurd hx am_jmp_inr | (cases hx; done) | (split at hx <;> first | exact absurd hx am_go_inr | exact absurd hx am_jmp_inr | (cases hx; done))))
      | isub =>
        dsimp only [am_ex] at hx
        first | exact absurd hx am_go_inr | exact absurd hx am_jmp_inr | (split at hx <;> first | exact absurd hx am_go_inr | exact absurd hx am_jmp_inr | (cases hx; done) | (split at hx <;> first | exact absurd hx am_go_inr | exact absurd hx am_jmp_inr | (cases hx; done) | (split at hx <;> first | exact absurd hx am_go_inr | exact absurd hx am_jmp_inr | (cases hx; done))))
      | imul =>
        dsimp only [am_ex] at hx
        first | exact absurd hx am_go_inr | exact absurd hx am_jmp_inr | (split at hx <;> first | exact absurd hx am_go_inr | exact absurd hx am_jmp_inr | (cases hx; done) | (split at hx <;> first | exact absurd hx am_go_inr | exact absurd hx am_jmp_inr | (cases hx; done) | (split at hx <;> first | exact absurd hx am_go_inr | exact absurd hx am_jmp_inr | (cases hx; done))))
      | iand =>
        dsimp only [am_ex] at hx
        first | exact absurd hx am_go_inr | exact absurd hx am_jmp_inr | (split at hx <;> first | exact absurd hx am_go_inr | exact absurd hx am_jmp_inr | (cases hx; done) | (split at hx <;> first | exact absurd hx am_go_inr | exact absurd hx am_jmp_inr | (cases hx; done) | (split at hx <;> first | exact absurd hx am_go_inr | exact absurd hx am_jmp_inr | (cases hx; done))))
      | ior =>
        dsimp only [am_ex] at hx
        first | exact absurd hx am_go_inr | exact absurd hx am_jmp_inr | (split at hx <;> first | exact absurd hx am_go_inr | exact absurd hx am_jmp_inr | (cases hx; done) | (split at hx <;> first | exact absurd hx am_go_inr | exact absurd hx am_jmp_inr | (cases hx; done) | (split at hx <;> first | exact absurd hx am_go_inr | exact absurd hx am_jmp_inr | (cases hx; done))))
      | ixor =>
        dsimp only [am_ex] at hx
        first | exact absurd hx am_go_inr | exact absurd hx am_jmp_inr | (split at hx <;> first | exact absurd hx am_go_inr | exact absurd hx am_jmp_inr | (cases hx; done) | (split at hx <;> first | exact absurd hx am_go_inr | exact absurd hx am_jmp_inr | (cases hx; done) | (split at hx <;> first | exact absurd hx am_go_inr | exact absurd hx am_jmp_inr | (cases hx; done))))
      | ishl =>
        dsimp only [am_ex] at hx
        first | exact absurd hx am_go_inr | exact absurd hx am_jmp_inr | (split at hx <;> first | exact absurd hx am_go_inr | exact absurd hx am_jmp_inr | (cases hx; done) | (split at hx <;> first | exact absurd hx am_go_inr | exact absurd hx am_jmp_inr | (cases hx; done) | (split at hx <;> first | exact absurd hx am_go_inr | exact absurd hx am_jmp_inr | (cases hx; done))))
      | ishr =>
        dsimp only [am_ex] at hx
        first | exact absurd hx am_go_inr | exact absurd hx am_jmp_inr | (split at hx <;> first | exact absurd hx am_go_inr | exact absurd hx am_jmp_inr | (cases hx; done) | (split at hx <;> first | exact absurd hx am_go_inr | exact absurd hx am_jmp_inr | (cases hx; done) | (split at hx <;> first | exact absurd hx am_go_inr | exact absurd hx am_jmp_inr | (cases hx; done))))
      | ineg =>
        dsimp only [am_ex] at hx
        first | exact absurd hx am_go_inr | exact absurd hx am_jmp_inr | (split at hx <;> first | exact absurd hx am_go_inr | exact absurd hx am_jmp_inr | (cases hx; done) | (split at hx <;> first | exact absurd hx am_go_inr | exact absurd hx am_jmp_inr | (cases hx; done) | (split at hx <;> first | exact absurd hx am_go_inr | exact absurd hx am_jmp_inr | (cases hx; done))))
      | ladd =>
        dsimp only [am_ex] at hx
        first | exact absurd hx am_go_inr | exact absurd hx am_jmp_inr | (split at hx <;> first | exact absurd hx am_go_inr | exact absurd hx am_jmp_inr | (cases hx; done) | (split at hx <;> first | exact absurd hx am_go_inr | exact absurd hx am_jmp_inr | (cases hx; done) | (split at hx <;> first | exact absurd hx am_go_inr | exact absurd hx am_jmp_inr | (cases hx; done))))
      | lsub =>
        dsimp only [am_ex] at hx
        first | exact absurd hx am_go_inr | exact absurd hx am_jmp_inr | (split at hx <;> first | exact absurd hx am_go_inr | exact absurd hx am_jmp_inr | (cases hx; done) | (split at hx <;> first | exact absurd hx am_go_inr | exact absurd hx am_jmp_inr | (cases hx; done) | (split at hx <;> first | exact absurd hx am_go_inr | exact absurd hx am_jmp_inr | (cases hx; done))))
      | lmul =>
        dsimp only [am_ex] at hx
        first | exact absurd hx am_go_inr | exact absurd hx am_jmp_inr | (split at hx <;> first | exact absurd hx am_go_inr | exact absurd hx am_jmp_inr | (cases hx; done) | (split at hx <;> first | exact absurd hx am_go_inr | exact absurd hx am_jmp_inr | (cases hx; done) | (split at hx <;> first | exact absurd hx am_go_inr | exact absurd hx am_jmp_inr | (cases hx; done))))
      | lneg =>
        dsimp only [am_ex] at hx
        first | exact absurd hx am_go_inr | exact absurd hx am_jmp_inr | (split at hx <;> first | exact absurd hx am_go_inr | exact absurd hx am_jmp_inr | (cases hx; done) | (split at hx <;> first | exact absurd hx am_go_inr | exact absurd hx am_jmp_inr | (cases hx; done) | (split at hx <;> first | exact absurd hx am_go_inr | exact absurd hx am_jmp_inr | (cases hx; done))))
      | idiv =>
        dsimp only [am_ex] at hx
        first | exact absurd hx am_go_inr | exact absurd hx am_jmp_inr | (split at hx <;> first | exact absurd hx am_go_inr | exact absurd hx am_jmp_inr | (cases hx; done) | (split at hx <;> first | exact absurd hx am_go_inr | exact absurd hx am_jmp_inr | (cases hx; done) | (split at hx <;> first | exact absurd hx am_go_inr | exact absurd hx am_jmp_inr | (cases hx; done))))
      | irem =>
        dsimp only [am_ex] at hx
        first | exact absurd hx am_go_inr | exact absurd hx am_jmp_inr | (split at hx <;> first | exact absurd hx am_go_inr | exact absurd hx am_jmp_inr | (cases hx; done) | (split at hx <;> first | exact absurd hx am_go_inr | exact absurd hx am_jmp_inr | (cases hx; done) | (split at hx <;> first | exact absurd hx am_go_inr | exact absurd hx am_jmp_inr | (cases hx; done))))
      | ldiv =>
        dsimp only [am_ex] at hx
        first | exact absurd hx am_go_inr | exact absurd hx am_jmp_inr | (split at hx <;> first | exact absurd hx am_go_inr | exact absurd hx am_jmp_inr | (cases hx; done) | (split at hx <;> first | exact absurd hx am_go_inr | exact absurd hx am_jmp_inr | (cases hx; done) | (split at hx <;> first | exact absurd hx am_go_inr | exact absurd hx am_jmp_inr | (cases hx; done))))
      | lrem =>
        dsimp only [am_ex] at hx
        first | exact absurd hx am_go_inr | exact absurd hx am_jmp_inr | (split at hx <;> first | exact absurd hx am_go_inr | exact absurd hx am_jmp_inr | (cases hx; done) | (split at hx <;> first | exact absurd hx am_go_inr | exact absurd hx am_jmp_inr | (cases hx; done) | (split at hx <;> first | exact absurd hx am_go_inr | exact absurd hx am_jmp_inr | (cases hx; done))))
      | lcmp =>
        dsimp only [am_ex] at hx
        first | exact absurd hx am_go_inr | exact absurd hx am_jmp_inr | (split at hx <;> first | exact absurd hx am_go_inr | exact absurd hx am_jmp_inr | (cases hx; done) | (split at hx <;> first | exact absurd hx am_go_inr | exact absurd hx am_jmp_inr | (cases hx; done) | (split at hx <;> first | exact absurd hx am_go_inr | exact absurd hx am_jmp_inr | (cases hx; done))))
      | i2l =>
        dsimp only [am_ex] at hx
        first | exact absurd hx am_go_inr | exact absurd hx am_jmp_inr | (split at hx <;> first | exact absurd hx am_go_inr | exact absurd hx am_jmp_inr | (cases hx; done) | (split at hx <;> first | exact absurd hx am_go_inr | exact absurd hx am_jmp_inr | (cases hx; done) | (split at hx <;> first | exact absurd hx am_go_inr | exact absurd hx am_jmp_inr | (cases hx; done))))
      | l2i =>
        dsimp only [am_ex] at hx
        first | exact absurd hx am_go_inr | exact absurd hx am_jmp_inr | (split at hx <;> first | exact absurd hx am_go_inr | exact absurd hx am_jmp_inr | (cases hx; done) | (split at hx <;> first | exact absurd hx am_go_inr | exact absurd hx am_jmp_inr | (cases hx; done) | (split at hx <;> first | exact absurd hx am_go_inr | exact absurd hx am_jmp_inr | (cases hx; done))))
      | dup =>
        dsimp only [am_ex] at hx
        first | exact absurd hx am_go_inr | exact absurd hx am_jmp_inr | (split at hx <;> first | exact absurd hx am_go_inr | exact absurd hx am_jmp_inr | (cases hx; done) | (split at hx <;> first | exact absurd hx am_go_inr | exact absurd hx am_jmp_inr | (cases hx; done) | (split at hx <;> first | exact absurd hx am_go_inr | exact absurd hx am_jmp_inr | (cases hx; done))))
      | pop =>
        dsimp only [am_ex] at hx
        first | exact absurd hx am_go_inr | exact absurd hx am_jmp_inr | (split at hx <;> first | exact absurd hx am_go_inr | exact absurd hx am_jmp_inr | (cases hx; done) | (split at hx <;> first | exact absurd hx am_go_inr | exact absurd hx am_jmp_inr | (cases hx; done) | (split at hx <;> first | exact absurd hx am_go_inr | exact absurd hx am_jmp_inr | (cases hx; done))))
      | dup2 =>
        dsimp only [am_ex] at hx
        first | exact absurd hx am_go_inr | exact absurd hx am_jmp_inr | (split at hx <;> first | exact absurd hx am_go_inr | exact absurd hx am_jmp_inr | (cases hx; done) | (split at hx <;> first | exact absurd hx am_go_inr | exact absurd hx am_jmp_inr | (cases hx; done) | (split at hx <;> first | exact absurd hx am_go_inr | exact absurd hx am_jmp_inr | (cases hx; done))))
      | goto a0 =>
        dsimp only [am_ex] at hx
        first | exact absurd hx am_go_inr | exact absurd hx am_jmp_inr | (split at hx <;> first | exact absurd hx am_go_inr | exact absurd hx am_jmp_inr | (cases hx; done) | (split at hx <;> first | exact absurd hx am_go_inr | exact absurd hx am_jmp_inr | (cases hx; done) | (split at hx <;> first | exact absurd hx am_go_inr | exact absurd hx am_jmp_inr | (cases hx; done))))
      | getfield a0 =>
        dsimp only [am_ex] at hx
        first | exact absurd hx am_go_inr | exact absurd hx am_jmp_inr | (split at hx <;> first | exact absurd hx am_go_inr | exact absurd hx am_jmp_inr | (cases hx; done) | (split at hx <;> first | exact absurd hx am_go_inr | exact absurd hx am_jmp_inr | (cases hx; done) | (split at hx <;> first | exact absurd hx am_go_inr | exact absurd hx am_jmp_inr | (cases hx; done))))
      | putfield a0 =>
        dsimp only [am_ex] at hx
        first | exact absurd hx am_go_inr | exact absurd hx am_jmp_inr | (split at hx <;> first | exact absurd hx am_go_inr | exact absurd hx am_jmp_inr | (cases hx; done) | (split at hx <;> first | exact absurd hx am_go_inr | exact absurd hx am_jmp_inr | (cases hx; done) | (split at hx <;> first | exact absurd hx am_go_inr | exact absurd hx am_jmp_inr | (cases hx; done))))
      | getstatic a0 =>
        dsimp only [am_ex] at hx
        first | exact absurd hx am_go_inr | exact absurd hx am_jmp_inr | (split at hx <;> first | exact absurd hx am_go_inr | exact absurd hx am_jmp_inr | (cases hx; done) | (split at hx <;> first | exact absurd hx am_go_inr | exact absurd hx am_jmp_inr | (cases hx; done) | (split at hx <;> first | exact absurd hx am_go_inr | exact absurd hx am_jmp_inr | (cases hx; done))))
      | iaload =>
        dsimp only [am_ex] at hx
        first | exact absurd hx am_go_inr | exact absurd hx am_jmp_inr | (split at hx <;> first | exact absurd hx am_go_inr | exact absurd hx am_jmp_inr | (cases hx; done) | (split at hx <;> first | exact absurd hx am_go_inr | exact absurd hx am_jmp_inr | (cases hx; done) | (split at hx <;> first | exact absurd hx am_go_inr | exact absurd hx am_jmp_inr | (cases hx; done))))
      | baload =>
        dsimp only [am_ex] at hx
        first | exact absurd hx am_go_inr | exact absurd hx am_jmp_inr | (split at hx <;> first | exact absurd hx am_go_inr | exact absurd hx am_jmp_inr | (cases hx; done) | (split at hx <;> first | exact absurd hx am_go_inr | exact absurd hx am_jmp_inr | (cases hx; done) | (split at hx <;> first | exact absurd hx am_go_inr | exact absurd hx am_jmp_inr | (cases hx; done))))
      | laload =>
        dsimp only [am_ex] at hx
        first | exact absurd hx am_go_inr | exact absurd hx am_jmp_inr | (split at hx <;> first | exact absurd hx am_go_inr | exact absurd hx am_jmp_inr | (cases hx; done) | (split at hx <;> first | exact absurd hx am_go_inr | exact absurd hx am_jmp_inr | (cases hx; done) | (split at hx <;> first | exact absurd hx am_go_inr | exact absurd hx am_jmp_inr | (cases hx; done))))
      | aaload =>
        dsimp only [am_ex] at hx
        first | exact absurd hx am_go_inr | exact absurd hx am_jmp_inr | (split at hx <;> first | exact absurd hx am_go_inr | exact absurd hx am_jmp_inr | (cases hx; done) | (split at hx <;> first | exact absurd hx am_go_inr | exact absurd hx am_jmp_inr | (cases hx; done) | (split at hx <;> first | exact absurd hx am_go_inr | exact absurd hx am_jmp_inr | (cases hx; done))))
      | arraylength =>
        dsimp only [am_ex] at hx
        first | exact absurd hx am_go_inr | exact absurd hx am_jmp_inr | (split at hx <;> first | exact absurd hx am_go_inr | exact absurd hx am_jmp_inr | (cases hx; done) | (split at hx <;> first | exact absurd hx am_go_inr | exact absurd hx am_jmp_inr | (cases hx; done) | (split at hx <;> first | exact absurd hx am_go_inr | exact absurd hx am_jmp_inr | (cases hx; done))))
      | iastore =>
        dsimp only [am_ex] at hx
        first | exact absurd hx am_go_inr | exact absurd hx am_jmp_inr | (split at hx <;> first | exact absurd hx am_go_inr | exact absurd hx am_jmp_inr | (cases hx; done) | (split at hx <;> first | exact absurd hx am_go_inr | exact absurd hx am_jmp_inr | (cases hx; done) | (split at hx <;> first | exact absurd hx am_go_inr | exact absurd hx am_jmp_inr | (cases hx; done))))
      | bastore =>
        dsimp only [am_ex] at hx
        first | exact absurd hx am_go_inr | exact absurd hx am_jmp_inr | (split at hx <;> first | exact absurd hx am_go_inr | exact absurd hx am_jmp_inr | (cases hx; done) | (split at hx <;> first | exact absurd hx am_go_inr | exact absurd hx am_jmp_inr | (cases hx; done) | (split at hx <;> first | exact absurd hx am_go_inr | exact absurd hx am_jmp_inr | (cases hx; done))))
      | lastore =>
        dsimp only [am_ex] at hx
        first | exact absurd hx am_go_inr | exact absurd hx am_jmp_inr | (split at hx <;> first | exact absurd hx am_go_inr | exact absurd hx am_jmp_inr | (cases hx; done) | (split at hx <;> first | exact absurd hx am_go_inr | exact absurd hx am_jmp_inr | (cases hx; done) | (split at hx <;> first | exact absurd hx am_go_inr | exact absurd hx am_jmp_inr | (cases hx; done))))
      | aastore =>
        dsimp only [am_ex] at hx
        first | exact absurd hx am_go_inr | exact absurd hx am_jmp_inr | (split at hx <;> first | exact absurd hx am_go_inr | exact absurd hx am_jmp_inr | (cases hx; done) | (split at hx <;> first | exact absurd hx am_go_inr | exact absurd hx am_jmp_inr | (cases hx; done) | (split at hx <;> first | exact absurd hx am_go_inr | exact absurd hx am_jmp_inr | (cases hx; done))))
      | tableswitch a0 a1 a2 a3 =>
        dsimp only [am_ex] at hx
        first | exact absurd hx am_go_inr | exact absurd hx am_jmp_inr | (split at hx <;> first | exact absurd hx am_go_inr | exact absurd hx am_jmp_inr | (cases hx; done) | (split at hx <;> first | exact absurd hx am_go_inr | exact absurd hx am_jmp_inr | (cases hx; done) | (split at hx <;> first | exact absurd hx am_go_inr | exact absurd hx am_jmp_inr | (cases hx; done))))
      | lookupswitch a0 a1 =>
        dsimp only [am_ex] at hx
        first | exact absurd hx am_go_inr | exact absurd hx am_jmp_inr | (split at hx <;> first | exact absurd hx am_go_inr | exact absurd hx am_jmp_inr | (cases hx; done) | (split at hx <;> first | exact absurd hx am_go_inr | exact absurd hx am_jmp_inr | (cases hx; done) | (split at hx <;> first | exact absurd hx am_go_inr | exact absurd hx am_jmp_inr | (cases hx; done))))
      | ifCond a0 a1 =>
        dsimp only [am_ex] at hx
        split at hx
        · split at hx
          · exact absurd hx (am_br_inr am_go_inr am_go_inr)
          · cases hx
        · cases hx
      | if_icmp a0 a1 =>
        dsimp only [am_ex] at hx
        split at hx
        · split at hx
          · exact absurd hx (am_br_inr am_go_inr am_go_inr)
          · cases hx
        · cases hx
      | new a0 =>
        dsimp only [am_ex] at hx
        split at hx
        · split at hx
          · exact absurd hx am_go_inr
          · cases hx
        · cases hx
      | newarray a0 =>
        dsimp only [am_ex] at hx
        split at hx
        · split at hx
          · exact absurd hx am_go_inr
          · cases hx
        · cases hx
      | multianewarray a0 a1 =>
        dsimp only [am_ex] at hx
        split at hx
        · split at hx
          · exact absurd hx am_go_inr
          · cases hx
        · cases hx
      | invokevirtual a0 =>
        dsimp only [am_ex] at hx
        exact absurd hx am_call_inr
      | invokestatic a0 =>
        dsimp only [am_ex] at hx
        split at hx
        · split at hx
          · exact absurd hx am_call_inr
          · cases hx
        · cases hx
      | invokespecial a0 =>
        dsimp only [am_ex] at hx
        split at hx
        · split at hx
          · exact absurd hx am_call_inr
          · cases hx
        · cases hx
      | ireturn =>
        rcases hlen with hl | hl
        · cases hl
        · subst hl
          dsimp only [am_ex] at hx
          split at hx
          · split at hx
            · rename_i hr
              cases hx
              exact Or.inl ⟨_, hd, rfl, hr, rfl⟩
            · cases hx
          · cases hx
      | lreturn =>
        rcases hlen with hl | hl
        · cases hl
        · subst hl
          dsimp only [am_ex] at hx
          split at hx
          · split at hx
            · rename_i hr
              cases hx
              exact Or.inr (Or.inl ⟨_, hd, rfl, hr, rfl⟩)
            · cases hx
          · cases hx
      | return_ =>
        rcases hlen with hl | hl
        · cases hl
        · subst hl
          dsimp only [am_ex] at hx
          split at hx
          · split at hx
            · rename_i hr
              cases hx
              exact Or.inr (Or.inr ⟨hd, rfl, hr, rfl⟩)
            · cases hx
          · cases hx
      | _ => cases hx
    · cases hx
  · cases hx
theorem am_ct_iter (hc : ∀ mj as n h r, call mj as n h = some r → r.2.1 = n + r.2.2.2.1) : ∀ (N : Nat) (z : am_Z) (r : am_R), am_iter X call mi N z = some r → r.2.1 + z.2.2.2.2.2.1 = z.2.2.2.1 + r.2.2.2.1 ∧ z.2.2.2.2.2.1 ≤ r.2.2.2.1 ∧ z.2.2.2.2.2.2 ≤ r.2.2.2.2
  | 0, z, r, hx => by cases hx
  | N + 1, (pc, L, st, n, h, k, j), r, hx => by
    unfold am_iter at hx
    split at hx
    · rename_i z1 hz
      obtain ⟨a1, a2, a3⟩ := am_ct_step hc hz
      obtain ⟨b1, b2, b3⟩ := am_ct_iter hc N z1 r hx
      dsimp only
      exact ⟨by omega, by omega, by omega⟩
    · rename_i r1 hz
      cases hx
      rcases am_rt_step hz with ⟨v, -, -, -, rfl⟩ | ⟨v, -, -, -, rfl⟩ | ⟨-, -, -, rfl⟩ <;> exact ⟨rfl, Nat.le_refl _, Nat.le_refl _⟩
    · cases hx
theorem am_ct_run (N : Nat) : ∀ (d mj : Nat) (as : List Value) (n : Nat) (h : am_H) (r : am_R), am_run X N d mj as n h = some r → r.2.1 = n + r.2.2.2.1
  | 0, mj, as, n, h, r, hx => by cases hx
  | d + 1, mj, as, n, h, r, hx => by
    unfold am_run at hx
    split at hx
    · have := (am_ct_iter (am_ct_run N d) N _ r hx).1
      dsimp only at this
      omega
    · cases hx
end AMN
end
section
/-! a run of the abstract machine is a contract of the machine: the whole -/
section AMZ
variable {p : Program} {l : Launch} {e : Env} {R : Room} {s : State} {m : MethodId} {args : Array Value} {below : List Frame} {meth : Method} {c : Code} {Q : State → Prop}
variable {K : am_K} {X : am_X} {mi : Nat} {call : am_Cl}
theorem am_W_iter (hA : am_At K X mi p R s m args meth c) (hcall : am_Cok K X call) {r : am_R} (hr1 : r.2.2.2.1 ≤ R.cells) (hr2 : r.2.2.2.2 ≤ R.slots)
    (hend : ∀ (pc : Nat) (st : List Value) (H : Heap) (locs : List Loc) (ls : Array Slot), am_Rt mi pc st r.2.1 r.2.2.1 r.2.2.2.1 r.2.2.2.2 r → am_Hp K r.2.1 r.2.2.1 s H locs r.2.2.2.1 → W p l e R s m args below meth c H locs r.2.2.2.1 r.2.2.2.2 Q (F0 m pc ls (am_vs K st))) :
    ∀ (N : Nat) (z : am_Z), am_iter X call mi N z = some r → am_Go K mi p l e R s m args below meth c Q z
  | 0, z, hx => by cases hx
  | N + 1, (pc, L, st, n, h, k, j), hx => by
    unfold am_iter at hx
    split at hx
    · rename_i z1 hz
      have hc := am_ct_iter (fun mj as n h r q => (hcall mj as n h r q).1) N z1 r hx
      exact am_s_step hA hcall hz ⟨Nat.le_trans hc.2.1 hr1, Nat.le_trans hc.2.2 hr2⟩ (am_W_iter hA hcall hr1 hr2 hend N z1 hx)
    · rename_i r1 hz
      cases hx
      have hrt := am_rt_step hz
      have e9 : r.2.1 = n ∧ r.2.2.1 = h ∧ r.2.2.2.1 = k ∧ r.2.2.2.2 = j := by
        rcases hrt with ⟨v, -, -, -, rfl⟩ | ⟨v, -, -, -, rfl⟩ | ⟨-, -, -, rfl⟩ <;> exact ⟨rfl, rfl, rfl, rfl⟩
      obtain ⟨rfl, rfl, rfl, rfl⟩ := e9
      intro H locs ls hH hl
      exact hend pc st H locs ls hrt hH
    · cases hx
theorem am_Lm_args (K : am_K) : ∀ (as : List Value) (i : Nat), lv_args i (am_vs K as) = am_Lm K (lv_args i as)
  | [], i => rfl
  | v :: as, i => by
    show (i, am_v K v) :: lv_args (if (am_v K v).category = 2 then i + 2 else i + 1) (am_vs K as) = _
    rw [am_v_cat, am_Lm_args K as]
    rfl
theorem am_lg_len (K : am_K) : ∀ as : List Value, (lg_sl (am_vs K as)).length = (lg_sl as).length
  | [] => rfl
  | v :: as => by
    have ih := am_lg_len K as
    unfold lg_sl at ih ⊢
    simp only [List.map_cons, List.flatMap_cons, List.length_append, am_v_cat]
    rw [show ((am_vs K as).flatMap fun v => if v.category = 2 then [Slot.val v, Slot.second] else [Slot.val v]).length = (as.flatMap fun v => if v.category = 2 then [Slot.val v, Slot.second] else [Slot.val v]).length from ih]
    split <;> rfl
/-- the world at a walk's end -/
theorem am_end {n : Nat} {h : am_H} {k : Nat} {H : Heap} {locs : List Loc} (hA : am_At K X mi p R s m args meth c) (hH : am_Hp K n h s H locs k) (hsz : H.size = K.1 + n) (t : State) (ht : t.heap = H) (hW : s.WarmedH t.vm) : am_Wd K X n h t ∧ va_F (am_A K) s t := by
  obtain ⟨hex, hb, hml, hown, hts, hnm, hK, hF, hbs, hfr, hlo⟩ := hA
  have h1 : am_Fix K X s H := hF.kept (fun a h1 h2 => hH.2.2.2.1 a h1 h2)
  exact ⟨⟨by rw [ht]; exact hsz, by rw [ht]; exact hH.2.1, va_K.moved hW.alike hK, by rw [ht]; exact h1.moved hW⟩, hH.2.2.F ht⟩
theorem am_nar {v : Int32} (h : (v == 0 || v == 1) = true) : narrow .boolean (.int v) = .int v := by
  rcases Bool.or_eq_true_iff.mp h with h | h
  · rw [show v = 0 from by simpa using h]; rfl
  · rw [show v = 1 from by simpa using h]; rfl
theorem am_ok (K : am_K) (X : am_X) (N : Nat) : ∀ (d mj : Nat) (as : List Value) (n : Nat) (h : am_H) (r : am_R), am_run X N d mj as n h = some r → ∀ l, mj < 181 → am_Met K X l mj as n h r
  | 0, mj, as, n, h, r, hx => by cases hx
  | d + 1, mj, as, n, h, r, hx => by
    intro l hmj
    have hcall : am_Cok K X (am_run X N d) := fun mk bs n1 h1 r1 q => ⟨am_ct_run N d mk bs n1 h1 r1 q, am_ok K X N d mk bs n1 h1 r1 q⟩
    unfold am_run at hx
    split at hx
    · rename_i hlen
      have hm := am_ckM_ok mj hmj
      refine Met.ofW (cc := am_code mj) (maxL := am_maxL mj) (ret := am_ret mj) (am_nm hmj).1 rfl ?_
      intro p e s m args below meth c s₁ B hml hv
      obtain ⟨rfl, hsz, hP, hK, hF⟩ := hv
      have hts := atoms_spec (ws := am_ws mj) B.pre
      have hown : s.vm.findClass (am_cn (am_mc mj)) = some m.cls := by
        rw [← hm.2.2.1]
        exact findClass_of_methodNamed B.named
      have hA : am_At K X mj p (headSpec (am_ws mj) { frames := am_fr mj, cells := r.2.2.2.1, slots := r.2.2.2.2, locals := am_lo mj }).room s m (am_vs K as).toArray meth c :=
        ⟨B.exec, B.bytes, hml, hown, fun w hw => hts w (List.mem_cons_of_mem _ hw), fun q => (name_of_methodNamed B.named B.method).1.trans q, hK, hF, by rw [hsz]; exact Nat.le_add_right _ _, Nat.le_refl _, Nat.le_refl _⟩
      have hlocks := B.notSynchronized
      have hret := B.returns
      have hl := lv_entry (am_vs K as) (n := am_maxL mj) (by rw [am_lg_len]; exact hlen)
      rw [lg_entry_eq]
      generalize (lg_sl (am_vs K as) ++ List.replicate (am_maxL mj - (lg_sl (am_vs K as)).length) Slot.unset).toArray = ls at hl ⊢
      rw [am_Lm_args] at hl
      refine am_W_iter hA hcall (r := r) (Nat.le_refl _) (Nat.le_refl _) ?_ N _ hx s.heap [] ls ⟨by rw [hsz]; rfl, hP, va_S.rf⟩ hl
      intro pc st H locs ls hrt hH
      refine am_sized hH hA.2.2.2.2.2.2.2.2.1 (fun hsz2 => ?_)
      rcases hrt with ⟨v, hd, rfl, hr, he⟩ | ⟨v, hd, rfl, hr, he⟩ | ⟨hd, rfl, hr, he⟩
      · have hq : ∀ t : State, t.heap = H → s.WarmedH t.vm → am_Qc K X r (am_vs K as).toArray s (.returned (some (.int v))) t := fun t ht hW => ⟨by rw [he]; rfl, am_end hA hH hsz2 t ht hW⟩
        unfold am_ret1 at hr
        split at hr
        · rename_i hty
          exact W.iret B.exec B.bytes (hret.trans hty) hq hH.2.2.2.2 hd
        · rename_i hty
          exact W.zret B.exec B.bytes (hret.trans hty) (am_nar hr) hq hH.2.2.2.2 hd
        · cases hr
      · have hq : ∀ t : State, t.heap = H → s.WarmedH t.vm → am_Qc K X r (am_vs K as).toArray s (.returned (some (.long v))) t := fun t ht hW => ⟨by rw [he]; rfl, am_end hA hH hsz2 t ht hW⟩
        exact W.lret B.exec B.bytes (hret.trans hr) hq hH.2.2.2.2 hd
      · have hq : ∀ t : State, t.heap = H → s.WarmedH t.vm → am_Qc K X r (am_vs K as).toArray s (.returned none) t := fun t ht hW => ⟨by rw [he]; rfl, am_end hA hH hsz2 t ht hW⟩
        exact W.vret B.exec B.bytes (hret.trans hr) hq hH.2.2.2.2 hd
    · cases hx
end AMZ
end
section
/-! the start of the law: what the Statement gives -/
theorem am_andL {a b : Cond} {x : Array Value} {s : State} (h : (Cond.and a b).before x s = true) : a.before x s = true := by
  rw [Cond.before_and, Bool.and_eq_true] at h
  exact h.1
theorem am_andR {a b : Cond} {x : Array Value} {s : State} (h : (Cond.and a b).before x s = true) : b.before x s = true := by
  rw [Cond.before_and, Bool.and_eq_true] at h
  exact h.2
set_option maxRecDepth 20000 in
theorem am_stat1 {b : Addr} {s : State} {A : Nat → Prop} (h : (Jvm.Cond.and given_1 narrow_1).before #[Value.ref b] s = true) (hA : ∀ a : Nat, a < s.heap.size → ¬ A a) : ∃ t : Nat, (Term.static "ThirdSheets" "EDGE_LOW" "[I").eval #[Value.ref b] s none [] s = some (.ref t) ∧ va_T .int t (am_sl 0).length (fun j => .int ((am_sl 0).getD j 0)) A s s.heap := by
  refine va_Tof (tm := Term.static "ThirdSheets" "EDGE_LOW" "[I") (by decide) (am_andL (am_andL (am_andR (am_andL (am_andL (am_andL (am_andR h))))))) (va_eqt (show (Cond.eq (.length (Term.static "ThirdSheets" "EDGE_LOW" "[I")) (.int 6)).before #[Value.ref b] s = true from (am_andR (am_andL (am_andR (am_andL (am_andL (am_andL (am_andR h))))))))) (fun j hj => ?_) hA
  rcases (show j = 0 ∨ j = 1 ∨ j = 2 ∨ j = 3 ∨ j = 4 ∨ j = 5 by have : j < 6 := hj; omega) with rfl | rfl | rfl | rfl | rfl | rfl
  · exact va_eqt (show (Cond.eq (.elem (Term.static "ThirdSheets" "EDGE_LOW" "[I") (.int 0)) (.int 0)).before #[Value.ref b] s = true from (am_andL (am_andR (am_andR (am_andL (am_andL (am_andL (am_andR h))))))))
  · exact va_eqt (show (Cond.eq (.elem (Term.static "ThirdSheets" "EDGE_LOW" "[I") (.int 1)) (.int 0)).before #[Value.ref b] s = true from (am_andR (am_andR (am_andR (am_andL (am_andL (am_andL (am_andR h))))))))
  · exact va_eqt (show (Cond.eq (.elem (Term.static "ThirdSheets" "EDGE_LOW" "[I") (.int 2)) (.int 0)).before #[Value.ref b] s = true from (am_andL (am_andL (am_andL (am_andR (am_andL (am_andL (am_andR h))))))))
  · exact va_eqt (show (Cond.eq (.elem (Term.static "ThirdSheets" "EDGE_LOW" "[I") (.int 3)) (.int 1)).before #[Value.ref b] s = true from (am_andR (am_andL (am_andL (am_andR (am_andL (am_andL (am_andR h))))))))
  · exact va_eqt (show (Cond.eq (.elem (Term.static "ThirdSheets" "EDGE_LOW" "[I") (.int 4)) (.int 1)).before #[Value.ref b] s = true from (am_andL (am_andR (am_andL (am_andR (am_andL (am_andL (am_andR h))))))))
  · exact va_eqt (show (Cond.eq (.elem (Term.static "ThirdSheets" "EDGE_LOW" "[I") (.int 5)) (.int 2)).before #[Value.ref b] s = true from (am_andR (am_andR (am_andL (am_andR (am_andL (am_andL (am_andR h))))))))
set_option maxRecDepth 20000 in
theorem am_stat2 {b : Addr} {s : State} {A : Nat → Prop} (h : (Jvm.Cond.and given_1 narrow_1).before #[Value.ref b] s = true) (hA : ∀ a : Nat, a < s.heap.size → ¬ A a) : ∃ t : Nat, (Term.static "ThirdSheets" "EDGE_HIGH" "[I").eval #[Value.ref b] s none [] s = some (.ref t) ∧ va_T .int t (am_sl 1).length (fun j => .int ((am_sl 1).getD j 0)) A s s.heap := by
  refine va_Tof (tm := Term.static "ThirdSheets" "EDGE_HIGH" "[I") (by decide) (am_andR (am_andL (am_andR (am_andR (am_andL (am_andL (am_andR h))))))) (va_eqt (show (Cond.eq (.length (Term.static "ThirdSheets" "EDGE_HIGH" "[I")) (.int 6)).before #[Value.ref b] s = true from (am_andL (am_andR (am_andR (am_andR (am_andL (am_andL (am_andR h))))))))) (fun j hj => ?_) hA
  rcases (show j = 0 ∨ j = 1 ∨ j = 2 ∨ j = 3 ∨ j = 4 ∨ j = 5 by have : j < 6 := hj; omega) with rfl | rfl | rfl | rfl | rfl | rfl
  · exact va_eqt (show (Cond.eq (.elem (Term.static "ThirdSheets" "EDGE_HIGH" "[I") (.int 0)) (.int 1)).before #[Value.ref b] s = true from (am_andR (am_andR (am_andR (am_andR (am_andL (am_andL (am_andR h))))))))
  · exact va_eqt (show (Cond.eq (.elem (Term.static "ThirdSheets" "EDGE_HIGH" "[I") (.int 1)) (.int 2)).before #[Value.ref b] s = true from (am_andL (am_andL (am_andL (am_andL (am_andR (am_andL (am_andR h))))))))
  · exact va_eqt (show (Cond.eq (.elem (Term.static "ThirdSheets" "EDGE_HIGH" "[I") (.int 2)) (.int 3)).before #[Value.ref b] s = true from (am_andR (am_andL (am_andL (am_andL (am_andR (am_andL (am_andR h))))))))
  · exact va_eqt (show (Cond.eq (.elem (Term.static "ThirdSheets" "EDGE_HIGH" "[I") (.int 3)) (.int 2)).before #[Value.ref b] s = true from (am_andL (am_andR (am_andL (am_andL (am_andR (am_andL (am_andR h))))))))
  · exact va_eqt (show (Cond.eq (.elem (Term.static "ThirdSheets" "EDGE_HIGH" "[I") (.int 4)) (.int 3)).before #[Value.ref b] s = true from (am_andR (am_andR (am_andL (am_andL (am_andR (am_andL (am_andR h))))))))
  · exact va_eqt (show (Cond.eq (.elem (Term.static "ThirdSheets" "EDGE_HIGH" "[I") (.int 5)) (.int 3)).before #[Value.ref b] s = true from (am_andL (am_andL (am_andR (am_andL (am_andR (am_andL (am_andR h))))))))
set_option maxRecDepth 20000 in
theorem am_stat3 {b : Addr} {s : State} {A : Nat → Prop} (h : (Jvm.Cond.and given_1 narrow_1).before #[Value.ref b] s = true) (hA : ∀ a : Nat, a < s.heap.size → ¬ A a) : ∃ t : Nat, (Term.static "ThirdSheets" "EDGE_OF" "[I").eval #[Value.ref b] s none [] s = some (.ref t) ∧ va_T .int t (am_sl 2).length (fun j => .int ((am_sl 2).getD j 0)) A s s.heap := by
  refine va_Tof (tm := Term.static "ThirdSheets" "EDGE_OF" "[I") (by decide) (am_andL (am_andR (am_andR (am_andL (am_andR (am_andL (am_andR h))))))) (va_eqt (show (Cond.eq (.length (Term.static "ThirdSheets" "EDGE_OF" "[I")) (.int 16)).before #[Value.ref b] s = true from (am_andR (am_andR (am_andR (am_andL (am_andR (am_andL (am_andR h))))))))) (fun j hj => ?_) hA
  rcases (show j = 0 ∨ j = 1 ∨ j = 2 ∨ j = 3 ∨ j = 4 ∨ j = 5 ∨ j = 6 ∨ j = 7 ∨ j = 8 ∨ j = 9 ∨ j = 10 ∨ j = 11 ∨ j = 12 ∨ j = 13 ∨ j = 14 ∨ j = 15 by have : j < 16 := hj; omega) with rfl | rfl | rfl | rfl | rfl | rfl | rfl | rfl | rfl | rfl | rfl | rfl | rfl | rfl | rfl | rfl
  · exact va_eqt (show (Cond.eq (.elem (Term.static "ThirdSheets" "EDGE_OF" "[I") (.int 0)) (.int 0)).before #[Value.ref b] s = true from (am_andL (am_andL (am_andL (am_andR (am_andR (am_andL (am_andR h))))))))
  · exact va_eqt (show (Cond.eq (.elem (Term.static "ThirdSheets" "EDGE_OF" "[I") (.int 1)) (.int 0)).before #[Value.ref b] s = true from (am_andR (am_andL (am_andL (am_andR (am_andR (am_andL (am_andR h))))))))
  · exact va_eqt (show (Cond.eq (.elem (Term.static "ThirdSheets" "EDGE_OF" "[I") (.int 2)) (.int 1)).before #[Value.ref b] s = true from (am_andL (am_andR (am_andL (am_andR (am_andR (am_andL (am_andR h))))))))
  · exact va_eqt (show (Cond.eq (.elem (Term.static "ThirdSheets" "EDGE_OF" "[I") (.int 3)) (.int 2)).before #[Value.ref b] s = true from (am_andR (am_andR (am_andL (am_andR (am_andR (am_andL (am_andR h))))))))
  · exact va_eqt (show (Cond.eq (.elem (Term.static "ThirdSheets" "EDGE_OF" "[I") (.int 4)) (.int 0)).before #[Value.ref b] s = true from (am_andL (am_andL (am_andR (am_andR (am_andR (am_andL (am_andR h))))))))
  · exact va_eqt (show (Cond.eq (.elem (Term.static "ThirdSheets" "EDGE_OF" "[I") (.int 5)) (.int 0)).before #[Value.ref b] s = true from (am_andR (am_andL (am_andR (am_andR (am_andR (am_andL (am_andR h))))))))
  · exact va_eqt (show (Cond.eq (.elem (Term.static "ThirdSheets" "EDGE_OF" "[I") (.int 6)) (.int 3)).before #[Value.ref b] s = true from (am_andL (am_andR (am_andR (am_andR (am_andR (am_andL (am_andR h))))))))
  · exact va_eqt (show (Cond.eq (.elem (Term.static "ThirdSheets" "EDGE_OF" "[I") (.int 7)) (.int 4)).before #[Value.ref b] s = true from (am_andR (am_andR (am_andR (am_andR (am_andR (am_andL (am_andR h))))))))
  · exact va_eqt (show (Cond.eq (.elem (Term.static "ThirdSheets" "EDGE_OF" "[I") (.int 8)) (.int 1)).before #[Value.ref b] s = true from (am_andL (am_andL (am_andL (am_andL (am_andR (am_andR h)))))))
  · exact va_eqt (show (Cond.eq (.elem (Term.static "ThirdSheets" "EDGE_OF" "[I") (.int 9)) (.int 3)).before #[Value.ref b] s = true from (am_andL (am_andR (am_andL (am_andL (am_andL (am_andR (am_andR h))))))))
  · exact va_eqt (show (Cond.eq (.elem (Term.static "ThirdSheets" "EDGE_OF" "[I") (.int 10)) (.int 0)).before #[Value.ref b] s = true from (am_andR (am_andR (am_andL (am_andL (am_andL (am_andR (am_andR h))))))))
  · exact va_eqt (show (Cond.eq (.elem (Term.static "ThirdSheets" "EDGE_OF" "[I") (.int 11)) (.int 5)).before #[Value.ref b] s = true from (am_andL (am_andL (am_andR (am_andL (am_andL (am_andR (am_andR h))))))))
  · exact va_eqt (show (Cond.eq (.elem (Term.static "ThirdSheets" "EDGE_OF" "[I") (.int 12)) (.int 2)).before #[Value.ref b] s = true from (am_andR (am_andL (am_andR (am_andL (am_andL (am_andR (am_andR h))))))))
  · exact va_eqt (show (Cond.eq (.elem (Term.static "ThirdSheets" "EDGE_OF" "[I") (.int 13)) (.int 4)).before #[Value.ref b] s = true from (am_andL (am_andR (am_andR (am_andL (am_andL (am_andR (am_andR h))))))))
  · exact va_eqt (show (Cond.eq (.elem (Term.static "ThirdSheets" "EDGE_OF" "[I") (.int 14)) (.int 5)).before #[Value.ref b] s = true from (am_andR (am_andR (am_andR (am_andL (am_andL (am_andR (am_andR h))))))))
  · exact va_eqt (show (Cond.eq (.elem (Term.static "ThirdSheets" "EDGE_OF" "[I") (.int 15)) (.int 0)).before #[Value.ref b] s = true from (am_andL (am_andL (am_andL (am_andR (am_andL (am_andR (am_andR h))))))))
set_option maxRecDepth 20000 in
theorem am_stat4 {b : Addr} {s : State} {A : Nat → Prop} (h : (Jvm.Cond.and given_1 narrow_1).before #[Value.ref b] s = true) (hA : ∀ a : Nat, a < s.heap.size → ¬ A a) : ∃ t : Nat, (Term.static "ThirdSheets" "FOURS_OF" "[I").eval #[Value.ref b] s none [] s = some (.ref t) ∧ va_T .int t (am_sl 3).length (fun j => .int ((am_sl 3).getD j 0)) A s s.heap := by
  refine va_Tof (tm := Term.static "ThirdSheets" "FOURS_OF" "[I") (by decide) (am_andL (am_andR (am_andL (am_andR (am_andL (am_andR (am_andR h))))))) (va_eqt (show (Cond.eq (.length (Term.static "ThirdSheets" "FOURS_OF" "[I")) (.int 16)).before #[Value.ref b] s = true from (am_andR (am_andR (am_andL (am_andR (am_andL (am_andR (am_andR h))))))))) (fun j hj => ?_) hA
  rcases (show j = 0 ∨ j = 1 ∨ j = 2 ∨ j = 3 ∨ j = 4 ∨ j = 5 ∨ j = 6 ∨ j = 7 ∨ j = 8 ∨ j = 9 ∨ j = 10 ∨ j = 11 ∨ j = 12 ∨ j = 13 ∨ j = 14 ∨ j = 15 by have : j < 16 := hj; omega) with rfl | rfl | rfl | rfl | rfl | rfl | rfl | rfl | rfl | rfl | rfl | rfl | rfl | rfl | rfl | rfl
  · exact va_eqt (show (Cond.eq (.elem (Term.static "ThirdSheets" "FOURS_OF" "[I") (.int 0)) (.int 0)).before #[Value.ref b] s = true from (am_andL (am_andL (am_andR (am_andR (am_andL (am_andR (am_andR h))))))))
  · exact va_eqt (show (Cond.eq (.elem (Term.static "ThirdSheets" "FOURS_OF" "[I") (.int 1)) (.int 0)).before #[Value.ref b] s = true from (am_andR (am_andL (am_andR (am_andR (am_andL (am_andR (am_andR h))))))))
  · exact va_eqt (show (Cond.eq (.elem (Term.static "ThirdSheets" "FOURS_OF" "[I") (.int 2)) (.int 1)).before #[Value.ref b] s = true from (am_andL (am_andR (am_andR (am_andR (am_andL (am_andR (am_andR h))))))))
  · exact va_eqt (show (Cond.eq (.elem (Term.static "ThirdSheets" "FOURS_OF" "[I") (.int 3)) (.int 2)).before #[Value.ref b] s = true from (am_andR (am_andR (am_andR (am_andR (am_andL (am_andR (am_andR h))))))))
  · exact va_eqt (show (Cond.eq (.elem (Term.static "ThirdSheets" "FOURS_OF" "[I") (.int 4)) (.int 0)).before #[Value.ref b] s = true from (am_andL (am_andL (am_andL (am_andL (am_andR (am_andR (am_andR h))))))))
  · exact va_eqt (show (Cond.eq (.elem (Term.static "ThirdSheets" "FOURS_OF" "[I") (.int 5)) (.int 0)).before #[Value.ref b] s = true from (am_andR (am_andL (am_andL (am_andL (am_andR (am_andR (am_andR h))))))))
  · exact va_eqt (show (Cond.eq (.elem (Term.static "ThirdSheets" "FOURS_OF" "[I") (.int 6)) (.int 2)).before #[Value.ref b] s = true from (am_andL (am_andR (am_andL (am_andL (am_andR (am_andR (am_andR h))))))))
  · exact va_eqt (show (Cond.eq (.elem (Term.static "ThirdSheets" "FOURS_OF" "[I") (.int 7)) (.int 1)).before #[Value.ref b] s = true from (am_andR (am_andR (am_andL (am_andL (am_andR (am_andR (am_andR h))))))))
  · exact va_eqt (show (Cond.eq (.elem (Term.static "ThirdSheets" "FOURS_OF" "[I") (.int 8)) (.int 1)).before #[Value.ref b] s = true from (am_andL (am_andL (am_andR (am_andL (am_andR (am_andR (am_andR h))))))))
  · exact va_eqt (show (Cond.eq (.elem (Term.static "ThirdSheets" "FOURS_OF" "[I") (.int 9)) (.int 2)).before #[Value.ref b] s = true from (am_andR (am_andL (am_andR (am_andL (am_andR (am_andR (am_andR h))))))))
  · exact va_eqt (show (Cond.eq (.elem (Term.static "ThirdSheets" "FOURS_OF" "[I") (.int 10)) (.int 0)).before #[Value.ref b] s = true from (am_andL (am_andR (am_andR (am_andL (am_andR (am_andR (am_andR h))))))))
  · exact va_eqt (show (Cond.eq (.elem (Term.static "ThirdSheets" "FOURS_OF" "[I") (.int 11)) (.int 0)).before #[Value.ref b] s = true from (am_andR (am_andR (am_andR (am_andL (am_andR (am_andR (am_andR h))))))))
  · exact va_eqt (show (Cond.eq (.elem (Term.static "ThirdSheets" "FOURS_OF" "[I") (.int 12)) (.int 2)).before #[Value.ref b] s = true from (am_andL (am_andL (am_andL (am_andR (am_andR (am_andR (am_andR h))))))))
  · exact va_eqt (show (Cond.eq (.elem (Term.static "ThirdSheets" "FOURS_OF" "[I") (.int 13)) (.int 1)).before #[Value.ref b] s = true from (am_andR (am_andL (am_andL (am_andR (am_andR (am_andR (am_andR h))))))))
  · exact va_eqt (show (Cond.eq (.elem (Term.static "ThirdSheets" "FOURS_OF" "[I") (.int 14)) (.int 0)).before #[Value.ref b] s = true from (am_andL (am_andR (am_andL (am_andR (am_andR (am_andR (am_andR h))))))))
  · exact va_eqt (show (Cond.eq (.elem (Term.static "ThirdSheets" "FOURS_OF" "[I") (.int 15)) (.int 0)).before #[Value.ref b] s = true from (am_andR (am_andR (am_andL (am_andR (am_andR (am_andR (am_andR h))))))))
end
section
/-! THE CLAIM OUT OF ONE WALK OF THE LAW'S BODY. Your part is whole_start (and what it stands on); all else here is the same for every law, but numbers. -/
def R_law : String := "ThirdSheetsLaw"
def lw_P (b : Addr) (xs : List Int32) (args : Array Value) (s : State) : Prop := args = #[.ref b] ∧ s.IntsAt b xs ∧ xs.length ≤ 3072 ∧ (Jvm.Cond.and given_1 narrow_1).before args s = true
def lw_Q (_ : Array Value) (s : State) (o : Outcome) (t : State) : Prop := o = .returned (some (.int 1)) ∧ Framed s o t [] 600000 7302250
def lw_Z (below : List Frame) (a : Array Value) (s : State) : State → Prop := fun t => ∃ o, t.status = .running ∧ Ended t below o ∧ lw_Q a s o t
/-- the law's own end, with 1 on the stack, nothing written that was there before, its room as the claim has it -/
theorem lw_ret {p : Program} {l : Launch} {e : Env} {s : State} {m : MethodId} {below : List Frame} {meth : Method} {c : Code} {b : Nat} (hx : p.tables.exec = Jvm.exec) (hb : c.code = code) (hr : meth.sig.returnType = ret) (hlocks : meth.locks = false) {pc : Nat} {H : Heap} {ls : Array Slot} (hdg : decode code pc = .ok (.ireturn, 1)) : W p l e room_1 s m #[Value.ref b] below meth c H [] 600000 7302250 (lw_Z below #[Value.ref b] s) (F0 m pc ls [.int 1]) := by
  intro T hT X
  obtain ⟨fs, hret, hrun, hended, hW, hframe⟩ := X.leave (v := some (.int 1)) (hlocks := hlocks) (fun h => by rw [hr] at h; cases h)
  have hmeth' : T.vm.method? m = some meth := X.method'
  refine ⟨T.setFrames fs, ?_, .returned (some (.int 1)), hrun, hended, rfl, ⟨_, rfl⟩, hW, hframe⟩
  jvm_step X.here [X.here.top, hx, hb, hdg, hmeth', hr, ret, narrow_b1]
  (try refine ⟨rfl, ?_⟩); (try refine ⟨rfl, ?_⟩)
  first | (intro acts; rw [hret _ acts rfl rfl rfl]) | rw [hret _ _ rfl rfl rfl]
  exact Steps.refl _
/-- what holds at the law's entry: the machine, the code, the tables' words (any of lw_tbl by 'hts w (by decide +kernel)'), the script of L ints xs at the cell b, what the Statement gives of the start (any of its parts by flat_of_before) -/
def lw_At (p : Program) (s : State) (m : MethodId) (meth : Method) (c : Code) (b L : Nat) (xs : Nat → Int32) : Prop :=
  p.tables.exec = Jvm.exec ∧ c.code = code ∧ meth.sig.returnType = ret ∧ c.maxLocals = 4 ∧ s.vm.findClass R_law = some m.cls ∧ (∀ w ∈ lw_tbl, w.before #[Value.ref b] s = true) ∧ va_X b L xs s s.heap ∧ b < s.heap.size ∧ meth.locks = false ∧ (Jvm.Cond.and given_1 narrow_1).before #[Value.ref b] s = true
/-- what is left to show: over the abstract machine, the law answers 1 -/
def am_h0 : am_H := fun _ => .inr (0, [])
def am_goal : Prop := ∀ (Ln : Nat) (xs : Nat → Int32), Ln ≤ 3072 → ∃ (N d : Nat) (r : am_R), am_iter (Ln, xs) (am_run (Ln, xs) N d) 181 N (0, [(0, .float 0)], [], 0, am_h0, 0, 0) = some r ∧ r.1 = some (.int 1) ∧ r.2.2.2.1 ≤ 600000 ∧ r.2.2.2.2 ≤ 7302250
theorem am_inst (ci : Nat) (h : ci < 8) : Cond.instantiable (am_C ci).1 (am_C ci).2.2 ∈ am_words := by
  have k : ∀ q ∈ am_nwL, Cond.instantiable (am_C q.2).1 (am_C q.2).2.2 ∈ am_words := fun q hq => (am_ckN_ok q hq).2.2.1
  rcases (show ci = 0 ∨ ci = 1 ∨ ci = 2 ∨ ci = 3 ∨ ci = 4 ∨ ci = 5 ∨ ci = 6 ∨ ci = 7 by omega) with rfl | rfl | rfl | rfl | rfl | rfl | rfl | rfl
  · exact k ((5, 18), 0) (by decide)
  · exact k ((6, 23), 1) (by decide)
  · exact k ((6, 16), 2) (by decide)
  · exact k ((6, 37), 3) (by decide)
  · exact k ((6, 30), 4) (by decide)
  · exact k ((6, 7), 5) (by decide)
  · exact k ((8, 7), 6) (by decide)
  · exact k ((8, 10), 7) (by decide)
theorem am_arrC {s : State} {ty : FieldType} {args : Array Value} (h : (Cond.arrayClass ty).before args s = true) : ∃ cA, ArrOfT s cA ty ∧ s.vm.findClass ("[" ++ ty.toString) = some cA := by
  obtain ⟨c, k, comp, h1, h2, h3⟩ := Cond.arrayClass_spec h
  exact ⟨c, fun n z => ⟨(fun q hq => by cases hq), k, h2, comp, h3⟩, h1⟩
theorem am_arrO {s : State} {ty : FieldType} {args : Array Value} (h : (Cond.arrayOver (.array ty)).before args s = true) : ∃ cA, ArrOfT s cA (.array ty) ∧ s.vm.findClass ("[" ++ (FieldType.array ty).toString) = some cA := by
  obtain ⟨comp, c, k, h1, h2, h3, h4, h5⟩ := Jvm.Stand.arrayOver_specB h
  exact ⟨c, fun n z => ⟨(fun q hq => by cases hq), k, h3, comp, h4⟩, h5⟩
theorem am_lst {w : Cond} (k : Nat) (h : tables_1[k]? = some w) : w ∈ lw_tbl := List.mem_append_right _ (List.mem_of_getElem? h)
theorem am_iTS : Cond.initialized "ThirdSheets" ∈ lw_tbl := List.mem_append_right _ (show _ ∈ tables_1 from List.mem_append_left _ (List.mem_of_getElem? (i := 1) rfl))
theorem am_ls1 : Cond.laysStatic "ThirdSheets" "EDGE_LOW" "[I" ∈ lw_tbl := List.mem_append_right _ (show _ ∈ tables_1 from List.mem_append_right _ (List.mem_append_left _ (List.mem_of_getElem? (i := 44) rfl)))
theorem am_ls2 : Cond.laysStatic "ThirdSheets" "EDGE_HIGH" "[I" ∈ lw_tbl := List.mem_append_right _ (show _ ∈ tables_1 from List.mem_append_right _ (List.mem_append_left _ (List.mem_of_getElem? (i := 46) rfl)))
theorem am_ls3 : Cond.laysStatic "ThirdSheets" "EDGE_OF" "[I" ∈ lw_tbl := List.mem_append_right _ (show _ ∈ tables_1 from List.mem_append_right _ (List.mem_append_left _ (List.mem_of_getElem? (i := 48) rfl)))
theorem am_ls4 : Cond.laysStatic "ThirdSheets" "FOURS_OF" "[I" ∈ lw_tbl := List.mem_append_right _ (show _ ∈ tables_1 from List.mem_append_right _ (List.mem_append_right _ (List.mem_append_left _ (List.mem_of_getElem? (i := 27) rfl))))
theorem am_ov1 : Cond.arrayOver (.array .int) ∈ lw_tbl := List.mem_append_right _ (show _ ∈ tables_1 from List.mem_append_left _ (List.mem_of_getElem? (i := 147) rfl))
theorem am_ov2 : Cond.arrayOver (.array .long) ∈ lw_tbl := List.mem_append_right _ (show _ ∈ tables_1 from List.mem_append_left _ (List.mem_of_getElem? (i := 121) rfl))
theorem am_nf0 : Cond.fieldLinkNest (am_cn 2) 77 "ThirdSheets" (am_sn 1) "[I" "ThirdSheets" ∈ lw_tbl := List.mem_append_right _ (show _ ∈ tables_1 from List.mem_append_right _ (List.mem_append_left _ (List.mem_of_getElem? (i := 192) rfl)))
theorem am_nf1 : Cond.fieldLinkNest (am_cn 2) 80 "ThirdSheets" (am_sn 2) "[I" "ThirdSheets" ∈ lw_tbl := List.mem_append_right _ (show _ ∈ tables_1 from List.mem_append_right _ (List.mem_append_left _ (List.mem_of_getElem? (i := 193) rfl)))
theorem am_nf2 : Cond.fieldLinkNest (am_cn 2) 91 "ThirdSheets" (am_sn 3) "[I" "ThirdSheets" ∈ lw_tbl := List.mem_append_right _ (show _ ∈ tables_1 from List.mem_append_right _ (List.mem_append_left _ (List.mem_of_getElem? (i := 196) rfl)))
theorem am_nf3 : Cond.fieldLinkNest (am_cn 3) 92 "ThirdSheets" (am_sn 4) "[I" "ThirdSheets" ∈ lw_tbl := List.mem_append_right _ (show _ ∈ tables_1 from List.mem_append_right _ (List.mem_append_right _ (List.mem_append_left _ (List.mem_of_getElem? (i := 187) rfl))))
theorem am_nf4 : Cond.fieldLinkNest (am_cn 5) 73 "ThirdSheets" (am_sn 1) "[I" "ThirdSheets" ∈ lw_tbl := List.mem_append_right _ (show _ ∈ tables_1 from List.mem_append_right _ (List.mem_append_left _ (List.mem_of_getElem? (i := 43) rfl)))
theorem am_nf5 : Cond.fieldLinkNest (am_cn 5) 76 "ThirdSheets" (am_sn 2) "[I" "ThirdSheets" ∈ lw_tbl := List.mem_append_right _ (show _ ∈ tables_1 from List.mem_append_right _ (List.mem_append_left _ (List.mem_of_getElem? (i := 45) rfl)))
theorem am_nf6 : Cond.fieldLinkNest (am_cn 5) 79 "ThirdSheets" (am_sn 3) "[I" "ThirdSheets" ∈ lw_tbl := List.mem_append_right _ (show _ ∈ tables_1 from List.mem_append_right _ (List.mem_append_left _ (List.mem_of_getElem? (i := 47) rfl)))
theorem am_nF : ∀ q ∈ am_nestF, Cond.fieldLinkNest (am_cn q.1) q.2.1 "ThirdSheets" (am_sn q.2.2) "[I" "ThirdSheets" ∈ lw_tbl := List.forall_mem_cons.mpr ⟨am_nf0, List.forall_mem_cons.mpr ⟨am_nf1, List.forall_mem_cons.mpr ⟨am_nf2, List.forall_mem_cons.mpr ⟨am_nf3, List.forall_mem_cons.mpr ⟨am_nf4, List.forall_mem_cons.mpr ⟨am_nf5, List.forall_mem_cons.mpr ⟨am_nf6, fun _ h => absurd h List.not_mem_nil⟩⟩⟩⟩⟩⟩⟩
theorem am_nm0 : Cond.methodLinkNest (am_cn 1) 71 (am_name 106) "ThirdSheets" ∈ lw_tbl := List.mem_append_right _ (show _ ∈ tables_1 from List.mem_append_right _ (List.mem_append_right _ (List.mem_append_left _ (List.mem_of_getElem? (i := 23) rfl))))
theorem am_nm1 : Cond.methodLinkNest (am_cn 3) 76 (am_name 106) "ThirdSheets" ∈ lw_tbl := List.mem_append_right _ (show _ ∈ tables_1 from List.mem_append_right _ (List.mem_append_right _ (List.mem_append_left _ (List.mem_of_getElem? (i := 176) rfl))))
theorem am_nm2 : Cond.methodLinkNest (am_cn 3) 114 (am_name 107) "ThirdSheets" ∈ lw_tbl := List.mem_append_right _ (show _ ∈ tables_1 from List.mem_append_right _ (List.mem_append_right _ (List.mem_append_left _ (List.mem_of_getElem? (i := 203) rfl))))
theorem am_nm3 : Cond.methodLinkNest (am_cn 4) 51 (am_name 106) "ThirdSheets" ∈ lw_tbl := List.mem_append_right _ (show _ ∈ tables_1 from List.mem_append_right _ (List.mem_append_right _ (List.mem_append_left _ (List.mem_of_getElem? (i := 115) rfl))))
theorem am_nm4 : Cond.methodLinkNest (am_cn 4) 78 (am_name 107) "ThirdSheets" ∈ lw_tbl := List.mem_append_right _ (show _ ∈ tables_1 from List.mem_append_right _ (List.mem_append_right _ (List.mem_append_left _ (List.mem_of_getElem? (i := 138) rfl))))
theorem am_nM : ∀ q ∈ am_nestM, Cond.methodLinkNest (am_cn q.1) q.2.1 (am_name q.2.2) "ThirdSheets" ∈ lw_tbl := List.forall_mem_cons.mpr ⟨am_nm0, List.forall_mem_cons.mpr ⟨am_nm1, List.forall_mem_cons.mpr ⟨am_nm2, List.forall_mem_cons.mpr ⟨am_nm3, List.forall_mem_cons.mpr ⟨am_nm4, fun _ h => absurd h List.not_mem_nil⟩⟩⟩⟩⟩
set_option maxRecDepth 20000 in
set_option maxHeartbeats 4000000 in
theorem am_start (hgoal : am_goal) {p : Program} {e : Env} {s : State} {m : MethodId} {below : List Frame} {meth : Method} {c : Code} (l : Launch) {b L : Nat} {xs : Nat → Int32} (hL : L ≤ 3072) (C0 : lw_At p s m meth c b L xs) : W p l e room_1 s m #[Value.ref b] below meth c s.heap [] 0 0 (lw_Z below #[Value.ref b] s) (entryFrame m ([Value.ref b] : List Value).toArray 4) := by
  obtain ⟨hx, hb, hr, hml, hown, hts, hX, hbl, hlocks, hgv⟩ := id C0
  have htw : ∀ w ∈ am_words, w.before #[Value.ref b] s = true := fun w hw => hts w (List.mem_filter.mp hw).1
  have hAs : ∀ a : Nat, a < s.heap.size → ¬ (fun q : Nat => s.heap.size ≤ q) a := fun a h => Nat.not_le.mpr h
  obtain ⟨t1, v1, T1⟩ := am_stat1 (A := fun q : Nat => s.heap.size ≤ q) hgv hAs
  obtain ⟨t2, v2, T2⟩ := am_stat2 (A := fun q : Nat => s.heap.size ≤ q) hgv hAs
  obtain ⟨t3, v3, T3⟩ := am_stat3 (A := fun q : Nat => s.heap.size ≤ q) hgv hAs
  obtain ⟨t4, v4, T4⟩ := am_stat4 (A := fun q : Nat => s.heap.size ≤ q) hgv hAs
  have hini : (Cond.initialized "ThirdSheets").before #[Value.ref b] s = true := hts _ am_iTS
  have Z1 := va_Zof (A := fun q : Nat => s.heap.size ≤ q) (hts _ am_ls1) hini v1 hAs
  have Z2 := va_Zof (A := fun q : Nat => s.heap.size ≤ q) (hts _ am_ls2) hini v2 hAs
  have Z3 := va_Zof (A := fun q : Nat => s.heap.size ≤ q) (hts _ am_ls3) hini v3 hAs
  have Z4 := va_Zof (A := fun q : Nat => s.heap.size ≤ q) (hts _ am_ls4) hini v4 hAs
  have hKc : ∀ ci : Nat, ∃ q : ClassId × (Nat → Nat), ci < 8 → u_Kn s (am_C ci).1 (am_C ci).2.1 (am_C ci).2.2 q.1 q.2 := by
    intro ci
    by_cases h : ci < 8
    · obtain ⟨c9, i9, h9⟩ := u_known (n := (am_C ci).2.2) htw (am_u_ok ci h) (htw _ (am_inst ci h))
      exact ⟨(c9, i9), fun _ => h9⟩
    · exact ⟨(0, fun _ => 0), fun q => absurd q h⟩
  obtain ⟨a0, A0, F0'⟩ := am_arrC (htw _ am_ac_i)
  obtain ⟨a1, A1, F1⟩ := am_arrC (htw _ am_ac_l)
  obtain ⟨a2, A2, F2⟩ := am_arrC (htw _ am_ac_z)
  obtain ⟨a3, A3, F3⟩ := am_arrO (hts _ am_ov1)
  obtain ⟨a4, A4, F4⟩ := am_arrO (hts _ am_ov2)
  let K : am_K := (s.heap.size, (fun u => if u = 0 then b else if u = 1 then t1 else if u = 2 then t2 else if u = 3 then t3 else t4), (fun ci => (Classical.choose (hKc ci)).1), (fun ci => (Classical.choose (hKc ci)).2), (fun t => if t = 0 then a0 else if t = 1 then a1 else if t = 2 then a2 else if t = 3 then a3 else a4))
  have hK : va_K (am_D K) am_cl (am_tys K) s := by
    refine ⟨fun k q hq => ?_, fun k q hq => ?_⟩
    · have hk : k < 8 := (List.getElem?_eq_some_iff.mp hq).1
      rw [am_cl_get k hk] at hq
      cases hq
      exact Classical.choose_spec (hKc k) hk
    · have hk : k < 5 := (List.getElem?_eq_some_iff.mp hq).1
      rcases (show k = 0 ∨ k = 1 ∨ k = 2 ∨ k = 3 ∨ k = 4 by omega) with rfl | rfl | rfl | rfl | rfl
      · cases hq; exact ⟨A0, F0'⟩
      · cases hq; exact ⟨A1, F1⟩
      · cases hq; exact ⟨A2, F2⟩
      · cases hq; exact ⟨A3, F3⟩
      · cases hq; exact ⟨A4, F4⟩
  have hF : am_Fix K (L, xs) s s.heap := by
    refine ⟨⟨hX, hbl, Nat.lt_of_le_of_lt hL (by decide)⟩, fun u h1 h2 => ?_, ?_, ?_, hts _ am_ov1, hts _ am_ov2⟩
    · rcases (show u = 1 ∨ u = 2 ∨ u = 3 ∨ u = 4 by omega) with rfl | rfl | rfl | rfl
      · exact ⟨Z1, T1⟩
      · exact ⟨Z2, T2⟩
      · exact ⟨Z3, T3⟩
      · exact ⟨Z4, T4⟩
    · exact fun q hq => va_Nw.of rfl (hts _ (am_nF q hq))
    · exact fun q hq => va_Nw.of rfl (hts _ (am_nM q hq))
  have hA : am_At K (L, xs) 181 p room_1 s m #[Value.ref b] meth c := ⟨hx, hb, hml, hown, htw, fun q => absurd q (by decide +kernel), hK, hF, Nat.le_refl _, by decide, by decide⟩
  obtain ⟨N, d, r, hrun, hr1, hr2, hr3⟩ := hgoal L xs hL
  have hcall : am_Cok K (L, xs) (am_run (L, xs) N d) := fun mk bs n1 h1 r1 q => ⟨am_ct_run N d mk bs n1 h1 r1 q, am_ok K (L, xs) N d mk bs n1 h1 r1 q⟩
  have hl := lv_entry ([.ref b]) (n := 4) (Nat.le_of_ble_eq_true rfl)
  rw [lg_entry_eq]
  generalize (lg_sl ([.ref b]) ++ List.replicate (4 - (lg_sl ([.ref b])).length) Slot.unset).toArray = ls at hl ⊢
  refine am_W_iter hA hcall hr2 hr3 ?_ N _ hrun s.heap [] ls ⟨rfl, fun k q hk => ?_, va_S.rf⟩ hl
  · intro pc st H locs ls hrt hH
    rcases hrt with ⟨v, hd, rfl, hv, he⟩ | ⟨v, hd, rfl, hv, he⟩ | ⟨hd, rfl, hv, he⟩
    · rw [he] at hr1
      cases hr1
      refine va_forget (fun q hq => hH.2.2.2.2 q hq) ?_
      refine W.widen hr2 hr3 ?_
      exact lw_ret hx hb hr hlocks hd
    · rw [he] at hr1
      cases hr1
    · rw [he] at hr1
      cases hr1
  · exact absurd hk (by simp [am_W])
end
section
/-! reasoning about runs of the abstract machine -/
section AW
variable {X : am_X}
def am_le (f g : am_Cl) : Prop := ∀ mj as n h r, f mj as n h = some r → g mj as n h = some r
theorem am_call_le {f g : am_Cl} (hfg : am_le f g) {mi q kd pc : Nat} {L : am_L} {st : List Value} {n : Nat} {h : am_H} {c s : Nat} {o : am_Z ⊕ am_R} (hx : am_call f mi q kd pc L st n h c s = some o) : am_call g mi q kd pc L st n h c s = some o := by
  have hbk : ∀ {rest : List Value} {mj : Nat} {as : List Value}, am_back (pc + 3) L rest c s (f mj as n h) = some o → am_back (pc + 3) L rest c s (g mj as n h) = some o := by
    intro rest mj as hx
    cases hc : f mj as n h with
    | none => rw [hc] at hx; cases hx
    | some r => rw [hc] at hx; rw [hfg _ _ _ _ _ hc]; exact hx
  unfold am_call at hx ⊢
  split at hx
  · cases hx
  · rename_i k mj hct
    split at hx
    · cases hx
    · rename_i hk
      rw [if_neg hk]
      split at hx
      · split at hx
        · split at hx
          · split at hx
            · rename_i hc
              rw [if_pos hc]
              exact hbk hx
            · cases hx
          · cases hx
        · cases hx
      · split at hx
        · rename_i hc
          rw [if_pos hc]
          exact hbk hx
        · cases hx
      · split at hx
        · split at hx
          · rename_i hc
            rw [if_pos hc]
            exact hbk hx
          · cases hx
        · cases hx
      · split at hx
        · rename_i hc
          rw [if_pos hc]
          exact hbk hx
        · cases hx
      · exact hx
      · exact hx
      · exact hx
      · exact hx
      · exact hx
      · cases hx
theorem am_step_le {f g : am_Cl} (hfg : am_le f g) {mi : Nat} {z : am_Z} {o : am_Z ⊕ am_R} (hx : am_step X f mi z = some o) : am_step X g mi z = some o := by
  obtain ⟨pc, L, st, n, h, c, s⟩ := z
  unfold am_step at hx ⊢
  dsimp only at hx ⊢
  split at hx
  · rename_i i len hd
    split at hx
    · rename_i hl
      rw [if_pos hl]
      cases i with
      | invokevirtual q =>
        dsimp only [am_ex] at hx ⊢
        exact am_call_le hfg hx
      | invokestatic q =>
        dsimp only [am_ex] at hx ⊢
        split at hx
        · split at hx
          · rename_i hk
            rw [if_pos hk]
            exact am_call_le hfg hx
          · cases hx
        · cases hx
      | invokespecial q =>
        dsimp only [am_ex] at hx ⊢
        split at hx
        · split at hx
          · rename_i hk
            rw [if_pos hk]
            exact am_call_le hfg hx
          · cases hx
        · cases hx
      | _ => exact hx
    · cases hx
  · cases hx
theorem am_iter_le {f g : am_Cl} (hfg : am_le f g) {mi : Nat} : ∀ (N M : Nat) (z : am_Z) (r : am_R), N ≤ M → am_iter X f mi N z = some r → am_iter X g mi M z = some r
  | 0, _, _, _, _, hx => by cases hx
  | N + 1, 0, _, _, h, _ => by omega
  | N + 1, M + 1, z, r, h, hx => by
    unfold am_iter at hx ⊢
    split at hx
    · rename_i z1 hz
      rw [am_step_le hfg hz]
      exact am_iter_le hfg N M z1 r (by omega) hx
    · rename_i r1 hz
      rw [am_step_le hfg hz]
      exact hx
    · cases hx
theorem am_run_le : ∀ (d e N M : Nat), d ≤ e → N ≤ M → am_le (am_run X N d) (am_run X M e)
  | 0, _, _, _, _, _ => fun _ _ _ _ _ hx => by cases hx
  | d + 1, 0, _, _, h, _ => by omega
  | d + 1, e + 1, N, M, h, h2 => fun mj as n hh r hx => by
    unfold am_run at hx ⊢
    split at hx
    · rename_i hl
      rw [if_pos hl]
      exact am_iter_le (am_run_le d e N M (by omega) h2) N M _ r h2 hx
    · cases hx
/-- from this state of a method's run it comes to an answer with Q -/
def AW (X : am_X) (mi : Nat) (z : am_Z) (Q : am_R → Prop) : Prop := ∃ N r, am_iter X (am_run X N N) mi N z = some r ∧ Q r
/-- a method called so comes to an answer with Q -/
def AV (X : am_X) (mi : Nat) (as : List Value) (n : Nat) (h : am_H) (Q : am_R → Prop) : Prop := ∃ N r, am_run X N N mi as n h = some r ∧ Q r
theorem AW.mono {mi : Nat} {z : am_Z} {Q Q' : am_R → Prop} (h : AW X mi z Q) (hq : ∀ r, Q r → Q' r) : AW X mi z Q' := by
  obtain ⟨N, r, h1, h2⟩ := h
  exact ⟨N, r, h1, hq r h2⟩
theorem AV.mono {mi : Nat} {as : List Value} {n : Nat} {hh : am_H} {Q Q' : am_R → Prop} (h : AV X mi as n hh Q) (hq : ∀ r, Q r → Q' r) : AV X mi as n hh Q' := by
  obtain ⟨N, r, h1, h2⟩ := h
  exact ⟨N, r, h1, hq r h2⟩
theorem AV.of {mi : Nat} {as : List Value} {n : Nat} {h : am_H} {Q : am_R → Prop} (hl : (lg_sl as).length ≤ am_maxL mi) (k : AW X mi (0, lv_args 0 as, [], n, h, 0, 0) Q) : AV X mi as n h Q := by
  obtain ⟨N, r, h1, h2⟩ := k
  refine ⟨N + 1, r, ?_, h2⟩
  unfold am_run
  rw [if_pos hl]
  exact am_iter_le (am_run_le N N N (N + 1) (Nat.le_refl _) (by omega)) N (N + 1) _ r (by omega) h1
theorem AW.step {mi : Nat} {z z1 : am_Z} {Q : am_R → Prop} (hs : ∀ call, am_step X call mi z = some (.inl z1)) (k : AW X mi z1 Q) : AW X mi z Q := by
  obtain ⟨N, r, h1, h2⟩ := k
  refine ⟨N + 1, r, ?_, h2⟩
  unfold am_iter
  rw [hs]
  exact am_iter_le (am_run_le N (N + 1) N (N + 1) (by omega) (by omega)) N N _ r (Nat.le_refl _) h1
theorem AW.ret {mi : Nat} {z : am_Z} {Q : am_R → Prop} {r : am_R} (hs : ∀ call, am_step X call mi z = some (.inr r)) (k : Q r) : AW X mi z Q := by
  refine ⟨1, r, ?_, k⟩
  unfold am_iter
  rw [hs]
theorem AW.call {mi mj : Nat} {z : am_Z} {as : List Value} {n : Nat} {h : am_H} {Q Q' : am_R → Prop} (hc : AV X mj as n h Q') {f : am_R → am_Z} (hs : ∀ (call : am_Cl) (r : am_R), call mj as n h = some r → am_step X call mi z = some (.inl (f r))) (k : ∀ r, Q' r → AW X mi (f r) Q) : AW X mi z Q := by
  obtain ⟨N, r1, h1, h2⟩ := hc
  obtain ⟨M, r, h3, h4⟩ := k r1 h2
  refine ⟨N + M + 1, r, ?_, h4⟩
  unfold am_iter
  have e1 : am_run X (N + M + 1) (N + M + 1) mj as n h = some r1 := am_run_le N (N + M + 1) N (N + M + 1) (by omega) (by omega) _ _ _ _ _ h1
  rw [hs _ _ e1]
  exact am_iter_le (am_run_le M (N + M + 1) M (N + M + 1) (by omega) (by omega)) M (N + M) _ r (by omega) h3
theorem AW.goal {mi : Nat} {z : am_Z} {Q : am_R → Prop} (h : AW X mi z Q) : ∃ (N d : Nat) (r : am_R), am_iter X (am_run X N d) mi N z = some r ∧ Q r := by
  obtain ⟨N, r, h1, h2⟩ := h
  exact ⟨N, N, r, h1, h2⟩
/-! fewer locals: those that are kept are told once -/
def am_nd (L : am_L) : Prop := ∀ q ∈ L, ∀ q' ∈ L, q.1 = q'.1 → q = q'
def am_sub (L' L : am_L) : Prop := am_nd L ∧ ∀ q ∈ L', q ∈ L
theorem am_sub_ld {L' L : am_L} (h : am_sub L' L) {i : Nat} {v : Value} (hl : am_ld L' i = some v) : am_ld L i = some v := by
  unfold am_ld at hl ⊢
  obtain ⟨q, hq, rfl⟩ := Option.map_eq_some_iff.mp hl
  have h1 := h.2 q (List.mem_of_find?_eq_some hq)
  have h2 : q.1 = i := by simpa using List.find?_some hq
  cases hf : L.find? (fun q => q.1 == i) with
  | none =>
    have := List.find?_eq_none.mp hf q h1
    simp [h2] at this
  | some q' =>
    have h3 := List.mem_of_find?_eq_some hf
    have h4 : q'.1 = i := by simpa using List.find?_some hf
    rw [h.1 q h1 q' h3 (h2.trans h4.symm)]
    rfl
theorem am_sub_st1 {L' L : am_L} (h : am_sub L' L) (i : Nat) (v : Value) : am_sub (am_st1 L' i v) (am_st1 L i v) := by
  unfold am_st1
  refine ⟨fun q hq q' hq' he => ?_, fun q hq => ?_⟩
  · rcases List.mem_cons.mp hq with rfl | hq
    · rcases List.mem_cons.mp hq' with rfl | hq'
      · rfl
      · have := (List.mem_filter.mp hq').2
        simp only [Bool.and_eq_true, Bool.not_eq_true', beq_eq_false_iff_ne] at this
        exact absurd he.symm this.1
    · rcases List.mem_cons.mp hq' with rfl | hq'
      · have := (List.mem_filter.mp hq).2
        simp only [Bool.and_eq_true, Bool.not_eq_true', beq_eq_false_iff_ne] at this
        exact absurd he this.1
      · exact h.1 q (List.mem_filter.mp hq).1 q' (List.mem_filter.mp hq').1 he
  · rcases List.mem_cons.mp hq with rfl | hq
    · exact List.mem_cons_self
    · exact List.mem_cons_of_mem _ (List.mem_filter.mpr ⟨h.2 q (List.mem_filter.mp hq).1, (List.mem_filter.mp hq).2⟩)
theorem am_sub_st2 {L' L : am_L} (h : am_sub L' L) (i : Nat) (v : Value) : am_sub (am_st2 L' i v) (am_st2 L i v) := by
  unfold am_st2
  refine ⟨fun q hq q' hq' he => ?_, fun q hq => ?_⟩
  · rcases List.mem_cons.mp hq with rfl | hq
    · rcases List.mem_cons.mp hq' with rfl | hq'
      · rfl
      · have := (List.mem_filter.mp hq').2
        simp only [Bool.and_eq_true, Bool.not_eq_true', beq_eq_false_iff_ne] at this
        exact absurd he.symm this.1
    · rcases List.mem_cons.mp hq' with rfl | hq'
      · have := (List.mem_filter.mp hq).2
        simp only [Bool.and_eq_true, Bool.not_eq_true', beq_eq_false_iff_ne] at this
        exact absurd he this.1
      · exact h.1 q (List.mem_filter.mp hq).1 q' (List.mem_filter.mp hq').1 he
  · rcases List.mem_cons.mp hq with rfl | hq
    · exact List.mem_cons_self
    · exact List.mem_cons_of_mem _ (List.mem_filter.mpr ⟨h.2 q (List.mem_filter.mp hq).1, (List.mem_filter.mp hq).2⟩)
end AW
end
section
/-! fewer locals go on alike -/
section AWS
variable {X : am_X} {mi : Nat} {pc : Nat} {L L' : am_L} {st : List Value} {n : Nat} {h : am_H} {k j : Nat} {call : am_Cl} {len : Nat}
/-- the same outcome, but for more locals -/
def am_as (o' o : am_O) : Prop := match o' with
  | some (.inl z) => ∃ L1, o = some (.inl (z.1, L1, z.2.2)) ∧ am_sub z.2.1 L1
  | some (.inr r) => o = some (.inr r)
  | none => True
theorem am_as_go (hs : am_sub L' L) : am_as (am_go pc L' st n h k j) (am_go pc L st n h k j) := ⟨L, rfl, hs⟩
theorem am_as_go2 {L1 L2 : am_L} (hs : am_sub L1 L2) : am_as (am_go pc L1 st n h k j) (am_go pc L2 st n h k j) := ⟨L2, rfl, hs⟩
theorem am_as_jmp {o : Int} (hs : am_sub L' L) : am_as (am_jmp pc o L' st n h k j) (am_jmp pc o L st n h k j) := by
  unfold am_jmp
  split
  · exact am_as_go hs
  · trivial
theorem am_as_none {o : am_O} : am_as none o := trivial
theorem am_as_br {c : ClassFile.Cond} {x y : Int32} {a b a' b' : am_O} (h1 : am_as a' a) (h2 : am_as b' b) : am_as (am_br c x y a' b') (am_br c x y a b) := by
  unfold am_br
  cases c <;> dsimp only <;> split <;> assumption
theorem am_as_back {rest : List Value} {r : Option am_R} (hs : am_sub L' L) : am_as (am_back pc L' rest k j r) (am_back pc L rest k j r) := by
  unfold am_back
  split
  · exact am_as_go hs
  · trivial
theorem am_as_call {q kd : Nat} (hs : am_sub L' L) : am_as (am_call call mi q kd pc L' st n h k j) (am_call call mi q kd pc L st n h k j) := by
  unfold am_call
  split
  · trivial
  · split
    · trivial
    · split
      · split
        · split
          · split
            · exact am_as_back hs
            · trivial
          · trivial
        · trivial
      · split
        · exact am_as_back hs
        · trivial
      · split
        · split
          · exact am_as_back hs
          · trivial
        · trivial
      · split
        · exact am_as_back hs
        · trivial
      · split
        · split
          · exact am_as_go hs
          · trivial
        · trivial
      · split
        · split
          · exact am_as_go hs
          · trivial
        · trivial
      · split
        · split
          · exact am_as_go hs
          · trivial
        · trivial
      · split
        · split
          · exact am_as_go hs
          · trivial
        · trivial
      · split
        · split
          · split
            · exact am_as_go hs
            · trivial
          · trivial
        · trivial
      · trivial
theorem am_as_ex (hs : am_sub L' L) (i : Instr) : am_as (am_ex X call mi i len pc L' st n h k j) (am_ex X call mi i len pc L st n h k j) := by
  cases i with
  | iconst a0 =>
    dsimp only [am_ex]
    first | exact am_as_go hs | exact am_as_jmp hs | (split <;> first | exact am_as_go hs | exact am_as_jmp hs | exact am_as_none | (split <;> first | exact am_as_go hs | exact am_as_jmp hs | exact am_as_none | exact am_as_br (am_as_go hs) (am_as_go hs) | (split <;> first | exact am_as_go hs | exact am_as_jmp hs | exact am_as_none)))
  | bipush a0 =>
    dsimp only [am_ex]
    first | exact am_as_go hs | exact am_as_jmp hs | (split <;> first | exact am_as_go hs | exact am_as_jmp hs | exact am_as_none | (split <;> first | exact am_as_go hs | exact am_as_jmp hs | exact am_as_none | exact am_as_br (am_as_go hs) (am_as_go hs) | (split <;> first | exact am_as_go hs | exact am_as_jmp hs | exact am_as_none)))
  | sipush a0 =>
    dsimp only [am_ex]
    first | exact am_as_go hs | exact am_as_jmp hs | (split <;> first | exact am_as_go hs | exact am_as_jmp hs | exact am_as_none | (split <;> first | exact am_as_go hs | exact am_as_jmp hs | exact am_as_none | exact am_as_br (am_as_go hs) (am_as_go hs) | (split <;> first | exact am_as_go hs | exact am_as_jmp hs | exact am_as_none)))
  | lconst a0 =>
    dsimp only [am_ex]
    first | exact am_as_go hs | exact am_as_jmp hs | (split <;> first | exact am_as_go hs | exact am_as_jmp hs | exact am_as_none | (split <;> first | exact am_as_go hs | exact am_as_jmp hs | exact am_as_none | exact am_as_br (am_as_go hs) (am_as_go hs) | (split <;> first | exact am_as_go hs | exact am_as_jmp hs | exact am_as_none)))
  | ldc a0 =>
    dsimp only [am_ex]
    first | exact am_as_go hs | exact am_as_jmp hs | (split <;> first | exact am_as_go hs | exact am_as_jmp hs | exact am_as_none | (split <;> first | exact am_as_go hs | exact am_as_jmp hs | exact am_as_none | exact am_as_br (am_as_go hs) (am_as_go hs) | (split <;> first | exact am_as_go hs | exact am_as_jmp hs | exact am_as_none)))
  | ldc2_w a0 =>
    dsimp only [am_ex]
    first | exact am_as_go hs | exact am_as_jmp hs | (split <;> first | exact am_as_go hs | exact am_as_jmp hs | exact am_as_none | (split <;> first | exact am_as_go hs | exact am_as_jmp hs | exact am_as_none | exact am_as_br (am_as_go hs) (am_as_go hs) | (split <;> first | exact am_as_go hs | exact am_as_jmp hs | exact am_as_none)))
  | iadd =>
    dsimp only [am_ex]
    first | exact am_as_go hs | exact am_as_jmp hs | (split <;> first | exact am_as_go hs | exact am_as_jmp hs | exact am_as_none | (split <;> first | exact am_as_go hs | exact am_as_jmp hs | exact am_as_none | exact am_as_br (am_as_go hs) (am_as_go hs) | (split <;> first | exact am_as_go hs | exact am_as_jmp hs | exact am_as_none)))
  | isub =>
    dsimp only [am_ex]
    first | exact am_as_go hs | exact am_as_jmp hs | (split <;> first | exact am_as_go hs | exact am_as_jmp hs | exact am_as_none | (split <;> first | exact am_as_go hs | exact am_as_jmp hs | exact am_as_none | exact am_as_br (am_as_go hs) (am_as_go hs) | (split <;> first | exact am_as_go hs | exact am_as_jmp hs | exact am_as_none)))
  | imul =>
    dsimp only [am_ex]
    first | exact am_as_go hs | exact am_as_jmp hs | (split <;> first | exact am_as_go hs | exact am_as_jmp hs | exact am_as_none | (split <;> first | exact am_as_go hs | exact am_as_jmp hs | exact am_as_none | exact am_as_br (am_as_go hs) (am_as_go hs) | (split <;> first | exact am_as_go hs | exact am_as_jmp hs | exact am_as_none)))
  | iand =>
    dsimp only [am_ex]
    first | exact am_as_go hs | exact am_as_jmp hs | (split <;> first | exact am_as_go hs | exact am_as_jmp hs | exact am_as_none | (split <;> first | exact am_as_go hs | exact am_as_jmp hs | exact am_as_none | exact am_as_br (am_as_go hs) (am_as_go hs) | (split <;> first | exact am_as_go hs | exact am_as_jmp hs | exact am_as_none)))
  | ior =>
    dsimp only [am_ex]
    first | exact am_as_go hs | exact am_as_jmp hs | (split <;> first | exact am_as_go hs | exact am_as_jmp hs | exact am_as_none | (split <;> first | exact am_as_go hs | exact am_as_jmp hs | exact am_as_none | exact am_as_br (am_as_go hs) (am_as_go hs) | (split <;> first | exact am_as_go hs | exact am_as_jmp hs | exact am_as_none)))
  | ixor =>
    dsimp only [am_ex]
    first | exact am_as_go hs | exact am_as_jmp hs | (split <;> first | exact am_as_go hs | exact am_as_jmp hs | exact am_as_none | (split <;> first | exact am_as_go hs | exact am_as_jmp hs | exact am_as_none | exact am_as_br (am_as_go hs) (am_as_go hs) | (split <;> first | exact am_as_go hs | exact am_as_jmp hs | exact am_as_none)))
  | ishl =>
    dsimp only [am_ex]
    first | exact am_as_go hs | exact am_as_jmp hs | (split <;> first | exact am_as_go hs | exact am_as_jmp hs | exact am_as_none | (split <;> first | exact am_as_go hs | exact am_as_jmp hs | exact am_as_none | exact am_as_br (am_as_go hs) (am_as_go hs) | (split <;> first | exact am_as_go hs | exact am_as_jmp hs | exact am_as_none)))
  | ishr =>
    dsimp only [am_ex]
    first | exact am_as_go hs | exact am_as_jmp hs | (split <;> first | exact am_as_go hs | exact am_as_jmp hs | exact am_as_none | (split <;> first | exact am_as_go hs | exact am_as_jmp hs | exact am_as_none | exact am_as_br (am_as_go hs) (am_as_go hs) | (split <;> first | exact am_as_go hs | exact am_as_jmp hs | exact am_as_none)))
  | ineg =>
    dsimp only [am_ex]
    first | exact am_as_go hs | exact am_as_jmp hs | (split <;> first | exact am_as_go hs | exact am_as_jmp hs | exact am_as_none | (split <;> first | exact am_as_go hs | exact am_as_jmp hs | exact am_as_none | exact am_as_br (am_as_go hs) (am_as_go hs) | (split <;> first | exact am_as_go hs | exact am_as_jmp hs | exact am_as_none)))
  | ladd =>
    dsimp only [am_ex]
    first | exact am_as_go hs | exact am_as_jmp hs | (split <;> first | exact am_as_go hs | exact am_as_jmp hs | exact am_as_none | (split <;> first | exact am_as_go hs | exact am_as_jmp hs | exact am_as_none | exact am_as_br (am_as_go hs) (am_as_go hs) | (split <;> first | exact am_as_go hs | exact am_as_jmp hs | exact am_as_none)))
  | lsub =>
    dsimp only [am_ex]
    first | exact am_as_go hs | exact am_as_jmp hs | (split <;> first | exact am_as_go hs | exact am_as_jmp hs | exact am_as_none | (split <;> first | exact am_as_go hs | exact am_as_jmp hs | exact am_as_none | exact am_as_br (am_as_go hs) (am_as_go hs) | (split <;> first | exact am_as_go hs | exact am_as_jmp hs | exact am_as_none)))
  | lmul =>
    dsimp only [am_ex]
    first | exact am_as_go hs | exact am_as_jmp hs | (split <;> first | exact am_as_go hs | exact am_as_jmp hs | exact am_as_none | (split <;> first | exact am_as_go hs | exact am_as_jmp hs | exact am_as_none | exact am_as_br (am_as_go hs) (am_as_go hs) | (split <;> first | exact am_as_go hs | exact am_as_jmp hs | exact am_as_none)))
  | lneg =>
    dsimp only [am_ex]
    first | exact am_as_go hs | exact am_as_jmp hs | (split <;> first | exact am_as_go hs | exact am_as_jmp hs | exact am_as_none | (split <;> first | exact am_as_go hs | exact am_as_jmp hs | exact am_as_none | exact am_as_br (am_as_go hs) (am_as_go hs) | (split <;> first | exact am_as_go hs | exact am_as_jmp hs | exact am_as_none)))
  | idiv =>
    dsimp only [am_ex]
    first | exact am_as_go hs | exact am_as_jmp hs | (split <;> first | exact am_as_go hs | exact am_as_jmp hs | exact am_as_none | (split <;> first | exact am_as_go hs | exact am_as_jmp hs | exact am_as_none | exact am_as_br (am_as_go hs) (am_as_go hs) | (split <;> first | exact am_as_go hs | exact am_as_jmp hs | exact am_as_none)))
  | irem =>
    dsimp only [am_ex]
    first | exact am_as_go hs | exact am_as_jmp hs | (split <;> first | exact am_as_go hs | exact am_as_jmp hs | exact am_as_none | (split <;> first | exact am_as_go hs | exact am_as_jmp hs | exact am_as_none | exact am_as_br (am_as_go hs) (am_as_go hs) | (split <;> first | exact am_as_go hs | exact am_as_jmp hs | exact am_as_none)))
  | ldiv =>
    dsimp only [am_ex]
    first | exact am_as_go hs | exact am_as_jmp hs | (split <;> first | exact am_as_go hs | exact am_as_jmp hs | exact am_as_none | (split <;> first | exact am_as_go hs | exact am_as_jmp hs | exact am_as_none | exact am_as_br (am_as_go hs) (am_as_go hs) | (split <;> first | exact am_as_go hs | exact am_as_jmp hs | exact am_as_none)))
  | lrem =>
    dsimp only [am_ex]
    first | exact am_as_go hs | exact am_as_jmp hs | (split <;> first | exact am_as_go hs | exact am_as_jmp hs | exact am_as_none | (split <;> first | exact am_as_go hs | exact am_as_jmp hs | exact am_as_none | exact am_as_br (am_as_go hs) (am_as_go hs) | (split <;> first | exact am_as_go hs | exact am_as_jmp hs | exact am_as_none)))
  | lcmp =>
    dsimp only [am_ex]
    first | exact am_as_go hs | exact am_as_jmp hs | (split <;> first | exact am_as_go hs | exact am_as_jmp hs | exact am_as_none | (split <;> first | exact am_as_go hs | exact am_as_jmp hs | exact am_as_none | exact am_as_br (am_as_go hs) (am_as_go hs) | (split <;> first | exact am_as_go hs | exact am_as_jmp hs | exact am_as_none)))
  | i2l =>
    dsimp only [am_ex]
    first | exact am_as_go hs | exact am_as_jmp hs | (split <;> first | exact am_as_go hs | exact am_as_jmp hs | exact am_as_none | (split <;> first | exact am_as_go hs | exact am_as_jmp hs | exact am_as_none | exact am_as_br (am_as_go hs) (am_as_go hs) | (split <;> first | exact am_as_go hs | exact am_as_jmp hs | exact am_as_none)))
  | l2i =>
    dsimp only [am_ex]
    first | exact am_as_go hs | exact am_as_jmp hs | (split <;> first | exact am_as_go hs | exact am_as_jmp hs | exact am_as_none | (split <;> first | exact am_as_go hs | exact am_as_jmp hs | exact am_as_none | exact am_as_br (am_as_go hs) (am_as_go hs) | (split <;> first | exact am_as_go hs | exact am_as_jmp hs | exact am_as_none)))
  | dup =>
    dsimp only [am_ex]
    first | exact am_as_go hs | exact am_as_jmp hs | (split <;> first | exact am_as_go hs | exact am_as_jmp hs | exact am_as_none | (split <;> first | exact am_as_go hs | exact am_as_jmp hs | exact am_as_none | exact am_as_br (am_as_go hs) (am_as_go hs) | (split <;> first | exact am_as_go hs | exact am_as_jmp hs | exact am_as_none)))
  | pop =>
    dsimp only [am_ex]
    first | exact am_as_go hs | exact am_as_jmp hs | (split <;> first | exact am_as_go hs | exact am_as_jmp hs | exact am_as_none | (split <;> first | exact am_as_go hs | exact am_as_jmp hs | exact am_as_none | exact am_as_br (am_as_go hs) (am_as_go hs) | (split <;> first | exact am_as_go hs | exact am_as_jmp hs | exact am_as_none)))
  | dup2 =>
    dsimp only [am_ex]
    first | exact am_as_go hs | exact am_as_jmp hs | (split <;> first | exact am_as_go hs | exact am_as_jmp hs | exact am_as_none | (split <;> first | exact am_as_go hs | exact am_as_jmp hs | exact am_as_none | exact am_as_br (am_as_go hs) (am_as_go hs) | (split <;> first | exact am_as_go hs | exact am_as_jmp hs | exact am_as_none)))
  | goto a0 =>
    dsimp only [am_ex]
    first | exact am_as_go hs | exact am_as_jmp hs | (split <;> first | exact am_as_go hs | exact am_as_jmp hs | exact am_as_none | (split <;> first | exact am_as_go hs | exact am_as_jmp hs | exact am_as_none | exact am_as_br (am_as_go hs) (am_as_go hs) | (split <;> first | exact am_as_go hs | exact am_as_jmp hs | exact am_as_none)))
  | ifCond a0 a1 =>
    dsimp only [am_ex]
    first | exact am_as_go hs | exact am_as_jmp hs | (split <;> first | exact am_as_go hs | exact am_as_jmp hs | exact am_as_none | (split <;> first | exact am_as_go hs | exact am_as_jmp hs | exact am_as_none | exact am_as_br (am_as_go hs) (am_as_go hs) | (split <;> first | exact am_as_go hs | exact am_as_jmp hs | exact am_as_none)))
  | if_icmp a0 a1 =>
    dsimp only [am_ex]
    first | exact am_as_go hs | exact am_as_jmp hs | (split <;> first | exact am_as_go hs | exact am_as_jmp hs | exact am_as_none | (split <;> first | exact am_as_go hs | exact am_as_jmp hs | exact am_as_none | exact am_as_br (am_as_go hs) (am_as_go hs) | (split <;> first | exact am_as_go hs | exact am_as_jmp hs | exact am_as_none)))
  | getfield a0 =>
    dsimp only [am_ex]
    first | exact am_as_go hs | exact am_as_jmp hs | (split <;> first | exact am_as_go hs | exact am_as_jmp hs | exact am_as_none | (split <;> first | exact am_as_go hs | exact am_as_jmp hs | exact am_as_none | exact am_as_br (am_as_go hs) (am_as_go hs) | (split <;> first | exact am_as_go hs | exact am_as_jmp hs | exact am_as_none)))
  | putfield a0 =>
    dsimp only [am_ex]
    first | exact am_as_go hs | exact am_as_jmp hs | (split <;> first | exact am_as_go hs | exact am_as_jmp hs | exact am_as_none | (split <;> first | exact am_as_go hs | exact am_as_jmp hs | exact am_as_none | exact am_as_br (am_as_go hs) (am_as_go hs) | (split <;> first | exact am_as_go hs | exact am_as_jmp hs | exact am_as_none)))
  | getstatic a0 =>
    dsimp only [am_ex]
    first | exact am_as_go hs | exact am_as_jmp hs | (split <;> first | exact am_as_go hs | exact am_as_jmp hs | exact am_as_none | (split <;> first | exact am_as_go hs | exact am_as_jmp hs | exact am_as_none | exact am_as_br (am_as_go hs) (am_as_go hs) | (split <;> first | exact am_as_go hs | exact am_as_jmp hs | exact am_as_none)))
  | iaload =>
    dsimp only [am_ex]
    first | exact am_as_go hs | exact am_as_jmp hs | (split <;> first | exact am_as_go hs | exact am_as_jmp hs | exact am_as_none | (split <;> first | exact am_as_go hs | exact am_as_jmp hs | exact am_as_none | exact am_as_br (am_as_go hs) (am_as_go hs) | (split <;> first | exact am_as_go hs | exact am_as_jmp hs | exact am_as_none)))
  | baload =>
    dsimp only [am_ex]
    first | exact am_as_go hs | exact am_as_jmp hs | (split <;> first | exact am_as_go hs | exact am_as_jmp hs | exact am_as_none | (split <;> first | exact am_as_go hs | exact am_as_jmp hs | exact am_as_none | exact am_as_br (am_as_go hs) (am_as_go hs) | (split <;> first | exact am_as_go hs | exact am_as_jmp hs | exact am_as_none)))
  | laload =>
    dsimp only [am_ex]
    first | exact am_as_go hs | exact am_as_jmp hs | (split <;> first | exact am_as_go hs | exact am_as_jmp hs | exact am_as_none | (split <;> first | exact am_as_go hs | exact am_as_jmp hs | exact am_as_none | exact am_as_br (am_as_go hs) (am_as_go hs) | (split <;> first | exact am_as_go hs | exact am_as_jmp hs | exact am_as_none)))
  | aaload =>
    dsimp only [am_ex]
    first | exact am_as_go hs | exact am_as_jmp hs | (split <;> first | exact am_as_go hs | exact am_as_jmp hs | exact am_as_none | (split <;> first | exact am_as_go hs | exact am_as_jmp hs | exact am_as_none | exact am_as_br (am_as_go hs) (am_as_go hs) | (split <;> first | exact am_as_go hs | exact am_as_jmp hs | exact am_as_none)))
  | arraylength =>
    dsimp only [am_ex]
    first | exact am_as_go hs | exact am_as_jmp hs | (split <;> first | exact am_as_go hs | exact am_as_jmp hs | exact am_as_none | (split <;> first | exact am_as_go hs | exact am_as_jmp hs | exact am_as_none | exact am_as_br (am_as_go hs) (am_as_go hs) | (split <;> first | exact am_as_go hs | exact am_as_jmp hs | exact am_as_none)))
  | iastore =>
    dsimp only [am_ex]
    first | exact am_as_go hs | exact am_as_jmp hs | (split <;> first | exact am_as_go hs | exact am_as_jmp hs | exact am_as_none | (split <;> first | exact am_as_go hs | exact am_as_jmp hs | exact am_as_none | exact am_as_br (am_as_go hs) (am_as_go hs) | (split <;> first | exact am_as_go hs | exact am_as_jmp hs | exact am_as_none)))
  | bastore =>
    dsimp only [am_ex]
    first | exact am_as_go hs | exact am_as_jmp hs | (split <;> first | exact am_as_go hs | exact am_as_jmp hs | exact am_as_none | (split <;> first | exact am_as_go hs | exact am_as_jmp hs | exact am_as_none | exact am_as_br (am_as_go hs) (am_as_go hs) | (split <;> first | exact am_as_go hs | exact am_as_jmp hs | exact am_as_none)))
  | lastore =>
    dsimp only [am_ex]
    first | exact am_as_go hs | exact am_as_jmp hs | (split <;> first | exact am_as_go hs | exact am_as_jmp hs | exact am_as_none | (split <;> first | exact am_as_go hs | exact am_as_jmp hs | exact am_as_none | exact am_as_br (am_as_go hs) (am_as_go hs) | (split <;> first | exact am_as_go hs | exact am_as_jmp hs | exact am_as_none)))
  | aastore =>
    dsimp only [am_ex]
    first | exact am_as_go hs | exact am_as_jmp hs | (split <;> first | exact am_as_go hs | exact am_as_jmp hs | exact am_as_none | (split <;> first | exact am_as_go hs | exact am_as_jmp hs | exact am_as_none | exact am_as_br (am_as_go hs) (am_as_go hs) | (split <;> first | exact am_as_go hs | exact am_as_jmp hs | exact am_as_none)))
  | tableswitch a0 a1 a2 a3 =>
    dsimp only [am_ex]
    first | exact am_as_go hs | exact am_as_jmp hs | (split <;> first | exact am_as_go hs | exact am_as_jmp hs | exact am_as_none | (split <;> first | exact am_as_go hs | exact am_as_jmp hs | exact am_as_none | exact am_as_br (am_as_go hs) (am_as_go hs) | (split <;> first | exact am_as_go hs | exact am_as_jmp hs | exact am_as_none)))
  | lookupswitch a0 a1 =>
    dsimp only [am_ex]
    first | exact am_as_go hs | exact am_as_jmp hs | (split <;> first | exact am_as_go hs | exact am_as_jmp hs | exact am_as_none | (split <;> first | exact am_as_go hs | exact am_as_jmp hs | exact am_as_none | exact am_as_br (am_as_go hs) (am_as_go hs) | (split <;> first | exact am_as_go hs | exact am_as_jmp hs | exact am_as_none)))
  | new a0 =>
    dsimp only [am_ex]
    first | exact am_as_go hs | exact am_as_jmp hs | (split <;> first | exact am_as_go hs | exact am_as_jmp hs | exact am_as_none | (split <;> first | exact am_as_go hs | exact am_as_jmp hs | exact am_as_none | exact am_as_br (am_as_go hs) (am_as_go hs) | (split <;> first | exact am_as_go hs | exact am_as_jmp hs | exact am_as_none)))
  | newarray a0 =>
    dsimp only [am_ex]
    first | exact am_as_go hs | exact am_as_jmp hs | (split <;> first | exact am_as_go hs | exact am_as_jmp hs | exact am_as_none | (split <;> first | exact am_as_go hs | exact am_as_jmp hs | exact am_as_none | exact am_as_br (am_as_go hs) (am_as_go hs) | (split <;> first | exact am_as_go hs | exact am_as_jmp hs | exact am_as_none)))
  | multianewarray a0 a1 =>
    dsimp only [am_ex]
    first | exact am_as_go hs | exact am_as_jmp hs | (split <;> first | exact am_as_go hs | exact am_as_jmp hs | exact am_as_none | (split <;> first | exact am_as_go hs | exact am_as_jmp hs | exact am_as_none | exact am_as_br (am_as_go hs) (am_as_go hs) | (split <;> first | exact am_as_go hs | exact am_as_jmp hs | exact am_as_none)))
  | iload a0 =>
    dsimp only [am_ex]
    cases hl : am_ld L' a0 with
    | none => exact am_as_none
    | some v =>
      rw [am_sub_ld hs hl]
      cases v <;> first | exact am_as_go hs | exact am_as_none
  | iload_n a0 =>
    dsimp only [am_ex]
    cases hl : am_ld L' a0 with
    | none => exact am_as_none
    | some v =>
      rw [am_sub_ld hs hl]
      cases v <;> first | exact am_as_go hs | exact am_as_none
  | lload a0 =>
    dsimp only [am_ex]
    cases hl : am_ld L' a0 with
    | none => exact am_as_none
    | some v =>
      rw [am_sub_ld hs hl]
      cases v <;> first | exact am_as_go hs | exact am_as_none
  | lload_n a0 =>
    dsimp only [am_ex]
    cases hl : am_ld L' a0 with
    | none => exact am_as_none
    | some v =>
      rw [am_sub_ld hs hl]
      cases v <;> first | exact am_as_go hs | exact am_as_none
  | aload_n a0 =>
    dsimp only [am_ex]
    cases hl : am_ld L' a0 with
    | none => exact am_as_none
    | some v =>
      rw [am_sub_ld hs hl]
      cases v <;> first | exact am_as_go hs | exact am_as_none
  | istore a0 =>
    dsimp only [am_ex]
    split
    · split
      · exact am_as_go2 (am_sub_st1 hs _ _)
      · exact am_as_none
    · exact am_as_none
  | istore_n a0 =>
    dsimp only [am_ex]
    split
    · split
      · exact am_as_go2 (am_sub_st1 hs _ _)
      · exact am_as_none
    · exact am_as_none
  | lstore a0 =>
    dsimp only [am_ex]
    split
    · split
      · exact am_as_go2 (am_sub_st2 hs _ _)
      · exact am_as_none
    · exact am_as_none
  | lstore_n a0 =>
    dsimp only [am_ex]
    split
    · split
      · exact am_as_go2 (am_sub_st2 hs _ _)
      · exact am_as_none
    · exact am_as_none
  | astore_n a0 =>
    dsimp only [am_ex]
    split
    · split
      · exact am_as_go2 (am_sub_st1 hs _ _)
      · exact am_as_none
    · exact am_as_none
  | iinc a0 a1 =>
    dsimp only [am_ex]
    cases hl : am_ld L' a0 with
    | none => exact am_as_none
    | some v =>
      rw [am_sub_ld hs hl]
      cases v with
      | int x =>
        dsimp only
        split
        · exact am_as_go2 (am_sub_st1 hs _ _)
        · exact am_as_none
      | _ => exact am_as_none
  | invokevirtual a0 =>
    dsimp only [am_ex]
    exact am_as_call hs
  | invokestatic a0 =>
    dsimp only [am_ex]
    split
    · split
      · exact am_as_call hs
      · exact am_as_none
    · exact am_as_none
  | invokespecial a0 =>
    dsimp only [am_ex]
    split
    · split
      · exact am_as_call hs
      · exact am_as_none
    · exact am_as_none
  | ireturn =>
    dsimp only [am_ex]
    split
    · split
      · exact rfl
      · exact am_as_none
    · exact am_as_none
  | lreturn =>
    dsimp only [am_ex]
    split
    · split
      · exact rfl
      · exact am_as_none
    · exact am_as_none
  | return_ =>
    dsimp only [am_ex]
    split
    · split
      · exact rfl
      · exact am_as_none
    · exact am_as_none
  | _ => exact am_as_none
theorem am_as_step (hs : am_sub L' L) : am_as (am_step X call mi (pc, L', st, n, h, k, j)) (am_step X call mi (pc, L, st, n, h, k, j)) := by
  unfold am_step
  dsimp only
  split
  · split
    · exact am_as_ex hs _
    · exact am_as_none
  · exact am_as_none
theorem am_as_iter : ∀ (N : Nat) (pc : Nat) (L' L : am_L) (st : List Value) (n : Nat) (h : am_H) (k j : Nat) (r : am_R), am_sub L' L → am_iter X call mi N (pc, L', st, n, h, k, j) = some r → am_iter X call mi N (pc, L, st, n, h, k, j) = some r
  | 0, _, _, _, _, _, _, _, _, _, _, hx => by cases hx
  | N + 1, pc, L', L, st, n, h, k, j, r, hs, hx => by
    unfold am_iter at hx ⊢
    have ha := am_as_step (X := X) (mi := mi) (pc := pc) (st := st) (n := n) (h := h) (k := k) (j := j) (call := call) hs
    split at hx
    · rename_i z1 hz
      rw [hz] at ha
      obtain ⟨L1, e1, hs1⟩ := ha
      rw [e1]
      obtain ⟨pc1, L1', st1, n1, h1, k1, j1⟩ := z1
      exact am_as_iter N pc1 L1' L1 st1 n1 h1 k1 j1 r hs1 hx
    · rename_i r1 hz
      rw [hz] at ha
      have ha : am_step X call mi (pc, L, st, n, h, k, j) = some (.inr r1) := ha
      rw [ha]
      exact hx
    · cases hx
theorem AW.loc {Q : am_R → Prop} (L' : am_L) (hs : am_sub L' L) (w : AW X mi (pc, L', st, n, h, k, j) Q) : AW X mi (pc, L, st, n, h, k, j) Q := by
  obtain ⟨N, r, h1, h2⟩ := w
  exact ⟨N, r, am_as_iter N pc L' L st n h k j r hs h1, h2⟩
/-- a list of locals whose places rise in no matter what order, each told once -/
theorem am_nd_of {L : am_L} (h : (L.map (fun q => q.1)).Nodup) : am_nd L := by
  induction L with
  | nil => exact fun q hq => absurd hq List.not_mem_nil
  | cons a L ih =>
    rw [List.map_cons, List.nodup_cons] at h
    intro q hq q' hq' he
    rcases List.mem_cons.mp hq with e1 | h1
    · rcases List.mem_cons.mp hq' with e2 | h2
      · rw [e1, e2]
      · exact absurd (show a.1 ∈ L.map (fun q => q.1) from List.mem_map.mpr ⟨q', h2, by rw [← he, e1]⟩) h.1
    · rcases List.mem_cons.mp hq' with e2 | h2
      · exact absurd (show a.1 ∈ L.map (fun q => q.1) from List.mem_map.mpr ⟨q, h1, by rw [he, e2]⟩) h.1
      · exact ih h.2 q h1 q' h2 he
theorem am_sub_pick {L L' : am_L} (ks : List Nat) (hn : (L.map (fun q => q.1)).Nodup) (hp : ks.filterMap (fun k => L[k]?) = L') : am_sub L' L := by
  refine ⟨am_nd_of hn, fun q hq => ?_⟩
  rw [← hp] at hq
  obtain ⟨k, -, hk⟩ := List.mem_filterMap.mp hq
  exact List.mem_of_getElem? hk
end AWS
end
section
/-! the memory of the law's run: fields, ints, longs, references, by address -/
abbrev MS : Type := (Nat → Nat → Int32) × (Nat → Nat → Int32) × (Nat → Nat → Int64) × (Nat → Nat → Nat)
def c_from : Nat → Int32 := fun j => ([0, 0, 0, 1, 1, 2] : List Int32).getD j 0
def c_to : Nat → Int32 := fun j => ([1, 2, 3, 2, 3, 3] : List Int32).getD j 0
def HPk (k : Nat) (fi : Nat → Int32) (ar : Nat → Int32) (la : Nat → Int64) (rf : Nat → Nat) : am_E := if 45 ≤ k ∧ k < 109 ∨ 112 ≤ k ∧ k < 176 then .inl (0, 21, .inl ar) else if 24 ≤ k ∧ k < 42 then .inl (1, 6, .inr (.inl la)) else match k with
  | 0 => .inr (6, [.ref 1, .ref 22, .ref 43, .ref 177, .ref 179, .int (fi 5), .int (fi 6)])
  | 1 => .inr (5, [.int (fi 0), .int (fi 1), .ref 2, .ref 3, .ref 4, .ref 10, .ref 16])
  | 2 => .inl (0, 12, .inl ar)
  | 3 => .inl (0, 48, .inl ar)
  | 4 => .inr (0, [.ref 5, .ref 6, .ref 7, .ref 8, .ref 9, .int (fi 5), .int (fi 6)])
  | 5 => .inl (0, 12, .inl ar)
  | 6 => .inl (0, 12, .inl ar)
  | 7 => .inl (2, 12, .inl ar)
  | 8 => .inl (0, 12, .inl ar)
  | 9 => .inl (0, 12, .inl ar)
  | 10 => .inr (0, [.ref 11, .ref 12, .ref 13, .ref 14, .ref 15, .int (fi 5), .int (fi 6)])
  | 11 => .inl (0, 18, .inl ar)
  | 12 => .inl (0, 18, .inl ar)
  | 13 => .inl (2, 18, .inl ar)
  | 14 => .inl (0, 18, .inl ar)
  | 15 => .inl (0, 18, .inl ar)
  | 16 => .inr (0, [.ref 17, .ref 18, .ref 19, .ref 20, .ref 21, .int (fi 5), .int (fi 6)])
  | 17 => .inl (0, 3, .inl ar)
  | 18 => .inl (0, 3, .inl ar)
  | 19 => .inl (2, 3, .inl ar)
  | 20 => .inl (0, 3, .inl ar)
  | 21 => .inl (0, 3, .inl ar)
  | 22 => .inr (2, [.ref 23, .ref 42, .int (fi 2), .int (fi 3), .int (fi 4)])
  | 23 => .inl (4, 18, .inr (.inr (.inr (.inr (fun i => some (rf i))))))
  | 42 => .inl (0, 12, .inl ar)
  | 43 => .inr (1, [.int (fi 0), .int (fi 1), .ref (rf 2), .ref (rf 3), .ref 110, .int (fi 5), .ref (rf 6), .ref (rf 7)])
  | 44 => .inl (3, 64, .inr (.inr (.inr (.inr (fun i => some (rf i))))))
  | 109 => .inl (0, 64, .inl ar)
  | 110 => .inl (0, 64, .inl ar)
  | 111 => .inl (3, 64, .inr (.inr (.inr (.inr (fun i => some (rf i))))))
  | 176 => .inl (0, 64, .inl ar)
  | 177 => .inr (4, [.ref 178])
  | 178 => .inl (0, 21, .inl ar)
  | 179 => .inr (3, [.ref 180, .ref 186, .ref 187, .ref 188])
  | 180 => .inr (0, [.ref 181, .ref 182, .ref 183, .ref 184, .ref 185, .int (fi 5), .int (fi 6)])
  | 181 => .inl (0, 400, .inl ar)
  | 182 => .inl (0, 400, .inl ar)
  | 183 => .inl (2, 400, .inl ar)
  | 184 => .inl (0, 400, .inl ar)
  | 185 => .inl (0, 400, .inl ar)
  | 186 => .inl (0, 21, .inl ar)
  | 187 => .inl (0, 400, .inl ar)
  | 188 => .inl (0, 400, .inl ar)
  | 189 => .inr (7, [.int (fi 0), .ref 190, .ref 191, .ref 192, .ref 193, .ref 194, .ref 195, .ref 196, .ref 197, .int (fi 9), .ref 198, .int (fi 11), .int (fi 12), .ref 199, .int (fi 14), .ref 200, .ref 201, .ref 202, .int (fi 18), .int (fi 19), .ref 203, .ref 204, .ref 205, .ref 206, .int (fi 24), .ref 207])
  | 190 => .inl (0, 12, .inl ar)
  | 191 => .inl (0, 48, .inl ar)
  | 192 => .inl (0, 21, .inl ar)
  | 193 => .inl (0, 6, .inl c_from)
  | 194 => .inl (0, 6, .inl c_to)
  | 195 => .inl (0, 36, .inl ar)
  | 196 => .inl (0, 12, .inl ar)
  | 197 => .inl (0, 3, .inl ar)
  | 198 => .inl (1, 108, .inr (.inl la))
  | 199 => .inl (0, 12, .inl ar)
  | 200 => .inl (0, 42000, .inl ar)
  | 201 => .inl (0, 42000, .inl ar)
  | 202 => .inl (0, 21, .inl ar)
  | 203 => .inl (0, 22, .inl ar)
  | 204 => .inl (0, 400, .inl ar)
  | 205 => .inl (0, 400, .inl ar)
  | 206 => .inl (0, 400, .inl ar)
  | 207 => .inl (2, 400, .inl ar)
  | _ => .inr (0, [])
def HP (S : MS) : am_H := fun k => HPk k (S.1 k) (S.2.1 k) (S.2.2.1 k) (S.2.2.2 k)
/-- one place of one row changed -/
def u2 {α : Type} (f : Nat → Nat → α) (a k : Nat) (x : α) : Nat → Nat → α := fun i => if i = a then (fun j => if j = k then x else f a j) else f i
def r2 {α : Type} (f : Nat → Nat → α) (a : Nat) (g : Nat → α) : Nat → Nat → α := fun i => if i = a then g else f i
abbrev MS.sf (S : MS) (a k : Nat) (x : Int32) : MS := (u2 S.1 a k x, S.2)
abbrev MS.sa (S : MS) (a k : Nat) (x : Int32) : MS := (S.1, u2 S.2.1 a k x, S.2.2)
abbrev MS.sl (S : MS) (a k : Nat) (x : Int64) : MS := (S.1, S.2.1, u2 S.2.2.1 a k x, S.2.2.2)
abbrev MS.sr (S : MS) (a k : Nat) (x : Nat) : MS := (S.1, S.2.1, S.2.2.1, u2 S.2.2.2 a k x)
theorem u2_row {α : Type} (f : Nat → Nat → α) (a k : Nat) (x : α) : u2 f a k x a = fun j => if j = k then x else f a j := by
  unfold u2
  rw [if_pos rfl]
theorem u2_ne {α : Type} (f : Nat → Nat → α) {a i : Nat} (k : Nat) (x : α) (h : i ≠ a) : u2 f a k x i = f i := by
  unfold u2
  rw [if_neg h]
theorem u2_at {α : Type} (f : Nat → Nat → α) (a k : Nat) (x : α) (i j : Nat) : u2 f a k x i j = if i = a ∧ j = k then x else f i j := by
  unfold u2
  by_cases h : i = a
  · subst h
    by_cases h2 : j = k <;> simp [h2]
  · simp [h]
theorem HP_sf (S : MS) (a k : Nat) (x : Int32) {e : am_E} (h : HPk a (u2 S.1 a k x a) (S.2.1 a) (S.2.2.1 a) (S.2.2.2 a) = e) : am_up (HP S) a e = HP (S.sf a k x) := by
  funext i
  unfold am_up
  by_cases hi : i = a
  · subst hi
    rw [if_pos rfl, ← h]
    rfl
  · rw [if_neg hi]
    show HPk i (S.1 i) _ _ _ = HPk i (u2 S.1 a k x i) _ _ _
    rw [u2_ne _ _ _ hi]
theorem HP_sa (S : MS) (a k : Nat) (x : Int32) {e : am_E} (h : HPk a (S.1 a) (u2 S.2.1 a k x a) (S.2.2.1 a) (S.2.2.2 a) = e) : am_up (HP S) a e = HP (S.sa a k x) := by
  funext i
  unfold am_up
  by_cases hi : i = a
  · subst hi
    rw [if_pos rfl, ← h]
    rfl
  · rw [if_neg hi]
    show HPk i _ (S.2.1 i) _ _ = HPk i _ (u2 S.2.1 a k x i) _ _
    rw [u2_ne _ _ _ hi]
theorem HP_sl (S : MS) (a k : Nat) (x : Int64) {e : am_E} (h : HPk a (S.1 a) (S.2.1 a) (u2 S.2.2.1 a k x a) (S.2.2.2 a) = e) : am_up (HP S) a e = HP (S.sl a k x) := by
  funext i
  unfold am_up
  by_cases hi : i = a
  · subst hi
    rw [if_pos rfl, ← h]
    rfl
  · rw [if_neg hi]
    show HPk i _ _ (S.2.2.1 i) _ = HPk i _ _ (u2 S.2.2.1 a k x i) _
    rw [u2_ne _ _ _ hi]
theorem HP_sr (S : MS) (a k : Nat) (x : Nat) {e : am_E} (h : HPk a (S.1 a) (S.2.1 a) (S.2.2.1 a) (u2 S.2.2.2 a k x a) = e) : am_up (HP S) a e = HP (S.sr a k x) := by
  funext i
  unfold am_up
  by_cases hi : i = a
  · subst hi
    rw [if_pos rfl, ← h]
    rfl
  · rw [if_neg hi]
    show HPk i _ _ _ (S.2.2.2 i) = HPk i _ _ _ (u2 S.2.2.2 a k x i)
    rw [u2_ne _ _ _ hi]
/-- what lies at an address -/
def isI (a len : Nat) : Prop := ∀ fi ar la rf, HPk a fi ar la rf = .inl (0, len, .inl ar)
def isZ (a len : Nat) : Prop := ∀ fi ar la rf, HPk a fi ar la rf = .inl (2, len, .inl ar)
def isJ (a len : Nat) : Prop := ∀ fi ar la rf, HPk a fi ar la rf = .inl (1, len, .inr (.inl la))
theorem isI_row {a : Nat} (h : 45 ≤ a ∧ a < 109 ∨ 112 ≤ a ∧ a < 176) : isI a 21 := by
  intro fi ar la rf
  unfold HPk
  rw [if_pos h]
theorem isJ_row {a : Nat} (h : 24 ≤ a ∧ a < 42) : isJ a 6 := by
  intro fi ar la rf
  unfold HPk
  rw [if_neg (by omega), if_pos h]

/-! the rules of a step -/
section AR
variable {X : am_X} {mi : Nat} {pc : Nat} {L : am_L} {st : List Value} {n : Nat} {h : am_H} {k j : Nat} {Q : am_R → Prop} {S : MS}
theorem as_iconst {v : Int} (hd : decode (am_code mi) pc = .ok (.iconst v, 1)) (kk : AW X mi (pc + 1, L, .int (Int32.ofInt v) :: st, n, h, k, j) Q) : AW X mi (pc, L, st, n, h, k, j) Q := AW.step (fun call => by simp [am_step, hd, am_len, am_ex, am_go, *]) kk
theorem as_bipush {v : Int} (hd : decode (am_code mi) pc = .ok (.bipush v, 2)) (kk : AW X mi (pc + 2, L, .int (Int8.ofInt v).toInt32 :: st, n, h, k, j) Q) : AW X mi (pc, L, st, n, h, k, j) Q := AW.step (fun call => by simp [am_step, hd, am_len, am_ex, am_go, *]) kk
theorem as_sipush {v : Int} (hd : decode (am_code mi) pc = .ok (.sipush v, 3)) (kk : AW X mi (pc + 3, L, .int (Int16.ofInt v).toInt32 :: st, n, h, k, j) Q) : AW X mi (pc, L, st, n, h, k, j) Q := AW.step (fun call => by simp [am_step, hd, am_len, am_ex, am_go, *]) kk
theorem as_lconst {v : Fin 2} (hd : decode (am_code mi) pc = .ok (.lconst v, 1)) (kk : AW X mi (pc + 1, L, .long (Int64.ofNat v) :: st, n, h, k, j) Q) : AW X mi (pc, L, st, n, h, k, j) Q := AW.step (fun call => by simp [am_step, hd, am_len, am_ex, am_go, *]) kk
theorem as_ldc {q : Nat} {v : Int32} (hd : decode (am_code mi) pc = .ok (.ldc q, 2)) (hq : am_find am_ccL (am_mc mi) q = some v) (kk : AW X mi (pc + 2, L, .int v :: st, n, h, k, j) Q) : AW X mi (pc, L, st, n, h, k, j) Q := AW.step (fun call => by simp [am_step, hd, am_len, am_ex, am_go, *]) kk
theorem as_ldc2 {q : Nat} {v : Int64} (hd : decode (am_code mi) pc = .ok (.ldc2_w q, 3)) (hq : am_find am_clL (am_mc mi) q = some v) (kk : AW X mi (pc + 3, L, .long v :: st, n, h, k, j) Q) : AW X mi (pc, L, st, n, h, k, j) Q := AW.step (fun call => by simp [am_step, hd, am_len, am_ex, am_go, *]) kk
theorem as_iload {i : Nat} {x : Int32} (hd : decode (am_code mi) pc = .ok (.iload i, 2)) (hl : am_ld L i = some (.int x)) (kk : AW X mi (pc + 2, L, .int x :: st, n, h, k, j) Q) : AW X mi (pc, L, st, n, h, k, j) Q := AW.step (fun call => by simp [am_step, hd, am_len, am_ex, am_go, *]) kk
theorem as_iload_n {i : Fin 4} {x : Int32} (hd : decode (am_code mi) pc = .ok (.iload_n i, 1)) (hl : am_ld L i = some (.int x)) (kk : AW X mi (pc + 1, L, .int x :: st, n, h, k, j) Q) : AW X mi (pc, L, st, n, h, k, j) Q := AW.step (fun call => by simp [am_step, hd, am_len, am_ex, am_go, *]) kk
theorem as_lload {i : Nat} {x : Int64} (hd : decode (am_code mi) pc = .ok (.lload i, 2)) (hl : am_ld L i = some (.long x)) (kk : AW X mi (pc + 2, L, .long x :: st, n, h, k, j) Q) : AW X mi (pc, L, st, n, h, k, j) Q := AW.step (fun call => by simp [am_step, hd, am_len, am_ex, am_go, *]) kk
theorem as_lload_n {i : Fin 4} {x : Int64} (hd : decode (am_code mi) pc = .ok (.lload_n i, 1)) (hl : am_ld L i = some (.long x)) (kk : AW X mi (pc + 1, L, .long x :: st, n, h, k, j) Q) : AW X mi (pc, L, st, n, h, k, j) Q := AW.step (fun call => by simp [am_step, hd, am_len, am_ex, am_go, *]) kk
theorem as_aload_n {i : Fin 4} {x : Nat} (hd : decode (am_code mi) pc = .ok (.aload_n i, 1)) (hl : am_ld L i = some (.ref x)) (kk : AW X mi (pc + 1, L, .ref x :: st, n, h, k, j) Q) : AW X mi (pc, L, st, n, h, k, j) Q := AW.step (fun call => by simp [am_step, hd, am_len, am_ex, am_go, *]) kk
theorem as_aload_f {i : Fin 4} {x : UInt32} (hd : decode (am_code mi) pc = .ok (.aload_n i, 1)) (hl : am_ld L i = some (.float x)) (kk : AW X mi (pc + 1, L, .float x :: st, n, h, k, j) Q) : AW X mi (pc, L, st, n, h, k, j) Q := AW.step (fun call => by simp [am_step, hd, am_len, am_ex, am_go, *]) kk
theorem as_istore {i : Nat} {x : Int32} (hd : decode (am_code mi) pc = .ok (.istore i, 2)) (hm : (i : Nat) < am_maxL mi) (kk : AW X mi (pc + 2, am_st1 L i (.int x), st, n, h, k, j) Q) : AW X mi (pc, L, .int x :: st, n, h, k, j) Q := AW.step (fun call => by simp [am_step, hd, am_len, am_ex, am_go, *]) kk
theorem as_istore_n {i : Fin 4} {x : Int32} (hd : decode (am_code mi) pc = .ok (.istore_n i, 1)) (hm : (i : Nat) < am_maxL mi) (kk : AW X mi (pc + 1, am_st1 L i (.int x), st, n, h, k, j) Q) : AW X mi (pc, L, .int x :: st, n, h, k, j) Q := AW.step (fun call => by simp [am_step, hd, am_len, am_ex, am_go, *]) kk
theorem as_lstore {i : Nat} {x : Int64} (hd : decode (am_code mi) pc = .ok (.lstore i, 2)) (hm : (i : Nat) + 1 < am_maxL mi) (kk : AW X mi (pc + 2, am_st2 L i (.long x), st, n, h, k, j) Q) : AW X mi (pc, L, .long x :: st, n, h, k, j) Q := AW.step (fun call => by simp [am_step, hd, am_len, am_ex, am_go, *]) kk
theorem as_lstore_n {i : Fin 4} {x : Int64} (hd : decode (am_code mi) pc = .ok (.lstore_n i, 1)) (hm : (i : Nat) + 1 < am_maxL mi) (kk : AW X mi (pc + 1, am_st2 L i (.long x), st, n, h, k, j) Q) : AW X mi (pc, L, .long x :: st, n, h, k, j) Q := AW.step (fun call => by simp [am_step, hd, am_len, am_ex, am_go, *]) kk
theorem as_astore_n {i : Fin 4} {x : Nat} (hd : decode (am_code mi) pc = .ok (.astore_n i, 1)) (hm : (i : Nat) < am_maxL mi) (kk : AW X mi (pc + 1, am_st1 L i (.ref x), st, n, h, k, j) Q) : AW X mi (pc, L, .ref x :: st, n, h, k, j) Q := AW.step (fun call => by simp [am_step, hd, am_len, am_ex, am_go, *]) kk
theorem as_iinc {i : Nat} {v : Int} {x : Int32} (hd : decode (am_code mi) pc = .ok (.iinc i v, 3)) (hl : am_ld L i = some (.int x)) (hm : i < am_maxL mi) (kk : AW X mi (pc + 3, am_st1 L i (.int (x + Int32.ofInt v)), st, n, h, k, j) Q) : AW X mi (pc, L, st, n, h, k, j) Q := AW.step (fun call => by simp [am_step, hd, am_len, am_ex, am_go, *]) kk
theorem as_iadd {x y : Int32} (hd : decode (am_code mi) pc = .ok (.iadd, 1)) (kk : AW X mi (pc + 1, L, .int (x + y) :: st, n, h, k, j) Q) : AW X mi (pc, L, .int y :: .int x :: st, n, h, k, j) Q := AW.step (fun call => by simp [am_step, hd, am_len, am_ex, am_go, *]) kk
theorem as_isub {x y : Int32} (hd : decode (am_code mi) pc = .ok (.isub, 1)) (kk : AW X mi (pc + 1, L, .int (x - y) :: st, n, h, k, j) Q) : AW X mi (pc, L, .int y :: .int x :: st, n, h, k, j) Q := AW.step (fun call => by simp [am_step, hd, am_len, am_ex, am_go, *]) kk
theorem as_imul {x y : Int32} (hd : decode (am_code mi) pc = .ok (.imul, 1)) (kk : AW X mi (pc + 1, L, .int (x * y) :: st, n, h, k, j) Q) : AW X mi (pc, L, .int y :: .int x :: st, n, h, k, j) Q := AW.step (fun call => by simp [am_step, hd, am_len, am_ex, am_go, *]) kk
theorem as_iand {x y : Int32} (hd : decode (am_code mi) pc = .ok (.iand, 1)) (kk : AW X mi (pc + 1, L, .int (x &&& y) :: st, n, h, k, j) Q) : AW X mi (pc, L, .int y :: .int x :: st, n, h, k, j) Q := AW.step (fun call => by simp [am_step, hd, am_len, am_ex, am_go, *]) kk
theorem as_ior {x y : Int32} (hd : decode (am_code mi) pc = .ok (.ior, 1)) (kk : AW X mi (pc + 1, L, .int (x ||| y) :: st, n, h, k, j) Q) : AW X mi (pc, L, .int y :: .int x :: st, n, h, k, j) Q := AW.step (fun call => by simp [am_step, hd, am_len, am_ex, am_go, *]) kk
theorem as_ixor {x y : Int32} (hd : decode (am_code mi) pc = .ok (.ixor, 1)) (kk : AW X mi (pc + 1, L, .int (x ^^^ y) :: st, n, h, k, j) Q) : AW X mi (pc, L, .int y :: .int x :: st, n, h, k, j) Q := AW.step (fun call => by simp [am_step, hd, am_len, am_ex, am_go, *]) kk
theorem as_ishl {x y : Int32} (hd : decode (am_code mi) pc = .ok (.ishl, 1)) (kk : AW X mi (pc + 1, L, .int (x <<< (y &&& 31)) :: st, n, h, k, j) Q) : AW X mi (pc, L, .int y :: .int x :: st, n, h, k, j) Q := AW.step (fun call => by simp [am_step, hd, am_len, am_ex, am_go, *]) kk
theorem as_ishr {x y : Int32} (hd : decode (am_code mi) pc = .ok (.ishr, 1)) (kk : AW X mi (pc + 1, L, .int (x >>> (y &&& 31)) :: st, n, h, k, j) Q) : AW X mi (pc, L, .int y :: .int x :: st, n, h, k, j) Q := AW.step (fun call => by simp [am_step, hd, am_len, am_ex, am_go, *]) kk
theorem as_idiv {x y : Int32} (hd : decode (am_code mi) pc = .ok (.idiv, 1)) (hy : ¬ y = 0) (kk : AW X mi (pc + 1, L, .int (x / y) :: st, n, h, k, j) Q) : AW X mi (pc, L, .int y :: .int x :: st, n, h, k, j) Q := AW.step (fun call => by simp [am_step, hd, am_len, am_ex, am_go, *]) kk
theorem as_irem {x y : Int32} (hd : decode (am_code mi) pc = .ok (.irem, 1)) (hy : ¬ y = 0) (kk : AW X mi (pc + 1, L, .int (x - x / y * y) :: st, n, h, k, j) Q) : AW X mi (pc, L, .int y :: .int x :: st, n, h, k, j) Q := AW.step (fun call => by simp [am_step, hd, am_len, am_ex, am_go, *]) kk
theorem as_ineg {x : Int32} (hd : decode (am_code mi) pc = .ok (.ineg, 1)) (kk : AW X mi (pc + 1, L, .int (-x) :: st, n, h, k, j) Q) : AW X mi (pc, L, .int x :: st, n, h, k, j) Q := AW.step (fun call => by simp [am_step, hd, am_len, am_ex, am_go, *]) kk
theorem as_ladd {x y : Int64} (hd : decode (am_code mi) pc = .ok (.ladd, 1)) (kk : AW X mi (pc + 1, L, .long (x + y) :: st, n, h, k, j) Q) : AW X mi (pc, L, .long y :: .long x :: st, n, h, k, j) Q := AW.step (fun call => by simp [am_step, hd, am_len, am_ex, am_go, *]) kk
theorem as_lsub {x y : Int64} (hd : decode (am_code mi) pc = .ok (.lsub, 1)) (kk : AW X mi (pc + 1, L, .long (x - y) :: st, n, h, k, j) Q) : AW X mi (pc, L, .long y :: .long x :: st, n, h, k, j) Q := AW.step (fun call => by simp [am_step, hd, am_len, am_ex, am_go, *]) kk
theorem as_lmul {x y : Int64} (hd : decode (am_code mi) pc = .ok (.lmul, 1)) (kk : AW X mi (pc + 1, L, .long (x * y) :: st, n, h, k, j) Q) : AW X mi (pc, L, .long y :: .long x :: st, n, h, k, j) Q := AW.step (fun call => by simp [am_step, hd, am_len, am_ex, am_go, *]) kk
theorem as_ldiv {x y : Int64} (hd : decode (am_code mi) pc = .ok (.ldiv, 1)) (hy : ¬ y = 0) (kk : AW X mi (pc + 1, L, .long (x / y) :: st, n, h, k, j) Q) : AW X mi (pc, L, .long y :: .long x :: st, n, h, k, j) Q := AW.step (fun call => by simp [am_step, hd, am_len, am_ex, am_go, *]) kk
theorem as_lrem {x y : Int64} (hd : decode (am_code mi) pc = .ok (.lrem, 1)) (hy : ¬ y = 0) (kk : AW X mi (pc + 1, L, .long (x - x / y * y) :: st, n, h, k, j) Q) : AW X mi (pc, L, .long y :: .long x :: st, n, h, k, j) Q := AW.step (fun call => by simp [am_step, hd, am_len, am_ex, am_go, *]) kk
theorem as_lneg {x : Int64} (hd : decode (am_code mi) pc = .ok (.lneg, 1)) (kk : AW X mi (pc + 1, L, .long (-x) :: st, n, h, k, j) Q) : AW X mi (pc, L, .long x :: st, n, h, k, j) Q := AW.step (fun call => by simp [am_step, hd, am_len, am_ex, am_go, *]) kk
theorem as_lcmp {x y : Int64} (hd : decode (am_code mi) pc = .ok (.lcmp, 1)) (kk : AW X mi (pc + 1, L, .int (lg_cmp x y) :: st, n, h, k, j) Q) : AW X mi (pc, L, .long y :: .long x :: st, n, h, k, j) Q := AW.step (fun call => by simp [am_step, hd, am_len, am_ex, am_go, *]) kk
theorem as_i2l {x : Int32} (hd : decode (am_code mi) pc = .ok (.i2l, 1)) (kk : AW X mi (pc + 1, L, .long x.toInt64 :: st, n, h, k, j) Q) : AW X mi (pc, L, .int x :: st, n, h, k, j) Q := AW.step (fun call => by simp [am_step, hd, am_len, am_ex, am_go, *]) kk
theorem as_l2i {x : Int64} (hd : decode (am_code mi) pc = .ok (.l2i, 1)) (kk : AW X mi (pc + 1, L, .int x.toInt32 :: st, n, h, k, j) Q) : AW X mi (pc, L, .long x :: st, n, h, k, j) Q := AW.step (fun call => by simp [am_step, hd, am_len, am_ex, am_go, *]) kk
theorem as_dup {v : Value} (hd : decode (am_code mi) pc = .ok (.dup, 1)) (hc : v.category = 1) (kk : AW X mi (pc + 1, L, v :: v :: st, n, h, k, j) Q) : AW X mi (pc, L, v :: st, n, h, k, j) Q := AW.step (fun call => by simp [am_step, hd, am_len, am_ex, am_go, *]) kk
theorem as_pop {v : Value} (hd : decode (am_code mi) pc = .ok (.pop, 1)) (hc : v.category = 1) (kk : AW X mi (pc + 1, L, st, n, h, k, j) Q) : AW X mi (pc, L, v :: st, n, h, k, j) Q := AW.step (fun call => by simp [am_step, hd, am_len, am_ex, am_go, *]) kk
theorem as_dup2 {v w : Value} (hd : decode (am_code mi) pc = .ok (.dup2, 1)) (hc : v.category = 1) (hc2 : w.category = 1) (kk : AW X mi (pc + 1, L, v :: w :: v :: w :: st, n, h, k, j) Q) : AW X mi (pc, L, v :: w :: st, n, h, k, j) Q := AW.step (fun call => by simp [am_step, hd, am_len, am_ex, am_go, *]) kk
theorem as_goto {o : Int} (t : Nat) (hd : decode (am_code mi) pc = .ok (.goto o, 3)) (ht : (pc : Int) + o = (t : Int)) (kk : AW X mi (t, L, st, n, h, k, j) Q) : AW X mi (pc, L, st, n, h, k, j) Q := AW.step (fun call => by
  have h0 : 0 ≤ (pc : Int) + o := by rw [ht]; exact Int.natCast_nonneg t
  simp [am_step, hd, am_len, am_ex, am_jmp, am_go, ht]) kk
theorem as_if_eq {x : Int32} {o : Int} (t : Nat) (hd : decode (am_code mi) pc = .ok (.ifCond .eq o, 3)) (ht : (pc : Int) + o = (t : Int)) (k1 : x = 0 → AW X mi (t, L, st, n, h, k, j) Q) (k2 : ¬ x = 0 → AW X mi (pc + 3, L, st, n, h, k, j) Q) : AW X mi (pc, L, .int x :: st, n, h, k, j) Q := by
  have h0 : 0 ≤ (pc : Int) + o := by rw [ht]; exact Int.natCast_nonneg t
  have h1 : ((pc : Int) + o).toNat = t := by rw [ht]; exact Int.toNat_natCast t
  by_cases hc : x = 0
  · exact AW.step (fun call => by simp only [am_step, hd, am_len, am_ex, am_br]; rw [if_pos (Or.inr trivial), if_pos h0, if_pos hc, h1]; rfl) (k1 hc)
  · exact AW.step (fun call => by simp only [am_step, hd, am_len, am_ex, am_br]; rw [if_pos (Or.inr trivial), if_pos h0, if_neg hc]; rfl) (k2 (by first | exact hc | exact Classical.not_not.mp hc))
theorem as_if_ne {x : Int32} {o : Int} (t : Nat) (hd : decode (am_code mi) pc = .ok (.ifCond .ne o, 3)) (ht : (pc : Int) + o = (t : Int)) (k1 : ¬ x = 0 → AW X mi (t, L, st, n, h, k, j) Q) (k2 : x = 0 → AW X mi (pc + 3, L, st, n, h, k, j) Q) : AW X mi (pc, L, .int x :: st, n, h, k, j) Q := by
  have h0 : 0 ≤ (pc : Int) + o := by rw [ht]; exact Int.natCast_nonneg t
  have h1 : ((pc : Int) + o).toNat = t := by rw [ht]; exact Int.toNat_natCast t
  by_cases hc : ¬ x = 0
  · exact AW.step (fun call => by simp only [am_step, hd, am_len, am_ex, am_br]; rw [if_pos (Or.inr trivial), if_pos h0, if_pos hc, h1]; rfl) (k1 hc)
  · exact AW.step (fun call => by simp only [am_step, hd, am_len, am_ex, am_br]; rw [if_pos (Or.inr trivial), if_pos h0, if_neg hc]; rfl) (k2 (by first | exact hc | exact Classical.not_not.mp hc))
theorem as_if_lt {x : Int32} {o : Int} (t : Nat) (hd : decode (am_code mi) pc = .ok (.ifCond .lt o, 3)) (ht : (pc : Int) + o = (t : Int)) (k1 : x < 0 → AW X mi (t, L, st, n, h, k, j) Q) (k2 : ¬ x < 0 → AW X mi (pc + 3, L, st, n, h, k, j) Q) : AW X mi (pc, L, .int x :: st, n, h, k, j) Q := by
  have h0 : 0 ≤ (pc : Int) + o := by rw [ht]; exact Int.natCast_nonneg t
  have h1 : ((pc : Int) + o).toNat = t := by rw [ht]; exact Int.toNat_natCast t
  by_cases hc : x < 0
  · exact AW.step (fun call => by simp only [am_step, hd, am_len, am_ex, am_br]; rw [if_pos (Or.inr trivial), if_pos h0, if_pos hc, h1]; rfl) (k1 hc)
  · exact AW.step (fun call => by simp only [am_step, hd, am_len, am_ex, am_br]; rw [if_pos (Or.inr trivial), if_pos h0, if_neg hc]; rfl) (k2 (by first | exact hc | exact Classical.not_not.mp hc))
theorem as_if_ge {x : Int32} {o : Int} (t : Nat) (hd : decode (am_code mi) pc = .ok (.ifCond .ge o, 3)) (ht : (pc : Int) + o = (t : Int)) (k1 : 0 ≤ x → AW X mi (t, L, st, n, h, k, j) Q) (k2 : ¬ 0 ≤ x → AW X mi (pc + 3, L, st, n, h, k, j) Q) : AW X mi (pc, L, .int x :: st, n, h, k, j) Q := by
  have h0 : 0 ≤ (pc : Int) + o := by rw [ht]; exact Int.natCast_nonneg t
  have h1 : ((pc : Int) + o).toNat = t := by rw [ht]; exact Int.toNat_natCast t
  by_cases hc : 0 ≤ x
  · exact AW.step (fun call => by simp only [am_step, hd, am_len, am_ex, am_br]; rw [if_pos (Or.inr trivial), if_pos h0, if_pos hc, h1]; rfl) (k1 hc)
  · exact AW.step (fun call => by simp only [am_step, hd, am_len, am_ex, am_br]; rw [if_pos (Or.inr trivial), if_pos h0, if_neg hc]; rfl) (k2 (by first | exact hc | exact Classical.not_not.mp hc))
theorem as_if_gt {x : Int32} {o : Int} (t : Nat) (hd : decode (am_code mi) pc = .ok (.ifCond .gt o, 3)) (ht : (pc : Int) + o = (t : Int)) (k1 : 0 < x → AW X mi (t, L, st, n, h, k, j) Q) (k2 : ¬ 0 < x → AW X mi (pc + 3, L, st, n, h, k, j) Q) : AW X mi (pc, L, .int x :: st, n, h, k, j) Q := by
  have h0 : 0 ≤ (pc : Int) + o := by rw [ht]; exact Int.natCast_nonneg t
  have h1 : ((pc : Int) + o).toNat = t := by rw [ht]; exact Int.toNat_natCast t
  by_cases hc : 0 < x
  · exact AW.step (fun call => by simp only [am_step, hd, am_len, am_ex, am_br]; rw [if_pos (Or.inr trivial), if_pos h0, if_pos hc, h1]; rfl) (k1 hc)
  · exact AW.step (fun call => by simp only [am_step, hd, am_len, am_ex, am_br]; rw [if_pos (Or.inr trivial), if_pos h0, if_neg hc]; rfl) (k2 (by first | exact hc | exact Classical.not_not.mp hc))
theorem as_if_le {x : Int32} {o : Int} (t : Nat) (hd : decode (am_code mi) pc = .ok (.ifCond .le o, 3)) (ht : (pc : Int) + o = (t : Int)) (k1 : x ≤ 0 → AW X mi (t, L, st, n, h, k, j) Q) (k2 : ¬ x ≤ 0 → AW X mi (pc + 3, L, st, n, h, k, j) Q) : AW X mi (pc, L, .int x :: st, n, h, k, j) Q := by
  have h0 : 0 ≤ (pc : Int) + o := by rw [ht]; exact Int.natCast_nonneg t
  have h1 : ((pc : Int) + o).toNat = t := by rw [ht]; exact Int.toNat_natCast t
  by_cases hc : x ≤ 0
  · exact AW.step (fun call => by simp only [am_step, hd, am_len, am_ex, am_br]; rw [if_pos (Or.inr trivial), if_pos h0, if_pos hc, h1]; rfl) (k1 hc)
  · exact AW.step (fun call => by simp only [am_step, hd, am_len, am_ex, am_br]; rw [if_pos (Or.inr trivial), if_pos h0, if_neg hc]; rfl) (k2 (by first | exact hc | exact Classical.not_not.mp hc))
theorem as_icmp_eq {x y : Int32} {o : Int} (t : Nat) (hd : decode (am_code mi) pc = .ok (.if_icmp .eq o, 3)) (ht : (pc : Int) + o = (t : Int)) (k1 : x = y → AW X mi (t, L, st, n, h, k, j) Q) (k2 : ¬ x = y → AW X mi (pc + 3, L, st, n, h, k, j) Q) : AW X mi (pc, L, .int y :: .int x :: st, n, h, k, j) Q := by
  have h0 : 0 ≤ (pc : Int) + o := by rw [ht]; exact Int.natCast_nonneg t
  have h1 : ((pc : Int) + o).toNat = t := by rw [ht]; exact Int.toNat_natCast t
  by_cases hc : x = y
  · exact AW.step (fun call => by simp only [am_step, hd, am_len, am_ex, am_br]; rw [if_pos (Or.inr trivial), if_pos h0, if_pos hc, h1]; rfl) (k1 hc)
  · exact AW.step (fun call => by simp only [am_step, hd, am_len, am_ex, am_br]; rw [if_pos (Or.inr trivial), if_pos h0, if_neg hc]; rfl) (k2 (by first | exact hc | exact Classical.not_not.mp hc))
theorem as_icmp_ne {x y : Int32} {o : Int} (t : Nat) (hd : decode (am_code mi) pc = .ok (.if_icmp .ne o, 3)) (ht : (pc : Int) + o = (t : Int)) (k1 : ¬ x = y → AW X mi (t, L, st, n, h, k, j) Q) (k2 : x = y → AW X mi (pc + 3, L, st, n, h, k, j) Q) : AW X mi (pc, L, .int y :: .int x :: st, n, h, k, j) Q := by
  have h0 : 0 ≤ (pc : Int) + o := by rw [ht]; exact Int.natCast_nonneg t
  have h1 : ((pc : Int) + o).toNat = t := by rw [ht]; exact Int.toNat_natCast t
  by_cases hc : ¬ x = y
  · exact AW.step (fun call => by simp only [am_step, hd, am_len, am_ex, am_br]; rw [if_pos (Or.inr trivial), if_pos h0, if_pos hc, h1]; rfl) (k1 hc)
  · exact AW.step (fun call => by simp only [am_step, hd, am_len, am_ex, am_br]; rw [if_pos (Or.inr trivial), if_pos h0, if_neg hc]; rfl) (k2 (by first | exact hc | exact Classical.not_not.mp hc))
theorem as_icmp_lt {x y : Int32} {o : Int} (t : Nat) (hd : decode (am_code mi) pc = .ok (.if_icmp .lt o, 3)) (ht : (pc : Int) + o = (t : Int)) (k1 : x < y → AW X mi (t, L, st, n, h, k, j) Q) (k2 : ¬ x < y → AW X mi (pc + 3, L, st, n, h, k, j) Q) : AW X mi (pc, L, .int y :: .int x :: st, n, h, k, j) Q := by
  have h0 : 0 ≤ (pc : Int) + o := by rw [ht]; exact Int.natCast_nonneg t
  have h1 : ((pc : Int) + o).toNat = t := by rw [ht]; exact Int.toNat_natCast t
  by_cases hc : x < y
  · exact AW.step (fun call => by simp only [am_step, hd, am_len, am_ex, am_br]; rw [if_pos (Or.inr trivial), if_pos h0, if_pos hc, h1]; rfl) (k1 hc)
  · exact AW.step (fun call => by simp only [am_step, hd, am_len, am_ex, am_br]; rw [if_pos (Or.inr trivial), if_pos h0, if_neg hc]; rfl) (k2 (by first | exact hc | exact Classical.not_not.mp hc))
theorem as_icmp_ge {x y : Int32} {o : Int} (t : Nat) (hd : decode (am_code mi) pc = .ok (.if_icmp .ge o, 3)) (ht : (pc : Int) + o = (t : Int)) (k1 : y ≤ x → AW X mi (t, L, st, n, h, k, j) Q) (k2 : ¬ y ≤ x → AW X mi (pc + 3, L, st, n, h, k, j) Q) : AW X mi (pc, L, .int y :: .int x :: st, n, h, k, j) Q := by
  have h0 : 0 ≤ (pc : Int) + o := by rw [ht]; exact Int.natCast_nonneg t
  have h1 : ((pc : Int) + o).toNat = t := by rw [ht]; exact Int.toNat_natCast t
  by_cases hc : y ≤ x
  · exact AW.step (fun call => by simp only [am_step, hd, am_len, am_ex, am_br]; rw [if_pos (Or.inr trivial), if_pos h0, if_pos hc, h1]; rfl) (k1 hc)
  · exact AW.step (fun call => by simp only [am_step, hd, am_len, am_ex, am_br]; rw [if_pos (Or.inr trivial), if_pos h0, if_neg hc]; rfl) (k2 (by first | exact hc | exact Classical.not_not.mp hc))
theorem as_icmp_gt {x y : Int32} {o : Int} (t : Nat) (hd : decode (am_code mi) pc = .ok (.if_icmp .gt o, 3)) (ht : (pc : Int) + o = (t : Int)) (k1 : y < x → AW X mi (t, L, st, n, h, k, j) Q) (k2 : ¬ y < x → AW X mi (pc + 3, L, st, n, h, k, j) Q) : AW X mi (pc, L, .int y :: .int x :: st, n, h, k, j) Q := by
  have h0 : 0 ≤ (pc : Int) + o := by rw [ht]; exact Int.natCast_nonneg t
  have h1 : ((pc : Int) + o).toNat = t := by rw [ht]; exact Int.toNat_natCast t
  by_cases hc : y < x
  · exact AW.step (fun call => by simp only [am_step, hd, am_len, am_ex, am_br]; rw [if_pos (Or.inr trivial), if_pos h0, if_pos hc, h1]; rfl) (k1 hc)
  · exact AW.step (fun call => by simp only [am_step, hd, am_len, am_ex, am_br]; rw [if_pos (Or.inr trivial), if_pos h0, if_neg hc]; rfl) (k2 (by first | exact hc | exact Classical.not_not.mp hc))
theorem as_icmp_le {x y : Int32} {o : Int} (t : Nat) (hd : decode (am_code mi) pc = .ok (.if_icmp .le o, 3)) (ht : (pc : Int) + o = (t : Int)) (k1 : x ≤ y → AW X mi (t, L, st, n, h, k, j) Q) (k2 : ¬ x ≤ y → AW X mi (pc + 3, L, st, n, h, k, j) Q) : AW X mi (pc, L, .int y :: .int x :: st, n, h, k, j) Q := by
  have h0 : 0 ≤ (pc : Int) + o := by rw [ht]; exact Int.natCast_nonneg t
  have h1 : ((pc : Int) + o).toNat = t := by rw [ht]; exact Int.toNat_natCast t
  by_cases hc : x ≤ y
  · exact AW.step (fun call => by simp only [am_step, hd, am_len, am_ex, am_br]; rw [if_pos (Or.inr trivial), if_pos h0, if_pos hc, h1]; rfl) (k1 hc)
  · exact AW.step (fun call => by simp only [am_step, hd, am_len, am_ex, am_br]; rw [if_pos (Or.inr trivial), if_pos h0, if_neg hc]; rfl) (k2 (by first | exact hc | exact Classical.not_not.mp hc))
theorem as_get {q ci f a : Nat} {fs : List Value} {v : Value} (hd : decode (am_code mi) pc = .ok (.getfield q, 3)) (hf : am_find am_ftL (am_mc mi) q = some (ci, f)) (ha : a < n) (hh : h a = .inr (ci, fs)) (hv : fs[f]? = some v) (kk : AW X mi (pc + 3, L, v :: st, n, h, k, j) Q) : AW X mi (pc, L, .ref a :: st, n, h, k, j) Q := AW.step (fun call => by simp [am_step, hd, am_len, am_ex, am_go, am_get, hf, hh, ha, hv]) kk
theorem as_put {q ci f a : Nat} {fs : List Value} {v : Value} {h1 : am_H} (hd : decode (am_code mi) pc = .ok (.putfield q, 3)) (hf : am_find am_ftL (am_mc mi) q = some (ci, f)) (ha : a < n) (hh : h a = .inr (ci, fs)) (hl : f < fs.length) (hv : am_okv (am_ty ci f) v = true) (hfin : ((am_C ci).2.1 f).2.2.2 = false) (hu : am_up h a (.inr (ci, fs.set f v)) = h1) (kk : AW X mi (pc + 3, L, st, n, h1, k, j) Q) : AW X mi (pc, L, v :: .ref a :: st, n, h, k, j) Q := AW.step (fun call => by simp [am_step, hd, am_len, am_ex, am_go, am_put, hf, hh, ha, hl, hv, hfin, hu]) kk
theorem as_iald {a len : Nat} {f : Nat → Int32} {i : Int32} (hd : decode (am_code mi) pc = .ok (.iaload, 1)) (ha : a < n) (hh : h a = .inl (0, len, .inl f)) (hi : am_in i len = true) (kk : AW X mi (pc + 1, L, .int (f i.toNatClampNeg) :: st, n, h, k, j) Q) : AW X mi (pc, L, .int i :: .ref a :: st, n, h, k, j) Q := AW.step (fun call => by simp [am_step, hd, am_len, am_ex, am_go, am_aload, hh, ha, hi]) kk
theorem as_zald {a len : Nat} {f : Nat → Int32} {i : Int32} (hd : decode (am_code mi) pc = .ok (.baload, 1)) (ha : a < n) (hh : h a = .inl (2, len, .inl f)) (hi : am_in i len = true) (kk : AW X mi (pc + 1, L, .int (f i.toNatClampNeg) :: st, n, h, k, j) Q) : AW X mi (pc, L, .int i :: .ref a :: st, n, h, k, j) Q := AW.step (fun call => by simp [am_step, hd, am_len, am_ex, am_go, am_aload, hh, ha, hi]) kk
theorem as_fald {u : UInt32} {i : Int32} (hd : decode (am_code mi) pc = .ok (.iaload, 1)) (hu : u.toNat < 5) (hi : am_in i (am_sx X u.toNat).1 = true) (kk : AW X mi (pc + 1, L, .int ((am_sx X u.toNat).2 i.toNatClampNeg) :: st, n, h, k, j) Q) : AW X mi (pc, L, .int i :: .float u :: st, n, h, k, j) Q := AW.step (fun call => by simp [am_step, hd, am_len, am_ex, am_go, am_aload, hu, hi]) kk
theorem as_gets {q u b : Nat} (hd : decode (am_code mi) pc = .ok (.getstatic q, 3)) (hf : am_find am_gtL (am_mc mi) q = some (u, b)) (kk : AW X mi (pc + 3, L, .float (UInt32.ofNat u) :: st, n, h, k, j) Q) : AW X mi (pc, L, st, n, h, k, j) Q := AW.step (fun call => by simp [am_step, hd, am_len, am_ex, am_go, hf]) kk
theorem as_lald {a len : Nat} {f : Nat → Int64} {i : Int32} (hd : decode (am_code mi) pc = .ok (.laload, 1)) (ha : a < n) (hh : h a = .inl (1, len, .inr (.inl f))) (hi : am_in i len = true) (kk : AW X mi (pc + 1, L, .long (f i.toNatClampNeg) :: st, n, h, k, j) Q) : AW X mi (pc, L, .int i :: .ref a :: st, n, h, k, j) Q := AW.step (fun call => by simp [am_step, hd, am_len, am_ex, am_go, am_lald, hh, ha, hi]) kk
theorem as_aald {a t len y : Nat} {f : Nat → Option Nat} {i : Int32} (hd : decode (am_code mi) pc = .ok (.aaload, 1)) (ha : a < n) (hh : h a = .inl (t, len, .inr (.inr (.inr (.inr f))))) (ht : t = 3 ∨ t = 4) (hi : am_in i len = true) (hy : f i.toNatClampNeg = some y) (kk : AW X mi (pc + 1, L, .ref y :: st, n, h, k, j) Q) : AW X mi (pc, L, .int i :: .ref a :: st, n, h, k, j) Q := AW.step (fun call => by simp [am_step, hd, am_len, am_ex, am_go, am_aald, hh, ha, hi, ht, hy, va_rf]) kk
theorem as_iast {a len : Nat} {f : Nat → Int32} {i x : Int32} {h1 : am_H} (hd : decode (am_code mi) pc = .ok (.iastore, 1)) (ha : a < n) (hh : h a = .inl (0, len, .inl f)) (hi : am_in i len = true) (hu : am_up h a (.inl (0, len, .inl (upd f i.toNatClampNeg x))) = h1) (kk : AW X mi (pc + 1, L, st, n, h1, k, j) Q) : AW X mi (pc, L, .int x :: .int i :: .ref a :: st, n, h, k, j) Q := AW.step (fun call => by simp [am_step, hd, am_len, am_ex, am_go, am_astore, hh, ha, hi, hu]) kk
theorem as_zast {a len : Nat} {f : Nat → Int32} {i x : Int32} {h1 : am_H} (hd : decode (am_code mi) pc = .ok (.bastore, 1)) (ha : a < n) (hh : h a = .inl (2, len, .inl f)) (hi : am_in i len = true) (hu : am_up h a (.inl (2, len, .inl (upd f i.toNatClampNeg (vp_nar .boolean x)))) = h1) (kk : AW X mi (pc + 1, L, st, n, h1, k, j) Q) : AW X mi (pc, L, .int x :: .int i :: .ref a :: st, n, h, k, j) Q := AW.step (fun call => by simp [am_step, hd, am_len, am_ex, am_go, am_astore, hh, ha, hi, hu]) kk
theorem as_last {a len : Nat} {f : Nat → Int64} {i : Int32} {x : Int64} {h1 : am_H} (hd : decode (am_code mi) pc = .ok (.lastore, 1)) (ha : a < n) (hh : h a = .inl (1, len, .inr (.inl f))) (hi : am_in i len = true) (hu : am_up h a (.inl (1, len, .inr (.inl (vp_updL f i.toNatClampNeg x)))) = h1) (kk : AW X mi (pc + 1, L, st, n, h1, k, j) Q) : AW X mi (pc, L, .long x :: .int i :: .ref a :: st, n, h, k, j) Q := AW.step (fun call => by simp [am_step, hd, am_len, am_ex, am_go, am_last, hh, ha, hi, hu]) kk
theorem as_aast {a v t u len len2 : Nat} {f : Nat → Option Nat} {g : (Nat → Int32) ⊕ (Nat → Int64) ⊕ (Nat → UInt32) ⊕ (Nat → UInt64) ⊕ (Nat → Option Nat)} {i : Int32} {h1 : am_H} (hd : decode (am_code mi) pc = .ok (.aastore, 1)) (ha : a < n) (hv : v < n) (hh : h a = .inl (t, len, .inr (.inr (.inr (.inr f))))) (hh2 : h v = .inl (u, len2, g)) (ht : t = 3 ∧ u = 0 ∨ t = 4 ∧ u = 1) (hi : am_in i len = true) (hu : am_up h a (.inl (t, len, .inr (.inr (.inr (.inr (va_up f i.toNatClampNeg (some v))))))) = h1) (kk : AW X mi (pc + 1, L, st, n, h1, k, j) Q) : AW X mi (pc, L, .ref v :: .int i :: .ref a :: st, n, h, k, j) Q := AW.step (fun call => by simp [am_step, hd, am_len, am_ex, am_go, am_aast, hh, hh2, ha, hv, hi, ht, hu]) kk
theorem as_alen {a t len : Nat} {g : (Nat → Int32) ⊕ (Nat → Int64) ⊕ (Nat → UInt32) ⊕ (Nat → UInt64) ⊕ (Nat → Option Nat)} (hd : decode (am_code mi) pc = .ok (.arraylength, 1)) (ha : a < n) (hh : h a = .inl (t, len, g)) (ht : t < 5) (kk : AW X mi (pc + 1, L, .int (Int32.ofNat len) :: st, n, h, k, j) Q) : AW X mi (pc, L, .ref a :: st, n, h, k, j) Q := AW.step (fun call => by simp [am_step, hd, am_len, am_ex, am_go, am_alen, hh, ha, ht]) kk
theorem as_flen {u : UInt32} (hd : decode (am_code mi) pc = .ok (.arraylength, 1)) (hu : u.toNat < 5) (kk : AW X mi (pc + 1, L, .int (Int32.ofNat (am_sx X u.toNat).1) :: st, n, h, k, j) Q) : AW X mi (pc, L, .float u :: st, n, h, k, j) Q := AW.step (fun call => by simp [am_step, hd, am_len, am_ex, am_go, am_alen, hu]) kk
theorem as_ireturn {v : Int32} (hd : decode (am_code mi) pc = .ok (.ireturn, 1)) (hr : am_ret1 (am_ret mi) v = true) (hq : Q (some (.int v), n, h, k, j)) : AW X mi (pc, L, [.int v], n, h, k, j) Q := AW.ret (fun call => by simp [am_step, hd, am_len, am_ex, hr]) hq
theorem as_lreturn {v : Int64} (hd : decode (am_code mi) pc = .ok (.lreturn, 1)) (hr : am_ret mi = some .long) (hq : Q (some (.long v), n, h, k, j)) : AW X mi (pc, L, [.long v], n, h, k, j) Q := AW.ret (fun call => by simp [am_step, hd, am_len, am_ex, hr]) hq
theorem as_return (hd : decode (am_code mi) pc = .ok (.return_, 1)) (hr : am_ret mi = none) (hq : Q (none, n, h, k, j)) : AW X mi (pc, L, [], n, h, k, j) Q := AW.ret (fun call => by simp [am_step, hd, am_len, am_ex, hr]) hq
end AR
end
