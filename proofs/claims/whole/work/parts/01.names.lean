-- ===== PART A: goes FIRST, ahead of the names: the tables' words, and 'selects' of the private methods out of them =====
/-- a private method of a class that the tables say can be made, by its rows of tables_1 -/
def lw_okq (q : MethodName × Nat) : Prop := (q.1.cls ≠ "java/lang/invoke/MethodHandle" ∧ q.1.cls ≠ "java/lang/invoke/VarHandle") ∧ Cond.instantiable q.1.cls q.2 ∈ tables_1 ∧ Cond.privateMethod q.1 ∈ tables_1 ∧ Cond.instanceMethod q.1 ∈ tables_1
theorem lw_p0 : lw_okq (⟨"SaysBath", "putBytes", "(I)V"⟩, 12) := ⟨⟨by decide +kernel, by decide +kernel⟩, List.mem_of_getElem? (i := 19) (by decide +kernel), List.mem_of_getElem? (i := 355) (by decide +kernel), List.mem_of_getElem? (i := 356) (by decide +kernel)⟩
theorem lw_p1 : lw_okq (⟨"SaysBath$Reader", "advance", "()V"⟩, 9) := ⟨⟨by decide +kernel, by decide +kernel⟩, List.mem_of_getElem? (i := 27) (by decide +kernel), List.mem_of_getElem? (i := 382) (by decide +kernel), List.mem_of_getElem? (i := 383) (by decide +kernel)⟩
theorem lw_p2 : lw_okq (⟨"SaysBath$Reader", "tryWord", "(Ljava/lang/String;)Z"⟩, 9) := ⟨⟨by decide +kernel, by decide +kernel⟩, List.mem_of_getElem? (i := 27) (by decide +kernel), List.mem_of_getElem? (i := 391) (by decide +kernel), List.mem_of_getElem? (i := 392) (by decide +kernel)⟩
theorem lw_p3 : lw_okq (⟨"SaysBath$Reader", "readVillage", "(I)V"⟩, 9) := ⟨⟨by decide +kernel, by decide +kernel⟩, List.mem_of_getElem? (i := 27) (by decide +kernel), List.mem_of_getElem? (i := 443) (by decide +kernel), List.mem_of_getElem? (i := 444) (by decide +kernel)⟩
theorem lw_p4 : lw_okq (⟨"SaysBath$Reader", "refuseBeyond", "(III)V"⟩, 9) := ⟨⟨by decide +kernel, by decide +kernel⟩, List.mem_of_getElem? (i := 27) (by decide +kernel), List.mem_of_getElem? (i := 447) (by decide +kernel), List.mem_of_getElem? (i := 448) (by decide +kernel)⟩
theorem lw_p5 : lw_okq (⟨"SaysBath$Reader", "refuse", "(II)V"⟩, 9) := ⟨⟨by decide +kernel, by decide +kernel⟩, List.mem_of_getElem? (i := 27) (by decide +kernel), List.mem_of_getElem? (i := 451) (by decide +kernel), List.mem_of_getElem? (i := 452) (by decide +kernel)⟩
theorem lw_p6 : lw_okq (⟨"SaysBath$Reader", "takeWord", "(Ljava/lang/String;)V"⟩, 9) := ⟨⟨by decide +kernel, by decide +kernel⟩, List.mem_of_getElem? (i := 27) (by decide +kernel), List.mem_of_getElem? (i := 456) (by decide +kernel), List.mem_of_getElem? (i := 457) (by decide +kernel)⟩
theorem lw_p7 : lw_okq (⟨"SaysBath$Reader", "takeNumber", "(II)I"⟩, 9) := ⟨⟨by decide +kernel, by decide +kernel⟩, List.mem_of_getElem? (i := 27) (by decide +kernel), List.mem_of_getElem? (i := 460) (by decide +kernel), List.mem_of_getElem? (i := 461) (by decide +kernel)⟩
theorem lw_p8 : lw_okq (⟨"SaysBath$Reader", "takeStop", "()V"⟩, 9) := ⟨⟨by decide +kernel, by decide +kernel⟩, List.mem_of_getElem? (i := 27) (by decide +kernel), List.mem_of_getElem? (i := 464) (by decide +kernel), List.mem_of_getElem? (i := 465) (by decide +kernel)⟩
theorem lw_p9 : lw_okq (⟨"SaysBath$Reader", "readRoad", "(I)V"⟩, 9) := ⟨⟨by decide +kernel, by decide +kernel⟩, List.mem_of_getElem? (i := 27) (by decide +kernel), List.mem_of_getElem? (i := 473) (by decide +kernel), List.mem_of_getElem? (i := 474) (by decide +kernel)⟩
theorem lw_p10 : lw_okq (⟨"SaysBath$Land", "hasRoad", "(II)Z"⟩, 13) := ⟨⟨by decide +kernel, by decide +kernel⟩, List.mem_of_getElem? (i := 33) (by decide +kernel), List.mem_of_getElem? (i := 482) (by decide +kernel), List.mem_of_getElem? (i := 483) (by decide +kernel)⟩
theorem lw_p11 : lw_okq (⟨"SaysBath$Reader", "readItem", "(I)V"⟩, 9) := ⟨⟨by decide +kernel, by decide +kernel⟩, List.mem_of_getElem? (i := 27) (by decide +kernel), List.mem_of_getElem? (i := 487) (by decide +kernel), List.mem_of_getElem? (i := 488) (by decide +kernel)⟩
theorem lw_p12 : lw_okq (⟨"SaysBath$Reader", "readSaying", "()V"⟩, 9) := ⟨⟨by decide +kernel, by decide +kernel⟩, List.mem_of_getElem? (i := 27) (by decide +kernel), List.mem_of_getElem? (i := 498) (by decide +kernel), List.mem_of_getElem? (i := 499) (by decide +kernel)⟩
theorem lw_p13 : lw_okq (⟨"SaysBath$Reader", "highestVariant", "(I)I"⟩, 9) := ⟨⟨by decide +kernel, by decide +kernel⟩, List.mem_of_getElem? (i := 27) (by decide +kernel), List.mem_of_getElem? (i := 506) (by decide +kernel), List.mem_of_getElem? (i := 507) (by decide +kernel)⟩
theorem lw_p14 : lw_okq (⟨"SaysBath$Reader", "readLaw", "(I)V"⟩, 9) := ⟨⟨by decide +kernel, by decide +kernel⟩, List.mem_of_getElem? (i := 27) (by decide +kernel), List.mem_of_getElem? (i := 515) (by decide +kernel), List.mem_of_getElem? (i := 516) (by decide +kernel)⟩
theorem lw_p15 : lw_okq (⟨"SaysBath$Reader", "readSum", "(I)V"⟩, 9) := ⟨⟨by decide +kernel, by decide +kernel⟩, List.mem_of_getElem? (i := 27) (by decide +kernel), List.mem_of_getElem? (i := 521) (by decide +kernel), List.mem_of_getElem? (i := 522) (by decide +kernel)⟩
def lw_privs_1 : List (MethodName × Nat) := [(⟨"SaysBath", "putBytes", "(I)V"⟩, 12), (⟨"SaysBath$Reader", "advance", "()V"⟩, 9), (⟨"SaysBath$Reader", "tryWord", "(Ljava/lang/String;)Z"⟩, 9), (⟨"SaysBath$Reader", "readVillage", "(I)V"⟩, 9), (⟨"SaysBath$Reader", "refuseBeyond", "(III)V"⟩, 9), (⟨"SaysBath$Reader", "refuse", "(II)V"⟩, 9), (⟨"SaysBath$Reader", "takeWord", "(Ljava/lang/String;)V"⟩, 9), (⟨"SaysBath$Reader", "takeNumber", "(II)I"⟩, 9), (⟨"SaysBath$Reader", "takeStop", "()V"⟩, 9), (⟨"SaysBath$Reader", "readRoad", "(I)V"⟩, 9), (⟨"SaysBath$Land", "hasRoad", "(II)Z"⟩, 13), (⟨"SaysBath$Reader", "readItem", "(I)V"⟩, 9), (⟨"SaysBath$Reader", "readSaying", "()V"⟩, 9), (⟨"SaysBath$Reader", "highestVariant", "(I)I"⟩, 9), (⟨"SaysBath$Reader", "readLaw", "(I)V"⟩, 9), (⟨"SaysBath$Reader", "readSum", "(I)V"⟩, 9)]
theorem lw_r1 : ∀ q ∈ lw_privs_1, lw_okq q := List.forall_mem_cons.mpr ⟨lw_p0, List.forall_mem_cons.mpr ⟨lw_p1, List.forall_mem_cons.mpr ⟨lw_p2, List.forall_mem_cons.mpr ⟨lw_p3, List.forall_mem_cons.mpr ⟨lw_p4, List.forall_mem_cons.mpr ⟨lw_p5, List.forall_mem_cons.mpr ⟨lw_p6, List.forall_mem_cons.mpr ⟨lw_p7, List.forall_mem_cons.mpr ⟨lw_p8, List.forall_mem_cons.mpr ⟨lw_p9, List.forall_mem_cons.mpr ⟨lw_p10, List.forall_mem_cons.mpr ⟨lw_p11, List.forall_mem_cons.mpr ⟨lw_p12, List.forall_mem_cons.mpr ⟨lw_p13, List.forall_mem_cons.mpr ⟨lw_p14, List.forall_mem_cons.mpr ⟨lw_p15, fun _ h => absurd h List.not_mem_nil⟩⟩⟩⟩⟩⟩⟩⟩⟩⟩⟩⟩⟩⟩⟩⟩
theorem lw_p16 : lw_okq (⟨"SaysBath$Reader", "readPart", "(II)V"⟩, 9) := ⟨⟨by decide +kernel, by decide +kernel⟩, List.mem_of_getElem? (i := 27) (by decide +kernel), List.mem_of_getElem? (i := 525) (by decide +kernel), List.mem_of_getElem? (i := 526) (by decide +kernel)⟩
theorem lw_p17 : lw_okq (⟨"SaysBath$Reader", "takeSign", "()I"⟩, 9) := ⟨⟨by decide +kernel, by decide +kernel⟩, List.mem_of_getElem? (i := 27) (by decide +kernel), List.mem_of_getElem? (i := 539) (by decide +kernel), List.mem_of_getElem? (i := 540) (by decide +kernel)⟩
theorem lw_p18 : lw_okq (⟨"SaysBath", "hasVillage", "(I)Z"⟩, 12) := ⟨⟨by decide +kernel, by decide +kernel⟩, List.mem_of_getElem? (i := 19) (by decide +kernel), List.mem_of_getElem? (i := 561) (by decide +kernel), List.mem_of_getElem? (i := 562) (by decide +kernel)⟩
theorem lw_p19 : lw_okq (⟨"SaysBath", "reachesItem", "(II)Z"⟩, 12) := ⟨⟨by decide +kernel, by decide +kernel⟩, List.mem_of_getElem? (i := 19) (by decide +kernel), List.mem_of_getElem? (i := 565) (by decide +kernel), List.mem_of_getElem? (i := 566) (by decide +kernel)⟩
theorem lw_p20 : lw_okq (⟨"SaysBath", "hasItem", "(I)Z"⟩, 12) := ⟨⟨by decide +kernel, by decide +kernel⟩, List.mem_of_getElem? (i := 19) (by decide +kernel), List.mem_of_getElem? (i := 569) (by decide +kernel), List.mem_of_getElem? (i := 570) (by decide +kernel)⟩
theorem lw_p21 : lw_okq (⟨"SaysBath$Spread", "startYears", "(I)V"⟩, 6) := ⟨⟨by decide +kernel, by decide +kernel⟩, List.mem_of_getElem? (i := 265) (by decide +kernel), List.mem_of_getElem? (i := 580) (by decide +kernel), List.mem_of_getElem? (i := 581) (by decide +kernel)⟩
theorem lw_p22 : lw_okq (⟨"SaysBath$Spread", "meet", "(IIIIZ)V"⟩, 6) := ⟨⟨by decide +kernel, by decide +kernel⟩, List.mem_of_getElem? (i := 265) (by decide +kernel), List.mem_of_getElem? (i := 596) (by decide +kernel), List.mem_of_getElem? (i := 597) (by decide +kernel)⟩
theorem lw_p23 : lw_okq (⟨"SaysBath$Spread", "isHolding", "(III)Z"⟩, 6) := ⟨⟨by decide +kernel, by decide +kernel⟩, List.mem_of_getElem? (i := 265) (by decide +kernel), List.mem_of_getElem? (i := 608) (by decide +kernel), List.mem_of_getElem? (i := 609) (by decide +kernel)⟩
theorem lw_p24 : lw_okq (⟨"SaysBath$Spread", "workOut", "(IIII)J"⟩, 6) := ⟨⟨by decide +kernel, by decide +kernel⟩, List.mem_of_getElem? (i := 265) (by decide +kernel), List.mem_of_getElem? (i := 612) (by decide +kernel), List.mem_of_getElem? (i := 613) (by decide +kernel)⟩
theorem lw_p25 : lw_okq (⟨"SaysBath$Spread", "valueOf", "(III)J"⟩, 6) := ⟨⟨by decide +kernel, by decide +kernel⟩, List.mem_of_getElem? (i := 265) (by decide +kernel), List.mem_of_getElem? (i := 616) (by decide +kernel), List.mem_of_getElem? (i := 617) (by decide +kernel)⟩
theorem lw_p26 : lw_okq (⟨"SaysBath", "countLines", "(IIZ)I"⟩, 12) := ⟨⟨by decide +kernel, by decide +kernel⟩, List.mem_of_getElem? (i := 19) (by decide +kernel), List.mem_of_getElem? (i := 634) (by decide +kernel), List.mem_of_getElem? (i := 635) (by decide +kernel)⟩
theorem lw_p27 : lw_okq (⟨"SaysBath", "isLine", "(III)Z"⟩, 12) := ⟨⟨by decide +kernel, by decide +kernel⟩, List.mem_of_getElem? (i := 19) (by decide +kernel), List.mem_of_getElem? (i := 638) (by decide +kernel), List.mem_of_getElem? (i := 639) (by decide +kernel)⟩
theorem lw_p28 : lw_okq (⟨"SaysBath", "reachesYear", "(I)Z"⟩, 12) := ⟨⟨by decide +kernel, by decide +kernel⟩, List.mem_of_getElem? (i := 19) (by decide +kernel), List.mem_of_getElem? (i := 646) (by decide +kernel), List.mem_of_getElem? (i := 647) (by decide +kernel)⟩
theorem lw_p29 : lw_okq (⟨"SaysBath", "bundleOf", "(II)I"⟩, 12) := ⟨⟨by decide +kernel, by decide +kernel⟩, List.mem_of_getElem? (i := 19) (by decide +kernel), List.mem_of_getElem? (i := 650) (by decide +kernel), List.mem_of_getElem? (i := 651) (by decide +kernel)⟩
theorem lw_p30 : lw_okq (⟨"SaysBath", "fillBundles", "(I)V"⟩, 12) := ⟨⟨by decide +kernel, by decide +kernel⟩, List.mem_of_getElem? (i := 19) (by decide +kernel), List.mem_of_getElem? (i := 658) (by decide +kernel), List.mem_of_getElem? (i := 659) (by decide +kernel)⟩
theorem lw_p31 : lw_okq (⟨"SaysBath", "labelAreas", "(II)V"⟩, 12) := ⟨⟨by decide +kernel, by decide +kernel⟩, List.mem_of_getElem? (i := 19) (by decide +kernel), List.mem_of_getElem? (i := 670) (by decide +kernel), List.mem_of_getElem? (i := 671) (by decide +kernel)⟩
def lw_privs_2 : List (MethodName × Nat) := [(⟨"SaysBath$Reader", "readPart", "(II)V"⟩, 9), (⟨"SaysBath$Reader", "takeSign", "()I"⟩, 9), (⟨"SaysBath", "hasVillage", "(I)Z"⟩, 12), (⟨"SaysBath", "reachesItem", "(II)Z"⟩, 12), (⟨"SaysBath", "hasItem", "(I)Z"⟩, 12), (⟨"SaysBath$Spread", "startYears", "(I)V"⟩, 6), (⟨"SaysBath$Spread", "meet", "(IIIIZ)V"⟩, 6), (⟨"SaysBath$Spread", "isHolding", "(III)Z"⟩, 6), (⟨"SaysBath$Spread", "workOut", "(IIII)J"⟩, 6), (⟨"SaysBath$Spread", "valueOf", "(III)J"⟩, 6), (⟨"SaysBath", "countLines", "(IIZ)I"⟩, 12), (⟨"SaysBath", "isLine", "(III)Z"⟩, 12), (⟨"SaysBath", "reachesYear", "(I)Z"⟩, 12), (⟨"SaysBath", "bundleOf", "(II)I"⟩, 12), (⟨"SaysBath", "fillBundles", "(I)V"⟩, 12), (⟨"SaysBath", "labelAreas", "(II)V"⟩, 12)]
theorem lw_r2 : ∀ q ∈ lw_privs_2, lw_okq q := List.forall_mem_cons.mpr ⟨lw_p16, List.forall_mem_cons.mpr ⟨lw_p17, List.forall_mem_cons.mpr ⟨lw_p18, List.forall_mem_cons.mpr ⟨lw_p19, List.forall_mem_cons.mpr ⟨lw_p20, List.forall_mem_cons.mpr ⟨lw_p21, List.forall_mem_cons.mpr ⟨lw_p22, List.forall_mem_cons.mpr ⟨lw_p23, List.forall_mem_cons.mpr ⟨lw_p24, List.forall_mem_cons.mpr ⟨lw_p25, List.forall_mem_cons.mpr ⟨lw_p26, List.forall_mem_cons.mpr ⟨lw_p27, List.forall_mem_cons.mpr ⟨lw_p28, List.forall_mem_cons.mpr ⟨lw_p29, List.forall_mem_cons.mpr ⟨lw_p30, List.forall_mem_cons.mpr ⟨lw_p31, fun _ h => absurd h List.not_mem_nil⟩⟩⟩⟩⟩⟩⟩⟩⟩⟩⟩⟩⟩⟩⟩⟩
theorem lw_p32 : lw_okq (⟨"SaysBath", "clearUntold", "()V"⟩, 12) := ⟨⟨by decide +kernel, by decide +kernel⟩, List.mem_of_getElem? (i := 19) (by decide +kernel), List.mem_of_getElem? (i := 703) (by decide +kernel), List.mem_of_getElem? (i := 704) (by decide +kernel)⟩
theorem lw_p33 : lw_okq (⟨"SaysBath", "difference", "(III)I"⟩, 12) := ⟨⟨by decide +kernel, by decide +kernel⟩, List.mem_of_getElem? (i := 19) (by decide +kernel), List.mem_of_getElem? (i := 707) (by decide +kernel), List.mem_of_getElem? (i := 708) (by decide +kernel)⟩
theorem lw_p34 : lw_okq (⟨"SaysBath", "fewestItems", "()I"⟩, 12) := ⟨⟨by decide +kernel, by decide +kernel⟩, List.mem_of_getElem? (i := 19) (by decide +kernel), List.mem_of_getElem? (i := 711) (by decide +kernel), List.mem_of_getElem? (i := 712) (by decide +kernel)⟩
theorem lw_p35 : lw_okq (⟨"SaysBath", "listen", "(IIZ)I"⟩, 12) := ⟨⟨by decide +kernel, by decide +kernel⟩, List.mem_of_getElem? (i := 19) (by decide +kernel), List.mem_of_getElem? (i := 729) (by decide +kernel), List.mem_of_getElem? (i := 730) (by decide +kernel)⟩
theorem lw_p36 : lw_okq (⟨"SaysBath", "hasVariant", "(II)Z"⟩, 12) := ⟨⟨by decide +kernel, by decide +kernel⟩, List.mem_of_getElem? (i := 19) (by decide +kernel), List.mem_of_getElem? (i := 733) (by decide +kernel), List.mem_of_getElem? (i := 734) (by decide +kernel)⟩
theorem lw_p37 : lw_okq (⟨"SaysBath", "fittingItems", "(II)I"⟩, 12) := ⟨⟨by decide +kernel, by decide +kernel⟩, List.mem_of_getElem? (i := 19) (by decide +kernel), List.mem_of_getElem? (i := 758) (by decide +kernel), List.mem_of_getElem? (i := 759) (by decide +kernel)⟩
theorem lw_p38 : lw_okq (⟨"SaysBath", "wholeVillages", "(I)I"⟩, 12) := ⟨⟨by decide +kernel, by decide +kernel⟩, List.mem_of_getElem? (i := 19) (by decide +kernel), List.mem_of_getElem? (i := 766) (by decide +kernel), List.mem_of_getElem? (i := 767) (by decide +kernel)⟩
theorem lw_p39 : lw_okq (⟨"SaysBath", "fillFitting", "(I)V"⟩, 12) := ⟨⟨by decide +kernel, by decide +kernel⟩, List.mem_of_getElem? (i := 19) (by decide +kernel), List.mem_of_getElem? (i := 770) (by decide +kernel), List.mem_of_getElem? (i := 771) (by decide +kernel)⟩
theorem lw_p40 : lw_okq (⟨"SaysBath", "greatestCamp", "(III)I"⟩, 12) := ⟨⟨by decide +kernel, by decide +kernel⟩, List.mem_of_getElem? (i := 19) (by decide +kernel), List.mem_of_getElem? (i := 786) (by decide +kernel), List.mem_of_getElem? (i := 787) (by decide +kernel)⟩
theorem lw_p41 : lw_okq (⟨"SaysBath", "clearTally", "()V"⟩, 12) := ⟨⟨by decide +kernel, by decide +kernel⟩, List.mem_of_getElem? (i := 19) (by decide +kernel), List.mem_of_getElem? (i := 790) (by decide +kernel), List.mem_of_getElem? (i := 791) (by decide +kernel)⟩
theorem lw_p42 : lw_okq (⟨"SaysBath", "anyFits", "(I)Z"⟩, 12) := ⟨⟨by decide +kernel, by decide +kernel⟩, List.mem_of_getElem? (i := 19) (by decide +kernel), List.mem_of_getElem? (i := 805) (by decide +kernel), List.mem_of_getElem? (i := 806) (by decide +kernel)⟩
theorem lw_p43 : lw_okq (⟨"SaysBath", "upperOdds", "(I)J"⟩, 12) := ⟨⟨by decide +kernel, by decide +kernel⟩, List.mem_of_getElem? (i := 19) (by decide +kernel), List.mem_of_getElem? (i := 838) (by decide +kernel), List.mem_of_getElem? (i := 839) (by decide +kernel)⟩
theorem lw_p44 : lw_okq (⟨"SaysBath", "lowerOdds", "(I)J"⟩, 12) := ⟨⟨by decide +kernel, by decide +kernel⟩, List.mem_of_getElem? (i := 19) (by decide +kernel), List.mem_of_getElem? (i := 842) (by decide +kernel), List.mem_of_getElem? (i := 843) (by decide +kernel)⟩
theorem lw_p45 : lw_okq (⟨"SaysBath", "hasGreaterOdds", "(II)Z"⟩, 12) := ⟨⟨by decide +kernel, by decide +kernel⟩, List.mem_of_getElem? (i := 19) (by decide +kernel), List.mem_of_getElem? (i := 857) (by decide +kernel), List.mem_of_getElem? (i := 858) (by decide +kernel)⟩
theorem lw_p46 : lw_okq (⟨"SaysBath", "isLeaning", "(II)Z"⟩, 12) := ⟨⟨by decide +kernel, by decide +kernel⟩, List.mem_of_getElem? (i := 19) (by decide +kernel), List.mem_of_getElem? (i := 879) (by decide +kernel), List.mem_of_getElem? (i := 880) (by decide +kernel)⟩
theorem lw_p47 : lw_okq (⟨"SaysBath", "countRows", "()I"⟩, 12) := ⟨⟨by decide +kernel, by decide +kernel⟩, List.mem_of_getElem? (i := 19) (by decide +kernel), List.mem_of_getElem? (i := 900) (by decide +kernel), List.mem_of_getElem? (i := 901) (by decide +kernel)⟩
def lw_privs_3 : List (MethodName × Nat) := [(⟨"SaysBath", "clearUntold", "()V"⟩, 12), (⟨"SaysBath", "difference", "(III)I"⟩, 12), (⟨"SaysBath", "fewestItems", "()I"⟩, 12), (⟨"SaysBath", "listen", "(IIZ)I"⟩, 12), (⟨"SaysBath", "hasVariant", "(II)Z"⟩, 12), (⟨"SaysBath", "fittingItems", "(II)I"⟩, 12), (⟨"SaysBath", "wholeVillages", "(I)I"⟩, 12), (⟨"SaysBath", "fillFitting", "(I)V"⟩, 12), (⟨"SaysBath", "greatestCamp", "(III)I"⟩, 12), (⟨"SaysBath", "clearTally", "()V"⟩, 12), (⟨"SaysBath", "anyFits", "(I)Z"⟩, 12), (⟨"SaysBath", "upperOdds", "(I)J"⟩, 12), (⟨"SaysBath", "lowerOdds", "(I)J"⟩, 12), (⟨"SaysBath", "hasGreaterOdds", "(II)Z"⟩, 12), (⟨"SaysBath", "isLeaning", "(II)Z"⟩, 12), (⟨"SaysBath", "countRows", "()I"⟩, 12)]
theorem lw_r3 : ∀ q ∈ lw_privs_3, lw_okq q := List.forall_mem_cons.mpr ⟨lw_p32, List.forall_mem_cons.mpr ⟨lw_p33, List.forall_mem_cons.mpr ⟨lw_p34, List.forall_mem_cons.mpr ⟨lw_p35, List.forall_mem_cons.mpr ⟨lw_p36, List.forall_mem_cons.mpr ⟨lw_p37, List.forall_mem_cons.mpr ⟨lw_p38, List.forall_mem_cons.mpr ⟨lw_p39, List.forall_mem_cons.mpr ⟨lw_p40, List.forall_mem_cons.mpr ⟨lw_p41, List.forall_mem_cons.mpr ⟨lw_p42, List.forall_mem_cons.mpr ⟨lw_p43, List.forall_mem_cons.mpr ⟨lw_p44, List.forall_mem_cons.mpr ⟨lw_p45, List.forall_mem_cons.mpr ⟨lw_p46, List.forall_mem_cons.mpr ⟨lw_p47, fun _ h => absurd h List.not_mem_nil⟩⟩⟩⟩⟩⟩⟩⟩⟩⟩⟩⟩⟩⟩⟩⟩
theorem lw_p48 : lw_okq (⟨"SaysBathModel", "advance", "()V"⟩, 25) := ⟨⟨by decide +kernel, by decide +kernel⟩, List.mem_of_getElem? (i := 963) (by decide +kernel), List.mem_of_getElem? (i := 1072) (by decide +kernel), List.mem_of_getElem? (i := 1073) (by decide +kernel)⟩
theorem lw_p49 : lw_okq (⟨"SaysBathModel", "see", "(I)I"⟩, 25) := ⟨⟨by decide +kernel, by decide +kernel⟩, List.mem_of_getElem? (i := 963) (by decide +kernel), List.mem_of_getElem? (i := 1076) (by decide +kernel), List.mem_of_getElem? (i := 1077) (by decide +kernel)⟩
theorem lw_p50 : lw_okq (⟨"SaysBathModel", "good", "()Z"⟩, 25) := ⟨⟨by decide +kernel, by decide +kernel⟩, List.mem_of_getElem? (i := 963) (by decide +kernel), List.mem_of_getElem? (i := 1085) (by decide +kernel), List.mem_of_getElem? (i := 1086) (by decide +kernel)⟩
theorem lw_p51 : lw_okq (⟨"SaysBathModel", "readLine", "()V"⟩, 25) := ⟨⟨by decide +kernel, by decide +kernel⟩, List.mem_of_getElem? (i := 963) (by decide +kernel), List.mem_of_getElem? (i := 1089) (by decide +kernel), List.mem_of_getElem? (i := 1090) (by decide +kernel)⟩
theorem lw_p52 : lw_okq (⟨"SaysBathModel", "is", "(Ljava/lang/String;)Z"⟩, 25) := ⟨⟨by decide +kernel, by decide +kernel⟩, List.mem_of_getElem? (i := 963) (by decide +kernel), List.mem_of_getElem? (i := 1094) (by decide +kernel), List.mem_of_getElem? (i := 1095) (by decide +kernel)⟩
theorem lw_p53 : lw_okq (⟨"SaysBathModel", "errs", "(I)V"⟩, 25) := ⟨⟨by decide +kernel, by decide +kernel⟩, List.mem_of_getElem? (i := 963) (by decide +kernel), List.mem_of_getElem? (i := 1104) (by decide +kernel), List.mem_of_getElem? (i := 1105) (by decide +kernel)⟩
theorem lw_p54 : lw_okq (⟨"SaysBathModel", "takes", "(Ljava/lang/String;)Z"⟩, 25) := ⟨⟨by decide +kernel, by decide +kernel⟩, List.mem_of_getElem? (i := 963) (by decide +kernel), List.mem_of_getElem? (i := 1108) (by decide +kernel), List.mem_of_getElem? (i := 1109) (by decide +kernel)⟩
theorem lw_p55 : lw_okq (⟨"SaysBathModel", "needs", "(Ljava/lang/String;)V"⟩, 25) := ⟨⟨by decide +kernel, by decide +kernel⟩, List.mem_of_getElem? (i := 963) (by decide +kernel), List.mem_of_getElem? (i := 1113) (by decide +kernel), List.mem_of_getElem? (i := 1114) (by decide +kernel)⟩
theorem lw_p56 : lw_okq (⟨"SaysBathModel", "number", "(II)I"⟩, 25) := ⟨⟨by decide +kernel, by decide +kernel⟩, List.mem_of_getElem? (i := 963) (by decide +kernel), List.mem_of_getElem? (i := 1117) (by decide +kernel), List.mem_of_getElem? (i := 1118) (by decide +kernel)⟩
theorem lw_p57 : lw_okq (⟨"SaysBathModel", "readRoad", "()V"⟩, 25) := ⟨⟨by decide +kernel, by decide +kernel⟩, List.mem_of_getElem? (i := 963) (by decide +kernel), List.mem_of_getElem? (i := 1121) (by decide +kernel), List.mem_of_getElem? (i := 1122) (by decide +kernel)⟩
theorem lw_p58 : lw_okq (⟨"SaysBathModel", "readItem", "()V"⟩, 25) := ⟨⟨by decide +kernel, by decide +kernel⟩, List.mem_of_getElem? (i := 963) (by decide +kernel), List.mem_of_getElem? (i := 1126) (by decide +kernel), List.mem_of_getElem? (i := 1127) (by decide +kernel)⟩
theorem lw_p59 : lw_okq (⟨"SaysBathModel", "readSays", "()V"⟩, 25) := ⟨⟨by decide +kernel, by decide +kernel⟩, List.mem_of_getElem? (i := 963) (by decide +kernel), List.mem_of_getElem? (i := 1132) (by decide +kernel), List.mem_of_getElem? (i := 1133) (by decide +kernel)⟩
theorem lw_p60 : lw_okq (⟨"SaysBathModel", "readLaw", "()V"⟩, 25) := ⟨⟨by decide +kernel, by decide +kernel⟩, List.mem_of_getElem? (i := 963) (by decide +kernel), List.mem_of_getElem? (i := 1136) (by decide +kernel), List.mem_of_getElem? (i := 1137) (by decide +kernel)⟩
theorem lw_p61 : lw_okq (⟨"SaysBathModel", "readSum", "(II)V"⟩, 25) := ⟨⟨by decide +kernel, by decide +kernel⟩, List.mem_of_getElem? (i := 963) (by decide +kernel), List.mem_of_getElem? (i := 1142) (by decide +kernel), List.mem_of_getElem? (i := 1143) (by decide +kernel)⟩
theorem lw_p62 : lw_okq (⟨"SaysBathModel", "readPart", "(II)V"⟩, 25) := ⟨⟨by decide +kernel, by decide +kernel⟩, List.mem_of_getElem? (i := 963) (by decide +kernel), List.mem_of_getElem? (i := 1146) (by decide +kernel), List.mem_of_getElem? (i := 1147) (by decide +kernel)⟩
theorem lw_p63 : lw_okq (⟨"SaysBathModel", "isVillage", "(I)Z"⟩, 25) := ⟨⟨by decide +kernel, by decide +kernel⟩, List.mem_of_getElem? (i := 963) (by decide +kernel), List.mem_of_getElem? (i := 1163) (by decide +kernel), List.mem_of_getElem? (i := 1164) (by decide +kernel)⟩
def lw_privs_4 : List (MethodName × Nat) := [(⟨"SaysBathModel", "advance", "()V"⟩, 25), (⟨"SaysBathModel", "see", "(I)I"⟩, 25), (⟨"SaysBathModel", "good", "()Z"⟩, 25), (⟨"SaysBathModel", "readLine", "()V"⟩, 25), (⟨"SaysBathModel", "is", "(Ljava/lang/String;)Z"⟩, 25), (⟨"SaysBathModel", "errs", "(I)V"⟩, 25), (⟨"SaysBathModel", "takes", "(Ljava/lang/String;)Z"⟩, 25), (⟨"SaysBathModel", "needs", "(Ljava/lang/String;)V"⟩, 25), (⟨"SaysBathModel", "number", "(II)I"⟩, 25), (⟨"SaysBathModel", "readRoad", "()V"⟩, 25), (⟨"SaysBathModel", "readItem", "()V"⟩, 25), (⟨"SaysBathModel", "readSays", "()V"⟩, 25), (⟨"SaysBathModel", "readLaw", "()V"⟩, 25), (⟨"SaysBathModel", "readSum", "(II)V"⟩, 25), (⟨"SaysBathModel", "readPart", "(II)V"⟩, 25), (⟨"SaysBathModel", "isVillage", "(I)Z"⟩, 25)]
theorem lw_r4 : ∀ q ∈ lw_privs_4, lw_okq q := List.forall_mem_cons.mpr ⟨lw_p48, List.forall_mem_cons.mpr ⟨lw_p49, List.forall_mem_cons.mpr ⟨lw_p50, List.forall_mem_cons.mpr ⟨lw_p51, List.forall_mem_cons.mpr ⟨lw_p52, List.forall_mem_cons.mpr ⟨lw_p53, List.forall_mem_cons.mpr ⟨lw_p54, List.forall_mem_cons.mpr ⟨lw_p55, List.forall_mem_cons.mpr ⟨lw_p56, List.forall_mem_cons.mpr ⟨lw_p57, List.forall_mem_cons.mpr ⟨lw_p58, List.forall_mem_cons.mpr ⟨lw_p59, List.forall_mem_cons.mpr ⟨lw_p60, List.forall_mem_cons.mpr ⟨lw_p61, List.forall_mem_cons.mpr ⟨lw_p62, List.forall_mem_cons.mpr ⟨lw_p63, fun _ h => absurd h List.not_mem_nil⟩⟩⟩⟩⟩⟩⟩⟩⟩⟩⟩⟩⟩⟩⟩⟩
theorem lw_p64 : lw_okq (⟨"SaysBathModel", "isItem", "(I)Z"⟩, 25) := ⟨⟨by decide +kernel, by decide +kernel⟩, List.mem_of_getElem? (i := 963) (by decide +kernel), List.mem_of_getElem? (i := 1167) (by decide +kernel), List.mem_of_getElem? (i := 1168) (by decide +kernel)⟩
theorem lw_p65 : lw_okq (⟨"SaysBathModel", "saidIn", "(III)I"⟩, 25) := ⟨⟨by decide +kernel, by decide +kernel⟩, List.mem_of_getElem? (i := 963) (by decide +kernel), List.mem_of_getElem? (i := 1175) (by decide +kernel), List.mem_of_getElem? (i := 1176) (by decide +kernel)⟩
theorem lw_p66 : lw_okq (⟨"SaysBathModel", "lay", "()V"⟩, 25) := ⟨⟨by decide +kernel, by decide +kernel⟩, List.mem_of_getElem? (i := 963) (by decide +kernel), List.mem_of_getElem? (i := 1179) (by decide +kernel), List.mem_of_getElem? (i := 1180) (by decide +kernel)⟩
theorem lw_p67 : lw_okq (⟨"SaysBathModel", "lawFor", "(III)I"⟩, 25) := ⟨⟨by decide +kernel, by decide +kernel⟩, List.mem_of_getElem? (i := 963) (by decide +kernel), List.mem_of_getElem? (i := 1187) (by decide +kernel), List.mem_of_getElem? (i := 1188) (by decide +kernel)⟩
theorem lw_p68 : lw_okq (⟨"SaysBathModel", "ofLaw", "(II)I"⟩, 25) := ⟨⟨by decide +kernel, by decide +kernel⟩, List.mem_of_getElem? (i := 963) (by decide +kernel), List.mem_of_getElem? (i := 1191) (by decide +kernel), List.mem_of_getElem? (i := 1192) (by decide +kernel)⟩
theorem lw_p69 : lw_okq (⟨"SaysBathModel", "holds", "(III)Z"⟩, 25) := ⟨⟨by decide +kernel, by decide +kernel⟩, List.mem_of_getElem? (i := 963) (by decide +kernel), List.mem_of_getElem? (i := 1195) (by decide +kernel), List.mem_of_getElem? (i := 1196) (by decide +kernel)⟩
theorem lw_p70 : lw_okq (⟨"SaysBathModel", "partOf", "(IIII)J"⟩, 25) := ⟨⟨by decide +kernel, by decide +kernel⟩, List.mem_of_getElem? (i := 963) (by decide +kernel), List.mem_of_getElem? (i := 1199) (by decide +kernel), List.mem_of_getElem? (i := 1200) (by decide +kernel)⟩
theorem lw_p71 : lw_okq (⟨"SaysBathModel", "nearBy", "(IIIIZ)I"⟩, 25) := ⟨⟨by decide +kernel, by decide +kernel⟩, List.mem_of_getElem? (i := 963) (by decide +kernel), List.mem_of_getElem? (i := 1203) (by decide +kernel), List.mem_of_getElem? (i := 1204) (by decide +kernel)⟩
theorem lw_p72 : lw_okq (⟨"SaysBathModel", "otherBy", "(II)I"⟩, 25) := ⟨⟨by decide +kernel, by decide +kernel⟩, List.mem_of_getElem? (i := 963) (by decide +kernel), List.mem_of_getElem? (i := 1207) (by decide +kernel), List.mem_of_getElem? (i := 1208) (by decide +kernel)⟩
theorem lw_p73 : lw_okq (⟨"SaysBathModel", "ofRoad", "(II)I"⟩, 25) := ⟨⟨by decide +kernel, by decide +kernel⟩, List.mem_of_getElem? (i := 963) (by decide +kernel), List.mem_of_getElem? (i := 1211) (by decide +kernel), List.mem_of_getElem? (i := 1212) (by decide +kernel)⟩
theorem lw_p74 : lw_okq (⟨"SaysBathModel", "ofVillage", "(II)I"⟩, 25) := ⟨⟨by decide +kernel, by decide +kernel⟩, List.mem_of_getElem? (i := 963) (by decide +kernel), List.mem_of_getElem? (i := 1215) (by decide +kernel), List.mem_of_getElem? (i := 1216) (by decide +kernel)⟩
theorem lw_p75 : lw_okq (⟨"SaysBathModel", "linesOf", "(II)I"⟩, 25) := ⟨⟨by decide +kernel, by decide +kernel⟩, List.mem_of_getElem? (i := 963) (by decide +kernel), List.mem_of_getElem? (i := 1230) (by decide +kernel), List.mem_of_getElem? (i := 1231) (by decide +kernel)⟩
theorem lw_p76 : lw_okq (⟨"SaysBathModel", "isLine", "(III)Z"⟩, 25) := ⟨⟨by decide +kernel, by decide +kernel⟩, List.mem_of_getElem? (i := 963) (by decide +kernel), List.mem_of_getElem? (i := 1234) (by decide +kernel), List.mem_of_getElem? (i := 1235) (by decide +kernel)⟩
theorem lw_p77 : lw_okq (⟨"SaysBathModel", "isRoad", "(I)Z"⟩, 25) := ⟨⟨by decide +kernel, by decide +kernel⟩, List.mem_of_getElem? (i := 963) (by decide +kernel), List.mem_of_getElem? (i := 1242) (by decide +kernel), List.mem_of_getElem? (i := 1243) (by decide +kernel)⟩
theorem lw_p78 : lw_okq (⟨"SaysBathModel", "bundleOf", "(II)I"⟩, 25) := ⟨⟨by decide +kernel, by decide +kernel⟩, List.mem_of_getElem? (i := 963) (by decide +kernel), List.mem_of_getElem? (i := 1246) (by decide +kernel), List.mem_of_getElem? (i := 1247) (by decide +kernel)⟩
theorem lw_p79 : lw_okq (⟨"SaysBathModel", "measures", "(II)V"⟩, 25) := ⟨⟨by decide +kernel, by decide +kernel⟩, List.mem_of_getElem? (i := 963) (by decide +kernel), List.mem_of_getElem? (i := 1264) (by decide +kernel), List.mem_of_getElem? (i := 1265) (by decide +kernel)⟩
def lw_privs_5 : List (MethodName × Nat) := [(⟨"SaysBathModel", "isItem", "(I)Z"⟩, 25), (⟨"SaysBathModel", "saidIn", "(III)I"⟩, 25), (⟨"SaysBathModel", "lay", "()V"⟩, 25), (⟨"SaysBathModel", "lawFor", "(III)I"⟩, 25), (⟨"SaysBathModel", "ofLaw", "(II)I"⟩, 25), (⟨"SaysBathModel", "holds", "(III)Z"⟩, 25), (⟨"SaysBathModel", "partOf", "(IIII)J"⟩, 25), (⟨"SaysBathModel", "nearBy", "(IIIIZ)I"⟩, 25), (⟨"SaysBathModel", "otherBy", "(II)I"⟩, 25), (⟨"SaysBathModel", "ofRoad", "(II)I"⟩, 25), (⟨"SaysBathModel", "ofVillage", "(II)I"⟩, 25), (⟨"SaysBathModel", "linesOf", "(II)I"⟩, 25), (⟨"SaysBathModel", "isLine", "(III)Z"⟩, 25), (⟨"SaysBathModel", "isRoad", "(I)Z"⟩, 25), (⟨"SaysBathModel", "bundleOf", "(II)I"⟩, 25), (⟨"SaysBathModel", "measures", "(II)V"⟩, 25)]
theorem lw_r5 : ∀ q ∈ lw_privs_5, lw_okq q := List.forall_mem_cons.mpr ⟨lw_p64, List.forall_mem_cons.mpr ⟨lw_p65, List.forall_mem_cons.mpr ⟨lw_p66, List.forall_mem_cons.mpr ⟨lw_p67, List.forall_mem_cons.mpr ⟨lw_p68, List.forall_mem_cons.mpr ⟨lw_p69, List.forall_mem_cons.mpr ⟨lw_p70, List.forall_mem_cons.mpr ⟨lw_p71, List.forall_mem_cons.mpr ⟨lw_p72, List.forall_mem_cons.mpr ⟨lw_p73, List.forall_mem_cons.mpr ⟨lw_p74, List.forall_mem_cons.mpr ⟨lw_p75, List.forall_mem_cons.mpr ⟨lw_p76, List.forall_mem_cons.mpr ⟨lw_p77, List.forall_mem_cons.mpr ⟨lw_p78, List.forall_mem_cons.mpr ⟨lw_p79, fun _ h => absurd h List.not_mem_nil⟩⟩⟩⟩⟩⟩⟩⟩⟩⟩⟩⟩⟩⟩⟩⟩
theorem lw_p80 : lw_okq (⟨"SaysBathModel", "fewest", "(II)I"⟩, 25) := ⟨⟨by decide +kernel, by decide +kernel⟩, List.mem_of_getElem? (i := 963) (by decide +kernel), List.mem_of_getElem? (i := 1292) (by decide +kernel), List.mem_of_getElem? (i := 1293) (by decide +kernel)⟩
theorem lw_p81 : lw_okq (⟨"SaysBathModel", "tellsAll", "(III)Z"⟩, 25) := ⟨⟨by decide +kernel, by decide +kernel⟩, List.mem_of_getElem? (i := 963) (by decide +kernel), List.mem_of_getElem? (i := 1299) (by decide +kernel), List.mem_of_getElem? (i := 1300) (by decide +kernel)⟩
theorem lw_p82 : lw_okq (⟨"SaysBathModel", "areTold", "(IIII)Z"⟩, 25) := ⟨⟨by decide +kernel, by decide +kernel⟩, List.mem_of_getElem? (i := 963) (by decide +kernel), List.mem_of_getElem? (i := 1303) (by decide +kernel), List.mem_of_getElem? (i := 1304) (by decide +kernel)⟩
theorem lw_p83 : lw_okq (⟨"SaysBathModel", "isVariant", "(II)Z"⟩, 25) := ⟨⟨by decide +kernel, by decide +kernel⟩, List.mem_of_getElem? (i := 963) (by decide +kernel), List.mem_of_getElem? (i := 1315) (by decide +kernel), List.mem_of_getElem? (i := 1316) (by decide +kernel)⟩
theorem lw_p84 : lw_okq (⟨"SaysBathModel", "ofItem", "(II)I"⟩, 25) := ⟨⟨by decide +kernel, by decide +kernel⟩, List.mem_of_getElem? (i := 963) (by decide +kernel), List.mem_of_getElem? (i := 1319) (by decide +kernel), List.mem_of_getElem? (i := 1320) (by decide +kernel)⟩
theorem lw_p85 : lw_okq (⟨"SaysBathModel", "isHeard", "(I)Z"⟩, 25) := ⟨⟨by decide +kernel, by decide +kernel⟩, List.mem_of_getElem? (i := 963) (by decide +kernel), List.mem_of_getElem? (i := 1323) (by decide +kernel), List.mem_of_getElem? (i := 1324) (by decide +kernel)⟩
theorem lw_p86 : lw_okq (⟨"SaysBathModel", "heardMany", "()I"⟩, 25) := ⟨⟨by decide +kernel, by decide +kernel⟩, List.mem_of_getElem? (i := 963) (by decide +kernel), List.mem_of_getElem? (i := 1327) (by decide +kernel), List.mem_of_getElem? (i := 1328) (by decide +kernel)⟩
theorem lw_p87 : lw_okq (⟨"SaysBathModel", "fitsOf", "(II)I"⟩, 25) := ⟨⟨by decide +kernel, by decide +kernel⟩, List.mem_of_getElem? (i := 963) (by decide +kernel), List.mem_of_getElem? (i := 1353) (by decide +kernel), List.mem_of_getElem? (i := 1354) (by decide +kernel)⟩
theorem lw_p88 : lw_okq (⟨"SaysBathModel", "fitsOne", "(III)Z"⟩, 25) := ⟨⟨by decide +kernel, by decide +kernel⟩, List.mem_of_getElem? (i := 963) (by decide +kernel), List.mem_of_getElem? (i := 1357) (by decide +kernel), List.mem_of_getElem? (i := 1358) (by decide +kernel)⟩
theorem lw_p89 : lw_okq (⟨"SaysBathModel", "wholeOf", "(I)I"⟩, 25) := ⟨⟨by decide +kernel, by decide +kernel⟩, List.mem_of_getElem? (i := 963) (by decide +kernel), List.mem_of_getElem? (i := 1365) (by decide +kernel), List.mem_of_getElem? (i := 1366) (by decide +kernel)⟩
theorem lw_p90 : lw_okq (⟨"SaysBathModel", "notesOf", "(III)I"⟩, 25) := ⟨⟨by decide +kernel, by decide +kernel⟩, List.mem_of_getElem? (i := 963) (by decide +kernel), List.mem_of_getElem? (i := 1390) (by decide +kernel), List.mem_of_getElem? (i := 1391) (by decide +kernel)⟩
theorem lw_p91 : lw_okq (⟨"SaysBathModel", "mostlyOf", "(II)I"⟩, 25) := ⟨⟨by decide +kernel, by decide +kernel⟩, List.mem_of_getElem? (i := 963) (by decide +kernel), List.mem_of_getElem? (i := 1402) (by decide +kernel), List.mem_of_getElem? (i := 1403) (by decide +kernel)⟩
theorem lw_p92 : lw_okq (⟨"SaysBathModel", "oddsOf", "(I)V"⟩, 25) := ⟨⟨by decide +kernel, by decide +kernel⟩, List.mem_of_getElem? (i := 963) (by decide +kernel), List.mem_of_getElem? (i := 1415) (by decide +kernel), List.mem_of_getElem? (i := 1416) (by decide +kernel)⟩
theorem lw_p93 : lw_okq (⟨"SaysBathModel", "notesAll", "(II)I"⟩, 25) := ⟨⟨by decide +kernel, by decide +kernel⟩, List.mem_of_getElem? (i := 963) (by decide +kernel), List.mem_of_getElem? (i := 1419) (by decide +kernel), List.mem_of_getElem? (i := 1420) (by decide +kernel)⟩
theorem lw_p94 : lw_okq (⟨"SaysBathModel", "isAhead", "(II)Z"⟩, 25) := ⟨⟨by decide +kernel, by decide +kernel⟩, List.mem_of_getElem? (i := 963) (by decide +kernel), List.mem_of_getElem? (i := 1427) (by decide +kernel), List.mem_of_getElem? (i := 1428) (by decide +kernel)⟩
theorem lw_p95 : lw_okq (⟨"SaysBathModel", "isAsker", "(I)Z"⟩, 25) := ⟨⟨by decide +kernel, by decide +kernel⟩, List.mem_of_getElem? (i := 963) (by decide +kernel), List.mem_of_getElem? (i := 1446) (by decide +kernel), List.mem_of_getElem? (i := 1447) (by decide +kernel)⟩
def lw_privs_6 : List (MethodName × Nat) := [(⟨"SaysBathModel", "fewest", "(II)I"⟩, 25), (⟨"SaysBathModel", "tellsAll", "(III)Z"⟩, 25), (⟨"SaysBathModel", "areTold", "(IIII)Z"⟩, 25), (⟨"SaysBathModel", "isVariant", "(II)Z"⟩, 25), (⟨"SaysBathModel", "ofItem", "(II)I"⟩, 25), (⟨"SaysBathModel", "isHeard", "(I)Z"⟩, 25), (⟨"SaysBathModel", "heardMany", "()I"⟩, 25), (⟨"SaysBathModel", "fitsOf", "(II)I"⟩, 25), (⟨"SaysBathModel", "fitsOne", "(III)Z"⟩, 25), (⟨"SaysBathModel", "wholeOf", "(I)I"⟩, 25), (⟨"SaysBathModel", "notesOf", "(III)I"⟩, 25), (⟨"SaysBathModel", "mostlyOf", "(II)I"⟩, 25), (⟨"SaysBathModel", "oddsOf", "(I)V"⟩, 25), (⟨"SaysBathModel", "notesAll", "(II)I"⟩, 25), (⟨"SaysBathModel", "isAhead", "(II)Z"⟩, 25), (⟨"SaysBathModel", "isAsker", "(I)Z"⟩, 25)]
theorem lw_r6 : ∀ q ∈ lw_privs_6, lw_okq q := List.forall_mem_cons.mpr ⟨lw_p80, List.forall_mem_cons.mpr ⟨lw_p81, List.forall_mem_cons.mpr ⟨lw_p82, List.forall_mem_cons.mpr ⟨lw_p83, List.forall_mem_cons.mpr ⟨lw_p84, List.forall_mem_cons.mpr ⟨lw_p85, List.forall_mem_cons.mpr ⟨lw_p86, List.forall_mem_cons.mpr ⟨lw_p87, List.forall_mem_cons.mpr ⟨lw_p88, List.forall_mem_cons.mpr ⟨lw_p89, List.forall_mem_cons.mpr ⟨lw_p90, List.forall_mem_cons.mpr ⟨lw_p91, List.forall_mem_cons.mpr ⟨lw_p92, List.forall_mem_cons.mpr ⟨lw_p93, List.forall_mem_cons.mpr ⟨lw_p94, List.forall_mem_cons.mpr ⟨lw_p95, fun _ h => absurd h List.not_mem_nil⟩⟩⟩⟩⟩⟩⟩⟩⟩⟩⟩⟩⟩⟩⟩⟩
theorem lw_p96 : lw_okq (⟨"SaysBathModel", "leansIn", "(II)Z"⟩, 25) := ⟨⟨by decide +kernel, by decide +kernel⟩, List.mem_of_getElem? (i := 963) (by decide +kernel), List.mem_of_getElem? (i := 1450) (by decide +kernel), List.mem_of_getElem? (i := 1451) (by decide +kernel)⟩
def lw_privs_7 : List (MethodName × Nat) := [(⟨"SaysBathModel", "leansIn", "(II)Z"⟩, 25)]
theorem lw_r7 : ∀ q ∈ lw_privs_7, lw_okq q := List.forall_mem_cons.mpr ⟨lw_p96, fun _ h => absurd h List.not_mem_nil⟩
def lw_privs : List (MethodName × Nat) := lw_privs_1 ++ (lw_privs_2 ++ (lw_privs_3 ++ (lw_privs_4 ++ (lw_privs_5 ++ (lw_privs_6 ++ (lw_privs_7))))))
def lw_tbl : List Cond := k2_sels lw_privs ++ tables_1
theorem lw_privs_ok : ∀ q ∈ lw_privs, lw_okq q := by
  show ∀ q ∈ lw_privs_1 ++ (lw_privs_2 ++ (lw_privs_3 ++ (lw_privs_4 ++ (lw_privs_5 ++ (lw_privs_6 ++ (lw_privs_7)))))), lw_okq q
  exact List.forall_mem_append.mpr ⟨lw_r1, List.forall_mem_append.mpr ⟨lw_r2, List.forall_mem_append.mpr ⟨lw_r3, List.forall_mem_append.mpr ⟨lw_r4, List.forall_mem_append.mpr ⟨lw_r5, List.forall_mem_append.mpr ⟨lw_r6, lw_r7⟩⟩⟩⟩⟩⟩

def RX0 : String := "SaysBath$Land"
def TX0 : u_T := fun k => match k with
  | 0 => ("SaysBath$Land", "lines", "I", false)
  | 1 => ("SaysBath$Land", "villages", "I", false)
  | 2 => ("SaysBath$Land", "roads", "I", false)
  | 3 => ("SaysBath$Land", "items", "I", false)
  | 4 => ("SaysBath$Land", "size", "[I", true)
  | 5 => ("SaysBath$Land", "roadFrom", "[I", true)
  | 6 => ("SaysBath$Land", "roadTo", "[I", true)
  | 7 => ("SaysBath$Land", "atRiver", "[Z", true)
  | 8 => ("SaysBath$Land", "again", "[Z", true)
  | 9 => ("SaysBath$Land", "variants", "[I", true)
  | 10 => ("SaysBath$Land", "standard", "[I", true)
  | 11 => ("SaysBath$Land", "told", "[I", true)
  | _ => ("SaysBath$Land", "laws", "LSaysBath$Laws;", true)
def tyX0 : Nat → FieldType := fun k => match k with
  | 0 => .int
  | 1 => .int
  | 2 => .int
  | 3 => .int
  | 4 => .array .int
  | 5 => .array .int
  | 6 => .array .int
  | 7 => .array .boolean
  | 8 => .array .boolean
  | 9 => .array .int
  | 10 => .array .int
  | 11 => .array .int
  | _ => .object "SaysBath$Laws"
abbrev wsX00 : List Cond := u_ws RX0 TX0 13
theorem nmX0 : ∀ a, a < 13 → ∀ b, b < 13 → a ≠ b → (TX0 a).2.1 ≠ (TX0 b).2.1 := by decide +kernel
theorem tyX0_ok : ∀ k, k < 13 → parseFieldDescriptor (TX0 k).2.2.1 = some (tyX0 k) := by decide +kernel
abbrev cX0_init : ByteArray := prog_2_method_1_code
def yX0_init : MethodName := ⟨RX0, "<init>", "()V"⟩
abbrev cX0_empty : ByteArray := prog_2_method_2_code
def yX0_empty : MethodName := ⟨RX0, "empty", "()V"⟩
abbrev cX0_addVillage : ByteArray := prog_2_method_3_code
def yX0_addVillage : MethodName := ⟨RX0, "addVillage", "(I)V"⟩
abbrev cX0_addRoad : ByteArray := prog_2_method_4_code
def yX0_addRoad : MethodName := ⟨RX0, "addRoad", "(IIZ)V"⟩
abbrev cX0_hasRoad : ByteArray := prog_2_method_5_code
def yX0_hasRoad : MethodName := ⟨RX0, "hasRoad", "(II)Z"⟩
abbrev cX0_addItem : ByteArray := prog_2_method_6_code
def yX0_addItem : MethodName := ⟨RX0, "addItem", "(II)V"⟩
abbrev cX0_isTold : ByteArray := prog_2_method_7_code
def yX0_isTold : MethodName := ⟨RX0, "isTold", "(II)Z"⟩
abbrev cX0_tell : ByteArray := prog_2_method_8_code
def yX0_tell : MethodName := ⟨RX0, "tell", "(III)V"⟩
abbrev cX0_countRivers : ByteArray := prog_2_method_9_code
def yX0_countRivers : MethodName := ⟨RX0, "countRivers", "()I"⟩
abbrev cX0_countRoadsAt : ByteArray := prog_2_method_10_code
def yX0_countRoadsAt : MethodName := ⟨RX0, "countRoadsAt", "(I)I"⟩
abbrev cX0_copyOf : ByteArray := prog_2_method_11_code
def yX0_copyOf : MethodName := ⟨RX0, "copyOf", "(LSaysBath$Land;)V"⟩
def RX1 : String := "SaysBath$Laws"
def TX1 : u_T := fun k => match k with
  | 0 => ("SaysBath$Laws", "known", "I", false)
  | 1 => ("SaysBath$Laws", "item", "[I", true)
  | 2 => ("SaysBath$Laws", "first", "[I", true)
  | 3 => ("SaysBath$Laws", "second", "[I", true)
  | 4 => ("SaysBath$Laws", "sign", "[I", true)
  | 5 => ("SaysBath$Laws", "leftStart", "[I", true)
  | 6 => ("SaysBath$Laws", "rightStart", "[I", true)
  | 7 => ("SaysBath$Laws", "rightStop", "[I", true)
  | 8 => ("SaysBath$Laws", "parts", "I", false)
  | 9 => ("SaysBath$Laws", "partJoin", "[I", true)
  | 10 => ("SaysBath$Laws", "partKind", "[I", true)
  | _ => ("SaysBath$Laws", "partValue", "[I", true)
def tyX1 : Nat → FieldType := fun k => match k with
  | 0 => .int
  | 1 => .array .int
  | 2 => .array .int
  | 3 => .array .int
  | 4 => .array .int
  | 5 => .array .int
  | 6 => .array .int
  | 7 => .array .int
  | 8 => .int
  | 9 => .array .int
  | 10 => .array .int
  | _ => .array .int
abbrev wsX10 : List Cond := u_ws RX1 TX1 12
theorem nmX1 : ∀ a, a < 12 → ∀ b, b < 12 → a ≠ b → (TX1 a).2.1 ≠ (TX1 b).2.1 := by decide +kernel
theorem tyX1_ok : ∀ k, k < 12 → parseFieldDescriptor (TX1 k).2.2.1 = some (tyX1 k) := by decide +kernel
abbrev cX1_init : ByteArray := prog_3_method_1_code
def yX1_init : MethodName := ⟨RX1, "<init>", "()V"⟩
abbrev cX1_empty : ByteArray := prog_3_method_2_code
def yX1_empty : MethodName := ⟨RX1, "empty", "()V"⟩
abbrev cX1_areFor : ByteArray := prog_3_method_3_code
def yX1_areFor : MethodName := ⟨RX1, "areFor", "(I)Z"⟩
abbrev cX1_addPart : ByteArray := prog_3_method_4_code
def yX1_addPart : MethodName := ⟨RX1, "addPart", "(III)V"⟩
abbrev cX1_addLaw : ByteArray := prog_3_method_5_code
def yX1_addLaw : MethodName := ⟨RX1, "addLaw", "(IIIIII)V"⟩
abbrev cX1_copyOf : ByteArray := prog_3_method_6_code
def yX1_copyOf : MethodName := ⟨RX1, "copyOf", "(LSaysBath$Laws;)V"⟩
def RX2 : String := "SaysBath$Notes"
def TX2 : u_T := fun k => match k with
  | 0 => ("SaysBath$Notes", "all", "I", false)
  | 1 => ("SaysBath$Notes", "answers", "[I", true)
  | _ => ("SaysBath$Notes", "walker", "[I", true)
def tyX2 : Nat → FieldType := fun k => match k with
  | 0 => .int
  | 1 => .array .int
  | _ => .array .int
abbrev wsX20 : List Cond := u_ws RX2 TX2 3
theorem nmX2 : ∀ a, a < 3 → ∀ b, b < 3 → a ≠ b → (TX2 a).2.1 ≠ (TX2 b).2.1 := by decide +kernel
theorem tyX2_ok : ∀ k, k < 3 → parseFieldDescriptor (TX2 k).2.2.1 = some (tyX2 k) := by decide +kernel
abbrev cX2_init : ByteArray := prog_4_method_1_code
def yX2_init : MethodName := ⟨RX2, "<init>", "()V"⟩
abbrev cX2_forget : ByteArray := prog_4_method_2_code
def yX2_forget : MethodName := ⟨RX2, "forget", "()V"⟩
abbrev cX2_place : ByteArray := prog_4_method_3_code
def yX2_place : MethodName := ⟨RX2, "place", "(III)I"⟩
abbrev cX2_answersFor : ByteArray := prog_4_method_4_code
def yX2_answersFor : MethodName := ⟨RX2, "answersFor", "(II)I"⟩
abbrev cX2_commonest : ByteArray := prog_4_method_5_code
def yX2_commonest : MethodName := ⟨RX2, "commonest", "(II)I"⟩
abbrev cX2_copyOf : ByteArray := prog_4_method_6_code
def yX2_copyOf : MethodName := ⟨RX2, "copyOf", "(LSaysBath$Notes;)V"⟩
def RX3 : String := "SaysBath$Reader"
def TX3 : u_T := fun k => match k with
  | 0 => ("SaysBath$Reader", "fault", "I", false)
  | 1 => ("SaysBath$Reader", "faultPlace", "I", false)
  | 2 => ("SaysBath$Reader", "land", "LSaysBath$Land;", false)
  | 3 => ("SaysBath$Reader", "tape", "[B", true)
  | 4 => ("SaysBath$Reader", "length", "I", false)
  | 5 => ("SaysBath$Reader", "kind", "I", false)
  | 6 => ("SaysBath$Reader", "start", "I", false)
  | 7 => ("SaysBath$Reader", "after", "I", false)
  | _ => ("SaysBath$Reader", "number", "I", false)
def tyX3 : Nat → FieldType := fun k => match k with
  | 0 => .int
  | 1 => .int
  | 2 => .object "SaysBath$Land"
  | 3 => .array .byte
  | 4 => .int
  | 5 => .int
  | 6 => .int
  | 7 => .int
  | _ => .int
abbrev wsX30 : List Cond := u_ws RX3 TX3 9
theorem nmX3 : ∀ a, a < 9 → ∀ b, b < 9 → a ≠ b → (TX3 a).2.1 ≠ (TX3 b).2.1 := by decide +kernel
theorem tyX3_ok : ∀ k, k < 9 → parseFieldDescriptor (TX3 k).2.2.1 = some (tyX3 k) := by decide +kernel
abbrev cX3_init : ByteArray := prog_5_method_1_code
def yX3_init : MethodName := ⟨RX3, "<init>", "([B)V"⟩
abbrev cX3_readTape : ByteArray := prog_5_method_2_code
def yX3_readTape : MethodName := ⟨RX3, "readTape", "(I)Z"⟩
abbrev cX3_readVillage : ByteArray := prog_5_method_3_code
def yX3_readVillage : MethodName := ⟨RX3, "readVillage", "(I)V"⟩
abbrev cX3_readRoad : ByteArray := prog_5_method_4_code
def yX3_readRoad : MethodName := ⟨RX3, "readRoad", "(I)V"⟩
abbrev cX3_readItem : ByteArray := prog_5_method_5_code
def yX3_readItem : MethodName := ⟨RX3, "readItem", "(I)V"⟩
abbrev cX3_readSaying : ByteArray := prog_5_method_6_code
def yX3_readSaying : MethodName := ⟨RX3, "readSaying", "()V"⟩
abbrev cX3_readLaw : ByteArray := prog_5_method_7_code
def yX3_readLaw : MethodName := ⟨RX3, "readLaw", "(I)V"⟩
abbrev cX3_readSum : ByteArray := prog_5_method_8_code
def yX3_readSum : MethodName := ⟨RX3, "readSum", "(I)V"⟩
abbrev cX3_readPart : ByteArray := prog_5_method_9_code
def yX3_readPart : MethodName := ⟨RX3, "readPart", "(II)V"⟩
abbrev cX3_takeSign : ByteArray := prog_5_method_10_code
def yX3_takeSign : MethodName := ⟨RX3, "takeSign", "()I"⟩
abbrev cX3_highestVariant : ByteArray := prog_5_method_11_code
def yX3_highestVariant : MethodName := ⟨RX3, "highestVariant", "(I)I"⟩
abbrev cX3_takeNumber : ByteArray := prog_5_method_12_code
def yX3_takeNumber : MethodName := ⟨RX3, "takeNumber", "(II)I"⟩
abbrev cX3_takeWord : ByteArray := prog_5_method_13_code
def yX3_takeWord : MethodName := ⟨RX3, "takeWord", "(Ljava/lang/String;)V"⟩
abbrev cX3_takeStop : ByteArray := prog_5_method_14_code
def yX3_takeStop : MethodName := ⟨RX3, "takeStop", "()V"⟩
abbrev cX3_tryWord : ByteArray := prog_5_method_15_code
def yX3_tryWord : MethodName := ⟨RX3, "tryWord", "(Ljava/lang/String;)Z"⟩
abbrev cX3_refuseBeyond : ByteArray := prog_5_method_16_code
def yX3_refuseBeyond : MethodName := ⟨RX3, "refuseBeyond", "(III)V"⟩
abbrev cX3_refuse : ByteArray := prog_5_method_17_code
def yX3_refuse : MethodName := ⟨RX3, "refuse", "(II)V"⟩
abbrev cX3_advance : ByteArray := prog_5_method_18_code
def yX3_advance : MethodName := ⟨RX3, "advance", "()V"⟩
abbrev cX3_kindOf : ByteArray := prog_5_method_19_code
def yX3_kindOf : MethodName := ⟨RX3, "kindOf", "(B)I"⟩
def RX4 : String := "SaysBath$Scene"
def TX4 : u_T := fun k => match k with
  | 0 => ("SaysBath$Scene", "land", "LSaysBath$Land;", false)
  | 1 => ("SaysBath$Scene", "voice", "LSaysBath$Voice;", true)
  | _ => ("SaysBath$Scene", "notes", "LSaysBath$Notes;", true)
def tyX4 : Nat → FieldType := fun k => match k with
  | 0 => .object "SaysBath$Land"
  | 1 => .object "SaysBath$Voice"
  | _ => .object "SaysBath$Notes"
abbrev wsX40 : List Cond := u_ws RX4 TX4 3
theorem nmX4 : ∀ a, a < 3 → ∀ b, b < 3 → a ≠ b → (TX4 a).2.1 ≠ (TX4 b).2.1 := by decide +kernel
theorem tyX4_ok : ∀ k, k < 3 → parseFieldDescriptor (TX4 k).2.2.1 = some (tyX4 k) := by decide +kernel
abbrev cX4_init : ByteArray := prog_6_method_1_code
def yX4_init : MethodName := ⟨RX4, "<init>", "()V"⟩
abbrev cX4_copyOf : ByteArray := prog_6_method_2_code
def yX4_copyOf : MethodName := ⟨RX4, "copyOf", "(LSaysBath$Scene;)V"⟩
def RX5 : String := "SaysBath$Slot"
def TX5 : u_T := fun k => match k with
  | 0 => ("SaysBath$Slot", "width", "I", false)
  | 1 => ("SaysBath$Slot", "length", "I", false)
  | _ => ("SaysBath$Slot", "numbers", "[J", true)
def tyX5 : Nat → FieldType := fun k => match k with
  | 0 => .int
  | 1 => .int
  | _ => .array .long
abbrev wsX50 : List Cond := u_ws RX5 TX5 3
theorem nmX5 : ∀ a, a < 3 → ∀ b, b < 3 → a ≠ b → (TX5 a).2.1 ≠ (TX5 b).2.1 := by decide +kernel
theorem tyX5_ok : ∀ k, k < 3 → parseFieldDescriptor (TX5 k).2.2.1 = some (tyX5 k) := by decide +kernel
abbrev cX5_init : ByteArray := prog_7_method_1_code
def yX5_init : MethodName := ⟨RX5, "<init>", "()V"⟩
abbrev cX5_startRow : ByteArray := prog_7_method_2_code
def yX5_startRow : MethodName := ⟨RX5, "startRow", "(II)V"⟩
abbrev cX5_cut : ByteArray := prog_7_method_3_code
def yX5_cut : MethodName := ⟨RX5, "cut", "(J)J"⟩
abbrev cX5_holds : ByteArray := prog_7_method_4_code
def yX5_holds : MethodName := ⟨RX5, "holds", "(II)Z"⟩
def RX6 : String := "SaysBath$Spread"
def TX6 : u_T := fun k => match k with
  | 0 => ("SaysBath$Spread", "land", "LSaysBath$Land;", false)
  | 1 => ("SaysBath$Spread", "reached", "[I", true)
  | 2 => ("SaysBath$Spread", "stillFrom", "[I", true)
  | 3 => ("SaysBath$Spread", "variants", "[B", true)
  | 4 => ("SaysBath$Spread", "near", "[I", true)
  | _ => ("SaysBath$Spread", "mass", "[I", true)
def tyX6 : Nat → FieldType := fun k => match k with
  | 0 => .object "SaysBath$Land"
  | 1 => .array .int
  | 2 => .array .int
  | 3 => .array .byte
  | 4 => .array .int
  | _ => .array .int
abbrev wsX60 : List Cond := u_ws RX6 TX6 6
theorem nmX6 : ∀ a, a < 6 → ∀ b, b < 6 → a ≠ b → (TX6 a).2.1 ≠ (TX6 b).2.1 := by decide +kernel
theorem tyX6_ok : ∀ k, k < 6 → parseFieldDescriptor (TX6 k).2.2.1 = some (tyX6 k) := by decide +kernel
abbrev cX6_init : ByteArray := prog_8_method_1_code
def yX6_init : MethodName := ⟨RX6, "<init>", "(LSaysBath$Land;)V"⟩
abbrev cX6_startWith : ByteArray := prog_8_method_2_code
def yX6_startWith : MethodName := ⟨RX6, "startWith", "(LSaysBath$Land;)V"⟩
abbrev cX6_variantAt : ByteArray := prog_8_method_3_code
def yX6_variantAt : MethodName := ⟨RX6, "variantAt", "(III)I"⟩
abbrev cX6_placeOf : ByteArray := prog_8_method_4_code
def yX6_placeOf : MethodName := ⟨RX6, "placeOf", "(II)I"⟩
abbrev cX6_reach : ByteArray := prog_8_method_5_code
def yX6_reach : MethodName := ⟨RX6, "reach", "(II)V"⟩
abbrev cX6_startYears : ByteArray := prog_8_method_6_code
def yX6_startYears : MethodName := ⟨RX6, "startYears", "(I)V"⟩
abbrev cX6_countNeighbours : ByteArray := prog_8_method_7_code
def yX6_countNeighbours : MethodName := ⟨RX6, "countNeighbours", "(II)V"⟩
abbrev cX6_meet : ByteArray := prog_8_method_8_code
def yX6_meet : MethodName := ⟨RX6, "meet", "(IIIIZ)V"⟩
abbrev cX6_turningLaw : ByteArray := prog_8_method_9_code
def yX6_turningLaw : MethodName := ⟨RX6, "turningLaw", "(III)I"⟩
abbrev cX6_isHolding : ByteArray := prog_8_method_10_code
def yX6_isHolding : MethodName := ⟨RX6, "isHolding", "(III)Z"⟩
abbrev cX6_workOut : ByteArray := prog_8_method_11_code
def yX6_workOut : MethodName := ⟨RX6, "workOut", "(IIII)J"⟩
abbrev cX6_valueOf : ByteArray := prog_8_method_12_code
def yX6_valueOf : MethodName := ⟨RX6, "valueOf", "(III)J"⟩
def RX7 : String := "SaysBath$Voice"
def TX7 : u_T := fun k => match k with
  | 0 => ("SaysBath$Voice", "known", "I", false)
  | 1 => ("SaysBath$Voice", "variant", "[I", true)
  | _ => ("SaysBath$Voice", "toClerk", "[Z", true)
def tyX7 : Nat → FieldType := fun k => match k with
  | 0 => .int
  | 1 => .array .int
  | _ => .array .boolean
abbrev wsX70 : List Cond := u_ws RX7 TX7 3
theorem nmX7 : ∀ a, a < 3 → ∀ b, b < 3 → a ≠ b → (TX7 a).2.1 ≠ (TX7 b).2.1 := by decide +kernel
theorem tyX7_ok : ∀ k, k < 3 → parseFieldDescriptor (TX7 k).2.2.1 = some (tyX7 k) := by decide +kernel
abbrev cX7_init : ByteArray := prog_9_method_1_code
def yX7_init : MethodName := ⟨RX7, "<init>", "()V"⟩
abbrev cX7_forget : ByteArray := prog_9_method_2_code
def yX7_forget : MethodName := ⟨RX7, "forget", "()V"⟩
abbrev cX7_asBits : ByteArray := prog_9_method_3_code
def yX7_asBits : MethodName := ⟨RX7, "asBits", "()I"⟩
abbrev cX7_copyOf : ByteArray := prog_9_method_4_code
def yX7_copyOf : MethodName := ⟨RX7, "copyOf", "(LSaysBath$Voice;)V"⟩
def RX8 : String := "SaysBath"
def TX8 : u_T := fun k => match k with
  | 0 => ("SaysBath", "tape", "[B", true)
  | 1 => ("SaysBath", "tapeLength", "I", false)
  | 2 => ("SaysBath", "reader", "LSaysBath$Reader;", true)
  | 3 => ("SaysBath", "scene", "LSaysBath$Scene;", true)
  | 4 => ("SaysBath", "images", "[LSaysBath$Scene;", true)
  | 5 => ("SaysBath", "slots", "[LSaysBath$Slot;", true)
  | 6 => ("SaysBath", "spread", "LSaysBath$Spread;", true)
  | 7 => ("SaysBath", "bundles", "[I", true)
  | 8 => ("SaysBath", "labels", "[I", true)
  | 9 => ("SaysBath", "fitting", "[I", true)
  | 10 => ("SaysBath", "tally", "[I", true)
  | _ => ("SaysBath", "untold", "[Z", true)
def tyX8 : Nat → FieldType := fun k => match k with
  | 0 => .array .byte
  | 1 => .int
  | 2 => .object "SaysBath$Reader"
  | 3 => .object "SaysBath$Scene"
  | 4 => .array (.object "SaysBath$Scene")
  | 5 => .array (.object "SaysBath$Slot")
  | 6 => .object "SaysBath$Spread"
  | 7 => .array .int
  | 8 => .array .int
  | 9 => .array .int
  | 10 => .array .int
  | _ => .array .boolean
abbrev wsX80 : List Cond := u_ws RX8 TX8 12
theorem nmX8 : ∀ a, a < 12 → ∀ b, b < 12 → a ≠ b → (TX8 a).2.1 ≠ (TX8 b).2.1 := by decide +kernel
theorem tyX8_ok : ∀ k, k < 12 → parseFieldDescriptor (TX8 k).2.2.1 = some (tyX8 k) := by decide +kernel
abbrev cX8_init : ByteArray := prog_1_method_1_code
def yX8_init : MethodName := ⟨RX8, "<init>", "()V"⟩
abbrev cX8_feed : ByteArray := prog_1_method_2_code
def yX8_feed : MethodName := ⟨RX8, "feed", "(IIIII)I"⟩
abbrev cX8_putBytes : ByteArray := prog_1_method_3_code
def yX8_putBytes : MethodName := ⟨RX8, "putBytes", "(I)V"⟩
abbrev cX8_end : ByteArray := prog_1_method_4_code
def yX8_end : MethodName := ⟨RX8, "end", "(I)I"⟩
abbrev cX8_land : ByteArray := prog_1_method_5_code
def yX8_land : MethodName := ⟨RX8, "land", "()I"⟩
abbrev cX8_fault : ByteArray := prog_1_method_6_code
def yX8_fault : MethodName := ⟨RX8, "fault", "(I)I"⟩
abbrev cX8_says : ByteArray := prog_1_method_7_code
def yX8_says : MethodName := ⟨RX8, "says", "(III)I"⟩
abbrev cX8_turned : ByteArray := prog_1_method_8_code
def yX8_turned : MethodName := ⟨RX8, "turned", "(III)I"⟩
abbrev cX8_lines : ByteArray := prog_1_method_9_code
def yX8_lines : MethodName := ⟨RX8, "lines", "(II)I"⟩
abbrev cX8_countLines : ByteArray := prog_1_method_10_code
def yX8_countLines : MethodName := ⟨RX8, "countLines", "(IIZ)I"⟩
abbrev cX8_isLine : ByteArray := prog_1_method_11_code
def yX8_isLine : MethodName := ⟨RX8, "isLine", "(III)Z"⟩
abbrev cX8_bundle : ByteArray := prog_1_method_12_code
def yX8_bundle : MethodName := ⟨RX8, "bundle", "(II)I"⟩
abbrev cX8_bundleOf : ByteArray := prog_1_method_13_code
def yX8_bundleOf : MethodName := ⟨RX8, "bundleOf", "(II)I"⟩
abbrev cX8_fillBundles : ByteArray := prog_1_method_14_code
def yX8_fillBundles : MethodName := ⟨RX8, "fillBundles", "(I)V"⟩
abbrev cX8_thick : ByteArray := prog_1_method_15_code
def yX8_thick : MethodName := ⟨RX8, "thick", "(I)I"⟩
abbrev cX8_crossed : ByteArray := prog_1_method_16_code
def yX8_crossed : MethodName := ⟨RX8, "crossed", "(II)I"⟩
abbrev cX8_areas : ByteArray := prog_1_method_17_code
def yX8_areas : MethodName := ⟨RX8, "areas", "(II)I"⟩
abbrev cX8_area : ByteArray := prog_1_method_18_code
def yX8_area : MethodName := ⟨RX8, "area", "(III)I"⟩
abbrev cX8_labelAreas : ByteArray := prog_1_method_19_code
def yX8_labelAreas : MethodName := ⟨RX8, "labelAreas", "(II)V"⟩
abbrev cX8_moved : ByteArray := prog_1_method_20_code
def yX8_moved : MethodName := ⟨RX8, "moved", "(III)I"⟩
abbrev cX8_still : ByteArray := prog_1_method_21_code
def yX8_still : MethodName := ⟨RX8, "still", "(I)I"⟩
abbrev cX8_river : ByteArray := prog_1_method_22_code
def yX8_river : MethodName := ⟨RX8, "river", "(III)J"⟩
abbrev cX8_ways : ByteArray := prog_1_method_23_code
def yX8_ways : MethodName := ⟨RX8, "ways", "(II)J"⟩
abbrev cX8_tells : ByteArray := prog_1_method_24_code
def yX8_tells : MethodName := ⟨RX8, "tells", "(I)I"⟩
abbrev cX8_alone : ByteArray := prog_1_method_25_code
def yX8_alone : MethodName := ⟨RX8, "alone", "(II)I"⟩
abbrev cX8_clearUntold : ByteArray := prog_1_method_26_code
def yX8_clearUntold : MethodName := ⟨RX8, "clearUntold", "()V"⟩
abbrev cX8_difference : ByteArray := prog_1_method_27_code
def yX8_difference : MethodName := ⟨RX8, "difference", "(III)I"⟩
abbrev cX8_fewestItems : ByteArray := prog_1_method_28_code
def yX8_fewestItems : MethodName := ⟨RX8, "fewestItems", "()I"⟩
abbrev cX8_hear : ByteArray := prog_1_method_29_code
def yX8_hear : MethodName := ⟨RX8, "hear", "(IIZ)I"⟩
abbrev cX8_listen : ByteArray := prog_1_method_30_code
def yX8_listen : MethodName := ⟨RX8, "listen", "(IIZ)I"⟩
abbrev cX8_hears : ByteArray := prog_1_method_31_code
def yX8_hears : MethodName := ⟨RX8, "hears", "(I)I"⟩
abbrev cX8_mute : ByteArray := prog_1_method_32_code
def yX8_mute : MethodName := ⟨RX8, "mute", "()I"⟩
abbrev cX8_heard : ByteArray := prog_1_method_33_code
def yX8_heard : MethodName := ⟨RX8, "heard", "(I)I"⟩
abbrev cX8_fillFitting : ByteArray := prog_1_method_34_code
def yX8_fillFitting : MethodName := ⟨RX8, "fillFitting", "(I)V"⟩
abbrev cX8_fittingItems : ByteArray := prog_1_method_35_code
def yX8_fittingItems : MethodName := ⟨RX8, "fittingItems", "(II)I"⟩
abbrev cX8_fits : ByteArray := prog_1_method_36_code
def yX8_fits : MethodName := ⟨RX8, "fits", "(II)I"⟩
abbrev cX8_whole : ByteArray := prog_1_method_37_code
def yX8_whole : MethodName := ⟨RX8, "whole", "(I)I"⟩
abbrev cX8_wholeVillages : ByteArray := prog_1_method_38_code
def yX8_wholeVillages : MethodName := ⟨RX8, "wholeVillages", "(I)I"⟩
abbrev cX8_from : ByteArray := prog_1_method_39_code
def yX8_from : MethodName := ⟨RX8, "from", "(I)I"⟩
abbrev cX8_next : ByteArray := prog_1_method_40_code
def yX8_next : MethodName := ⟨RX8, "next", "(I)I"⟩
abbrev cX8_greatestCamp : ByteArray := prog_1_method_41_code
def yX8_greatestCamp : MethodName := ⟨RX8, "greatestCamp", "(III)I"⟩
abbrev cX8_clearTally : ByteArray := prog_1_method_42_code
def yX8_clearTally : MethodName := ⟨RX8, "clearTally", "()V"⟩
abbrev cX8_two : ByteArray := prog_1_method_43_code
def yX8_two : MethodName := ⟨RX8, "two", "(I)I"⟩
abbrev cX8_nowhere : ByteArray := prog_1_method_44_code
def yX8_nowhere : MethodName := ⟨RX8, "nowhere", "(II)I"⟩
abbrev cX8_anyFits : ByteArray := prog_1_method_45_code
def yX8_anyFits : MethodName := ⟨RX8, "anyFits", "(I)Z"⟩
abbrev cX8_note : ByteArray := prog_1_method_46_code
def yX8_note : MethodName := ⟨RX8, "note", "(IIII)I"⟩
abbrev cX8_noted : ByteArray := prog_1_method_47_code
def yX8_noted : MethodName := ⟨RX8, "noted", "(III)I"⟩
abbrev cX8_mostly : ByteArray := prog_1_method_48_code
def yX8_mostly : MethodName := ⟨RX8, "mostly", "(II)I"⟩
abbrev cX8_off : ByteArray := prog_1_method_49_code
def yX8_off : MethodName := ⟨RX8, "off", "(II)I"⟩
abbrev cX8_odds : ByteArray := prog_1_method_50_code
def yX8_odds : MethodName := ⟨RX8, "odds", "(IZ)J"⟩
abbrev cX8_upperOdds : ByteArray := prog_1_method_51_code
def yX8_upperOdds : MethodName := ⟨RX8, "upperOdds", "(I)J"⟩
abbrev cX8_lowerOdds : ByteArray := prog_1_method_52_code
def yX8_lowerOdds : MethodName := ⟨RX8, "lowerOdds", "(I)J"⟩
abbrev cX8_commonPart : ByteArray := prog_1_method_53_code
def yX8_commonPart : MethodName := ⟨RX8, "commonPart", "(JJ)J"⟩
abbrev cX8_likely : ByteArray := prog_1_method_54_code
def yX8_likely : MethodName := ⟨RX8, "likely", "()I"⟩
abbrev cX8_ahead : ByteArray := prog_1_method_55_code
def yX8_ahead : MethodName := ⟨RX8, "ahead", "(I)I"⟩
abbrev cX8_hasGreaterOdds : ByteArray := prog_1_method_56_code
def yX8_hasGreaterOdds : MethodName := ⟨RX8, "hasGreaterOdds", "(II)Z"⟩
abbrev cX8_isGreater : ByteArray := prog_1_method_57_code
def yX8_isGreater : MethodName := ⟨RX8, "isGreater", "(JJJJ)Z"⟩
abbrev cX8_walk : ByteArray := prog_1_method_58_code
def yX8_walk : MethodName := ⟨RX8, "walk", "(II)I"⟩
abbrev cX8_leans : ByteArray := prog_1_method_59_code
def yX8_leans : MethodName := ⟨RX8, "leans", "(II)I"⟩
abbrev cX8_isLeaning : ByteArray := prog_1_method_60_code
def yX8_isLeaning : MethodName := ⟨RX8, "isLeaning", "(II)Z"⟩
abbrev cX8_lean : ByteArray := prog_1_method_61_code
def yX8_lean : MethodName := ⟨RX8, "lean", "(II)I"⟩
abbrev cX8_village : ByteArray := prog_1_method_62_code
def yX8_village : MethodName := ⟨RX8, "village", "(II)I"⟩
abbrev cX8_count : ByteArray := prog_1_method_63_code
def yX8_count : MethodName := ⟨RX8, "count", "(I)I"⟩
abbrev cX8_countRows : ByteArray := prog_1_method_64_code
def yX8_countRows : MethodName := ⟨RX8, "countRows", "()I"⟩
abbrev cX8_keep : ByteArray := prog_1_method_65_code
def yX8_keep : MethodName := ⟨RX8, "keep", "(I)I"⟩
abbrev cX8_back : ByteArray := prog_1_method_66_code
def yX8_back : MethodName := ⟨RX8, "back", "(I)I"⟩
abbrev cX8_row : ByteArray := prog_1_method_67_code
def yX8_row : MethodName := ⟨RX8, "row", "(III)I"⟩
abbrev cX8_write : ByteArray := prog_1_method_68_code
def yX8_write : MethodName := ⟨RX8, "write", "(IIJ)I"⟩
abbrev cX8_paste : ByteArray := prog_1_method_69_code
def yX8_paste : MethodName := ⟨RX8, "paste", "(IIIII)I"⟩
abbrev cX8_hasVillage : ByteArray := prog_1_method_70_code
def yX8_hasVillage : MethodName := ⟨RX8, "hasVillage", "(I)Z"⟩
abbrev cX8_hasItem : ByteArray := prog_1_method_71_code
def yX8_hasItem : MethodName := ⟨RX8, "hasItem", "(I)Z"⟩
abbrev cX8_hasVariant : ByteArray := prog_1_method_72_code
def yX8_hasVariant : MethodName := ⟨RX8, "hasVariant", "(II)Z"⟩
abbrev cX8_isYear : ByteArray := prog_1_method_73_code
def yX8_isYear : MethodName := ⟨RX8, "isYear", "(I)Z"⟩
abbrev cX8_isAsker : ByteArray := prog_1_method_74_code
def yX8_isAsker : MethodName := ⟨RX8, "isAsker", "(I)Z"⟩
abbrev cX8_isSlot : ByteArray := prog_1_method_75_code
def yX8_isSlot : MethodName := ⟨RX8, "isSlot", "(I)Z"⟩
abbrev cX8_reachesYear : ByteArray := prog_1_method_76_code
def yX8_reachesYear : MethodName := ⟨RX8, "reachesYear", "(I)Z"⟩
abbrev cX8_reachesItem : ByteArray := prog_1_method_77_code
def yX8_reachesItem : MethodName := ⟨RX8, "reachesItem", "(II)Z"⟩
def RX9 : String := "SaysBathModel"
def TX9 : u_T := fun k => match k with
  | 0 => ("SaysBathModel", "thrown", "I", false)
  | 1 => ("SaysBathModel", "world", "[I", true)
  | 2 => ("SaysBathModel", "images", "[I", true)
  | 3 => ("SaysBathModel", "hasImage", "[Z", true)
  | 4 => ("SaysBathModel", "tape", "[B", true)
  | 5 => ("SaysBathModel", "taped", "I", false)
  | 6 => ("SaysBathModel", "five", "[I", true)
  | 7 => ("SaysBathModel", "size", "I", false)
  | 8 => ("SaysBathModel", "at", "I", false)
  | 9 => ("SaysBathModel", "from", "I", false)
  | 10 => ("SaysBathModel", "token", "I", false)
  | 11 => ("SaysBathModel", "value", "I", false)
  | 12 => ("SaysBathModel", "faultKind", "I", false)
  | 13 => ("SaysBathModel", "faultPlace", "I", false)
  | 14 => ("SaysBathModel", "fresh", "[I", true)
  | 15 => ("SaysBathModel", "isLaid", "Z", false)
  | 16 => ("SaysBathModel", "said", "[I", true)
  | 17 => ("SaysBathModel", "turns", "[I", true)
  | 18 => ("SaysBathModel", "least", "[I", true)
  | 19 => ("SaysBathModel", "upper", "J", false)
  | 20 => ("SaysBathModel", "lower", "J", false)
  | 21 => ("SaysBathModel", "many", "[I", true)
  | 22 => ("SaysBathModel", "width", "[I", true)
  | 23 => ("SaysBathModel", "numbers", "[J", true)
  | _ => ("SaysBathModel", "moving", "[J", true)
def tyX9 : Nat → FieldType := fun k => match k with
  | 0 => .int
  | 1 => .array .int
  | 2 => .array .int
  | 3 => .array .boolean
  | 4 => .array .byte
  | 5 => .int
  | 6 => .array .int
  | 7 => .int
  | 8 => .int
  | 9 => .int
  | 10 => .int
  | 11 => .int
  | 12 => .int
  | 13 => .int
  | 14 => .array .int
  | 15 => .boolean
  | 16 => .array .int
  | 17 => .array .int
  | 18 => .array .int
  | 19 => .long
  | 20 => .long
  | 21 => .array .int
  | 22 => .array .int
  | 23 => .array .long
  | _ => .array .long
abbrev wsX90 : List Cond := u_ws RX9 TX9 25
theorem nmX9 : ∀ a, a < 25 → ∀ b, b < 25 → a ≠ b → (TX9 a).2.1 ≠ (TX9 b).2.1 := by decide +kernel
theorem tyX9_ok : ∀ k, k < 25 → parseFieldDescriptor (TX9 k).2.2.1 = some (tyX9 k) := by decide +kernel
abbrev cX9_in : ByteArray := prog_11_method_2_code
def yX9_in : MethodName := ⟨RX9, "in", "(JJJ)Z"⟩
abbrev cX9_ones : ByteArray := prog_11_method_3_code
def yX9_ones : MethodName := ⟨RX9, "ones", "(I)I"⟩
abbrev cX9_isYear : ByteArray := prog_11_method_4_code
def yX9_isYear : MethodName := ⟨RX9, "isYear", "(I)Z"⟩
abbrev cX9_init : ByteArray := prog_11_method_5_code
def yX9_init : MethodName := ⟨RX9, "<init>", "()V"⟩
abbrev cX9_keep : ByteArray := prog_11_method_6_code
def yX9_keep : MethodName := ⟨RX9, "keep", "(I)I"⟩
abbrev cX9_back : ByteArray := prog_11_method_7_code
def yX9_back : MethodName := ⟨RX9, "back", "(I)I"⟩
abbrev cX9_ofVillage : ByteArray := prog_11_method_8_code
def yX9_ofVillage : MethodName := ⟨RX9, "ofVillage", "(II)I"⟩
abbrev cX9_ofRoad : ByteArray := prog_11_method_9_code
def yX9_ofRoad : MethodName := ⟨RX9, "ofRoad", "(II)I"⟩
abbrev cX9_ofItem : ByteArray := prog_11_method_10_code
def yX9_ofItem : MethodName := ⟨RX9, "ofItem", "(II)I"⟩
abbrev cX9_ofLaw : ByteArray := prog_11_method_11_code
def yX9_ofLaw : MethodName := ⟨RX9, "ofLaw", "(II)I"⟩
abbrev cX9_isVillage : ByteArray := prog_11_method_12_code
def yX9_isVillage : MethodName := ⟨RX9, "isVillage", "(I)Z"⟩
abbrev cX9_isItem : ByteArray := prog_11_method_13_code
def yX9_isItem : MethodName := ⟨RX9, "isItem", "(I)Z"⟩
abbrev cX9_isRoad : ByteArray := prog_11_method_14_code
def yX9_isRoad : MethodName := ⟨RX9, "isRoad", "(I)Z"⟩
abbrev cX9_isVariant : ByteArray := prog_11_method_15_code
def yX9_isVariant : MethodName := ⟨RX9, "isVariant", "(II)Z"⟩
abbrev cX9_feed : ByteArray := prog_11_method_16_code
def yX9_feed : MethodName := ⟨RX9, "feed", "(IIIII)I"⟩
abbrev cX9_end : ByteArray := prog_11_method_17_code
def yX9_end : MethodName := ⟨RX9, "end", "(I)I"⟩
abbrev cX9_see : ByteArray := prog_11_method_18_code
def yX9_see : MethodName := ⟨RX9, "see", "(I)I"⟩
abbrev cX9_advance : ByteArray := prog_11_method_19_code
def yX9_advance : MethodName := ⟨RX9, "advance", "()V"⟩
abbrev cX9_good : ByteArray := prog_11_method_20_code
def yX9_good : MethodName := ⟨RX9, "good", "()Z"⟩
abbrev cX9_errs : ByteArray := prog_11_method_21_code
def yX9_errs : MethodName := ⟨RX9, "errs", "(I)V"⟩
abbrev cX9_is : ByteArray := prog_11_method_22_code
def yX9_is : MethodName := ⟨RX9, "is", "(Ljava/lang/String;)Z"⟩
abbrev cX9_takes : ByteArray := prog_11_method_23_code
def yX9_takes : MethodName := ⟨RX9, "takes", "(Ljava/lang/String;)Z"⟩
abbrev cX9_needs : ByteArray := prog_11_method_24_code
def yX9_needs : MethodName := ⟨RX9, "needs", "(Ljava/lang/String;)V"⟩
abbrev cX9_number : ByteArray := prog_11_method_25_code
def yX9_number : MethodName := ⟨RX9, "number", "(II)I"⟩
abbrev cX9_fault : ByteArray := prog_11_method_26_code
def yX9_fault : MethodName := ⟨RX9, "fault", "(I)I"⟩
abbrev cX9_readRoad : ByteArray := prog_11_method_27_code
def yX9_readRoad : MethodName := ⟨RX9, "readRoad", "()V"⟩
abbrev cX9_readItem : ByteArray := prog_11_method_28_code
def yX9_readItem : MethodName := ⟨RX9, "readItem", "()V"⟩
abbrev cX9_readSays : ByteArray := prog_11_method_29_code
def yX9_readSays : MethodName := ⟨RX9, "readSays", "()V"⟩
abbrev cX9_readPart : ByteArray := prog_11_method_30_code
def yX9_readPart : MethodName := ⟨RX9, "readPart", "(II)V"⟩
abbrev cX9_readSum : ByteArray := prog_11_method_31_code
def yX9_readSum : MethodName := ⟨RX9, "readSum", "(II)V"⟩
abbrev cX9_readLaw : ByteArray := prog_11_method_32_code
def yX9_readLaw : MethodName := ⟨RX9, "readLaw", "()V"⟩
abbrev cX9_readLine : ByteArray := prog_11_method_33_code
def yX9_readLine : MethodName := ⟨RX9, "readLine", "()V"⟩
abbrev cX9_land : ByteArray := prog_11_method_34_code
def yX9_land : MethodName := ⟨RX9, "land", "()I"⟩
abbrev cX9_cell : ByteArray := prog_11_method_35_code
def yX9_cell : MethodName := ⟨RX9, "cell", "(III)I"⟩
abbrev cX9_otherBy : ByteArray := prog_11_method_36_code
def yX9_otherBy : MethodName := ⟨RX9, "otherBy", "(II)I"⟩
abbrev cX9_nearBy : ByteArray := prog_11_method_37_code
def yX9_nearBy : MethodName := ⟨RX9, "nearBy", "(IIIIZ)I"⟩
abbrev cX9_partOf : ByteArray := prog_11_method_38_code
def yX9_partOf : MethodName := ⟨RX9, "partOf", "(IIII)J"⟩
abbrev cX9_holds : ByteArray := prog_11_method_39_code
def yX9_holds : MethodName := ⟨RX9, "holds", "(III)Z"⟩
abbrev cX9_lawFor : ByteArray := prog_11_method_40_code
def yX9_lawFor : MethodName := ⟨RX9, "lawFor", "(III)I"⟩
abbrev cX9_lay : ByteArray := prog_11_method_41_code
def yX9_lay : MethodName := ⟨RX9, "lay", "()V"⟩
abbrev cX9_saidIn : ByteArray := prog_11_method_42_code
def yX9_saidIn : MethodName := ⟨RX9, "saidIn", "(III)I"⟩
abbrev cX9_says : ByteArray := prog_11_method_43_code
def yX9_says : MethodName := ⟨RX9, "says", "(III)I"⟩
abbrev cX9_turned : ByteArray := prog_11_method_44_code
def yX9_turned : MethodName := ⟨RX9, "turned", "(III)I"⟩
abbrev cX9_isLine : ByteArray := prog_11_method_45_code
def yX9_isLine : MethodName := ⟨RX9, "isLine", "(III)Z"⟩
abbrev cX9_linesOf : ByteArray := prog_11_method_46_code
def yX9_linesOf : MethodName := ⟨RX9, "linesOf", "(II)I"⟩
abbrev cX9_lines : ByteArray := prog_11_method_47_code
def yX9_lines : MethodName := ⟨RX9, "lines", "(II)I"⟩
abbrev cX9_bundleOf : ByteArray := prog_11_method_48_code
def yX9_bundleOf : MethodName := ⟨RX9, "bundleOf", "(II)I"⟩
abbrev cX9_bundle : ByteArray := prog_11_method_49_code
def yX9_bundle : MethodName := ⟨RX9, "bundle", "(II)I"⟩
abbrev cX9_thick : ByteArray := prog_11_method_50_code
def yX9_thick : MethodName := ⟨RX9, "thick", "(I)I"⟩
abbrev cX9_crossed : ByteArray := prog_11_method_51_code
def yX9_crossed : MethodName := ⟨RX9, "crossed", "(II)I"⟩
abbrev cX9_measures : ByteArray := prog_11_method_52_code
def yX9_measures : MethodName := ⟨RX9, "measures", "(II)V"⟩
abbrev cX9_areas : ByteArray := prog_11_method_53_code
def yX9_areas : MethodName := ⟨RX9, "areas", "(II)I"⟩
abbrev cX9_area : ByteArray := prog_11_method_54_code
def yX9_area : MethodName := ⟨RX9, "area", "(III)I"⟩
abbrev cX9_moved : ByteArray := prog_11_method_55_code
def yX9_moved : MethodName := ⟨RX9, "moved", "(III)I"⟩
abbrev cX9_still : ByteArray := prog_11_method_56_code
def yX9_still : MethodName := ⟨RX9, "still", "(I)I"⟩
abbrev cX9_ways : ByteArray := prog_11_method_57_code
def yX9_ways : MethodName := ⟨RX9, "ways", "(II)J"⟩
abbrev cX9_river : ByteArray := prog_11_method_58_code
def yX9_river : MethodName := ⟨RX9, "river", "(III)J"⟩
abbrev cX9_areTold : ByteArray := prog_11_method_59_code
def yX9_areTold : MethodName := ⟨RX9, "areTold", "(IIII)Z"⟩
abbrev cX9_tellsAll : ByteArray := prog_11_method_60_code
def yX9_tellsAll : MethodName := ⟨RX9, "tellsAll", "(III)Z"⟩
abbrev cX9_fewest : ByteArray := prog_11_method_61_code
def yX9_fewest : MethodName := ⟨RX9, "fewest", "(II)I"⟩
abbrev cX9_tells : ByteArray := prog_11_method_62_code
def yX9_tells : MethodName := ⟨RX9, "tells", "(I)I"⟩
abbrev cX9_alone : ByteArray := prog_11_method_63_code
def yX9_alone : MethodName := ⟨RX9, "alone", "(II)I"⟩
abbrev cX9_isHeard : ByteArray := prog_11_method_64_code
def yX9_isHeard : MethodName := ⟨RX9, "isHeard", "(I)Z"⟩
abbrev cX9_heardMany : ByteArray := prog_11_method_65_code
def yX9_heardMany : MethodName := ⟨RX9, "heardMany", "()I"⟩
abbrev cX9_hear : ByteArray := prog_11_method_66_code
def yX9_hear : MethodName := ⟨RX9, "hear", "(IIZ)I"⟩
abbrev cX9_hears : ByteArray := prog_11_method_67_code
def yX9_hears : MethodName := ⟨RX9, "hears", "(I)I"⟩
abbrev cX9_mute : ByteArray := prog_11_method_68_code
def yX9_mute : MethodName := ⟨RX9, "mute", "()I"⟩
abbrev cX9_heard : ByteArray := prog_11_method_69_code
def yX9_heard : MethodName := ⟨RX9, "heard", "(I)I"⟩
abbrev cX9_fitsOne : ByteArray := prog_11_method_70_code
def yX9_fitsOne : MethodName := ⟨RX9, "fitsOne", "(III)Z"⟩
abbrev cX9_fitsOf : ByteArray := prog_11_method_71_code
def yX9_fitsOf : MethodName := ⟨RX9, "fitsOf", "(II)I"⟩
abbrev cX9_fits : ByteArray := prog_11_method_72_code
def yX9_fits : MethodName := ⟨RX9, "fits", "(II)I"⟩
abbrev cX9_wholeOf : ByteArray := prog_11_method_73_code
def yX9_wholeOf : MethodName := ⟨RX9, "wholeOf", "(I)I"⟩
abbrev cX9_whole : ByteArray := prog_11_method_74_code
def yX9_whole : MethodName := ⟨RX9, "whole", "(I)I"⟩
abbrev cX9_from : ByteArray := prog_11_method_75_code
def yX9_from : MethodName := ⟨RX9, "from", "(I)I"⟩
abbrev cX9_next : ByteArray := prog_11_method_76_code
def yX9_next : MethodName := ⟨RX9, "next", "(I)I"⟩
abbrev cX9_two : ByteArray := prog_11_method_77_code
def yX9_two : MethodName := ⟨RX9, "two", "(I)I"⟩
abbrev cX9_nowhere : ByteArray := prog_11_method_78_code
def yX9_nowhere : MethodName := ⟨RX9, "nowhere", "(II)I"⟩
abbrev cX9_notesOf : ByteArray := prog_11_method_79_code
def yX9_notesOf : MethodName := ⟨RX9, "notesOf", "(III)I"⟩
abbrev cX9_notesAll : ByteArray := prog_11_method_80_code
def yX9_notesAll : MethodName := ⟨RX9, "notesAll", "(II)I"⟩
abbrev cX9_note : ByteArray := prog_11_method_81_code
def yX9_note : MethodName := ⟨RX9, "note", "(IIII)I"⟩
abbrev cX9_noted : ByteArray := prog_11_method_82_code
def yX9_noted : MethodName := ⟨RX9, "noted", "(III)I"⟩
abbrev cX9_mostlyOf : ByteArray := prog_11_method_83_code
def yX9_mostlyOf : MethodName := ⟨RX9, "mostlyOf", "(II)I"⟩
abbrev cX9_mostly : ByteArray := prog_11_method_84_code
def yX9_mostly : MethodName := ⟨RX9, "mostly", "(II)I"⟩
abbrev cX9_off : ByteArray := prog_11_method_85_code
def yX9_off : MethodName := ⟨RX9, "off", "(II)I"⟩
abbrev cX9_oddsOf : ByteArray := prog_11_method_86_code
def yX9_oddsOf : MethodName := ⟨RX9, "oddsOf", "(I)V"⟩
abbrev cX9_odds : ByteArray := prog_11_method_87_code
def yX9_odds : MethodName := ⟨RX9, "odds", "(IZ)J"⟩
abbrev cX9_compare : ByteArray := prog_11_method_88_code
def yX9_compare : MethodName := ⟨RX9, "compare", "(JJJJ)I"⟩
abbrev cX9_isAhead : ByteArray := prog_11_method_89_code
def yX9_isAhead : MethodName := ⟨RX9, "isAhead", "(II)Z"⟩
abbrev cX9_likely : ByteArray := prog_11_method_90_code
def yX9_likely : MethodName := ⟨RX9, "likely", "()I"⟩
abbrev cX9_ahead : ByteArray := prog_11_method_91_code
def yX9_ahead : MethodName := ⟨RX9, "ahead", "(I)I"⟩
abbrev cX9_walk : ByteArray := prog_11_method_92_code
def yX9_walk : MethodName := ⟨RX9, "walk", "(II)I"⟩
abbrev cX9_leansIn : ByteArray := prog_11_method_93_code
def yX9_leansIn : MethodName := ⟨RX9, "leansIn", "(II)Z"⟩
abbrev cX9_isAsker : ByteArray := prog_11_method_94_code
def yX9_isAsker : MethodName := ⟨RX9, "isAsker", "(I)Z"⟩
abbrev cX9_leans : ByteArray := prog_11_method_95_code
def yX9_leans : MethodName := ⟨RX9, "leans", "(II)I"⟩
abbrev cX9_lean : ByteArray := prog_11_method_96_code
def yX9_lean : MethodName := ⟨RX9, "lean", "(II)I"⟩
abbrev cX9_village : ByteArray := prog_11_method_97_code
def yX9_village : MethodName := ⟨RX9, "village", "(II)I"⟩
abbrev cX9_count : ByteArray := prog_11_method_98_code
def yX9_count : MethodName := ⟨RX9, "count", "(I)I"⟩
abbrev cX9_isSlot : ByteArray := prog_11_method_99_code
def yX9_isSlot : MethodName := ⟨RX9, "isSlot", "(I)Z"⟩
abbrev cX9_cut : ByteArray := prog_11_method_100_code
def yX9_cut : MethodName := ⟨RX9, "cut", "(JI)J"⟩
abbrev cX9_row : ByteArray := prog_11_method_101_code
def yX9_row : MethodName := ⟨RX9, "row", "(III)I"⟩
abbrev cX9_write : ByteArray := prog_11_method_102_code
def yX9_write : MethodName := ⟨RX9, "write", "(IIJ)I"⟩
abbrev cX9_paste : ByteArray := prog_11_method_103_code
def yX9_paste : MethodName := ⟨RX9, "paste", "(IIIII)I"⟩
def RJ6 : String := "java/lang/Integer"
abbrev cJ6_bitCount_0f7a4 : ByteArray := prog_12_method_49_code
def yJ6_bitCount_0f7a4 : MethodName := ⟨RJ6, "bitCount", "(I)I"⟩
def RJ0 : String := "java/lang/String"
abbrev cJ0_length_8abf5 : ByteArray := prog_14_method_54_code
def yJ0_length_8abf5 : MethodName := ⟨RJ0, "length", "()I"⟩
abbrev cJ0_charAt_5068e : ByteArray := prog_14_method_56_code
def yJ0_charAt_5068e : MethodName := ⟨RJ0, "charAt", "(I)C"⟩
def RL : String := "SaysBathLaw"
abbrev cL_law : ByteArray := code
def yL_law : MethodName := ⟨RL, "law", "([I)Z"⟩
abbrev vwCl : List vw_C := [(RX0, TX0, 13), (RX1, TX1, 12), (RX2, TX2, 3), (RX3, TX3, 9), (RX4, TX4, 3), (RX5, TX5, 3), (RX6, TX6, 6), (RX7, TX7, 3), (RX8, TX8, 12), (RX9, TX9, 25)]
