section
-- ===== PART A: goes FIRST, ahead of the names: the tables' words, and 'selects' of the private methods out of them =====
/-- a private method of a class that the tables say can be made, by its rows of tables_1 -/
def lw_okq (q : MethodName × Nat) : Prop := (q.1.cls ≠ "java/lang/invoke/MethodHandle" ∧ q.1.cls ≠ "java/lang/invoke/VarHandle") ∧ Cond.instantiable q.1.cls q.2 ∈ tables_1 ∧ Cond.privateMethod q.1 ∈ tables_1 ∧ Cond.instanceMethod q.1 ∈ tables_1
theorem lw_p0 : lw_okq (⟨"HedgeHoles", "failed", "(I)I"⟩, 8) := ⟨⟨by decide +kernel, by decide +kernel⟩, List.mem_of_getElem? (i := 11) (by decide +kernel), List.mem_of_getElem? (i := 147) (by decide +kernel), List.mem_of_getElem? (i := 148) (by decide +kernel)⟩
theorem lw_p1 : lw_okq (⟨"HedgeHoles", "firstFaultOfText", "(LHedgeHoles$Row;II)I"⟩, 8) := ⟨⟨by decide +kernel, by decide +kernel⟩, List.mem_of_getElem? (i := 11) (by decide +kernel), List.mem_of_getElem? (i := 151) (by decide +kernel), List.mem_of_getElem? (i := 152) (by decide +kernel)⟩
theorem lw_p2 : lw_okq (⟨"HedgeHoles$Land", "readsGoer", "(III)Z"⟩, 8) := ⟨⟨by decide +kernel, by decide +kernel⟩, List.mem_of_getElem? (i := 21) (by decide +kernel), List.mem_of_getElem? (i := 170) (by decide +kernel), List.mem_of_getElem? (i := 171) (by decide +kernel)⟩
theorem lw_p3 : lw_okq (⟨"HedgeHoles", "isGoer", "(I)Z"⟩, 8) := ⟨⟨by decide +kernel, by decide +kernel⟩, List.mem_of_getElem? (i := 11) (by decide +kernel), List.mem_of_getElem? (i := 192) (by decide +kernel), List.mem_of_getElem? (i := 193) (by decide +kernel)⟩
theorem lw_p4 : lw_okq (⟨"HedgeHoles", "areTwoFields", "(II)Z"⟩, 8) := ⟨⟨by decide +kernel, by decide +kernel⟩, List.mem_of_getElem? (i := 11) (by decide +kernel), List.mem_of_getElem? (i := 207) (by decide +kernel), List.mem_of_getElem? (i := 208) (by decide +kernel)⟩
theorem lw_p5 : lw_okq (⟨"HedgeHoles", "isField", "(I)Z"⟩, 8) := ⟨⟨by decide +kernel, by decide +kernel⟩, List.mem_of_getElem? (i := 11) (by decide +kernel), List.mem_of_getElem? (i := 211) (by decide +kernel), List.mem_of_getElem? (i := 212) (by decide +kernel)⟩
theorem lw_p6 : lw_okq (⟨"HedgeHoles", "hasCounty", "()Z"⟩, 8) := ⟨⟨by decide +kernel, by decide +kernel⟩, List.mem_of_getElem? (i := 11) (by decide +kernel), List.mem_of_getElem? (i := 261) (by decide +kernel), List.mem_of_getElem? (i := 262) (by decide +kernel)⟩
theorem lw_p7 : lw_okq (⟨"HedgeHoles", "refusalOfPairs", "(LHedgeHoles$Row;II)I"⟩, 8) := ⟨⟨by decide +kernel, by decide +kernel⟩, List.mem_of_getElem? (i := 11) (by decide +kernel), List.mem_of_getElem? (i := 289) (by decide +kernel), List.mem_of_getElem? (i := 290) (by decide +kernel)⟩
theorem lw_p8 : lw_okq (⟨"HedgeHoles", "firstWrongOfSeason", "(LHedgeHoles$Row;II)I"⟩, 8) := ⟨⟨by decide +kernel, by decide +kernel⟩, List.mem_of_getElem? (i := 11) (by decide +kernel), List.mem_of_getElem? (i := 293) (by decide +kernel), List.mem_of_getElem? (i := 294) (by decide +kernel)⟩
theorem lw_p9 : lw_okq (⟨"HedgeHoles", "ofTrial", "(I)I"⟩, 8) := ⟨⟨by decide +kernel, by decide +kernel⟩, List.mem_of_getElem? (i := 11) (by decide +kernel), List.mem_of_getElem? (i := 308) (by decide +kernel), List.mem_of_getElem? (i := 309) (by decide +kernel)⟩
theorem lw_p10 : lw_okq (⟨"HedgeHoles$Land", "nearerThan", "(II)I"⟩, 8) := ⟨⟨by decide +kernel, by decide +kernel⟩, List.mem_of_getElem? (i := 21) (by decide +kernel), List.mem_of_getElem? (i := 336) (by decide +kernel), List.mem_of_getElem? (i := 337) (by decide +kernel)⟩
theorem lw_p11 : lw_okq (⟨"HedgeHoles$Land", "fittedAround", "(II)I"⟩, 8) := ⟨⟨by decide +kernel, by decide +kernel⟩, List.mem_of_getElem? (i := 21) (by decide +kernel), List.mem_of_getElem? (i := 367) (by decide +kernel), List.mem_of_getElem? (i := 368) (by decide +kernel)⟩
theorem lw_p12 : lw_okq (⟨"HedgeHoles", "childTells", "(I)I"⟩, 8) := ⟨⟨by decide +kernel, by decide +kernel⟩, List.mem_of_getElem? (i := 11) (by decide +kernel), List.mem_of_getElem? (i := 449) (by decide +kernel), List.mem_of_getElem? (i := 450) (by decide +kernel)⟩
theorem lw_p13 : lw_okq (⟨"HedgeHoles", "leaveTrace", "(I)V"⟩, 8) := ⟨⟨by decide +kernel, by decide +kernel⟩, List.mem_of_getElem? (i := 11) (by decide +kernel), List.mem_of_getElem? (i := 453) (by decide +kernel), List.mem_of_getElem? (i := 454) (by decide +kernel)⟩
theorem lw_p14 : lw_okq (⟨"HedgeHoles", "thiefTells", "(I)I"⟩, 8) := ⟨⟨by decide +kernel, by decide +kernel⟩, List.mem_of_getElem? (i := 11) (by decide +kernel), List.mem_of_getElem? (i := 457) (by decide +kernel), List.mem_of_getElem? (i := 458) (by decide +kernel)⟩
theorem lw_p15 : lw_okq (⟨"HedgeHoles", "plainTells", "(I)I"⟩, 8) := ⟨⟨by decide +kernel, by decide +kernel⟩, List.mem_of_getElem? (i := 11) (by decide +kernel), List.mem_of_getElem? (i := 461) (by decide +kernel), List.mem_of_getElem? (i := 462) (by decide +kernel)⟩
def lw_privs_1 : List (MethodName × Nat) := [(⟨"HedgeHoles", "failed", "(I)I"⟩, 8), (⟨"HedgeHoles", "firstFaultOfText", "(LHedgeHoles$Row;II)I"⟩, 8), (⟨"HedgeHoles$Land", "readsGoer", "(III)Z"⟩, 8), (⟨"HedgeHoles", "isGoer", "(I)Z"⟩, 8), (⟨"HedgeHoles", "areTwoFields", "(II)Z"⟩, 8), (⟨"HedgeHoles", "isField", "(I)Z"⟩, 8), (⟨"HedgeHoles", "hasCounty", "()Z"⟩, 8), (⟨"HedgeHoles", "refusalOfPairs", "(LHedgeHoles$Row;II)I"⟩, 8), (⟨"HedgeHoles", "firstWrongOfSeason", "(LHedgeHoles$Row;II)I"⟩, 8), (⟨"HedgeHoles", "ofTrial", "(I)I"⟩, 8), (⟨"HedgeHoles$Land", "nearerThan", "(II)I"⟩, 8), (⟨"HedgeHoles$Land", "fittedAround", "(II)I"⟩, 8), (⟨"HedgeHoles", "childTells", "(I)I"⟩, 8), (⟨"HedgeHoles", "leaveTrace", "(I)V"⟩, 8), (⟨"HedgeHoles", "thiefTells", "(I)I"⟩, 8), (⟨"HedgeHoles", "plainTells", "(I)I"⟩, 8)]
theorem lw_r1 : ∀ q ∈ lw_privs_1, lw_okq q := List.forall_mem_cons.mpr ⟨lw_p0, List.forall_mem_cons.mpr ⟨lw_p1, List.forall_mem_cons.mpr ⟨lw_p2, List.forall_mem_cons.mpr ⟨lw_p3, List.forall_mem_cons.mpr ⟨lw_p4, List.forall_mem_cons.mpr ⟨lw_p5, List.forall_mem_cons.mpr ⟨lw_p6, List.forall_mem_cons.mpr ⟨lw_p7, List.forall_mem_cons.mpr ⟨lw_p8, List.forall_mem_cons.mpr ⟨lw_p9, List.forall_mem_cons.mpr ⟨lw_p10, List.forall_mem_cons.mpr ⟨lw_p11, List.forall_mem_cons.mpr ⟨lw_p12, List.forall_mem_cons.mpr ⟨lw_p13, List.forall_mem_cons.mpr ⟨lw_p14, List.forall_mem_cons.mpr ⟨lw_p15, fun _ h => absurd h List.not_mem_nil⟩⟩⟩⟩⟩⟩⟩⟩⟩⟩⟩⟩⟩⟩⟩⟩
theorem lw_p16 : lw_okq (⟨"HedgeHolesModel", "against", "(IIII)I"⟩, 29) := ⟨⟨by decide +kernel, by decide +kernel⟩, List.mem_of_getElem? (i := 485) (by decide +kernel), List.mem_of_getElem? (i := 592) (by decide +kernel), List.mem_of_getElem? (i := 593) (by decide +kernel)⟩
theorem lw_p17 : lw_okq (⟨"HedgeHolesModel", "fails", "(I)I"⟩, 29) := ⟨⟨by decide +kernel, by decide +kernel⟩, List.mem_of_getElem? (i := 485) (by decide +kernel), List.mem_of_getElem? (i := 596) (by decide +kernel), List.mem_of_getElem? (i := 597) (by decide +kernel)⟩
theorem lw_p18 : lw_okq (⟨"HedgeHolesModel", "readCounty", "(I)Z"⟩, 29) := ⟨⟨by decide +kernel, by decide +kernel⟩, List.mem_of_getElem? (i := 485) (by decide +kernel), List.mem_of_getElem? (i := 600) (by decide +kernel), List.mem_of_getElem? (i := 601) (by decide +kernel)⟩
theorem lw_p19 : lw_okq (⟨"HedgeHolesModel", "isSign", "(II)Z"⟩, 29) := ⟨⟨by decide +kernel, by decide +kernel⟩, List.mem_of_getElem? (i := 485) (by decide +kernel), List.mem_of_getElem? (i := 604) (by decide +kernel), List.mem_of_getElem? (i := 605) (by decide +kernel)⟩
theorem lw_p20 : lw_okq (⟨"HedgeHolesModel", "digit", "(III)I"⟩, 29) := ⟨⟨by decide +kernel, by decide +kernel⟩, List.mem_of_getElem? (i := 485) (by decide +kernel), List.mem_of_getElem? (i := 608) (by decide +kernel), List.mem_of_getElem? (i := 609) (by decide +kernel)⟩
theorem lw_p21 : lw_okq (⟨"HedgeHolesModel", "readGoer", "(I)Z"⟩, 29) := ⟨⟨by decide +kernel, by decide +kernel⟩, List.mem_of_getElem? (i := 485) (by decide +kernel), List.mem_of_getElem? (i := 615) (by decide +kernel), List.mem_of_getElem? (i := 616) (by decide +kernel)⟩
theorem lw_p22 : lw_okq (⟨"HedgeHolesModel", "takeCounty", "()V"⟩, 29) := ⟨⟨by decide +kernel, by decide +kernel⟩, List.mem_of_getElem? (i := 485) (by decide +kernel), List.mem_of_getElem? (i := 619) (by decide +kernel), List.mem_of_getElem? (i := 620) (by decide +kernel)⟩
theorem lw_p23 : lw_okq (⟨"HedgeHolesModel", "hedges", "()I"⟩, 29) := ⟨⟨by decide +kernel, by decide +kernel⟩, List.mem_of_getElem? (i := 485) (by decide +kernel), List.mem_of_getElem? (i := 623) (by decide +kernel), List.mem_of_getElem? (i := 624) (by decide +kernel)⟩
theorem lw_p24 : lw_okq (⟨"HedgeHolesModel", "isGoer", "(I)Z"⟩, 29) := ⟨⟨by decide +kernel, by decide +kernel⟩, List.mem_of_getElem? (i := 485) (by decide +kernel), List.mem_of_getElem? (i := 631) (by decide +kernel), List.mem_of_getElem? (i := 632) (by decide +kernel)⟩
theorem lw_p25 : lw_okq (⟨"HedgeHolesModel", "thickOf", "(I)I"⟩, 29) := ⟨⟨by decide +kernel, by decide +kernel⟩, List.mem_of_getElem? (i := 485) (by decide +kernel), List.mem_of_getElem? (i := 635) (by decide +kernel), List.mem_of_getElem? (i := 636) (by decide +kernel)⟩
theorem lw_p26 : lw_okq (⟨"HedgeHolesModel", "areTwo", "(II)Z"⟩, 29) := ⟨⟨by decide +kernel, by decide +kernel⟩, List.mem_of_getElem? (i := 485) (by decide +kernel), List.mem_of_getElem? (i := 643) (by decide +kernel), List.mem_of_getElem? (i := 644) (by decide +kernel)⟩
theorem lw_p27 : lw_okq (⟨"HedgeHolesModel", "isField", "(I)Z"⟩, 29) := ⟨⟨by decide +kernel, by decide +kernel⟩, List.mem_of_getElem? (i := 485) (by decide +kernel), List.mem_of_getElem? (i := 647) (by decide +kernel), List.mem_of_getElem? (i := 648) (by decide +kernel)⟩
theorem lw_p28 : lw_okq (⟨"HedgeHolesModel", "hedge", "(II)I"⟩, 29) := ⟨⟨by decide +kernel, by decide +kernel⟩, List.mem_of_getElem? (i := 485) (by decide +kernel), List.mem_of_getElem? (i := 651) (by decide +kernel), List.mem_of_getElem? (i := 652) (by decide +kernel)⟩
theorem lw_p29 : lw_okq (⟨"HedgeHolesModel", "goesTo", "(II)Z"⟩, 29) := ⟨⟨by decide +kernel, by decide +kernel⟩, List.mem_of_getElem? (i := 485) (by decide +kernel), List.mem_of_getElem? (i := 667) (by decide +kernel), List.mem_of_getElem? (i := 668) (by decide +kernel)⟩
theorem lw_p30 : lw_okq (⟨"HedgeHolesModel", "fitsHole", "(II)Z"⟩, 29) := ⟨⟨by decide +kernel, by decide +kernel⟩, List.mem_of_getElem? (i := 485) (by decide +kernel), List.mem_of_getElem? (i := 671) (by decide +kernel), List.mem_of_getElem? (i := 672) (by decide +kernel)⟩
theorem lw_p31 : lw_okq (⟨"HedgeHolesModel", "oneYear", "()V"⟩, 29) := ⟨⟨by decide +kernel, by decide +kernel⟩, List.mem_of_getElem? (i := 485) (by decide +kernel), List.mem_of_getElem? (i := 679) (by decide +kernel), List.mem_of_getElem? (i := 680) (by decide +kernel)⟩
def lw_privs_2 : List (MethodName × Nat) := [(⟨"HedgeHolesModel", "against", "(IIII)I"⟩, 29), (⟨"HedgeHolesModel", "fails", "(I)I"⟩, 29), (⟨"HedgeHolesModel", "readCounty", "(I)Z"⟩, 29), (⟨"HedgeHolesModel", "isSign", "(II)Z"⟩, 29), (⟨"HedgeHolesModel", "digit", "(III)I"⟩, 29), (⟨"HedgeHolesModel", "readGoer", "(I)Z"⟩, 29), (⟨"HedgeHolesModel", "takeCounty", "()V"⟩, 29), (⟨"HedgeHolesModel", "hedges", "()I"⟩, 29), (⟨"HedgeHolesModel", "isGoer", "(I)Z"⟩, 29), (⟨"HedgeHolesModel", "thickOf", "(I)I"⟩, 29), (⟨"HedgeHolesModel", "areTwo", "(II)Z"⟩, 29), (⟨"HedgeHolesModel", "isField", "(I)Z"⟩, 29), (⟨"HedgeHolesModel", "hedge", "(II)I"⟩, 29), (⟨"HedgeHolesModel", "goesTo", "(II)Z"⟩, 29), (⟨"HedgeHolesModel", "fitsHole", "(II)Z"⟩, 29), (⟨"HedgeHolesModel", "oneYear", "()V"⟩, 29)]
theorem lw_r2 : ∀ q ∈ lw_privs_2, lw_okq q := List.forall_mem_cons.mpr ⟨lw_p16, List.forall_mem_cons.mpr ⟨lw_p17, List.forall_mem_cons.mpr ⟨lw_p18, List.forall_mem_cons.mpr ⟨lw_p19, List.forall_mem_cons.mpr ⟨lw_p20, List.forall_mem_cons.mpr ⟨lw_p21, List.forall_mem_cons.mpr ⟨lw_p22, List.forall_mem_cons.mpr ⟨lw_p23, List.forall_mem_cons.mpr ⟨lw_p24, List.forall_mem_cons.mpr ⟨lw_p25, List.forall_mem_cons.mpr ⟨lw_p26, List.forall_mem_cons.mpr ⟨lw_p27, List.forall_mem_cons.mpr ⟨lw_p28, List.forall_mem_cons.mpr ⟨lw_p29, List.forall_mem_cons.mpr ⟨lw_p30, List.forall_mem_cons.mpr ⟨lw_p31, fun _ h => absurd h List.not_mem_nil⟩⟩⟩⟩⟩⟩⟩⟩⟩⟩⟩⟩⟩⟩⟩⟩
theorem lw_p32 : lw_okq (⟨"HedgeHolesModel", "holesNow", "()I"⟩, 29) := ⟨⟨by decide +kernel, by decide +kernel⟩, List.mem_of_getElem? (i := 485) (by decide +kernel), List.mem_of_getElem? (i := 686) (by decide +kernel), List.mem_of_getElem? (i := 687) (by decide +kernel)⟩
theorem lw_p33 : lw_okq (⟨"HedgeHolesModel", "refusesPair", "(II)I"⟩, 29) := ⟨⟨by decide +kernel, by decide +kernel⟩, List.mem_of_getElem? (i := 485) (by decide +kernel), List.mem_of_getElem? (i := 698) (by decide +kernel), List.mem_of_getElem? (i := 699) (by decide +kernel)⟩
theorem lw_p34 : lw_okq (⟨"HedgeHolesModel", "keepAll", "()V"⟩, 29) := ⟨⟨by decide +kernel, by decide +kernel⟩, List.mem_of_getElem? (i := 485) (by decide +kernel), List.mem_of_getElem? (i := 702) (by decide +kernel), List.mem_of_getElem? (i := 703) (by decide +kernel)⟩
theorem lw_p35 : lw_okq (⟨"HedgeHolesModel", "goSeason", "(II)I"⟩, 29) := ⟨⟨by decide +kernel, by decide +kernel⟩, List.mem_of_getElem? (i := 485) (by decide +kernel), List.mem_of_getElem? (i := 706) (by decide +kernel), List.mem_of_getElem? (i := 707) (by decide +kernel)⟩
theorem lw_p36 : lw_okq (⟨"HedgeHolesModel", "does", "(II)Z"⟩, 29) := ⟨⟨by decide +kernel, by decide +kernel⟩, List.mem_of_getElem? (i := 485) (by decide +kernel), List.mem_of_getElem? (i := 710) (by decide +kernel), List.mem_of_getElem? (i := 711) (by decide +kernel)⟩
theorem lw_p37 : lw_okq (⟨"HedgeHolesModel", "tellSeason", "(I)I"⟩, 29) := ⟨⟨by decide +kernel, by decide +kernel⟩, List.mem_of_getElem? (i := 485) (by decide +kernel), List.mem_of_getElem? (i := 714) (by decide +kernel), List.mem_of_getElem? (i := 715) (by decide +kernel)⟩
theorem lw_p38 : lw_okq (⟨"HedgeHolesModel", "putBack", "()V"⟩, 29) := ⟨⟨by decide +kernel, by decide +kernel⟩, List.mem_of_getElem? (i := 485) (by decide +kernel), List.mem_of_getElem? (i := 718) (by decide +kernel), List.mem_of_getElem? (i := 719) (by decide +kernel)⟩
theorem lw_p39 : lw_okq (⟨"HedgeHolesModel", "reached", "(III)I"⟩, 29) := ⟨⟨by decide +kernel, by decide +kernel⟩, List.mem_of_getElem? (i := 485) (by decide +kernel), List.mem_of_getElem? (i := 726) (by decide +kernel), List.mem_of_getElem? (i := 727) (by decide +kernel)⟩
theorem lw_p40 : lw_okq (⟨"HedgeHolesModel", "findFar", "(II)V"⟩, 29) := ⟨⟨by decide +kernel, by decide +kernel⟩, List.mem_of_getElem? (i := 485) (by decide +kernel), List.mem_of_getElem? (i := 734) (by decide +kernel), List.mem_of_getElem? (i := 735) (by decide +kernel)⟩
theorem lw_p41 : lw_okq (⟨"HedgeHolesModel", "reachedBy", "(I)I"⟩, 29) := ⟨⟨by decide +kernel, by decide +kernel⟩, List.mem_of_getElem? (i := 485) (by decide +kernel), List.mem_of_getElem? (i := 742) (by decide +kernel), List.mem_of_getElem? (i := 743) (by decide +kernel)⟩
theorem lw_p42 : lw_okq (⟨"HedgeHolesModel", "wantsOf", "(I)I"⟩, 29) := ⟨⟨by decide +kernel, by decide +kernel⟩, List.mem_of_getElem? (i := 485) (by decide +kernel), List.mem_of_getElem? (i := 746) (by decide +kernel), List.mem_of_getElem? (i := 747) (by decide +kernel)⟩
theorem lw_p43 : lw_okq (⟨"HedgeHolesModel", "areSo", "()Z"⟩, 29) := ⟨⟨by decide +kernel, by decide +kernel⟩, List.mem_of_getElem? (i := 485) (by decide +kernel), List.mem_of_getElem? (i := 773) (by decide +kernel), List.mem_of_getElem? (i := 774) (by decide +kernel)⟩
theorem lw_p44 : lw_okq (⟨"HedgeHolesModel", "lost", "(I)J"⟩, 29) := ⟨⟨by decide +kernel, by decide +kernel⟩, List.mem_of_getElem? (i := 485) (by decide +kernel), List.mem_of_getElem? (i := 810) (by decide +kernel), List.mem_of_getElem? (i := 811) (by decide +kernel)⟩
theorem lw_p45 : lw_okq (⟨"HedgeHolesModel", "begins", "(I)V"⟩, 29) := ⟨⟨by decide +kernel, by decide +kernel⟩, List.mem_of_getElem? (i := 485) (by decide +kernel), List.mem_of_getElem? (i := 822) (by decide +kernel), List.mem_of_getElem? (i := 823) (by decide +kernel)⟩
def lw_privs_3 : List (MethodName × Nat) := [(⟨"HedgeHolesModel", "holesNow", "()I"⟩, 29), (⟨"HedgeHolesModel", "refusesPair", "(II)I"⟩, 29), (⟨"HedgeHolesModel", "keepAll", "()V"⟩, 29), (⟨"HedgeHolesModel", "goSeason", "(II)I"⟩, 29), (⟨"HedgeHolesModel", "does", "(II)Z"⟩, 29), (⟨"HedgeHolesModel", "tellSeason", "(I)I"⟩, 29), (⟨"HedgeHolesModel", "putBack", "()V"⟩, 29), (⟨"HedgeHolesModel", "reached", "(III)I"⟩, 29), (⟨"HedgeHolesModel", "findFar", "(II)V"⟩, 29), (⟨"HedgeHolesModel", "reachedBy", "(I)I"⟩, 29), (⟨"HedgeHolesModel", "wantsOf", "(I)I"⟩, 29), (⟨"HedgeHolesModel", "areSo", "()Z"⟩, 29), (⟨"HedgeHolesModel", "lost", "(I)J"⟩, 29), (⟨"HedgeHolesModel", "begins", "(I)V"⟩, 29)]
theorem lw_r3 : ∀ q ∈ lw_privs_3, lw_okq q := List.forall_mem_cons.mpr ⟨lw_p32, List.forall_mem_cons.mpr ⟨lw_p33, List.forall_mem_cons.mpr ⟨lw_p34, List.forall_mem_cons.mpr ⟨lw_p35, List.forall_mem_cons.mpr ⟨lw_p36, List.forall_mem_cons.mpr ⟨lw_p37, List.forall_mem_cons.mpr ⟨lw_p38, List.forall_mem_cons.mpr ⟨lw_p39, List.forall_mem_cons.mpr ⟨lw_p40, List.forall_mem_cons.mpr ⟨lw_p41, List.forall_mem_cons.mpr ⟨lw_p42, List.forall_mem_cons.mpr ⟨lw_p43, List.forall_mem_cons.mpr ⟨lw_p44, List.forall_mem_cons.mpr ⟨lw_p45, fun _ h => absurd h List.not_mem_nil⟩⟩⟩⟩⟩⟩⟩⟩⟩⟩⟩⟩⟩⟩
def lw_privs : List (MethodName × Nat) := lw_privs_1 ++ (lw_privs_2 ++ (lw_privs_3))
def lw_tbl : List Cond := k2_sels lw_privs ++ tables_1
theorem lw_privs_ok : ∀ q ∈ lw_privs, lw_okq q := by
  show ∀ q ∈ lw_privs_1 ++ (lw_privs_2 ++ (lw_privs_3)), lw_okq q
  exact List.forall_mem_append.mpr ⟨lw_r1, List.forall_mem_append.mpr ⟨lw_r2, lw_r3⟩⟩
end
section
theorem goodIn_r {big : List Cond} (ws : List Cond) (ps : List Nat) (hp : ws = ps.filterMap (fun i => big[i]?)) (h : ws.all goodWord = true) : GoodIn big ws := by
  intro w hw
  have h1 := List.all_eq_true.mp h w hw
  rw [hp] at hw
  obtain ⟨i, -, hi⟩ := List.mem_filterMap.mp hw
  have hm : w ∈ big := by first | exact List.mem_of_getElem? hi | exact List.getElem?_mem hi
  exact ⟨hm, good_of_word h1⟩
theorem goodIn_app {big a b : List Cond} (ha : GoodIn big a) (hb : GoodIn big b) : GoodIn big (a ++ b) := fun w h => (List.mem_append.mp h).elim (ha w) (hb w)
theorem goodIn_ca {big a b : List Cond} {c : Cond} (ha : GoodIn big (c :: a)) (hb : GoodIn big b) : GoodIn big (c :: (a ++ b)) := fun w h => (List.mem_cons.mp h).elim (fun e => ha w (List.mem_cons.mpr (Or.inl e))) (fun h => (List.mem_append.mp h).elim (fun h => ha w (List.mem_cons.mpr (Or.inr h))) (hb w))
theorem goodIn_sub {big ws : List Cond} (hm : ∀ w ∈ ws, w ∈ big) (h : ws.all goodWord = true) : GoodIn big ws := fun w hw => ⟨hm w hw, good_of_word (List.all_eq_true.mp h w hw)⟩
def RX0 : String := "HedgeHoles$Land"
def TX0 : u_T := fun k => match k with
  | 0 => ("HedgeHoles$Land", "fields", "I", false)
  | 1 => ("HedgeHoles$Land", "goers", "I", false)
  | 2 => ("HedgeHoles$Land", "worn", "I", false)
  | 3 => ("HedgeHoles$Land", "width", "[I", true)
  | 4 => ("HedgeHoles$Land", "kind", "[I", true)
  | 5 => ("HedgeHoles$Land", "girth", "[I", true)
  | 6 => ("HedgeHoles$Land", "place", "[I", true)
  | _ => ("HedgeHoles$Land", "distance", "[I", true)
def tyX0 : Nat → FieldType := fun k => match k with
  | 0 => .int
  | 1 => .int
  | 2 => .int
  | 3 => .array .int
  | 4 => .array .int
  | 5 => .array .int
  | 6 => .array .int
  | _ => .array .int
abbrev wsX00 : List Cond := u_ws RX0 TX0 8
theorem nmX0 : ∀ a, a < 8 → ∀ b, b < 8 → a ≠ b → (TX0 a).2.1 ≠ (TX0 b).2.1 := by decide +kernel
theorem tyX0_ok : ∀ k, k < 8 → parseFieldDescriptor (TX0 k).2.2.1 = some (tyX0 k) := by decide +kernel
abbrev cX0_init : ByteArray := prog_2_method_1_code
def yX0_init : MethodName := ⟨RX0, "<init>", "()V"⟩
abbrev cX0_clear : ByteArray := prog_2_method_2_code
def yX0_clear : MethodName := ⟨RX0, "clear", "()V"⟩
abbrev cX0_become : ByteArray := prog_2_method_3_code
def yX0_become : MethodName := ⟨RX0, "become", "(LHedgeHoles$Land;)V"⟩
abbrev cX0_hedges : ByteArray := prog_2_method_4_code
def yX0_hedges : MethodName := ⟨RX0, "hedges", "()I"⟩
abbrev cX0_hedgeOf : ByteArray := prog_2_method_5_code
def yX0_hedgeOf : MethodName := ⟨RX0, "hedgeOf", "(II)I"⟩
abbrev cX0_thickOf : ByteArray := prog_2_method_6_code
def yX0_thickOf : MethodName := ⟨RX0, "thickOf", "(I)I"⟩
abbrev cX0_letsBetween : ByteArray := prog_2_method_7_code
def yX0_letsBetween : MethodName := ⟨RX0, "letsBetween", "(III)Z"⟩
abbrev cX0_reads : ByteArray := prog_2_method_8_code
def yX0_reads : MethodName := ⟨RX0, "reads", "(II)Z"⟩
abbrev cX0_readsGoer : ByteArray := prog_2_method_9_code
def yX0_readsGoer : MethodName := ⟨RX0, "readsGoer", "(III)Z"⟩
abbrev cX0_kindOf : ByteArray := prog_2_method_10_code
def yX0_kindOf : MethodName := ⟨RX0, "kindOf", "(I)I"⟩
abbrev cX0_mayEndAt : ByteArray := prog_2_method_11_code
def yX0_mayEndAt : MethodName := ⟨RX0, "mayEndAt", "(I)Z"⟩
abbrev cX0_canMove : ByteArray := prog_2_method_12_code
def yX0_canMove : MethodName := ⟨RX0, "canMove", "(II)Z"⟩
abbrev cX0_move : ByteArray := prog_2_method_13_code
def yX0_move : MethodName := ⟨RX0, "move", "(II)V"⟩
abbrev cX0_age : ByteArray := prog_2_method_14_code
def yX0_age : MethodName := ⟨RX0, "age", "(I)V"⟩
abbrev cX0_stopUp : ByteArray := prog_2_method_15_code
def yX0_stopUp : MethodName := ⟨RX0, "stopUp", "(I)Z"⟩
abbrev cX0_acts : ByteArray := prog_2_method_16_code
def yX0_acts : MethodName := ⟨RX0, "acts", "(II)Z"⟩
abbrev cX0_openHoles : ByteArray := prog_2_method_17_code
def yX0_openHoles : MethodName := ⟨RX0, "openHoles", "()I"⟩
abbrev cX0_peopled : ByteArray := prog_2_method_18_code
def yX0_peopled : MethodName := ⟨RX0, "peopled", "()I"⟩
abbrev cX0_reachOf : ByteArray := prog_2_method_19_code
def yX0_reachOf : MethodName := ⟨RX0, "reachOf", "(II)I"⟩
abbrev cX0_comersTo : ByteArray := prog_2_method_20_code
def yX0_comersTo : MethodName := ⟨RX0, "comersTo", "(I)I"⟩
abbrev cX0_measureTo : ByteArray := prog_2_method_21_code
def yX0_measureTo : MethodName := ⟨RX0, "measureTo", "(IIII)V"⟩
abbrev cX0_fieldOnWay : ByteArray := prog_2_method_22_code
def yX0_fieldOnWay : MethodName := ⟨RX0, "fieldOnWay", "(II)I"⟩
abbrev cX0_nearerThan : ByteArray := prog_2_method_23_code
def yX0_nearerThan : MethodName := ⟨RX0, "nearerThan", "(II)I"⟩
abbrev cX0_fewestToShut : ByteArray := prog_2_method_24_code
def yX0_fewestToShut : MethodName := ⟨RX0, "fewestToShut", "(II)I"⟩
abbrev cX0_fittedAround : ByteArray := prog_2_method_25_code
def yX0_fittedAround : MethodName := ⟨RX0, "fittedAround", "(II)I"⟩
abbrev cX0_isFewer : ByteArray := prog_2_method_26_code
def yX0_isFewer : MethodName := ⟨RX0, "isFewer", "(II)Z"⟩
def RX1 : String := "HedgeHoles$Notebook"
def TX1 : u_T := fun k => match k with
  | 0 => ("HedgeHoles$Notebook", "goer", "[I", true)
  | 1 => ("HedgeHoles$Notebook", "hedge", "[I", true)
  | 2 => ("HedgeHoles$Notebook", "fits", "[Z", true)
  | _ => ("HedgeHoles$Notebook", "count", "I", false)
def tyX1 : Nat → FieldType := fun k => match k with
  | 0 => .array .int
  | 1 => .array .int
  | 2 => .array .boolean
  | _ => .int
abbrev wsX10 : List Cond := u_ws RX1 TX1 4
theorem nmX1 : ∀ a, a < 4 → ∀ b, b < 4 → a ≠ b → (TX1 a).2.1 ≠ (TX1 b).2.1 := by decide +kernel
theorem tyX1_ok : ∀ k, k < 4 → parseFieldDescriptor (TX1 k).2.2.1 = some (tyX1 k) := by decide +kernel
abbrev cX1_init : ByteArray := prog_3_method_1_code
def yX1_init : MethodName := ⟨RX1, "<init>", "()V"⟩
abbrev cX1_write : ByteArray := prog_3_method_2_code
def yX1_write : MethodName := ⟨RX1, "write", "(IIZ)V"⟩
abbrev cX1_agrees : ByteArray := prog_3_method_3_code
def yX1_agrees : MethodName := ⟨RX1, "agrees", "(LHedgeHoles$Land;)Z"⟩
def RX2 : String := "HedgeHoles$Row"
def TX2 : u_T := fun k => match k with
  | 0 => ("HedgeHoles$Row", "cells", "[I", true)
  | 1 => ("HedgeHoles$Row", "there", "Z", false)
  | 2 => ("HedgeHoles$Row", "lane", "I", false)
  | _ => ("HedgeHoles$Row", "size", "I", false)
def tyX2 : Nat → FieldType := fun k => match k with
  | 0 => .array .int
  | 1 => .boolean
  | 2 => .int
  | _ => .int
abbrev wsX20 : List Cond := u_ws RX2 TX2 4
theorem nmX2 : ∀ a, a < 4 → ∀ b, b < 4 → a ≠ b → (TX2 a).2.1 ≠ (TX2 b).2.1 := by decide +kernel
theorem tyX2_ok : ∀ k, k < 4 → parseFieldDescriptor (TX2 k).2.2.1 = some (tyX2 k) := by decide +kernel
abbrev cX2_init : ByteArray := prog_4_method_1_code
def yX2_init : MethodName := ⟨RX2, "<init>", "()V"⟩
abbrev cX2_begin : ByteArray := prog_4_method_2_code
def yX2_begin : MethodName := ⟨RX2, "begin", "(II)V"⟩
abbrev cX2_faultAs : ByteArray := prog_4_method_3_code
def yX2_faultAs : MethodName := ⟨RX2, "faultAs", "(I)I"⟩
abbrev cX2_spans : ByteArray := prog_4_method_4_code
def yX2_spans : MethodName := ⟨RX2, "spans", "(II)Z"⟩
def RX3 : String := "HedgeHoles"
def TX3 : u_T := fun k => match k with
  | 0 => ("HedgeHoles", "rows", "[LHedgeHoles$Row;", true)
  | 1 => ("HedgeHoles", "land", "LHedgeHoles$Land;", true)
  | 2 => ("HedgeHoles", "trial", "LHedgeHoles$Land;", true)
  | 3 => ("HedgeHoles", "notebook", "LHedgeHoles$Notebook;", true)
  | 4 => ("HedgeHoles", "year", "I", false)
  | 5 => ("HedgeHoles", "goings", "I", false)
  | 6 => ("HedgeHoles", "traceLeft", "I", false)
  | _ => ("HedgeHoles", "lastFault", "I", false)
def tyX3 : Nat → FieldType := fun k => match k with
  | 0 => .array (.object "HedgeHoles$Row")
  | 1 => .object "HedgeHoles$Land"
  | 2 => .object "HedgeHoles$Land"
  | 3 => .object "HedgeHoles$Notebook"
  | 4 => .int
  | 5 => .int
  | 6 => .int
  | _ => .int
abbrev wsX30 : List Cond := u_ws RX3 TX3 8
theorem nmX3 : ∀ a, a < 8 → ∀ b, b < 8 → a ≠ b → (TX3 a).2.1 ≠ (TX3 b).2.1 := by decide +kernel
theorem tyX3_ok : ∀ k, k < 8 → parseFieldDescriptor (TX3 k).2.2.1 = some (tyX3 k) := by decide +kernel
abbrev cX3_init : ByteArray := prog_1_method_1_code
def yX3_init : MethodName := ⟨RX3, "<init>", "()V"⟩
abbrev cX3_county : ByteArray := prog_1_method_2_code
def yX3_county : MethodName := ⟨RX3, "county", "(IIII)I"⟩
abbrev cX3_ofGoer : ByteArray := prog_1_method_3_code
def yX3_ofGoer : MethodName := ⟨RX3, "ofGoer", "(II)I"⟩
abbrev cX3_hole : ByteArray := prog_1_method_4_code
def yX3_hole : MethodName := ⟨RX3, "hole", "(III)I"⟩
abbrev cX3_hoop : ByteArray := prog_1_method_5_code
def yX3_hoop : MethodName := ⟨RX3, "hoop", "(III)I"⟩
abbrev cX3_fatten : ByteArray := prog_1_method_6_code
def yX3_fatten : MethodName := ⟨RX3, "fatten", "(II)I"⟩
abbrev cX3_go : ByteArray := prog_1_method_7_code
def yX3_go : MethodName := ⟨RX3, "go", "(II)I"⟩
abbrev cX3_years : ByteArray := prog_1_method_8_code
def yX3_years : MethodName := ⟨RX3, "years", "(I)I"⟩
abbrev cX3_stop : ByteArray := prog_1_method_9_code
def yX3_stop : MethodName := ⟨RX3, "stop", "(II)I"⟩
abbrev cX3_season : ByteArray := prog_1_method_10_code
def yX3_season : MethodName := ⟨RX3, "season", "(IIIII)I"⟩
abbrev cX3_widest : ByteArray := prog_1_method_11_code
def yX3_widest : MethodName := ⟨RX3, "widest", "(II)I"⟩
abbrev cX3_way : ByteArray := prog_1_method_12_code
def yX3_way : MethodName := ⟨RX3, "way", "(III)I"⟩
abbrev cX3_market : ByteArray := prog_1_method_13_code
def yX3_market : MethodName := ⟨RX3, "market", "(I)I"⟩
abbrev cX3_widen : ByteArray := prog_1_method_14_code
def yX3_widen : MethodName := ⟨RX3, "widen", "(II)I"⟩
abbrev cX3_keep : ByteArray := prog_1_method_15_code
def yX3_keep : MethodName := ⟨RX3, "keep", "(II)I"⟩
abbrev cX3_reading : ByteArray := prog_1_method_16_code
def yX3_reading : MethodName := ⟨RX3, "reading", "(IIII)I"⟩
abbrev cX3_back : ByteArray := prog_1_method_17_code
def yX3_back : MethodName := ⟨RX3, "back", "(I)I"⟩
abbrev cX3_girths : ByteArray := prog_1_method_18_code
def yX3_girths : MethodName := ⟨RX3, "girths", "(I)I"⟩
abbrev cX3_kinds : ByteArray := prog_1_method_19_code
def yX3_kinds : MethodName := ⟨RX3, "kinds", "(I)I"⟩
abbrev cX3_holes : ByteArray := prog_1_method_20_code
def yX3_holes : MethodName := ⟨RX3, "holes", "(II)I"⟩
abbrev cX3_odds : ByteArray := prog_1_method_21_code
def yX3_odds : MethodName := ⟨RX3, "odds", "(III)J"⟩
abbrev cX3_sheet : ByteArray := prog_1_method_22_code
def yX3_sheet : MethodName := ⟨RX3, "sheet", "(III)I"⟩
abbrev cX3_lose : ByteArray := prog_1_method_23_code
def yX3_lose : MethodName := ⟨RX3, "lose", "(I)I"⟩
abbrev cX3_put : ByteArray := prog_1_method_24_code
def yX3_put : MethodName := ⟨RX3, "put", "(III)I"⟩
abbrev cX3_cell : ByteArray := prog_1_method_25_code
def yX3_cell : MethodName := ⟨RX3, "cell", "(III)J"⟩
abbrev cX3_copy : ByteArray := prog_1_method_26_code
def yX3_copy : MethodName := ⟨RX3, "copy", "(IIIII)I"⟩
abbrev cX3_tell : ByteArray := prog_1_method_27_code
def yX3_tell : MethodName := ⟨RX3, "tell", "(I)I"⟩
abbrev cX3_hail : ByteArray := prog_1_method_28_code
def yX3_hail : MethodName := ⟨RX3, "hail", "(I)I"⟩
abbrev cX3_as : ByteArray := prog_1_method_29_code
def yX3_as : MethodName := ⟨RX3, "as", "(II)I"⟩
abbrev cX3_trace : ByteArray := prog_1_method_30_code
def yX3_trace : MethodName := ⟨RX3, "trace", "()I"⟩
abbrev cX3_fault : ByteArray := prog_1_method_31_code
def yX3_fault : MethodName := ⟨RX3, "fault", "()I"⟩
abbrev cX3_many : ByteArray := prog_1_method_32_code
def yX3_many : MethodName := ⟨RX3, "many", "(I)I"⟩
abbrev cX3_isSheet : ByteArray := prog_1_method_33_code
def yX3_isSheet : MethodName := ⟨RX3, "isSheet", "(I)Z"⟩
abbrev cX3_isLane : ByteArray := prog_1_method_34_code
def yX3_isLane : MethodName := ⟨RX3, "isLane", "(I)Z"⟩
abbrev cX3_hasCounty : ByteArray := prog_1_method_35_code
def yX3_hasCounty : MethodName := ⟨RX3, "hasCounty", "()Z"⟩
abbrev cX3_isGoer : ByteArray := prog_1_method_36_code
def yX3_isGoer : MethodName := ⟨RX3, "isGoer", "(I)Z"⟩
abbrev cX3_isField : ByteArray := prog_1_method_37_code
def yX3_isField : MethodName := ⟨RX3, "isField", "(I)Z"⟩
abbrev cX3_areTwoFields : ByteArray := prog_1_method_38_code
def yX3_areTwoFields : MethodName := ⟨RX3, "areTwoFields", "(II)Z"⟩
abbrev cX3_isAskedOfSeason : ByteArray := prog_1_method_39_code
def yX3_isAskedOfSeason : MethodName := ⟨RX3, "isAskedOfSeason", "(I)Z"⟩
abbrev cX3_isIn : ByteArray := prog_1_method_40_code
def yX3_isIn : MethodName := ⟨RX3, "isIn", "(II)Z"⟩
abbrev cX3_failed : ByteArray := prog_1_method_41_code
def yX3_failed : MethodName := ⟨RX3, "failed", "(I)I"⟩
abbrev cX3_firstFaultOfText : ByteArray := prog_1_method_42_code
def yX3_firstFaultOfText : MethodName := ⟨RX3, "firstFaultOfText", "(LHedgeHoles$Row;II)I"⟩
abbrev cX3_refusalOfPairs : ByteArray := prog_1_method_43_code
def yX3_refusalOfPairs : MethodName := ⟨RX3, "refusalOfPairs", "(LHedgeHoles$Row;II)I"⟩
abbrev cX3_firstWrongOfSeason : ByteArray := prog_1_method_44_code
def yX3_firstWrongOfSeason : MethodName := ⟨RX3, "firstWrongOfSeason", "(LHedgeHoles$Row;II)I"⟩
abbrev cX3_goingsTold : ByteArray := prog_1_method_45_code
def yX3_goingsTold : MethodName := ⟨RX3, "goingsTold", "(LHedgeHoles$Row;II)I"⟩
abbrev cX3_ofTrial : ByteArray := prog_1_method_46_code
def yX3_ofTrial : MethodName := ⟨RX3, "ofTrial", "(I)I"⟩
abbrev cX3_plainTells : ByteArray := prog_1_method_47_code
def yX3_plainTells : MethodName := ⟨RX3, "plainTells", "(I)I"⟩
abbrev cX3_thiefTells : ByteArray := prog_1_method_48_code
def yX3_thiefTells : MethodName := ⟨RX3, "thiefTells", "(I)I"⟩
abbrev cX3_childTells : ByteArray := prog_1_method_49_code
def yX3_childTells : MethodName := ⟨RX3, "childTells", "(I)I"⟩
abbrev cX3_leaveTrace : ByteArray := prog_1_method_50_code
def yX3_leaveTrace : MethodName := ⟨RX3, "leaveTrace", "(I)V"⟩
abbrev cX3_thickness : ByteArray := prog_1_method_51_code
def yX3_thickness : MethodName := ⟨RX3, "thickness", "(II)I"⟩
abbrev cX3_lets : ByteArray := prog_1_method_52_code
def yX3_lets : MethodName := ⟨RX3, "lets", "(II)Z"⟩
abbrev cX3_cutTo : ByteArray := prog_1_method_53_code
def yX3_cutTo : MethodName := ⟨RX3, "cutTo", "(II)I"⟩
abbrev cX3_commonDivisor : ByteArray := prog_1_method_54_code
def yX3_commonDivisor : MethodName := ⟨RX3, "commonDivisor", "(II)I"⟩
abbrev cX3_digit : ByteArray := prog_1_method_55_code
def yX3_digit : MethodName := ⟨RX3, "digit", "(III)I"⟩
def RX4 : String := "HedgeHolesModel"
def TX4 : u_T := fun k => match k with
  | 0 => ("HedgeHolesModel", "fault", "I", false)
  | 1 => ("HedgeHolesModel", "trace", "I", false)
  | 2 => ("HedgeHolesModel", "sorts", "[I", true)
  | 3 => ("HedgeHolesModel", "sheetLong", "[I", true)
  | 4 => ("HedgeHolesModel", "cells", "[I", true)
  | 5 => ("HedgeHolesModel", "fields", "I", false)
  | 6 => ("HedgeHolesModel", "goers", "I", false)
  | 7 => ("HedgeHolesModel", "year", "I", false)
  | 8 => ("HedgeHolesModel", "went", "I", false)
  | 9 => ("HedgeHolesModel", "worn", "I", false)
  | 10 => ("HedgeHolesModel", "greats", "[I", true)
  | 11 => ("HedgeHolesModel", "kind", "[I", true)
  | 12 => ("HedgeHolesModel", "girth", "[I", true)
  | 13 => ("HedgeHolesModel", "field", "[I", true)
  | 14 => ("HedgeHolesModel", "at", "I", false)
  | 15 => ("HedgeHolesModel", "readFields", "I", false)
  | 16 => ("HedgeHolesModel", "readGoers", "I", false)
  | 17 => ("HedgeHolesModel", "readHoles", "[I", true)
  | 18 => ("HedgeHolesModel", "read", "[I", true)
  | 19 => ("HedgeHolesModel", "keptGreats", "[I", true)
  | 20 => ("HedgeHolesModel", "keptField", "[I", true)
  | 21 => ("HedgeHolesModel", "keptWorn", "I", false)
  | 22 => ("HedgeHolesModel", "goings", "I", false)
  | 23 => ("HedgeHolesModel", "far", "[I", true)
  | 24 => ("HedgeHolesModel", "cost", "[I", true)
  | 25 => ("HedgeHolesModel", "readings", "I", false)
  | 26 => ("HedgeHolesModel", "readWho", "[I", true)
  | 27 => ("HedgeHolesModel", "readWhere", "[I", true)
  | _ => ("HedgeHolesModel", "readFits", "[I", true)
def tyX4 : Nat → FieldType := fun k => match k with
  | 0 => .int
  | 1 => .int
  | 2 => .array .int
  | 3 => .array .int
  | 4 => .array .int
  | 5 => .int
  | 6 => .int
  | 7 => .int
  | 8 => .int
  | 9 => .int
  | 10 => .array .int
  | 11 => .array .int
  | 12 => .array .int
  | 13 => .array .int
  | 14 => .int
  | 15 => .int
  | 16 => .int
  | 17 => .array .int
  | 18 => .array .int
  | 19 => .array .int
  | 20 => .array .int
  | 21 => .int
  | 22 => .int
  | 23 => .array .int
  | 24 => .array .int
  | 25 => .int
  | 26 => .array .int
  | 27 => .array .int
  | _ => .array .int
abbrev wsX40 : List Cond := u_ws RX4 TX4 29
theorem nmX4 : ∀ a, a < 29 → ∀ b, b < 29 → a ≠ b → (TX4 a).2.1 ≠ (TX4 b).2.1 := by decide +kernel
theorem tyX4_ok : ∀ k, k < 29 → parseFieldDescriptor (TX4 k).2.2.1 = some (tyX4 k) := by decide +kernel
abbrev cX4_init : ByteArray := prog_6_method_1_code
def yX4_init : MethodName := ⟨RX4, "<init>", "()V"⟩
abbrev cX4_fails : ByteArray := prog_6_method_3_code
def yX4_fails : MethodName := ⟨RX4, "fails", "(I)I"⟩
abbrev cX4_lost : ByteArray := prog_6_method_4_code
def yX4_lost : MethodName := ⟨RX4, "lost", "(I)J"⟩
abbrev cX4_within : ByteArray := prog_6_method_5_code
def yX4_within : MethodName := ⟨RX4, "within", "(III)Z"⟩
abbrev cX4_isSheet : ByteArray := prog_6_method_6_code
def yX4_isSheet : MethodName := ⟨RX4, "isSheet", "(I)Z"⟩
abbrev cX4_isSort : ByteArray := prog_6_method_7_code
def yX4_isSort : MethodName := ⟨RX4, "isSort", "(I)Z"⟩
abbrev cX4_against : ByteArray := prog_6_method_8_code
def yX4_against : MethodName := ⟨RX4, "against", "(IIII)I"⟩
abbrev cX4_isField : ByteArray := prog_6_method_9_code
def yX4_isField : MethodName := ⟨RX4, "isField", "(I)Z"⟩
abbrev cX4_areTwo : ByteArray := prog_6_method_10_code
def yX4_areTwo : MethodName := ⟨RX4, "areTwo", "(II)Z"⟩
abbrev cX4_isGoer : ByteArray := prog_6_method_11_code
def yX4_isGoer : MethodName := ⟨RX4, "isGoer", "(I)Z"⟩
abbrev cX4_isOf : ByteArray := prog_6_method_12_code
def yX4_isOf : MethodName := ⟨RX4, "isOf", "(II)Z"⟩
abbrev cX4_size : ByteArray := prog_6_method_13_code
def yX4_size : MethodName := ⟨RX4, "size", "(I)I"⟩
abbrev cX4_hedgesOf : ByteArray := prog_6_method_14_code
def yX4_hedgesOf : MethodName := ⟨RX4, "hedgesOf", "(I)I"⟩
abbrev cX4_hedges : ByteArray := prog_6_method_15_code
def yX4_hedges : MethodName := ⟨RX4, "hedges", "()I"⟩
abbrev cX4_hedge : ByteArray := prog_6_method_16_code
def yX4_hedge : MethodName := ⟨RX4, "hedge", "(II)I"⟩
abbrev cX4_digit : ByteArray := prog_6_method_17_code
def yX4_digit : MethodName := ⟨RX4, "digit", "(III)I"⟩
abbrev cX4_isSign : ByteArray := prog_6_method_18_code
def yX4_isSign : MethodName := ⟨RX4, "isSign", "(II)Z"⟩
abbrev cX4_county : ByteArray := prog_6_method_19_code
def yX4_county : MethodName := ⟨RX4, "county", "(IIII)I"⟩
abbrev cX4_takeCounty : ByteArray := prog_6_method_20_code
def yX4_takeCounty : MethodName := ⟨RX4, "takeCounty", "()V"⟩
abbrev cX4_readCounty : ByteArray := prog_6_method_21_code
def yX4_readCounty : MethodName := ⟨RX4, "readCounty", "(I)Z"⟩
abbrev cX4_readGoer : ByteArray := prog_6_method_22_code
def yX4_readGoer : MethodName := ⟨RX4, "readGoer", "(I)Z"⟩
abbrev cX4_thickOf : ByteArray := prog_6_method_23_code
def yX4_thickOf : MethodName := ⟨RX4, "thickOf", "(I)I"⟩
abbrev cX4_fitsHole : ByteArray := prog_6_method_24_code
def yX4_fitsHole : MethodName := ⟨RX4, "fitsHole", "(II)Z"⟩
abbrev cX4_ofGoer : ByteArray := prog_6_method_25_code
def yX4_ofGoer : MethodName := ⟨RX4, "ofGoer", "(II)I"⟩
abbrev cX4_hole : ByteArray := prog_6_method_26_code
def yX4_hole : MethodName := ⟨RX4, "hole", "(III)I"⟩
abbrev cX4_hoop : ByteArray := prog_6_method_27_code
def yX4_hoop : MethodName := ⟨RX4, "hoop", "(III)I"⟩
abbrev cX4_fatten : ByteArray := prog_6_method_28_code
def yX4_fatten : MethodName := ⟨RX4, "fatten", "(II)I"⟩
abbrev cX4_goesTo : ByteArray := prog_6_method_29_code
def yX4_goesTo : MethodName := ⟨RX4, "goesTo", "(II)Z"⟩
abbrev cX4_go : ByteArray := prog_6_method_30_code
def yX4_go : MethodName := ⟨RX4, "go", "(II)I"⟩
abbrev cX4_oneYear : ByteArray := prog_6_method_31_code
def yX4_oneYear : MethodName := ⟨RX4, "oneYear", "()V"⟩
abbrev cX4_holesNow : ByteArray := prog_6_method_32_code
def yX4_holesNow : MethodName := ⟨RX4, "holesNow", "()I"⟩
abbrev cX4_years : ByteArray := prog_6_method_33_code
def yX4_years : MethodName := ⟨RX4, "years", "(I)I"⟩
abbrev cX4_stop : ByteArray := prog_6_method_34_code
def yX4_stop : MethodName := ⟨RX4, "stop", "(II)I"⟩
abbrev cX4_keepAll : ByteArray := prog_6_method_35_code
def yX4_keepAll : MethodName := ⟨RX4, "keepAll", "()V"⟩
abbrev cX4_putBack : ByteArray := prog_6_method_36_code
def yX4_putBack : MethodName := ⟨RX4, "putBack", "()V"⟩
abbrev cX4_does : ByteArray := prog_6_method_37_code
def yX4_does : MethodName := ⟨RX4, "does", "(II)Z"⟩
abbrev cX4_goSeason : ByteArray := prog_6_method_38_code
def yX4_goSeason : MethodName := ⟨RX4, "goSeason", "(II)I"⟩
abbrev cX4_refusesPair : ByteArray := prog_6_method_39_code
def yX4_refusesPair : MethodName := ⟨RX4, "refusesPair", "(II)I"⟩
abbrev cX4_season : ByteArray := prog_6_method_40_code
def yX4_season : MethodName := ⟨RX4, "season", "(IIIII)I"⟩
abbrev cX4_tellSeason : ByteArray := prog_6_method_41_code
def yX4_tellSeason : MethodName := ⟨RX4, "tellSeason", "(I)I"⟩
abbrev cX4_reached : ByteArray := prog_6_method_42_code
def yX4_reached : MethodName := ⟨RX4, "reached", "(III)I"⟩
abbrev cX4_wantsOf : ByteArray := prog_6_method_43_code
def yX4_wantsOf : MethodName := ⟨RX4, "wantsOf", "(I)I"⟩
abbrev cX4_reachedBy : ByteArray := prog_6_method_44_code
def yX4_reachedBy : MethodName := ⟨RX4, "reachedBy", "(I)I"⟩
abbrev cX4_widest : ByteArray := prog_6_method_45_code
def yX4_widest : MethodName := ⟨RX4, "widest", "(II)I"⟩
abbrev cX4_findFar : ByteArray := prog_6_method_46_code
def yX4_findFar : MethodName := ⟨RX4, "findFar", "(II)V"⟩
abbrev cX4_way : ByteArray := prog_6_method_47_code
def yX4_way : MethodName := ⟨RX4, "way", "(III)I"⟩
abbrev cX4_market : ByteArray := prog_6_method_48_code
def yX4_market : MethodName := ⟨RX4, "market", "(I)I"⟩
abbrev cX4_widen : ByteArray := prog_6_method_49_code
def yX4_widen : MethodName := ⟨RX4, "widen", "(II)I"⟩
abbrev cX4_keep : ByteArray := prog_6_method_50_code
def yX4_keep : MethodName := ⟨RX4, "keep", "(II)I"⟩
abbrev cX4_reading : ByteArray := prog_6_method_51_code
def yX4_reading : MethodName := ⟨RX4, "reading", "(IIII)I"⟩
abbrev cX4_back : ByteArray := prog_6_method_52_code
def yX4_back : MethodName := ⟨RX4, "back", "(I)I"⟩
abbrev cX4_areSo : ByteArray := prog_6_method_53_code
def yX4_areSo : MethodName := ⟨RX4, "areSo", "()Z"⟩
abbrev cX4_girths : ByteArray := prog_6_method_54_code
def yX4_girths : MethodName := ⟨RX4, "girths", "(I)I"⟩
abbrev cX4_kinds : ByteArray := prog_6_method_55_code
def yX4_kinds : MethodName := ⟨RX4, "kinds", "(I)I"⟩
abbrev cX4_holes : ByteArray := prog_6_method_56_code
def yX4_holes : MethodName := ⟨RX4, "holes", "(II)I"⟩
abbrev cX4_inLeastTerms : ByteArray := prog_6_method_57_code
def yX4_inLeastTerms : MethodName := ⟨RX4, "inLeastTerms", "(JJI)J"⟩
abbrev cX4_odds : ByteArray := prog_6_method_58_code
def yX4_odds : MethodName := ⟨RX4, "odds", "(III)J"⟩
abbrev cX4_sheet : ByteArray := prog_6_method_59_code
def yX4_sheet : MethodName := ⟨RX4, "sheet", "(III)I"⟩
abbrev cX4_lose : ByteArray := prog_6_method_60_code
def yX4_lose : MethodName := ⟨RX4, "lose", "(I)I"⟩
abbrev cX4_put : ByteArray := prog_6_method_61_code
def yX4_put : MethodName := ⟨RX4, "put", "(III)I"⟩
abbrev cX4_cell : ByteArray := prog_6_method_62_code
def yX4_cell : MethodName := ⟨RX4, "cell", "(III)J"⟩
abbrev cX4_copy : ByteArray := prog_6_method_63_code
def yX4_copy : MethodName := ⟨RX4, "copy", "(IIIII)I"⟩
abbrev cX4_begins : ByteArray := prog_6_method_64_code
def yX4_begins : MethodName := ⟨RX4, "begins", "(I)V"⟩
abbrev cX4_tell : ByteArray := prog_6_method_65_code
def yX4_tell : MethodName := ⟨RX4, "tell", "(I)I"⟩
abbrev cX4_hail : ByteArray := prog_6_method_66_code
def yX4_hail : MethodName := ⟨RX4, "hail", "(I)I"⟩
abbrev cX4_as : ByteArray := prog_6_method_67_code
def yX4_as : MethodName := ⟨RX4, "as", "(II)I"⟩
abbrev cX4_trace : ByteArray := prog_6_method_68_code
def yX4_trace : MethodName := ⟨RX4, "trace", "()I"⟩
abbrev cX4_fault : ByteArray := prog_6_method_69_code
def yX4_fault : MethodName := ⟨RX4, "fault", "()I"⟩
abbrev cX4_many : ByteArray := prog_6_method_70_code
def yX4_many : MethodName := ⟨RX4, "many", "(I)I"⟩
def RJ6 : String := "java/lang/Integer"
def TJ6 : u_T := fun k => match k with
  | _ => ("", "", "", false)
def tyJ6 : Nat → FieldType := fun k => match k with
  | _ => .int
abbrev wsJ60 : List Cond := u_ws RJ6 TJ6 0
theorem nmJ6 : ∀ a, a < 0 → ∀ b, b < 0 → a ≠ b → (TJ6 a).2.1 ≠ (TJ6 b).2.1 := by decide +kernel
theorem tyJ6_ok : ∀ k, k < 0 → parseFieldDescriptor (TJ6 k).2.2.1 = some (tyJ6 k) := by decide +kernel
abbrev cJ6_bitCount_0f7a4 : ByteArray := prog_7_method_49_code
def yJ6_bitCount_0f7a4 : MethodName := ⟨RJ6, "bitCount", "(I)I"⟩
def RJ9 : String := "java/lang/Math"
def TJ9 : u_T := fun k => match k with
  | _ => ("", "", "", false)
def tyJ9 : Nat → FieldType := fun k => match k with
  | _ => .int
abbrev wsJ90 : List Cond := u_ws RJ9 TJ9 0
theorem nmJ9 : ∀ a, a < 0 → ∀ b, b < 0 → a ≠ b → (TJ9 a).2.1 ≠ (TJ9 b).2.1 := by decide +kernel
theorem tyJ9_ok : ∀ k, k < 0 → parseFieldDescriptor (TJ9 k).2.2.1 = some (tyJ9 k) := by decide +kernel
abbrev cJ9_max_7cf53 : ByteArray := prog_8_method_65_code
def yJ9_max_7cf53 : MethodName := ⟨RJ9, "max", "(II)I"⟩
abbrev cJ9_min_7cf53 : ByteArray := prog_8_method_69_code
def yJ9_min_7cf53 : MethodName := ⟨RJ9, "min", "(II)I"⟩
def RJ10 : String := "java/lang/System"
def TJ10 : u_T := fun k => match k with
  | _ => ("", "", "", false)
def tyJ10 : Nat → FieldType := fun k => match k with
  | _ => .int
abbrev wsJ100 : List Cond := u_ws RJ10 TJ10 0
theorem nmJ10 : ∀ a, a < 0 → ∀ b, b < 0 → a ≠ b → (TJ10 a).2.1 ≠ (TJ10 b).2.1 := by decide +kernel
theorem tyJ10_ok : ∀ k, k < 0 → parseFieldDescriptor (TJ10 k).2.2.1 = some (tyJ10 k) := by decide +kernel
def RJ7 : String := "java/util/Arrays"
def TJ7 : u_T := fun k => match k with
  | _ => ("", "", "", false)
def tyJ7 : Nat → FieldType := fun k => match k with
  | _ => .int
abbrev wsJ70 : List Cond := u_ws RJ7 TJ7 0
theorem nmJ7 : ∀ a, a < 0 → ∀ b, b < 0 → a ≠ b → (TJ7 a).2.1 ≠ (TJ7 b).2.1 := by decide +kernel
theorem tyJ7_ok : ∀ k, k < 0 → parseFieldDescriptor (TJ7 k).2.2.1 = some (tyJ7 k) := by decide +kernel
abbrev cJ7_fill_53178 : ByteArray := prog_10_method_103_code
def yJ7_fill_53178 : MethodName := ⟨RJ7, "fill", "([II)V"⟩
def RL : String := "HedgeHolesLaw"
abbrev cL_law : ByteArray := code
def yL_law : MethodName := ⟨RL, "law", "([I)Z"⟩
def wsX0_init : List Cond := .code yX0_init cX0_init 1 none :: ([.methodLink RX0 3 objectInit, .instanceMethod objectInit, .code objectInit ⟨#[0xb1]⟩ 1 none, .fieldLink RX0 9 "HedgeHoles$Land" "fields" "I", .fieldLink RX0 15 "HedgeHoles$Land" "goers" "I", .fieldLink RX0 18 "HedgeHoles$Land" "worn" "I", .arrayClass .int, .fieldLink RX0 21 "HedgeHoles$Land" "width" "[I", .fieldLink RX0 25 "HedgeHoles$Land" "kind" "[I", .fieldLink RX0 28 "HedgeHoles$Land" "girth" "[I", .fieldLink RX0 31 "HedgeHoles$Land" "place" "[I", .fieldLink RX0 34 "HedgeHoles$Land" "distance" "[I"] ++ wsX00)
def wsX0_clear : List Cond := .code yX0_clear cX0_clear 1 none :: ([.fieldLink RX0 9 "HedgeHoles$Land" "fields" "I", .fieldLink RX0 15 "HedgeHoles$Land" "goers" "I", .fieldLink RX0 18 "HedgeHoles$Land" "worn" "I"] ++ wsX00)
def wsX0_become : List Cond := .code yX0_become cX0_become 2 none :: ([.fieldLink RX0 9 "HedgeHoles$Land" "fields" "I", .fieldLink RX0 15 "HedgeHoles$Land" "goers" "I", .fieldLink RX0 18 "HedgeHoles$Land" "worn" "I", .fieldLink RX0 21 "HedgeHoles$Land" "width" "[I", .methodLink RX0 37 arraycopyName, .native arraycopyName, .static arraycopyName, .initialized "java/lang/System", .fieldLink RX0 25 "HedgeHoles$Land" "kind" "[I", .fieldLink RX0 28 "HedgeHoles$Land" "girth" "[I", .fieldLink RX0 31 "HedgeHoles$Land" "place" "[I"] ++ wsX00)
def wsX0_hedges : List Cond := .code yX0_hedges cX0_hedges 1 (some .int) :: ([.fieldLink RX0 9 "HedgeHoles$Land" "fields" "I"] ++ wsX00)
def wsX0_hedgeOf : List Cond := .code yX0_hedgeOf cX0_hedgeOf 5 (some .int) :: ([.methodLink RX0 43 Lib.Math.min.name, .static Lib.Math.min.name, .initialized "java/lang/Math", .code Lib.Math.min.name Lib.Math.min.code 2 (some .int), .methodLink RX0 49 Lib.Math.max.name, .static Lib.Math.max.name, .code Lib.Math.max.name Lib.Math.max.code 2 (some .int), .fieldLink RX0 9 "HedgeHoles$Land" "fields" "I"] ++ wsX00)
def wsX3_thickness : List Cond := .code yX3_thickness cX3_thickness 2 (some .int) :: ([])
def wsX0_thickOf : List Cond := .code yX0_thickOf cX0_thickOf 2 (some .int) :: ([.fieldLink RX0 25 "HedgeHoles$Land" "kind" "[I", .fieldLink RX0 28 "HedgeHoles$Land" "girth" "[I", .static yX3_thickness, .initialized RX3, .code yX3_thickness cX3_thickness 2 (some .int)] ++ wsX00)
def wsX3_lets : List Cond := .code yX3_lets cX3_lets 2 (some .boolean) :: ([])
def wsX0_letsBetween : List Cond := .code yX0_letsBetween cX0_letsBetween 4 (some .boolean) :: ([.fieldLink RX0 21 "HedgeHoles$Land" "width" "[I", .methodLink RX0 55 yX0_hedgeOf, .instanceMethod yX0_hedgeOf, .selects RX0 yX0_hedgeOf yX0_hedgeOf, .initialized RX0, .code yX0_hedgeOf cX0_hedgeOf 5 (some .int), .methodLink RX0 43 Lib.Math.min.name, .static Lib.Math.min.name, .initialized "java/lang/Math", .code Lib.Math.min.name Lib.Math.min.code 2 (some .int), .methodLink RX0 49 Lib.Math.max.name, .static Lib.Math.max.name, .code Lib.Math.max.name Lib.Math.max.code 2 (some .int), .fieldLink RX0 9 "HedgeHoles$Land" "fields" "I", .static yX3_lets, .initialized RX3, .code yX3_lets cX3_lets 2 (some .boolean)] ++ wsX00)
def wsX3_digit : List Cond := .code yX3_digit cX3_digit 3 (some .int) :: ([])
def wsX0_kindOf : List Cond := .code yX0_kindOf cX0_kindOf 1 (some .int) :: ([])
def wsX0_readsGoer : List Cond := .code yX0_readsGoer cX0_readsGoer 4 (some .boolean) :: ([.fieldLink RX0 25 "HedgeHoles$Land" "kind" "[I", .fieldLink RX0 28 "HedgeHoles$Land" "girth" "[I", .fieldLink RX0 31 "HedgeHoles$Land" "place" "[I", .fieldLink RX0 9 "HedgeHoles$Land" "fields" "I", .fieldLink RX0 15 "HedgeHoles$Land" "goers" "I", .methodLink RX0 74 yX0_kindOf, .static yX0_kindOf, .initialized RX0, .code yX0_kindOf cX0_kindOf 1 (some .int), .static yX3_digit, .initialized RX3, .code yX3_digit cX3_digit 3 (some .int)] ++ wsX00)
def wsX0_reads : List Cond := .code yX0_reads cX0_reads 5 (some .boolean) :: ([.fieldLink RX0 9 "HedgeHoles$Land" "fields" "I", .fieldLink RX0 21 "HedgeHoles$Land" "width" "[I", .static yX3_digit, .initialized RX3, .code yX3_digit cX3_digit 3 (some .int), .methodLink RX0 66 yX0_hedges, .instanceMethod yX0_hedges, .selects RX0 yX0_hedges yX0_hedges, .initialized RX0, .code yX0_hedges cX0_hedges 1 (some .int), .methodLink RX0 70 yX0_readsGoer, .instanceMethod yX0_readsGoer, .selects RX0 yX0_readsGoer yX0_readsGoer, .code yX0_readsGoer cX0_readsGoer 4 (some .boolean), .fieldLink RX0 25 "HedgeHoles$Land" "kind" "[I", .fieldLink RX0 28 "HedgeHoles$Land" "girth" "[I", .fieldLink RX0 31 "HedgeHoles$Land" "place" "[I", .fieldLink RX0 15 "HedgeHoles$Land" "goers" "I", .methodLink RX0 74 yX0_kindOf, .static yX0_kindOf, .code yX0_kindOf cX0_kindOf 1 (some .int)] ++ wsX00)
def wsX0_mayEndAt : List Cond := .code yX0_mayEndAt cX0_mayEndAt 2 (some .boolean) :: ([.fieldLink RX0 15 "HedgeHoles$Land" "goers" "I", .methodLink RX0 66 yX0_hedges, .instanceMethod yX0_hedges, .selects RX0 yX0_hedges yX0_hedges, .initialized RX0, .code yX0_hedges cX0_hedges 1 (some .int), .fieldLink RX0 9 "HedgeHoles$Land" "fields" "I"] ++ wsX00)
def wsX0_canMove_r1 : List Cond := [Cond.fieldLink RX0 31 "HedgeHoles$Land" "place" "[I", Cond.methodLink RX0 78 yX0_thickOf, Cond.instanceMethod yX0_thickOf, Cond.selects RX0 yX0_thickOf yX0_thickOf, Cond.initialized RX0, Cond.code yX0_thickOf cX0_thickOf 2 (some .int), Cond.fieldLink RX0 25 "HedgeHoles$Land" "kind" "[I", Cond.fieldLink RX0 28 "HedgeHoles$Land" "girth" "[I", Cond.static yX3_thickness, Cond.initialized RX3, Cond.code yX3_thickness cX3_thickness 2 (some .int), Cond.methodLink RX0 81 yX0_letsBetween, Cond.instanceMethod yX0_letsBetween, Cond.selects RX0 yX0_letsBetween yX0_letsBetween, Cond.code yX0_letsBetween cX0_letsBetween 4 (some .boolean), Cond.fieldLink RX0 21 "HedgeHoles$Land" "width" "[I", Cond.methodLink RX0 55 yX0_hedgeOf, Cond.instanceMethod yX0_hedgeOf, Cond.selects RX0 yX0_hedgeOf yX0_hedgeOf, Cond.code yX0_hedgeOf cX0_hedgeOf 5 (some .int), Cond.methodLink RX0 43 Lib.Math.min.name, Cond.static Lib.Math.min.name, Cond.initialized "java/lang/Math", Cond.code Lib.Math.min.name Lib.Math.min.code 2 (some .int)]
def wsX0_canMove_r2 : List Cond := [Cond.methodLink RX0 49 Lib.Math.max.name, Cond.static Lib.Math.max.name, Cond.code Lib.Math.max.name Lib.Math.max.code 2 (some .int), Cond.fieldLink RX0 9 "HedgeHoles$Land" "fields" "I", Cond.static yX3_lets, Cond.code yX3_lets cX3_lets 2 (some .boolean)]
def wsX0_canMove : List Cond := .code yX0_canMove cX0_canMove 3 (some .boolean) :: ((wsX0_canMove_r1 ++ wsX0_canMove_r2) ++ wsX00)
def wsX0_move : List Cond := .code yX0_move cX0_move 3 none :: ([.fieldLink RX0 18 "HedgeHoles$Land" "worn" "I", .fieldLink RX0 31 "HedgeHoles$Land" "place" "[I", .methodLink RX0 55 yX0_hedgeOf, .instanceMethod yX0_hedgeOf, .selects RX0 yX0_hedgeOf yX0_hedgeOf, .initialized RX0, .code yX0_hedgeOf cX0_hedgeOf 5 (some .int), .methodLink RX0 43 Lib.Math.min.name, .static Lib.Math.min.name, .initialized "java/lang/Math", .code Lib.Math.min.name Lib.Math.min.code 2 (some .int), .methodLink RX0 49 Lib.Math.max.name, .static Lib.Math.max.name, .code Lib.Math.max.name Lib.Math.max.code 2 (some .int), .fieldLink RX0 9 "HedgeHoles$Land" "fields" "I"] ++ wsX00)
def wsX3_isIn : List Cond := .code yX3_isIn cX3_isIn 2 (some .boolean) :: ([])
def wsX0_age : List Cond := .code yX0_age cX0_age 4 none :: ([.fieldLink RX0 21 "HedgeHoles$Land" "width" "[I", .fieldLink RX0 18 "HedgeHoles$Land" "worn" "I", .methodLink RX0 43 Lib.Math.min.name, .static Lib.Math.min.name, .initialized "java/lang/Math", .code Lib.Math.min.name Lib.Math.min.code 2 (some .int), .methodLink RX0 49 Lib.Math.max.name, .static Lib.Math.max.name, .code Lib.Math.max.name Lib.Math.max.code 2 (some .int), .methodLink RX0 66 yX0_hedges, .instanceMethod yX0_hedges, .selects RX0 yX0_hedges yX0_hedges, .initialized RX0, .code yX0_hedges cX0_hedges 1 (some .int), .fieldLink RX0 9 "HedgeHoles$Land" "fields" "I", .static yX3_isIn, .initialized RX3, .code yX3_isIn cX3_isIn 2 (some .boolean)] ++ wsX00)
def wsX0_stopUp : List Cond := .code yX0_stopUp cX0_stopUp 2 (some .boolean) :: ([.fieldLink RX0 21 "HedgeHoles$Land" "width" "[I", .methodLink RX0 66 yX0_hedges, .instanceMethod yX0_hedges, .selects RX0 yX0_hedges yX0_hedges, .initialized RX0, .code yX0_hedges cX0_hedges 1 (some .int), .fieldLink RX0 9 "HedgeHoles$Land" "fields" "I"] ++ wsX00)
def wsX0_acts_r1 : List Cond := [Cond.fieldLink RX0 9 "HedgeHoles$Land" "fields" "I", Cond.methodLink RX0 87 yX0_age, Cond.instanceMethod yX0_age, Cond.selects RX0 yX0_age yX0_age, Cond.initialized RX0, Cond.code yX0_age cX0_age 4 none, Cond.fieldLink RX0 21 "HedgeHoles$Land" "width" "[I", Cond.fieldLink RX0 18 "HedgeHoles$Land" "worn" "I", Cond.methodLink RX0 43 Lib.Math.min.name, Cond.static Lib.Math.min.name, Cond.initialized "java/lang/Math", Cond.code Lib.Math.min.name Lib.Math.min.code 2 (some .int), Cond.methodLink RX0 49 Lib.Math.max.name, Cond.static Lib.Math.max.name, Cond.code Lib.Math.max.name Lib.Math.max.code 2 (some .int), Cond.methodLink RX0 66 yX0_hedges, Cond.instanceMethod yX0_hedges, Cond.selects RX0 yX0_hedges yX0_hedges, Cond.code yX0_hedges cX0_hedges 1 (some .int), Cond.static yX3_isIn, Cond.initialized RX3, Cond.code yX3_isIn cX3_isIn 2 (some .boolean), Cond.methodLink RX0 91 yX0_stopUp, Cond.instanceMethod yX0_stopUp]
def wsX0_acts_r2 : List Cond := [Cond.selects RX0 yX0_stopUp yX0_stopUp, Cond.code yX0_stopUp cX0_stopUp 2 (some .boolean), Cond.methodLink RX0 95 yX0_canMove, Cond.instanceMethod yX0_canMove, Cond.selects RX0 yX0_canMove yX0_canMove, Cond.code yX0_canMove cX0_canMove 3 (some .boolean), Cond.fieldLink RX0 31 "HedgeHoles$Land" "place" "[I", Cond.methodLink RX0 78 yX0_thickOf, Cond.instanceMethod yX0_thickOf, Cond.selects RX0 yX0_thickOf yX0_thickOf, Cond.code yX0_thickOf cX0_thickOf 2 (some .int), Cond.fieldLink RX0 25 "HedgeHoles$Land" "kind" "[I", Cond.fieldLink RX0 28 "HedgeHoles$Land" "girth" "[I", Cond.static yX3_thickness, Cond.code yX3_thickness cX3_thickness 2 (some .int), Cond.methodLink RX0 81 yX0_letsBetween, Cond.instanceMethod yX0_letsBetween, Cond.selects RX0 yX0_letsBetween yX0_letsBetween, Cond.code yX0_letsBetween cX0_letsBetween 4 (some .boolean), Cond.methodLink RX0 55 yX0_hedgeOf, Cond.instanceMethod yX0_hedgeOf, Cond.selects RX0 yX0_hedgeOf yX0_hedgeOf, Cond.code yX0_hedgeOf cX0_hedgeOf 5 (some .int), Cond.static yX3_lets]
def wsX0_acts_r3 : List Cond := [Cond.code yX3_lets cX3_lets 2 (some .boolean), Cond.methodLink RX0 98 yX0_move, Cond.instanceMethod yX0_move, Cond.selects RX0 yX0_move yX0_move, Cond.code yX0_move cX0_move 3 none]
def wsX0_acts : List Cond := .code yX0_acts cX0_acts 3 (some .boolean) :: ((wsX0_acts_r1 ++ (wsX0_acts_r2 ++ wsX0_acts_r3)) ++ wsX00)
def wsX0_openHoles : List Cond := .code yX0_openHoles cX0_openHoles 3 (some .int) :: ([.fieldLink RX0 21 "HedgeHoles$Land" "width" "[I", .methodLink RX0 66 yX0_hedges, .instanceMethod yX0_hedges, .selects RX0 yX0_hedges yX0_hedges, .initialized RX0, .code yX0_hedges cX0_hedges 1 (some .int), .fieldLink RX0 9 "HedgeHoles$Land" "fields" "I"] ++ wsX00)
def wsX0_peopled : List Cond := .code yX0_peopled cX0_peopled 3 (some .int) :: ([.fieldLink RX0 15 "HedgeHoles$Land" "goers" "I", .fieldLink RX0 31 "HedgeHoles$Land" "place" "[I"] ++ wsX00)
def wsX0_reachOf : List Cond := .code yX0_reachOf cX0_reachOf 7 (some .int) :: ([.fieldLink RX0 9 "HedgeHoles$Land" "fields" "I", .static yX3_isIn, .initialized RX3, .code yX3_isIn cX3_isIn 2 (some .boolean), .methodLink RX0 81 yX0_letsBetween, .instanceMethod yX0_letsBetween, .selects RX0 yX0_letsBetween yX0_letsBetween, .initialized RX0, .code yX0_letsBetween cX0_letsBetween 4 (some .boolean), .fieldLink RX0 21 "HedgeHoles$Land" "width" "[I", .methodLink RX0 55 yX0_hedgeOf, .instanceMethod yX0_hedgeOf, .selects RX0 yX0_hedgeOf yX0_hedgeOf, .code yX0_hedgeOf cX0_hedgeOf 5 (some .int), .methodLink RX0 43 Lib.Math.min.name, .static Lib.Math.min.name, .initialized "java/lang/Math", .code Lib.Math.min.name Lib.Math.min.code 2 (some .int), .methodLink RX0 49 Lib.Math.max.name, .static Lib.Math.max.name, .code Lib.Math.max.name Lib.Math.max.code 2 (some .int), .static yX3_lets, .code yX3_lets cX3_lets 2 (some .boolean)] ++ wsX00)
def wsX0_comersTo_r1 : List Cond := [Cond.fieldLink RX0 15 "HedgeHoles$Land" "goers" "I", Cond.fieldLink RX0 31 "HedgeHoles$Land" "place" "[I", Cond.methodLink RX0 78 yX0_thickOf, Cond.instanceMethod yX0_thickOf, Cond.selects RX0 yX0_thickOf yX0_thickOf, Cond.initialized RX0, Cond.code yX0_thickOf cX0_thickOf 2 (some .int), Cond.fieldLink RX0 25 "HedgeHoles$Land" "kind" "[I", Cond.fieldLink RX0 28 "HedgeHoles$Land" "girth" "[I", Cond.static yX3_thickness, Cond.initialized RX3, Cond.code yX3_thickness cX3_thickness 2 (some .int), Cond.methodLink RX0 102 yX0_reachOf, Cond.instanceMethod yX0_reachOf, Cond.selects RX0 yX0_reachOf yX0_reachOf, Cond.code yX0_reachOf cX0_reachOf 7 (some .int), Cond.fieldLink RX0 9 "HedgeHoles$Land" "fields" "I", Cond.static yX3_isIn, Cond.code yX3_isIn cX3_isIn 2 (some .boolean), Cond.methodLink RX0 81 yX0_letsBetween, Cond.instanceMethod yX0_letsBetween, Cond.selects RX0 yX0_letsBetween yX0_letsBetween, Cond.code yX0_letsBetween cX0_letsBetween 4 (some .boolean), Cond.fieldLink RX0 21 "HedgeHoles$Land" "width" "[I"]
def wsX0_comersTo_r2 : List Cond := [Cond.methodLink RX0 55 yX0_hedgeOf, Cond.instanceMethod yX0_hedgeOf, Cond.selects RX0 yX0_hedgeOf yX0_hedgeOf, Cond.code yX0_hedgeOf cX0_hedgeOf 5 (some .int), Cond.methodLink RX0 43 Lib.Math.min.name, Cond.static Lib.Math.min.name, Cond.initialized "java/lang/Math", Cond.code Lib.Math.min.name Lib.Math.min.code 2 (some .int), Cond.methodLink RX0 49 Lib.Math.max.name, Cond.static Lib.Math.max.name, Cond.code Lib.Math.max.name Lib.Math.max.code 2 (some .int), Cond.static yX3_lets, Cond.code yX3_lets cX3_lets 2 (some .boolean)]
def wsX0_comersTo : List Cond := .code yX0_comersTo cX0_comersTo 4 (some .int) :: ((wsX0_comersTo_r1 ++ wsX0_comersTo_r2) ++ wsX00)
def wsX0_measureTo : List Cond := .code yX0_measureTo cX0_measureTo 9 none :: ([.fieldLink RX0 9 "HedgeHoles$Land" "fields" "I", .fieldLink RX0 34 "HedgeHoles$Land" "distance" "[I", .fieldLink RX0 21 "HedgeHoles$Land" "width" "[I", .methodLink RX0 43 Lib.Math.min.name, .static Lib.Math.min.name, .initialized "java/lang/Math", .code Lib.Math.min.name Lib.Math.min.code 2 (some .int), .methodLink RX0 55 yX0_hedgeOf, .instanceMethod yX0_hedgeOf, .selects RX0 yX0_hedgeOf yX0_hedgeOf, .initialized RX0, .code yX0_hedgeOf cX0_hedgeOf 5 (some .int), .methodLink RX0 49 Lib.Math.max.name, .static Lib.Math.max.name, .code Lib.Math.max.name Lib.Math.max.code 2 (some .int), .methodLink RX0 81 yX0_letsBetween, .instanceMethod yX0_letsBetween, .selects RX0 yX0_letsBetween yX0_letsBetween, .code yX0_letsBetween cX0_letsBetween 4 (some .boolean), .static yX3_lets, .initialized RX3, .code yX3_lets cX3_lets 2 (some .boolean)] ++ wsX00)
def wsX0_nearerThan : List Cond := .code yX0_nearerThan cX0_nearerThan 4 (some .int) :: ([.fieldLink RX0 9 "HedgeHoles$Land" "fields" "I", .fieldLink RX0 34 "HedgeHoles$Land" "distance" "[I", .methodLink RX0 81 yX0_letsBetween, .instanceMethod yX0_letsBetween, .selects RX0 yX0_letsBetween yX0_letsBetween, .initialized RX0, .code yX0_letsBetween cX0_letsBetween 4 (some .boolean), .fieldLink RX0 21 "HedgeHoles$Land" "width" "[I", .methodLink RX0 55 yX0_hedgeOf, .instanceMethod yX0_hedgeOf, .selects RX0 yX0_hedgeOf yX0_hedgeOf, .code yX0_hedgeOf cX0_hedgeOf 5 (some .int), .methodLink RX0 43 Lib.Math.min.name, .static Lib.Math.min.name, .initialized "java/lang/Math", .code Lib.Math.min.name Lib.Math.min.code 2 (some .int), .methodLink RX0 49 Lib.Math.max.name, .static Lib.Math.max.name, .code Lib.Math.max.name Lib.Math.max.code 2 (some .int), .static yX3_lets, .initialized RX3, .code yX3_lets cX3_lets 2 (some .boolean)] ++ wsX00)
def wsX0_fieldOnWay_r1 : List Cond := [Cond.fieldLink RX0 31 "HedgeHoles$Land" "place" "[I", Cond.methodLink RX0 78 yX0_thickOf, Cond.instanceMethod yX0_thickOf, Cond.selects RX0 yX0_thickOf yX0_thickOf, Cond.initialized RX0, Cond.code yX0_thickOf cX0_thickOf 2 (some .int), Cond.fieldLink RX0 25 "HedgeHoles$Land" "kind" "[I", Cond.fieldLink RX0 28 "HedgeHoles$Land" "girth" "[I", Cond.static yX3_thickness, Cond.initialized RX3, Cond.code yX3_thickness cX3_thickness 2 (some .int), Cond.methodLink RX0 105 yX0_nearerThan, Cond.instanceMethod yX0_nearerThan, Cond.selects RX0 yX0_nearerThan yX0_nearerThan, Cond.code yX0_nearerThan cX0_nearerThan 4 (some .int), Cond.fieldLink RX0 9 "HedgeHoles$Land" "fields" "I", Cond.fieldLink RX0 34 "HedgeHoles$Land" "distance" "[I", Cond.methodLink RX0 81 yX0_letsBetween, Cond.instanceMethod yX0_letsBetween, Cond.selects RX0 yX0_letsBetween yX0_letsBetween, Cond.code yX0_letsBetween cX0_letsBetween 4 (some .boolean), Cond.fieldLink RX0 21 "HedgeHoles$Land" "width" "[I", Cond.methodLink RX0 55 yX0_hedgeOf, Cond.instanceMethod yX0_hedgeOf]
def wsX0_fieldOnWay_r2 : List Cond := [Cond.selects RX0 yX0_hedgeOf yX0_hedgeOf, Cond.code yX0_hedgeOf cX0_hedgeOf 5 (some .int), Cond.methodLink RX0 43 Lib.Math.min.name, Cond.static Lib.Math.min.name, Cond.initialized "java/lang/Math", Cond.code Lib.Math.min.name Lib.Math.min.code 2 (some .int), Cond.methodLink RX0 49 Lib.Math.max.name, Cond.static Lib.Math.max.name, Cond.code Lib.Math.max.name Lib.Math.max.code 2 (some .int), Cond.static yX3_lets, Cond.code yX3_lets cX3_lets 2 (some .boolean)]
def wsX0_fieldOnWay : List Cond := .code yX0_fieldOnWay cX0_fieldOnWay 5 (some .int) :: ((wsX0_fieldOnWay_r1 ++ wsX0_fieldOnWay_r2) ++ wsX00)
def wsX0_fittedAround : List Cond := .code yX0_fittedAround cX0_fittedAround 6 (some .int) :: ([.fieldLink RX0 9 "HedgeHoles$Land" "fields" "I", .static yX3_isIn, .initialized RX3, .code yX3_isIn cX3_isIn 2 (some .boolean), .methodLink RX0 81 yX0_letsBetween, .instanceMethod yX0_letsBetween, .selects RX0 yX0_letsBetween yX0_letsBetween, .initialized RX0, .code yX0_letsBetween cX0_letsBetween 4 (some .boolean), .fieldLink RX0 21 "HedgeHoles$Land" "width" "[I", .methodLink RX0 55 yX0_hedgeOf, .instanceMethod yX0_hedgeOf, .selects RX0 yX0_hedgeOf yX0_hedgeOf, .code yX0_hedgeOf cX0_hedgeOf 5 (some .int), .methodLink RX0 43 Lib.Math.min.name, .static Lib.Math.min.name, .initialized "java/lang/Math", .code Lib.Math.min.name Lib.Math.min.code 2 (some .int), .methodLink RX0 49 Lib.Math.max.name, .static Lib.Math.max.name, .code Lib.Math.max.name Lib.Math.max.code 2 (some .int), .static yX3_lets, .code yX3_lets cX3_lets 2 (some .boolean)] ++ wsX00)
def wsJ6_bitCount_0f7a4 : List Cond := .code yJ6_bitCount_0f7a4 cJ6_bitCount_0f7a4 1 (some .int) :: ([.constant RJ6 265 (1431655765), .constant RJ6 266 (858993459), .constant RJ6 267 (252645135)])
def wsX0_isFewer : List Cond := .code yX0_isFewer cX0_isFewer 3 (some .boolean) :: ([.methodLink RX0 114 yJ6_bitCount_0f7a4, .static yJ6_bitCount_0f7a4, .initialized RJ6, .code yJ6_bitCount_0f7a4 cJ6_bitCount_0f7a4 1 (some .int), .constant RJ6 265 (1431655765), .constant RJ6 266 (858993459), .constant RJ6 267 (252645135)])
def wsX0_fewestToShut_r1 : List Cond := [Cond.fieldLink RX0 9 "HedgeHoles$Land" "fields" "I", Cond.fieldLink RX0 31 "HedgeHoles$Land" "place" "[I", Cond.static yX3_isIn, Cond.initialized RX3, Cond.code yX3_isIn cX3_isIn 2 (some .boolean), Cond.methodLink RX0 78 yX0_thickOf, Cond.instanceMethod yX0_thickOf, Cond.selects RX0 yX0_thickOf yX0_thickOf, Cond.initialized RX0, Cond.code yX0_thickOf cX0_thickOf 2 (some .int), Cond.fieldLink RX0 25 "HedgeHoles$Land" "kind" "[I", Cond.fieldLink RX0 28 "HedgeHoles$Land" "girth" "[I", Cond.static yX3_thickness, Cond.code yX3_thickness cX3_thickness 2 (some .int), Cond.methodLink RX0 108 yX0_fittedAround, Cond.instanceMethod yX0_fittedAround, Cond.selects RX0 yX0_fittedAround yX0_fittedAround, Cond.code yX0_fittedAround cX0_fittedAround 6 (some .int), Cond.methodLink RX0 81 yX0_letsBetween, Cond.instanceMethod yX0_letsBetween, Cond.selects RX0 yX0_letsBetween yX0_letsBetween, Cond.code yX0_letsBetween cX0_letsBetween 4 (some .boolean), Cond.fieldLink RX0 21 "HedgeHoles$Land" "width" "[I", Cond.methodLink RX0 55 yX0_hedgeOf]
def wsX0_fewestToShut_r2 : List Cond := [Cond.instanceMethod yX0_hedgeOf, Cond.selects RX0 yX0_hedgeOf yX0_hedgeOf, Cond.code yX0_hedgeOf cX0_hedgeOf 5 (some .int), Cond.methodLink RX0 43 Lib.Math.min.name, Cond.static Lib.Math.min.name, Cond.initialized "java/lang/Math", Cond.code Lib.Math.min.name Lib.Math.min.code 2 (some .int), Cond.methodLink RX0 49 Lib.Math.max.name, Cond.static Lib.Math.max.name, Cond.code Lib.Math.max.name Lib.Math.max.code 2 (some .int), Cond.static yX3_lets, Cond.code yX3_lets cX3_lets 2 (some .boolean), Cond.methodLink RX0 111 yX0_isFewer, Cond.static yX0_isFewer, Cond.code yX0_isFewer cX0_isFewer 3 (some .boolean), Cond.methodLink RX0 114 yJ6_bitCount_0f7a4, Cond.static yJ6_bitCount_0f7a4, Cond.initialized RJ6, Cond.code yJ6_bitCount_0f7a4 cJ6_bitCount_0f7a4 1 (some .int), Cond.constant RJ6 265 (1431655765), Cond.constant RJ6 266 (858993459), Cond.constant RJ6 267 (252645135)]
def wsX0_fewestToShut : List Cond := .code yX0_fewestToShut cX0_fewestToShut 6 (some .int) :: ((wsX0_fewestToShut_r1 ++ wsX0_fewestToShut_r2) ++ wsX00)
def wsX1_init : List Cond := .code yX1_init cX1_init 1 none :: ([.methodLink RX1 3 objectInit, .instanceMethod objectInit, .code objectInit ⟨#[0xb1]⟩ 1 none, .arrayClass .int, .fieldLink RX1 9 "HedgeHoles$Notebook" "goer" "[I", .fieldLink RX1 15 "HedgeHoles$Notebook" "hedge" "[I", .arrayClass .boolean, .fieldLink RX1 18 "HedgeHoles$Notebook" "fits" "[Z", .fieldLink RX1 22 "HedgeHoles$Notebook" "count" "I"] ++ wsX10)
def wsX1_write : List Cond := .code yX1_write cX1_write 4 none :: ([.fieldLink RX1 22 "HedgeHoles$Notebook" "count" "I", .fieldLink RX1 9 "HedgeHoles$Notebook" "goer" "[I", .fieldLink RX1 15 "HedgeHoles$Notebook" "hedge" "[I", .fieldLink RX1 18 "HedgeHoles$Notebook" "fits" "[Z"] ++ wsX10)
def wsX1_agrees : List Cond := .code yX1_agrees cX1_agrees 3 (some .boolean) :: ([.fieldLink RX1 22 "HedgeHoles$Notebook" "count" "I", .fieldLink RX1 26 "HedgeHoles$Land" "width" "[I", .fieldLink RX1 15 "HedgeHoles$Notebook" "hedge" "[I", .fieldLink RX1 9 "HedgeHoles$Notebook" "goer" "[I", .fieldLink RX1 18 "HedgeHoles$Notebook" "fits" "[Z", .methodLink RX1 31 yX0_thickOf, .instanceMethod yX0_thickOf, .selects RX0 yX0_thickOf yX0_thickOf, .initialized RX0, .code yX0_thickOf cX0_thickOf 2 (some .int), .fieldLink RX0 25 "HedgeHoles$Land" "kind" "[I", .fieldLink RX0 28 "HedgeHoles$Land" "girth" "[I", .static yX3_thickness, .initialized RX3, .code yX3_thickness cX3_thickness 2 (some .int), .static yX3_lets, .code yX3_lets cX3_lets 2 (some .boolean)] ++ wsX10 ++ wsX00)
def wsX2_init : List Cond := .code yX2_init cX2_init 1 none :: ([.methodLink RX2 3 objectInit, .instanceMethod objectInit, .code objectInit ⟨#[0xb1]⟩ 1 none, .arrayClass .int, .fieldLink RX2 9 "HedgeHoles$Row" "cells" "[I", .fieldLink RX2 15 "HedgeHoles$Row" "there" "Z", .fieldLink RX2 19 "HedgeHoles$Row" "lane" "I", .fieldLink RX2 23 "HedgeHoles$Row" "size" "I"] ++ wsX20)
def wsJ7_fill_53178 : List Cond := .code yJ7_fill_53178 cJ7_fill_53178 4 none :: ([])
def wsX2_begin : List Cond := .code yX2_begin cX2_begin 3 none :: ([.fieldLink RX2 9 "HedgeHoles$Row" "cells" "[I", .fieldLink RX2 15 "HedgeHoles$Row" "there" "Z", .fieldLink RX2 19 "HedgeHoles$Row" "lane" "I", .fieldLink RX2 23 "HedgeHoles$Row" "size" "I", .methodLink RX2 26 yJ7_fill_53178, .static yJ7_fill_53178, .initialized RJ7, .code yJ7_fill_53178 cJ7_fill_53178 4 none] ++ wsX20)
def wsX2_faultAs : List Cond := .code yX2_faultAs cX2_faultAs 2 (some .int) :: ([.fieldLink RX2 15 "HedgeHoles$Row" "there" "Z", .fieldLink RX2 19 "HedgeHoles$Row" "lane" "I"] ++ wsX20)
def wsX2_spans : List Cond := .code yX2_spans cX2_spans 3 (some .boolean) :: ([.fieldLink RX2 23 "HedgeHoles$Row" "size" "I"] ++ wsX20)
def wsX3_init_r1 : List Cond := [Cond.methodLink RX3 3 objectInit, Cond.instanceMethod objectInit, Cond.code objectInit ⟨#[0xb1]⟩ 1 none, Cond.classLink RX3 11 RX2, Cond.fieldLink RX3 13 "HedgeHoles" "rows" "[LHedgeHoles$Row;", Cond.classLink RX3 17 RX0, Cond.instantiable RX0 8, Cond.initialized RX0, Cond.fieldLink RX3 20 "HedgeHoles" "land" "LHedgeHoles$Land;", Cond.fieldLink RX3 24 "HedgeHoles" "trial" "LHedgeHoles$Land;", Cond.classLink RX3 27 RX1, Cond.instantiable RX1 4, Cond.initialized RX1, Cond.fieldLink RX3 30 "HedgeHoles" "notebook" "LHedgeHoles$Notebook;", Cond.fieldLink RX3 34 "HedgeHoles" "year" "I", Cond.fieldLink RX3 38 "HedgeHoles" "goings" "I", Cond.fieldLink RX3 41 "HedgeHoles" "traceLeft" "I", Cond.fieldLink RX3 44 "HedgeHoles" "lastFault" "I", Cond.instantiable RX2 4, Cond.initialized RX2, Cond.methodLink RX3 19 yX0_init, Cond.instanceMethod yX0_init, Cond.code yX0_init cX0_init 1 none, Cond.methodLink RX0 3 objectInit]
def wsX3_init_r2 : List Cond := [Cond.fieldLink RX0 9 "HedgeHoles$Land" "fields" "I", Cond.fieldLink RX0 15 "HedgeHoles$Land" "goers" "I", Cond.fieldLink RX0 18 "HedgeHoles$Land" "worn" "I", Cond.arrayClass .int, Cond.fieldLink RX0 21 "HedgeHoles$Land" "width" "[I", Cond.fieldLink RX0 25 "HedgeHoles$Land" "kind" "[I", Cond.fieldLink RX0 28 "HedgeHoles$Land" "girth" "[I", Cond.fieldLink RX0 31 "HedgeHoles$Land" "place" "[I", Cond.fieldLink RX0 34 "HedgeHoles$Land" "distance" "[I", Cond.methodLink RX3 29 yX1_init, Cond.instanceMethod yX1_init, Cond.code yX1_init cX1_init 1 none, Cond.methodLink RX1 3 objectInit, Cond.fieldLink RX1 9 "HedgeHoles$Notebook" "goer" "[I", Cond.fieldLink RX1 15 "HedgeHoles$Notebook" "hedge" "[I", Cond.arrayClass .boolean, Cond.fieldLink RX1 18 "HedgeHoles$Notebook" "fits" "[Z", Cond.fieldLink RX1 22 "HedgeHoles$Notebook" "count" "I", Cond.methodLink RX3 47 yX2_init, Cond.instanceMethod yX2_init, Cond.code yX2_init cX2_init 1 none, Cond.methodLink RX2 3 objectInit, Cond.fieldLink RX2 9 "HedgeHoles$Row" "cells" "[I", Cond.fieldLink RX2 15 "HedgeHoles$Row" "there" "Z"]
def wsX3_init_r3 : List Cond := [Cond.fieldLink RX2 19 "HedgeHoles$Row" "lane" "I", Cond.fieldLink RX2 23 "HedgeHoles$Row" "size" "I"]
def wsX3_init : List Cond := .code yX3_init cX3_init 2 none :: ((wsX3_init_r1 ++ (wsX3_init_r2 ++ wsX3_init_r3)) ++ wsX30 ++ wsX00 ++ wsX10 ++ wsX20)
def wsX3_isSheet : List Cond := .code yX3_isSheet cX3_isSheet 1 (some .boolean) :: ([])
def wsX3_isLane : List Cond := .code yX3_isLane cX3_isLane 1 (some .boolean) :: ([])
def wsX3_failed : List Cond := .code yX3_failed cX3_failed 2 (some .int) :: ([.fieldLink RX3 44 "HedgeHoles" "lastFault" "I"] ++ wsX30)
def wsX3_firstFaultOfText_r1 : List Cond := [Cond.fieldLink RX3 24 "HedgeHoles" "trial" "LHedgeHoles$Land;", Cond.fieldLink RX3 202 "HedgeHoles$Row" "cells" "[I", Cond.methodLink RX3 229 yX0_clear, Cond.instanceMethod yX0_clear, Cond.selects RX0 yX0_clear yX0_clear, Cond.initialized RX0, Cond.code yX0_clear cX0_clear 1 none, Cond.fieldLink RX0 9 "HedgeHoles$Land" "fields" "I", Cond.fieldLink RX0 15 "HedgeHoles$Land" "goers" "I", Cond.fieldLink RX0 18 "HedgeHoles$Land" "worn" "I", Cond.methodLink RX3 232 yX0_reads, Cond.instanceMethod yX0_reads, Cond.selects RX0 yX0_reads yX0_reads, Cond.code yX0_reads cX0_reads 5 (some .boolean), Cond.fieldLink RX0 21 "HedgeHoles$Land" "width" "[I", Cond.static yX3_digit, Cond.initialized RX3, Cond.code yX3_digit cX3_digit 3 (some .int), Cond.methodLink RX0 66 yX0_hedges, Cond.instanceMethod yX0_hedges, Cond.selects RX0 yX0_hedges yX0_hedges, Cond.code yX0_hedges cX0_hedges 1 (some .int), Cond.methodLink RX0 70 yX0_readsGoer, Cond.instanceMethod yX0_readsGoer]
def wsX3_firstFaultOfText_r2 : List Cond := [Cond.selects RX0 yX0_readsGoer yX0_readsGoer, Cond.code yX0_readsGoer cX0_readsGoer 4 (some .boolean), Cond.fieldLink RX0 25 "HedgeHoles$Land" "kind" "[I", Cond.fieldLink RX0 28 "HedgeHoles$Land" "girth" "[I", Cond.fieldLink RX0 31 "HedgeHoles$Land" "place" "[I", Cond.methodLink RX0 74 yX0_kindOf, Cond.static yX0_kindOf, Cond.code yX0_kindOf cX0_kindOf 1 (some .int), Cond.methodLink RX3 235 yX0_mayEndAt, Cond.instanceMethod yX0_mayEndAt, Cond.selects RX0 yX0_mayEndAt yX0_mayEndAt, Cond.code yX0_mayEndAt cX0_mayEndAt 2 (some .boolean)]
def wsX3_firstFaultOfText : List Cond := .code yX3_firstFaultOfText cX3_firstFaultOfText 5 (some .int) :: ((wsX3_firstFaultOfText_r1 ++ wsX3_firstFaultOfText_r2) ++ wsX30 ++ wsX20 ++ wsX00)
def wsX3_county_r1 : List Cond := [Cond.fieldLink RX3 44 "HedgeHoles" "lastFault" "I", Cond.fieldLink RX3 13 "HedgeHoles" "rows" "[LHedgeHoles$Row;", Cond.fieldLink RX3 20 "HedgeHoles" "land" "LHedgeHoles$Land;", Cond.fieldLink RX3 24 "HedgeHoles" "trial" "LHedgeHoles$Land;", Cond.fieldLink RX3 30 "HedgeHoles" "notebook" "LHedgeHoles$Notebook;", Cond.fieldLink RX3 74 "HedgeHoles$Notebook" "count" "I", Cond.fieldLink RX3 34 "HedgeHoles" "year" "I", Cond.fieldLink RX3 38 "HedgeHoles" "goings" "I", Cond.fieldLink RX3 77 "HedgeHoles$Land" "goers" "I", Cond.methodLink RX3 48 yX3_isSheet, Cond.static yX3_isSheet, Cond.initialized RX3, Cond.code yX3_isSheet cX3_isSheet 1 (some .boolean), Cond.methodLink RX3 52 yX3_isLane, Cond.static yX3_isLane, Cond.code yX3_isLane cX3_isLane 1 (some .boolean), Cond.methodLink RX3 55 yX2_faultAs, Cond.instanceMethod yX2_faultAs, Cond.selects RX2 yX2_faultAs yX2_faultAs, Cond.initialized RX2, Cond.code yX2_faultAs cX2_faultAs 2 (some .int), Cond.fieldLink RX2 15 "HedgeHoles$Row" "there" "Z", Cond.fieldLink RX2 19 "HedgeHoles$Row" "lane" "I", Cond.methodLink RX3 59 yX2_spans]
def wsX3_county_r2 : List Cond := [Cond.instanceMethod yX2_spans, Cond.selects RX2 yX2_spans yX2_spans, Cond.code yX2_spans cX2_spans 3 (some .boolean), Cond.fieldLink RX2 23 "HedgeHoles$Row" "size" "I", Cond.methodLink RX3 63 yX3_failed, Cond.instanceMethod yX3_failed, Cond.selects RX3 yX3_failed yX3_failed, Cond.code yX3_failed cX3_failed 2 (some .int), Cond.methodLink RX3 66 yX3_firstFaultOfText, Cond.instanceMethod yX3_firstFaultOfText, Cond.selects RX3 yX3_firstFaultOfText yX3_firstFaultOfText, Cond.code yX3_firstFaultOfText cX3_firstFaultOfText 5 (some .int), Cond.fieldLink RX3 202 "HedgeHoles$Row" "cells" "[I", Cond.methodLink RX3 229 yX0_clear, Cond.instanceMethod yX0_clear, Cond.selects RX0 yX0_clear yX0_clear, Cond.initialized RX0, Cond.code yX0_clear cX0_clear 1 none, Cond.fieldLink RX0 9 "HedgeHoles$Land" "fields" "I", Cond.fieldLink RX0 15 "HedgeHoles$Land" "goers" "I", Cond.fieldLink RX0 18 "HedgeHoles$Land" "worn" "I", Cond.methodLink RX3 232 yX0_reads, Cond.instanceMethod yX0_reads, Cond.selects RX0 yX0_reads yX0_reads]
def wsX3_county_r3 : List Cond := [Cond.code yX0_reads cX0_reads 5 (some .boolean), Cond.fieldLink RX0 21 "HedgeHoles$Land" "width" "[I", Cond.static yX3_digit, Cond.code yX3_digit cX3_digit 3 (some .int), Cond.methodLink RX0 66 yX0_hedges, Cond.instanceMethod yX0_hedges, Cond.selects RX0 yX0_hedges yX0_hedges, Cond.code yX0_hedges cX0_hedges 1 (some .int), Cond.methodLink RX0 70 yX0_readsGoer, Cond.instanceMethod yX0_readsGoer, Cond.selects RX0 yX0_readsGoer yX0_readsGoer, Cond.code yX0_readsGoer cX0_readsGoer 4 (some .boolean), Cond.fieldLink RX0 25 "HedgeHoles$Land" "kind" "[I", Cond.fieldLink RX0 28 "HedgeHoles$Land" "girth" "[I", Cond.fieldLink RX0 31 "HedgeHoles$Land" "place" "[I", Cond.methodLink RX0 74 yX0_kindOf, Cond.static yX0_kindOf, Cond.code yX0_kindOf cX0_kindOf 1 (some .int), Cond.methodLink RX3 235 yX0_mayEndAt, Cond.instanceMethod yX0_mayEndAt, Cond.selects RX0 yX0_mayEndAt yX0_mayEndAt, Cond.code yX0_mayEndAt cX0_mayEndAt 2 (some .boolean), Cond.methodLink RX3 70 yX0_become, Cond.instanceMethod yX0_become]
def wsX3_county_r4 : List Cond := [Cond.selects RX0 yX0_become yX0_become, Cond.code yX0_become cX0_become 2 none, Cond.methodLink RX0 37 arraycopyName, Cond.native arraycopyName, Cond.static arraycopyName, Cond.initialized "java/lang/System"]
def wsX3_county : List Cond := .code yX3_county cX3_county 7 (some .int) :: ((wsX3_county_r1 ++ (wsX3_county_r2 ++ (wsX3_county_r3 ++ wsX3_county_r4))) ++ wsX30 ++ wsX10 ++ wsX00 ++ wsX20)
def wsX3_isGoer : List Cond := .code yX3_isGoer cX3_isGoer 2 (some .boolean) :: ([.fieldLink RX3 20 "HedgeHoles" "land" "LHedgeHoles$Land;", .fieldLink RX3 77 "HedgeHoles$Land" "goers" "I"] ++ wsX30 ++ wsX00)
def wsX3_ofGoer : List Cond := .code yX3_ofGoer cX3_ofGoer 3 (some .int) :: ([.fieldLink RX3 20 "HedgeHoles" "land" "LHedgeHoles$Land;", .fieldLink RX3 83 "HedgeHoles$Land" "kind" "[I", .fieldLink RX3 87 "HedgeHoles$Land" "girth" "[I", .fieldLink RX3 93 "HedgeHoles$Land" "place" "[I", .methodLink RX3 80 yX3_isGoer, .instanceMethod yX3_isGoer, .selects RX3 yX3_isGoer yX3_isGoer, .initialized RX3, .code yX3_isGoer cX3_isGoer 2 (some .boolean), .fieldLink RX3 77 "HedgeHoles$Land" "goers" "I", .methodLink RX3 90 yX0_thickOf, .instanceMethod yX0_thickOf, .selects RX0 yX0_thickOf yX0_thickOf, .initialized RX0, .code yX0_thickOf cX0_thickOf 2 (some .int), .fieldLink RX0 25 "HedgeHoles$Land" "kind" "[I", .fieldLink RX0 28 "HedgeHoles$Land" "girth" "[I", .static yX3_thickness, .code yX3_thickness cX3_thickness 2 (some .int)] ++ wsX30 ++ wsX00)
def wsX3_isField : List Cond := .code yX3_isField cX3_isField 2 (some .boolean) :: ([.fieldLink RX3 20 "HedgeHoles" "land" "LHedgeHoles$Land;", .fieldLink RX3 168 "HedgeHoles$Land" "fields" "I"] ++ wsX30 ++ wsX00)
def wsX3_areTwoFields : List Cond := .code yX3_areTwoFields cX3_areTwoFields 3 (some .boolean) :: ([.methodLink RX3 112 yX3_isField, .instanceMethod yX3_isField, .selects RX3 yX3_isField yX3_isField, .initialized RX3, .code yX3_isField cX3_isField 2 (some .boolean), .fieldLink RX3 20 "HedgeHoles" "land" "LHedgeHoles$Land;", .fieldLink RX3 168 "HedgeHoles$Land" "fields" "I"] ++ wsX30 ++ wsX00)
def wsX3_hole_r1 : List Cond := [Cond.fieldLink RX3 20 "HedgeHoles" "land" "LHedgeHoles$Land;", Cond.fieldLink RX3 103 "HedgeHoles$Land" "width" "[I", Cond.fieldLink RX3 106 "HedgeHoles$Land" "worn" "I", Cond.methodLink RX3 96 yX3_areTwoFields, Cond.instanceMethod yX3_areTwoFields, Cond.selects RX3 yX3_areTwoFields yX3_areTwoFields, Cond.initialized RX3, Cond.code yX3_areTwoFields cX3_areTwoFields 3 (some .boolean), Cond.methodLink RX3 112 yX3_isField, Cond.instanceMethod yX3_isField, Cond.selects RX3 yX3_isField yX3_isField, Cond.code yX3_isField cX3_isField 2 (some .boolean), Cond.fieldLink RX3 168 "HedgeHoles$Land" "fields" "I", Cond.methodLink RX3 99 yX0_hedgeOf, Cond.instanceMethod yX0_hedgeOf, Cond.selects RX0 yX0_hedgeOf yX0_hedgeOf, Cond.initialized RX0, Cond.code yX0_hedgeOf cX0_hedgeOf 5 (some .int), Cond.methodLink RX0 43 Lib.Math.min.name, Cond.static Lib.Math.min.name, Cond.initialized "java/lang/Math", Cond.code Lib.Math.min.name Lib.Math.min.code 2 (some .int), Cond.methodLink RX0 49 Lib.Math.max.name, Cond.static Lib.Math.max.name]
def wsX3_hole_r2 : List Cond := [Cond.code Lib.Math.max.name Lib.Math.max.code 2 (some .int), Cond.fieldLink RX0 9 "HedgeHoles$Land" "fields" "I", Cond.methodLink RX3 109 yX3_isIn, Cond.static yX3_isIn, Cond.code yX3_isIn cX3_isIn 2 (some .boolean)]
def wsX3_hole : List Cond := .code yX3_hole cX3_hole 5 (some .int) :: ((wsX3_hole_r1 ++ wsX3_hole_r2) ++ wsX30 ++ wsX00)
def wsX3_hoop_r1 : List Cond := [Cond.fieldLink RX3 20 "HedgeHoles" "land" "LHedgeHoles$Land;", Cond.fieldLink RX3 103 "HedgeHoles$Land" "width" "[I", Cond.fieldLink RX3 106 "HedgeHoles$Land" "worn" "I", Cond.methodLink RX3 96 yX3_areTwoFields, Cond.instanceMethod yX3_areTwoFields, Cond.selects RX3 yX3_areTwoFields yX3_areTwoFields, Cond.initialized RX3, Cond.code yX3_areTwoFields cX3_areTwoFields 3 (some .boolean), Cond.methodLink RX3 112 yX3_isField, Cond.instanceMethod yX3_isField, Cond.selects RX3 yX3_isField yX3_isField, Cond.code yX3_isField cX3_isField 2 (some .boolean), Cond.fieldLink RX3 168 "HedgeHoles$Land" "fields" "I", Cond.methodLink RX3 99 yX0_hedgeOf, Cond.instanceMethod yX0_hedgeOf, Cond.selects RX0 yX0_hedgeOf yX0_hedgeOf, Cond.initialized RX0, Cond.code yX0_hedgeOf cX0_hedgeOf 5 (some .int), Cond.methodLink RX0 43 Lib.Math.min.name, Cond.static Lib.Math.min.name, Cond.initialized "java/lang/Math", Cond.code Lib.Math.min.name Lib.Math.min.code 2 (some .int), Cond.methodLink RX0 49 Lib.Math.max.name, Cond.static Lib.Math.max.name]
def wsX3_hoop_r2 : List Cond := [Cond.code Lib.Math.max.name Lib.Math.max.code 2 (some .int), Cond.fieldLink RX0 9 "HedgeHoles$Land" "fields" "I"]
def wsX3_hoop : List Cond := .code yX3_hoop cX3_hoop 6 (some .int) :: ((wsX3_hoop_r1 ++ wsX3_hoop_r2) ++ wsX30 ++ wsX00)
def wsX3_fatten : List Cond := .code yX3_fatten cX3_fatten 4 (some .int) :: ([.fieldLink RX3 20 "HedgeHoles" "land" "LHedgeHoles$Land;", .fieldLink RX3 87 "HedgeHoles$Land" "girth" "[I", .methodLink RX3 80 yX3_isGoer, .instanceMethod yX3_isGoer, .selects RX3 yX3_isGoer yX3_isGoer, .initialized RX3, .code yX3_isGoer cX3_isGoer 2 (some .boolean), .fieldLink RX3 77 "HedgeHoles$Land" "goers" "I"] ++ wsX30 ++ wsX00)
def wsX3_go_r1 : List Cond := [Cond.fieldLink RX3 20 "HedgeHoles" "land" "LHedgeHoles$Land;", Cond.fieldLink RX3 103 "HedgeHoles$Land" "width" "[I", Cond.fieldLink RX3 93 "HedgeHoles$Land" "place" "[I", Cond.fieldLink RX3 38 "HedgeHoles" "goings" "I", Cond.methodLink RX3 80 yX3_isGoer, Cond.instanceMethod yX3_isGoer, Cond.selects RX3 yX3_isGoer yX3_isGoer, Cond.initialized RX3, Cond.code yX3_isGoer cX3_isGoer 2 (some .boolean), Cond.fieldLink RX3 77 "HedgeHoles$Land" "goers" "I", Cond.methodLink RX3 112 yX3_isField, Cond.instanceMethod yX3_isField, Cond.selects RX3 yX3_isField yX3_isField, Cond.code yX3_isField cX3_isField 2 (some .boolean), Cond.fieldLink RX3 168 "HedgeHoles$Land" "fields" "I", Cond.methodLink RX3 115 yX0_canMove, Cond.instanceMethod yX0_canMove, Cond.selects RX0 yX0_canMove yX0_canMove, Cond.initialized RX0, Cond.code yX0_canMove cX0_canMove 3 (some .boolean), Cond.fieldLink RX0 31 "HedgeHoles$Land" "place" "[I", Cond.methodLink RX0 78 yX0_thickOf, Cond.instanceMethod yX0_thickOf, Cond.selects RX0 yX0_thickOf yX0_thickOf]
def wsX3_go_r2 : List Cond := [Cond.code yX0_thickOf cX0_thickOf 2 (some .int), Cond.fieldLink RX0 25 "HedgeHoles$Land" "kind" "[I", Cond.fieldLink RX0 28 "HedgeHoles$Land" "girth" "[I", Cond.static yX3_thickness, Cond.code yX3_thickness cX3_thickness 2 (some .int), Cond.methodLink RX0 81 yX0_letsBetween, Cond.instanceMethod yX0_letsBetween, Cond.selects RX0 yX0_letsBetween yX0_letsBetween, Cond.code yX0_letsBetween cX0_letsBetween 4 (some .boolean), Cond.fieldLink RX0 21 "HedgeHoles$Land" "width" "[I", Cond.methodLink RX0 55 yX0_hedgeOf, Cond.instanceMethod yX0_hedgeOf, Cond.selects RX0 yX0_hedgeOf yX0_hedgeOf, Cond.code yX0_hedgeOf cX0_hedgeOf 5 (some .int), Cond.methodLink RX0 43 Lib.Math.min.name, Cond.static Lib.Math.min.name, Cond.initialized "java/lang/Math", Cond.code Lib.Math.min.name Lib.Math.min.code 2 (some .int), Cond.methodLink RX0 49 Lib.Math.max.name, Cond.static Lib.Math.max.name, Cond.code Lib.Math.max.name Lib.Math.max.code 2 (some .int), Cond.fieldLink RX0 9 "HedgeHoles$Land" "fields" "I", Cond.static yX3_lets, Cond.code yX3_lets cX3_lets 2 (some .boolean)]
def wsX3_go_r3 : List Cond := [Cond.methodLink RX3 99 yX0_hedgeOf, Cond.methodLink RX3 90 yX0_thickOf, Cond.methodLink RX3 118 yX0_move, Cond.instanceMethod yX0_move, Cond.selects RX0 yX0_move yX0_move, Cond.code yX0_move cX0_move 3 none, Cond.fieldLink RX0 18 "HedgeHoles$Land" "worn" "I"]
def wsX3_go : List Cond := .code yX3_go cX3_go 4 (some .int) :: ((wsX3_go_r1 ++ (wsX3_go_r2 ++ wsX3_go_r3)) ++ wsX30 ++ wsX00)
def wsX3_hasCounty : List Cond := .code yX3_hasCounty cX3_hasCounty 1 (some .boolean) :: ([.fieldLink RX3 20 "HedgeHoles" "land" "LHedgeHoles$Land;", .fieldLink RX3 168 "HedgeHoles$Land" "fields" "I"] ++ wsX30 ++ wsX00)
def wsX3_years_r1 : List Cond := [Cond.fieldLink RX3 20 "HedgeHoles" "land" "LHedgeHoles$Land;", Cond.fieldLink RX3 34 "HedgeHoles" "year" "I", Cond.methodLink RX3 122 yX3_hasCounty, Cond.instanceMethod yX3_hasCounty, Cond.selects RX3 yX3_hasCounty yX3_hasCounty, Cond.initialized RX3, Cond.code yX3_hasCounty cX3_hasCounty 1 (some .boolean), Cond.fieldLink RX3 168 "HedgeHoles$Land" "fields" "I", Cond.methodLink RX3 126 yX0_age, Cond.instanceMethod yX0_age, Cond.selects RX0 yX0_age yX0_age, Cond.initialized RX0, Cond.code yX0_age cX0_age 4 none, Cond.fieldLink RX0 21 "HedgeHoles$Land" "width" "[I", Cond.fieldLink RX0 18 "HedgeHoles$Land" "worn" "I", Cond.methodLink RX0 43 Lib.Math.min.name, Cond.static Lib.Math.min.name, Cond.initialized "java/lang/Math", Cond.code Lib.Math.min.name Lib.Math.min.code 2 (some .int), Cond.methodLink RX0 49 Lib.Math.max.name, Cond.static Lib.Math.max.name, Cond.code Lib.Math.max.name Lib.Math.max.code 2 (some .int), Cond.methodLink RX0 66 yX0_hedges, Cond.instanceMethod yX0_hedges]
def wsX3_years_r2 : List Cond := [Cond.selects RX0 yX0_hedges yX0_hedges, Cond.code yX0_hedges cX0_hedges 1 (some .int), Cond.fieldLink RX0 9 "HedgeHoles$Land" "fields" "I", Cond.static yX3_isIn, Cond.code yX3_isIn cX3_isIn 2 (some .boolean), Cond.methodLink RX3 130 yX0_openHoles, Cond.instanceMethod yX0_openHoles, Cond.selects RX0 yX0_openHoles yX0_openHoles, Cond.code yX0_openHoles cX0_openHoles 3 (some .int)]
def wsX3_years : List Cond := .code yX3_years cX3_years 2 (some .int) :: ((wsX3_years_r1 ++ wsX3_years_r2) ++ wsX30 ++ wsX00)
def wsX3_stop_r1 : List Cond := [Cond.fieldLink RX3 20 "HedgeHoles" "land" "LHedgeHoles$Land;", Cond.fieldLink RX3 103 "HedgeHoles$Land" "width" "[I", Cond.methodLink RX3 96 yX3_areTwoFields, Cond.instanceMethod yX3_areTwoFields, Cond.selects RX3 yX3_areTwoFields yX3_areTwoFields, Cond.initialized RX3, Cond.code yX3_areTwoFields cX3_areTwoFields 3 (some .boolean), Cond.methodLink RX3 112 yX3_isField, Cond.instanceMethod yX3_isField, Cond.selects RX3 yX3_isField yX3_isField, Cond.code yX3_isField cX3_isField 2 (some .boolean), Cond.fieldLink RX3 168 "HedgeHoles$Land" "fields" "I", Cond.methodLink RX3 99 yX0_hedgeOf, Cond.instanceMethod yX0_hedgeOf, Cond.selects RX0 yX0_hedgeOf yX0_hedgeOf, Cond.initialized RX0, Cond.code yX0_hedgeOf cX0_hedgeOf 5 (some .int), Cond.methodLink RX0 43 Lib.Math.min.name, Cond.static Lib.Math.min.name, Cond.initialized "java/lang/Math", Cond.code Lib.Math.min.name Lib.Math.min.code 2 (some .int), Cond.methodLink RX0 49 Lib.Math.max.name, Cond.static Lib.Math.max.name, Cond.code Lib.Math.max.name Lib.Math.max.code 2 (some .int)]
def wsX3_stop_r2 : List Cond := [Cond.fieldLink RX0 9 "HedgeHoles$Land" "fields" "I", Cond.methodLink RX3 134 yX0_stopUp, Cond.instanceMethod yX0_stopUp, Cond.selects RX0 yX0_stopUp yX0_stopUp, Cond.code yX0_stopUp cX0_stopUp 2 (some .boolean), Cond.fieldLink RX0 21 "HedgeHoles$Land" "width" "[I", Cond.methodLink RX0 66 yX0_hedges, Cond.instanceMethod yX0_hedges, Cond.selects RX0 yX0_hedges yX0_hedges, Cond.code yX0_hedges cX0_hedges 1 (some .int)]
def wsX3_stop : List Cond := .code yX3_stop cX3_stop 5 (some .int) :: ((wsX3_stop_r1 ++ wsX3_stop_r2) ++ wsX30 ++ wsX00)
def wsX3_isAskedOfSeason : List Cond := .code yX3_isAskedOfSeason cX3_isAskedOfSeason 1 (some .boolean) :: ([])
def wsX3_refusalOfPairs : List Cond := .code yX3_refusalOfPairs cX3_refusalOfPairs 7 (some .int) :: ([.fieldLink RX3 202 "HedgeHoles$Row" "cells" "[I", .methodLink RX3 80 yX3_isGoer, .instanceMethod yX3_isGoer, .selects RX3 yX3_isGoer yX3_isGoer, .initialized RX3, .code yX3_isGoer cX3_isGoer 2 (some .boolean), .fieldLink RX3 20 "HedgeHoles" "land" "LHedgeHoles$Land;", .fieldLink RX3 77 "HedgeHoles$Land" "goers" "I"] ++ wsX20 ++ wsX30 ++ wsX00)
def wsX3_firstWrongOfSeason_r1 : List Cond := [Cond.fieldLink RX3 24 "HedgeHoles" "trial" "LHedgeHoles$Land;", Cond.fieldLink RX3 20 "HedgeHoles" "land" "LHedgeHoles$Land;", Cond.fieldLink RX3 202 "HedgeHoles$Row" "cells" "[I", Cond.methodLink RX3 70 yX0_become, Cond.instanceMethod yX0_become, Cond.selects RX0 yX0_become yX0_become, Cond.initialized RX0, Cond.code yX0_become cX0_become 2 none, Cond.fieldLink RX0 9 "HedgeHoles$Land" "fields" "I", Cond.fieldLink RX0 15 "HedgeHoles$Land" "goers" "I", Cond.fieldLink RX0 18 "HedgeHoles$Land" "worn" "I", Cond.fieldLink RX0 21 "HedgeHoles$Land" "width" "[I", Cond.methodLink RX0 37 arraycopyName, Cond.native arraycopyName, Cond.static arraycopyName, Cond.initialized "java/lang/System", Cond.fieldLink RX0 25 "HedgeHoles$Land" "kind" "[I", Cond.fieldLink RX0 28 "HedgeHoles$Land" "girth" "[I", Cond.fieldLink RX0 31 "HedgeHoles$Land" "place" "[I", Cond.methodLink RX3 238 yX0_acts, Cond.instanceMethod yX0_acts, Cond.selects RX0 yX0_acts yX0_acts, Cond.code yX0_acts cX0_acts 3 (some .boolean), Cond.methodLink RX0 87 yX0_age]
def wsX3_firstWrongOfSeason_r2 : List Cond := [Cond.instanceMethod yX0_age, Cond.selects RX0 yX0_age yX0_age, Cond.code yX0_age cX0_age 4 none, Cond.methodLink RX0 43 Lib.Math.min.name, Cond.static Lib.Math.min.name, Cond.initialized "java/lang/Math", Cond.code Lib.Math.min.name Lib.Math.min.code 2 (some .int), Cond.methodLink RX0 49 Lib.Math.max.name, Cond.static Lib.Math.max.name, Cond.code Lib.Math.max.name Lib.Math.max.code 2 (some .int), Cond.methodLink RX0 66 yX0_hedges, Cond.instanceMethod yX0_hedges, Cond.selects RX0 yX0_hedges yX0_hedges, Cond.code yX0_hedges cX0_hedges 1 (some .int), Cond.static yX3_isIn, Cond.initialized RX3, Cond.code yX3_isIn cX3_isIn 2 (some .boolean), Cond.methodLink RX0 91 yX0_stopUp, Cond.instanceMethod yX0_stopUp, Cond.selects RX0 yX0_stopUp yX0_stopUp, Cond.code yX0_stopUp cX0_stopUp 2 (some .boolean), Cond.methodLink RX0 95 yX0_canMove, Cond.instanceMethod yX0_canMove, Cond.selects RX0 yX0_canMove yX0_canMove]
def wsX3_firstWrongOfSeason_r3 : List Cond := [Cond.code yX0_canMove cX0_canMove 3 (some .boolean), Cond.methodLink RX0 78 yX0_thickOf, Cond.instanceMethod yX0_thickOf, Cond.selects RX0 yX0_thickOf yX0_thickOf, Cond.code yX0_thickOf cX0_thickOf 2 (some .int), Cond.static yX3_thickness, Cond.code yX3_thickness cX3_thickness 2 (some .int), Cond.methodLink RX0 81 yX0_letsBetween, Cond.instanceMethod yX0_letsBetween, Cond.selects RX0 yX0_letsBetween yX0_letsBetween, Cond.code yX0_letsBetween cX0_letsBetween 4 (some .boolean), Cond.methodLink RX0 55 yX0_hedgeOf, Cond.instanceMethod yX0_hedgeOf, Cond.selects RX0 yX0_hedgeOf yX0_hedgeOf, Cond.code yX0_hedgeOf cX0_hedgeOf 5 (some .int), Cond.static yX3_lets, Cond.code yX3_lets cX3_lets 2 (some .boolean), Cond.methodLink RX0 98 yX0_move, Cond.instanceMethod yX0_move, Cond.selects RX0 yX0_move yX0_move, Cond.code yX0_move cX0_move 3 none]
def wsX3_firstWrongOfSeason : List Cond := .code yX3_firstWrongOfSeason cX3_firstWrongOfSeason 5 (some .int) :: ((wsX3_firstWrongOfSeason_r1 ++ (wsX3_firstWrongOfSeason_r2 ++ wsX3_firstWrongOfSeason_r3)) ++ wsX30 ++ wsX20 ++ wsX00)
def wsX3_goingsTold : List Cond := .code yX3_goingsTold cX3_goingsTold 5 (some .int) :: ([.fieldLink RX3 202 "HedgeHoles$Row" "cells" "[I"] ++ wsX20)
def wsX3_ofTrial_r1 : List Cond := [Cond.fieldLink RX3 24 "HedgeHoles" "trial" "LHedgeHoles$Land;", Cond.fieldLink RX3 106 "HedgeHoles$Land" "worn" "I", Cond.fieldLink RX3 93 "HedgeHoles$Land" "place" "[I", Cond.methodLink RX3 130 yX0_openHoles, Cond.instanceMethod yX0_openHoles, Cond.selects RX0 yX0_openHoles yX0_openHoles, Cond.initialized RX0, Cond.code yX0_openHoles cX0_openHoles 3 (some .int), Cond.fieldLink RX0 21 "HedgeHoles$Land" "width" "[I", Cond.methodLink RX0 66 yX0_hedges, Cond.instanceMethod yX0_hedges, Cond.selects RX0 yX0_hedges yX0_hedges, Cond.code yX0_hedges cX0_hedges 1 (some .int), Cond.fieldLink RX0 9 "HedgeHoles$Land" "fields" "I", Cond.methodLink RX3 241 yX0_peopled, Cond.instanceMethod yX0_peopled, Cond.selects RX0 yX0_peopled yX0_peopled, Cond.code yX0_peopled cX0_peopled 3 (some .int), Cond.fieldLink RX0 15 "HedgeHoles$Land" "goers" "I", Cond.fieldLink RX0 31 "HedgeHoles$Land" "place" "[I", Cond.methodLink RX3 80 yX3_isGoer, Cond.instanceMethod yX3_isGoer, Cond.selects RX3 yX3_isGoer yX3_isGoer, Cond.initialized RX3]
def wsX3_ofTrial_r2 : List Cond := [Cond.code yX3_isGoer cX3_isGoer 2 (some .boolean), Cond.fieldLink RX3 20 "HedgeHoles" "land" "LHedgeHoles$Land;", Cond.fieldLink RX3 77 "HedgeHoles$Land" "goers" "I"]
def wsX3_ofTrial : List Cond := .code yX3_ofTrial cX3_ofTrial 2 (some .int) :: ((wsX3_ofTrial_r1 ++ wsX3_ofTrial_r2) ++ wsX30 ++ wsX00)
def wsX3_season_r1 : List Cond := [Cond.fieldLink RX3 44 "HedgeHoles" "lastFault" "I", Cond.fieldLink RX3 13 "HedgeHoles" "rows" "[LHedgeHoles$Row;", Cond.methodLink RX3 48 yX3_isSheet, Cond.static yX3_isSheet, Cond.initialized RX3, Cond.code yX3_isSheet cX3_isSheet 1 (some .boolean), Cond.methodLink RX3 52 yX3_isLane, Cond.static yX3_isLane, Cond.code yX3_isLane cX3_isLane 1 (some .boolean), Cond.methodLink RX3 137 yX3_isAskedOfSeason, Cond.static yX3_isAskedOfSeason, Cond.code yX3_isAskedOfSeason cX3_isAskedOfSeason 1 (some .boolean), Cond.methodLink RX3 55 yX2_faultAs, Cond.instanceMethod yX2_faultAs, Cond.selects RX2 yX2_faultAs yX2_faultAs, Cond.initialized RX2, Cond.code yX2_faultAs cX2_faultAs 2 (some .int), Cond.fieldLink RX2 15 "HedgeHoles$Row" "there" "Z", Cond.fieldLink RX2 19 "HedgeHoles$Row" "lane" "I", Cond.methodLink RX3 59 yX2_spans, Cond.instanceMethod yX2_spans, Cond.selects RX2 yX2_spans yX2_spans, Cond.code yX2_spans cX2_spans 3 (some .boolean), Cond.fieldLink RX2 23 "HedgeHoles$Row" "size" "I"]
def wsX3_season_r2 : List Cond := [Cond.methodLink RX3 63 yX3_failed, Cond.instanceMethod yX3_failed, Cond.selects RX3 yX3_failed yX3_failed, Cond.code yX3_failed cX3_failed 2 (some .int), Cond.methodLink RX3 122 yX3_hasCounty, Cond.instanceMethod yX3_hasCounty, Cond.selects RX3 yX3_hasCounty yX3_hasCounty, Cond.code yX3_hasCounty cX3_hasCounty 1 (some .boolean), Cond.fieldLink RX3 20 "HedgeHoles" "land" "LHedgeHoles$Land;", Cond.fieldLink RX3 168 "HedgeHoles$Land" "fields" "I", Cond.methodLink RX3 140 yX3_refusalOfPairs, Cond.instanceMethod yX3_refusalOfPairs, Cond.selects RX3 yX3_refusalOfPairs yX3_refusalOfPairs, Cond.code yX3_refusalOfPairs cX3_refusalOfPairs 7 (some .int), Cond.fieldLink RX3 202 "HedgeHoles$Row" "cells" "[I", Cond.methodLink RX3 80 yX3_isGoer, Cond.instanceMethod yX3_isGoer, Cond.selects RX3 yX3_isGoer yX3_isGoer, Cond.code yX3_isGoer cX3_isGoer 2 (some .boolean), Cond.fieldLink RX3 77 "HedgeHoles$Land" "goers" "I", Cond.methodLink RX3 143 yX3_firstWrongOfSeason, Cond.instanceMethod yX3_firstWrongOfSeason, Cond.selects RX3 yX3_firstWrongOfSeason yX3_firstWrongOfSeason, Cond.code yX3_firstWrongOfSeason cX3_firstWrongOfSeason 5 (some .int)]
def wsX3_season_r3 : List Cond := [Cond.fieldLink RX3 24 "HedgeHoles" "trial" "LHedgeHoles$Land;", Cond.methodLink RX3 70 yX0_become, Cond.instanceMethod yX0_become, Cond.selects RX0 yX0_become yX0_become, Cond.initialized RX0, Cond.code yX0_become cX0_become 2 none, Cond.fieldLink RX0 9 "HedgeHoles$Land" "fields" "I", Cond.fieldLink RX0 15 "HedgeHoles$Land" "goers" "I", Cond.fieldLink RX0 18 "HedgeHoles$Land" "worn" "I", Cond.fieldLink RX0 21 "HedgeHoles$Land" "width" "[I", Cond.methodLink RX0 37 arraycopyName, Cond.native arraycopyName, Cond.static arraycopyName, Cond.initialized "java/lang/System", Cond.fieldLink RX0 25 "HedgeHoles$Land" "kind" "[I", Cond.fieldLink RX0 28 "HedgeHoles$Land" "girth" "[I", Cond.fieldLink RX0 31 "HedgeHoles$Land" "place" "[I", Cond.methodLink RX3 238 yX0_acts, Cond.instanceMethod yX0_acts, Cond.selects RX0 yX0_acts yX0_acts, Cond.code yX0_acts cX0_acts 3 (some .boolean), Cond.methodLink RX0 87 yX0_age, Cond.instanceMethod yX0_age, Cond.selects RX0 yX0_age yX0_age]
def wsX3_season_r4 : List Cond := [Cond.code yX0_age cX0_age 4 none, Cond.methodLink RX0 43 Lib.Math.min.name, Cond.static Lib.Math.min.name, Cond.initialized "java/lang/Math", Cond.code Lib.Math.min.name Lib.Math.min.code 2 (some .int), Cond.methodLink RX0 49 Lib.Math.max.name, Cond.static Lib.Math.max.name, Cond.code Lib.Math.max.name Lib.Math.max.code 2 (some .int), Cond.methodLink RX0 66 yX0_hedges, Cond.instanceMethod yX0_hedges, Cond.selects RX0 yX0_hedges yX0_hedges, Cond.code yX0_hedges cX0_hedges 1 (some .int), Cond.static yX3_isIn, Cond.code yX3_isIn cX3_isIn 2 (some .boolean), Cond.methodLink RX0 91 yX0_stopUp, Cond.instanceMethod yX0_stopUp, Cond.selects RX0 yX0_stopUp yX0_stopUp, Cond.code yX0_stopUp cX0_stopUp 2 (some .boolean), Cond.methodLink RX0 95 yX0_canMove, Cond.instanceMethod yX0_canMove, Cond.selects RX0 yX0_canMove yX0_canMove, Cond.code yX0_canMove cX0_canMove 3 (some .boolean), Cond.methodLink RX0 78 yX0_thickOf, Cond.instanceMethod yX0_thickOf]
def wsX3_season_r5 : List Cond := [Cond.selects RX0 yX0_thickOf yX0_thickOf, Cond.code yX0_thickOf cX0_thickOf 2 (some .int), Cond.static yX3_thickness, Cond.code yX3_thickness cX3_thickness 2 (some .int), Cond.methodLink RX0 81 yX0_letsBetween, Cond.instanceMethod yX0_letsBetween, Cond.selects RX0 yX0_letsBetween yX0_letsBetween, Cond.code yX0_letsBetween cX0_letsBetween 4 (some .boolean), Cond.methodLink RX0 55 yX0_hedgeOf, Cond.instanceMethod yX0_hedgeOf, Cond.selects RX0 yX0_hedgeOf yX0_hedgeOf, Cond.code yX0_hedgeOf cX0_hedgeOf 5 (some .int), Cond.static yX3_lets, Cond.code yX3_lets cX3_lets 2 (some .boolean), Cond.methodLink RX0 98 yX0_move, Cond.instanceMethod yX0_move, Cond.selects RX0 yX0_move yX0_move, Cond.code yX0_move cX0_move 3 none, Cond.methodLink RX3 146 yX3_goingsTold, Cond.static yX3_goingsTold, Cond.code yX3_goingsTold cX3_goingsTold 5 (some .int), Cond.methodLink RX3 149 yX3_ofTrial, Cond.instanceMethod yX3_ofTrial, Cond.selects RX3 yX3_ofTrial yX3_ofTrial]
def wsX3_season_r6 : List Cond := [Cond.code yX3_ofTrial cX3_ofTrial 2 (some .int), Cond.fieldLink RX3 106 "HedgeHoles$Land" "worn" "I", Cond.fieldLink RX3 93 "HedgeHoles$Land" "place" "[I", Cond.methodLink RX3 130 yX0_openHoles, Cond.instanceMethod yX0_openHoles, Cond.selects RX0 yX0_openHoles yX0_openHoles, Cond.code yX0_openHoles cX0_openHoles 3 (some .int), Cond.methodLink RX3 241 yX0_peopled, Cond.instanceMethod yX0_peopled, Cond.selects RX0 yX0_peopled yX0_peopled, Cond.code yX0_peopled cX0_peopled 3 (some .int)]
def wsX3_season : List Cond := .code yX3_season cX3_season 9 (some .int) :: ((wsX3_season_r1 ++ (wsX3_season_r2 ++ (wsX3_season_r3 ++ (wsX3_season_r4 ++ (wsX3_season_r5 ++ wsX3_season_r6))))) ++ wsX30 ++ wsX20 ++ wsX00)
def wsX3_widest_r1 : List Cond := [Cond.fieldLink RX3 20 "HedgeHoles" "land" "LHedgeHoles$Land;", Cond.methodLink RX3 96 yX3_areTwoFields, Cond.instanceMethod yX3_areTwoFields, Cond.selects RX3 yX3_areTwoFields yX3_areTwoFields, Cond.initialized RX3, Cond.code yX3_areTwoFields cX3_areTwoFields 3 (some .boolean), Cond.methodLink RX3 112 yX3_isField, Cond.instanceMethod yX3_isField, Cond.selects RX3 yX3_isField yX3_isField, Cond.code yX3_isField cX3_isField 2 (some .boolean), Cond.fieldLink RX3 168 "HedgeHoles$Land" "fields" "I", Cond.methodLink RX3 152 yX0_reachOf, Cond.instanceMethod yX0_reachOf, Cond.selects RX0 yX0_reachOf yX0_reachOf, Cond.initialized RX0, Cond.code yX0_reachOf cX0_reachOf 7 (some .int), Cond.fieldLink RX0 9 "HedgeHoles$Land" "fields" "I", Cond.static yX3_isIn, Cond.code yX3_isIn cX3_isIn 2 (some .boolean), Cond.methodLink RX0 81 yX0_letsBetween, Cond.instanceMethod yX0_letsBetween, Cond.selects RX0 yX0_letsBetween yX0_letsBetween, Cond.code yX0_letsBetween cX0_letsBetween 4 (some .boolean), Cond.fieldLink RX0 21 "HedgeHoles$Land" "width" "[I"]
def wsX3_widest_r2 : List Cond := [Cond.methodLink RX0 55 yX0_hedgeOf, Cond.instanceMethod yX0_hedgeOf, Cond.selects RX0 yX0_hedgeOf yX0_hedgeOf, Cond.code yX0_hedgeOf cX0_hedgeOf 5 (some .int), Cond.methodLink RX0 43 Lib.Math.min.name, Cond.static Lib.Math.min.name, Cond.initialized "java/lang/Math", Cond.code Lib.Math.min.name Lib.Math.min.code 2 (some .int), Cond.methodLink RX0 49 Lib.Math.max.name, Cond.static Lib.Math.max.name, Cond.code Lib.Math.max.name Lib.Math.max.code 2 (some .int), Cond.static yX3_lets, Cond.code yX3_lets cX3_lets 2 (some .boolean), Cond.methodLink RX3 109 yX3_isIn]
def wsX3_widest : List Cond := .code yX3_widest cX3_widest 4 (some .int) :: ((wsX3_widest_r1 ++ wsX3_widest_r2) ++ wsX30 ++ wsX00)
def wsX3_way_r1 : List Cond := [Cond.fieldLink RX3 20 "HedgeHoles" "land" "LHedgeHoles$Land;", Cond.fieldLink RX3 159 "HedgeHoles$Land" "distance" "[I", Cond.fieldLink RX3 93 "HedgeHoles$Land" "place" "[I", Cond.methodLink RX3 80 yX3_isGoer, Cond.instanceMethod yX3_isGoer, Cond.selects RX3 yX3_isGoer yX3_isGoer, Cond.initialized RX3, Cond.code yX3_isGoer cX3_isGoer 2 (some .boolean), Cond.fieldLink RX3 77 "HedgeHoles$Land" "goers" "I", Cond.methodLink RX3 112 yX3_isField, Cond.instanceMethod yX3_isField, Cond.selects RX3 yX3_isField yX3_isField, Cond.code yX3_isField cX3_isField 2 (some .boolean), Cond.fieldLink RX3 168 "HedgeHoles$Land" "fields" "I", Cond.methodLink RX3 90 yX0_thickOf, Cond.instanceMethod yX0_thickOf, Cond.selects RX0 yX0_thickOf yX0_thickOf, Cond.initialized RX0, Cond.code yX0_thickOf cX0_thickOf 2 (some .int), Cond.fieldLink RX0 25 "HedgeHoles$Land" "kind" "[I", Cond.fieldLink RX0 28 "HedgeHoles$Land" "girth" "[I", Cond.static yX3_thickness, Cond.code yX3_thickness cX3_thickness 2 (some .int), Cond.methodLink RX3 155 yX0_measureTo]
def wsX3_way_r2 : List Cond := [Cond.instanceMethod yX0_measureTo, Cond.selects RX0 yX0_measureTo yX0_measureTo, Cond.code yX0_measureTo cX0_measureTo 9 none, Cond.fieldLink RX0 9 "HedgeHoles$Land" "fields" "I", Cond.fieldLink RX0 34 "HedgeHoles$Land" "distance" "[I", Cond.fieldLink RX0 21 "HedgeHoles$Land" "width" "[I", Cond.methodLink RX0 43 Lib.Math.min.name, Cond.static Lib.Math.min.name, Cond.initialized "java/lang/Math", Cond.code Lib.Math.min.name Lib.Math.min.code 2 (some .int), Cond.methodLink RX0 55 yX0_hedgeOf, Cond.instanceMethod yX0_hedgeOf, Cond.selects RX0 yX0_hedgeOf yX0_hedgeOf, Cond.code yX0_hedgeOf cX0_hedgeOf 5 (some .int), Cond.methodLink RX0 49 Lib.Math.max.name, Cond.static Lib.Math.max.name, Cond.code Lib.Math.max.name Lib.Math.max.code 2 (some .int), Cond.methodLink RX0 81 yX0_letsBetween, Cond.instanceMethod yX0_letsBetween, Cond.selects RX0 yX0_letsBetween yX0_letsBetween, Cond.code yX0_letsBetween cX0_letsBetween 4 (some .boolean), Cond.static yX3_lets, Cond.code yX3_lets cX3_lets 2 (some .boolean), Cond.methodLink RX3 162 yX0_fieldOnWay]
def wsX3_way_r3 : List Cond := [Cond.instanceMethod yX0_fieldOnWay, Cond.selects RX0 yX0_fieldOnWay yX0_fieldOnWay, Cond.code yX0_fieldOnWay cX0_fieldOnWay 5 (some .int), Cond.fieldLink RX0 31 "HedgeHoles$Land" "place" "[I", Cond.methodLink RX0 78 yX0_thickOf, Cond.methodLink RX0 105 yX0_nearerThan, Cond.instanceMethod yX0_nearerThan, Cond.selects RX0 yX0_nearerThan yX0_nearerThan, Cond.code yX0_nearerThan cX0_nearerThan 4 (some .int)]
def wsX3_way : List Cond := .code yX3_way cX3_way 5 (some .int) :: ((wsX3_way_r1 ++ (wsX3_way_r2 ++ wsX3_way_r3)) ++ wsX30 ++ wsX00)
def wsX3_market_r1 : List Cond := [Cond.fieldLink RX3 20 "HedgeHoles" "land" "LHedgeHoles$Land;", Cond.fieldLink RX3 168 "HedgeHoles$Land" "fields" "I", Cond.methodLink RX3 122 yX3_hasCounty, Cond.instanceMethod yX3_hasCounty, Cond.selects RX3 yX3_hasCounty yX3_hasCounty, Cond.initialized RX3, Cond.code yX3_hasCounty cX3_hasCounty 1 (some .boolean), Cond.methodLink RX3 165 yX0_comersTo, Cond.instanceMethod yX0_comersTo, Cond.selects RX0 yX0_comersTo yX0_comersTo, Cond.initialized RX0, Cond.code yX0_comersTo cX0_comersTo 4 (some .int), Cond.fieldLink RX0 15 "HedgeHoles$Land" "goers" "I", Cond.fieldLink RX0 31 "HedgeHoles$Land" "place" "[I", Cond.methodLink RX0 78 yX0_thickOf, Cond.instanceMethod yX0_thickOf, Cond.selects RX0 yX0_thickOf yX0_thickOf, Cond.code yX0_thickOf cX0_thickOf 2 (some .int), Cond.fieldLink RX0 25 "HedgeHoles$Land" "kind" "[I", Cond.fieldLink RX0 28 "HedgeHoles$Land" "girth" "[I", Cond.static yX3_thickness, Cond.code yX3_thickness cX3_thickness 2 (some .int), Cond.methodLink RX0 102 yX0_reachOf, Cond.instanceMethod yX0_reachOf]
def wsX3_market_r2 : List Cond := [Cond.selects RX0 yX0_reachOf yX0_reachOf, Cond.code yX0_reachOf cX0_reachOf 7 (some .int), Cond.fieldLink RX0 9 "HedgeHoles$Land" "fields" "I", Cond.static yX3_isIn, Cond.code yX3_isIn cX3_isIn 2 (some .boolean), Cond.methodLink RX0 81 yX0_letsBetween, Cond.instanceMethod yX0_letsBetween, Cond.selects RX0 yX0_letsBetween yX0_letsBetween, Cond.code yX0_letsBetween cX0_letsBetween 4 (some .boolean), Cond.fieldLink RX0 21 "HedgeHoles$Land" "width" "[I", Cond.methodLink RX0 55 yX0_hedgeOf, Cond.instanceMethod yX0_hedgeOf, Cond.selects RX0 yX0_hedgeOf yX0_hedgeOf, Cond.code yX0_hedgeOf cX0_hedgeOf 5 (some .int), Cond.methodLink RX0 43 Lib.Math.min.name, Cond.static Lib.Math.min.name, Cond.initialized "java/lang/Math", Cond.code Lib.Math.min.name Lib.Math.min.code 2 (some .int), Cond.methodLink RX0 49 Lib.Math.max.name, Cond.static Lib.Math.max.name, Cond.code Lib.Math.max.name Lib.Math.max.code 2 (some .int), Cond.static yX3_lets, Cond.code yX3_lets cX3_lets 2 (some .boolean), Cond.methodLink RX3 171 yJ6_bitCount_0f7a4]
def wsX3_market_r3 : List Cond := [Cond.static yJ6_bitCount_0f7a4, Cond.initialized RJ6, Cond.code yJ6_bitCount_0f7a4 cJ6_bitCount_0f7a4 1 (some .int), Cond.constant RJ6 265 (1431655765), Cond.constant RJ6 266 (858993459), Cond.constant RJ6 267 (252645135)]
def wsX3_market : List Cond := .code yX3_market cX3_market 6 (some .int) :: ((wsX3_market_r1 ++ (wsX3_market_r2 ++ wsX3_market_r3)) ++ wsX30 ++ wsX00)
def wsX3_widen_r1 : List Cond := [Cond.fieldLink RX3 20 "HedgeHoles" "land" "LHedgeHoles$Land;", Cond.fieldLink RX3 159 "HedgeHoles$Land" "distance" "[I", Cond.fieldLink RX3 93 "HedgeHoles$Land" "place" "[I", Cond.methodLink RX3 80 yX3_isGoer, Cond.instanceMethod yX3_isGoer, Cond.selects RX3 yX3_isGoer yX3_isGoer, Cond.initialized RX3, Cond.code yX3_isGoer cX3_isGoer 2 (some .boolean), Cond.fieldLink RX3 77 "HedgeHoles$Land" "goers" "I", Cond.methodLink RX3 112 yX3_isField, Cond.instanceMethod yX3_isField, Cond.selects RX3 yX3_isField yX3_isField, Cond.code yX3_isField cX3_isField 2 (some .boolean), Cond.fieldLink RX3 168 "HedgeHoles$Land" "fields" "I", Cond.methodLink RX3 90 yX0_thickOf, Cond.instanceMethod yX0_thickOf, Cond.selects RX0 yX0_thickOf yX0_thickOf, Cond.initialized RX0, Cond.code yX0_thickOf cX0_thickOf 2 (some .int), Cond.fieldLink RX0 25 "HedgeHoles$Land" "kind" "[I", Cond.fieldLink RX0 28 "HedgeHoles$Land" "girth" "[I", Cond.static yX3_thickness, Cond.code yX3_thickness cX3_thickness 2 (some .int), Cond.methodLink RX3 155 yX0_measureTo]
def wsX3_widen_r2 : List Cond := [Cond.instanceMethod yX0_measureTo, Cond.selects RX0 yX0_measureTo yX0_measureTo, Cond.code yX0_measureTo cX0_measureTo 9 none, Cond.fieldLink RX0 9 "HedgeHoles$Land" "fields" "I", Cond.fieldLink RX0 34 "HedgeHoles$Land" "distance" "[I", Cond.fieldLink RX0 21 "HedgeHoles$Land" "width" "[I", Cond.methodLink RX0 43 Lib.Math.min.name, Cond.static Lib.Math.min.name, Cond.initialized "java/lang/Math", Cond.code Lib.Math.min.name Lib.Math.min.code 2 (some .int), Cond.methodLink RX0 55 yX0_hedgeOf, Cond.instanceMethod yX0_hedgeOf, Cond.selects RX0 yX0_hedgeOf yX0_hedgeOf, Cond.code yX0_hedgeOf cX0_hedgeOf 5 (some .int), Cond.methodLink RX0 49 Lib.Math.max.name, Cond.static Lib.Math.max.name, Cond.code Lib.Math.max.name Lib.Math.max.code 2 (some .int), Cond.methodLink RX0 81 yX0_letsBetween, Cond.instanceMethod yX0_letsBetween, Cond.selects RX0 yX0_letsBetween yX0_letsBetween, Cond.code yX0_letsBetween cX0_letsBetween 4 (some .boolean), Cond.static yX3_lets, Cond.code yX3_lets cX3_lets 2 (some .boolean)]
def wsX3_widen : List Cond := .code yX3_widen cX3_widen 4 (some .int) :: ((wsX3_widen_r1 ++ wsX3_widen_r2) ++ wsX30 ++ wsX00)
def wsX3_keep_r1 : List Cond := [Cond.fieldLink RX3 20 "HedgeHoles" "land" "LHedgeHoles$Land;", Cond.fieldLink RX3 93 "HedgeHoles$Land" "place" "[I", Cond.methodLink RX3 80 yX3_isGoer, Cond.instanceMethod yX3_isGoer, Cond.selects RX3 yX3_isGoer yX3_isGoer, Cond.initialized RX3, Cond.code yX3_isGoer cX3_isGoer 2 (some .boolean), Cond.fieldLink RX3 77 "HedgeHoles$Land" "goers" "I", Cond.methodLink RX3 112 yX3_isField, Cond.instanceMethod yX3_isField, Cond.selects RX3 yX3_isField yX3_isField, Cond.code yX3_isField cX3_isField 2 (some .boolean), Cond.fieldLink RX3 168 "HedgeHoles$Land" "fields" "I", Cond.methodLink RX3 176 yX0_fewestToShut, Cond.instanceMethod yX0_fewestToShut, Cond.selects RX0 yX0_fewestToShut yX0_fewestToShut, Cond.initialized RX0, Cond.code yX0_fewestToShut cX0_fewestToShut 6 (some .int), Cond.fieldLink RX0 9 "HedgeHoles$Land" "fields" "I", Cond.fieldLink RX0 31 "HedgeHoles$Land" "place" "[I", Cond.static yX3_isIn, Cond.code yX3_isIn cX3_isIn 2 (some .boolean), Cond.methodLink RX0 78 yX0_thickOf, Cond.instanceMethod yX0_thickOf]
def wsX3_keep_r2 : List Cond := [Cond.selects RX0 yX0_thickOf yX0_thickOf, Cond.code yX0_thickOf cX0_thickOf 2 (some .int), Cond.fieldLink RX0 25 "HedgeHoles$Land" "kind" "[I", Cond.fieldLink RX0 28 "HedgeHoles$Land" "girth" "[I", Cond.static yX3_thickness, Cond.code yX3_thickness cX3_thickness 2 (some .int), Cond.methodLink RX0 108 yX0_fittedAround, Cond.instanceMethod yX0_fittedAround, Cond.selects RX0 yX0_fittedAround yX0_fittedAround, Cond.code yX0_fittedAround cX0_fittedAround 6 (some .int), Cond.methodLink RX0 81 yX0_letsBetween, Cond.instanceMethod yX0_letsBetween, Cond.selects RX0 yX0_letsBetween yX0_letsBetween, Cond.code yX0_letsBetween cX0_letsBetween 4 (some .boolean), Cond.fieldLink RX0 21 "HedgeHoles$Land" "width" "[I", Cond.methodLink RX0 55 yX0_hedgeOf, Cond.instanceMethod yX0_hedgeOf, Cond.selects RX0 yX0_hedgeOf yX0_hedgeOf, Cond.code yX0_hedgeOf cX0_hedgeOf 5 (some .int), Cond.methodLink RX0 43 Lib.Math.min.name, Cond.static Lib.Math.min.name, Cond.initialized "java/lang/Math", Cond.code Lib.Math.min.name Lib.Math.min.code 2 (some .int), Cond.methodLink RX0 49 Lib.Math.max.name]
def wsX3_keep_r3 : List Cond := [Cond.static Lib.Math.max.name, Cond.code Lib.Math.max.name Lib.Math.max.code 2 (some .int), Cond.static yX3_lets, Cond.code yX3_lets cX3_lets 2 (some .boolean), Cond.methodLink RX0 111 yX0_isFewer, Cond.static yX0_isFewer, Cond.code yX0_isFewer cX0_isFewer 3 (some .boolean), Cond.methodLink RX0 114 yJ6_bitCount_0f7a4, Cond.static yJ6_bitCount_0f7a4, Cond.initialized RJ6, Cond.code yJ6_bitCount_0f7a4 cJ6_bitCount_0f7a4 1 (some .int), Cond.constant RJ6 265 (1431655765), Cond.constant RJ6 266 (858993459), Cond.constant RJ6 267 (252645135)]
def wsX3_keep : List Cond := .code yX3_keep cX3_keep 3 (some .int) :: ((wsX3_keep_r1 ++ (wsX3_keep_r2 ++ wsX3_keep_r3)) ++ wsX30 ++ wsX00)
def wsX3_reading_r1 : List Cond := [Cond.fieldLink RX3 30 "HedgeHoles" "notebook" "LHedgeHoles$Notebook;", Cond.fieldLink RX3 74 "HedgeHoles$Notebook" "count" "I", Cond.fieldLink RX3 20 "HedgeHoles" "land" "LHedgeHoles$Land;", Cond.methodLink RX3 80 yX3_isGoer, Cond.instanceMethod yX3_isGoer, Cond.selects RX3 yX3_isGoer yX3_isGoer, Cond.initialized RX3, Cond.code yX3_isGoer cX3_isGoer 2 (some .boolean), Cond.fieldLink RX3 77 "HedgeHoles$Land" "goers" "I", Cond.methodLink RX3 96 yX3_areTwoFields, Cond.instanceMethod yX3_areTwoFields, Cond.selects RX3 yX3_areTwoFields yX3_areTwoFields, Cond.code yX3_areTwoFields cX3_areTwoFields 3 (some .boolean), Cond.methodLink RX3 112 yX3_isField, Cond.instanceMethod yX3_isField, Cond.selects RX3 yX3_isField yX3_isField, Cond.code yX3_isField cX3_isField 2 (some .boolean), Cond.fieldLink RX3 168 "HedgeHoles$Land" "fields" "I", Cond.methodLink RX3 99 yX0_hedgeOf, Cond.instanceMethod yX0_hedgeOf, Cond.selects RX0 yX0_hedgeOf yX0_hedgeOf, Cond.initialized RX0, Cond.code yX0_hedgeOf cX0_hedgeOf 5 (some .int), Cond.methodLink RX0 43 Lib.Math.min.name]
def wsX3_reading_r2 : List Cond := [Cond.static Lib.Math.min.name, Cond.initialized "java/lang/Math", Cond.code Lib.Math.min.name Lib.Math.min.code 2 (some .int), Cond.methodLink RX0 49 Lib.Math.max.name, Cond.static Lib.Math.max.name, Cond.code Lib.Math.max.name Lib.Math.max.code 2 (some .int), Cond.fieldLink RX0 9 "HedgeHoles$Land" "fields" "I", Cond.methodLink RX3 179 yX1_write, Cond.instanceMethod yX1_write, Cond.selects RX1 yX1_write yX1_write, Cond.initialized RX1, Cond.code yX1_write cX1_write 4 none, Cond.fieldLink RX1 22 "HedgeHoles$Notebook" "count" "I", Cond.fieldLink RX1 9 "HedgeHoles$Notebook" "goer" "[I", Cond.fieldLink RX1 15 "HedgeHoles$Notebook" "hedge" "[I", Cond.fieldLink RX1 18 "HedgeHoles$Notebook" "fits" "[Z"]
def wsX3_reading : List Cond := .code yX3_reading cX3_reading 5 (some .int) :: ((wsX3_reading_r1 ++ wsX3_reading_r2) ++ wsX30 ++ wsX10 ++ wsX00)
def wsX3_back : List Cond := .code yX3_back cX3_back 2 (some .int) :: ([.fieldLink RX3 30 "HedgeHoles" "notebook" "LHedgeHoles$Notebook;", .fieldLink RX3 74 "HedgeHoles$Notebook" "count" "I"] ++ wsX30 ++ wsX10)
def wsX3_girths_r1 : List Cond := [Cond.fieldLink RX3 24 "HedgeHoles" "trial" "LHedgeHoles$Land;", Cond.fieldLink RX3 20 "HedgeHoles" "land" "LHedgeHoles$Land;", Cond.fieldLink RX3 87 "HedgeHoles$Land" "girth" "[I", Cond.fieldLink RX3 30 "HedgeHoles" "notebook" "LHedgeHoles$Notebook;", Cond.methodLink RX3 80 yX3_isGoer, Cond.instanceMethod yX3_isGoer, Cond.selects RX3 yX3_isGoer yX3_isGoer, Cond.initialized RX3, Cond.code yX3_isGoer cX3_isGoer 2 (some .boolean), Cond.fieldLink RX3 77 "HedgeHoles$Land" "goers" "I", Cond.methodLink RX3 70 yX0_become, Cond.instanceMethod yX0_become, Cond.selects RX0 yX0_become yX0_become, Cond.initialized RX0, Cond.code yX0_become cX0_become 2 none, Cond.fieldLink RX0 9 "HedgeHoles$Land" "fields" "I", Cond.fieldLink RX0 15 "HedgeHoles$Land" "goers" "I", Cond.fieldLink RX0 18 "HedgeHoles$Land" "worn" "I", Cond.fieldLink RX0 21 "HedgeHoles$Land" "width" "[I", Cond.methodLink RX0 37 arraycopyName, Cond.native arraycopyName, Cond.static arraycopyName, Cond.initialized "java/lang/System", Cond.fieldLink RX0 25 "HedgeHoles$Land" "kind" "[I"]
def wsX3_girths_r2 : List Cond := [Cond.fieldLink RX0 28 "HedgeHoles$Land" "girth" "[I", Cond.fieldLink RX0 31 "HedgeHoles$Land" "place" "[I", Cond.methodLink RX3 183 yX1_agrees, Cond.instanceMethod yX1_agrees, Cond.selects RX1 yX1_agrees yX1_agrees, Cond.initialized RX1, Cond.code yX1_agrees cX1_agrees 3 (some .boolean), Cond.fieldLink RX1 22 "HedgeHoles$Notebook" "count" "I", Cond.fieldLink RX1 26 "HedgeHoles$Land" "width" "[I", Cond.fieldLink RX1 15 "HedgeHoles$Notebook" "hedge" "[I", Cond.fieldLink RX1 9 "HedgeHoles$Notebook" "goer" "[I", Cond.fieldLink RX1 18 "HedgeHoles$Notebook" "fits" "[Z", Cond.methodLink RX1 31 yX0_thickOf, Cond.instanceMethod yX0_thickOf, Cond.selects RX0 yX0_thickOf yX0_thickOf, Cond.code yX0_thickOf cX0_thickOf 2 (some .int), Cond.static yX3_thickness, Cond.code yX3_thickness cX3_thickness 2 (some .int), Cond.static yX3_lets, Cond.code yX3_lets cX3_lets 2 (some .boolean)]
def wsX3_girths : List Cond := .code yX3_girths cX3_girths 4 (some .int) :: ((wsX3_girths_r1 ++ wsX3_girths_r2) ++ wsX30 ++ wsX00 ++ wsX10)
def wsX3_kinds_r1 : List Cond := [Cond.fieldLink RX3 24 "HedgeHoles" "trial" "LHedgeHoles$Land;", Cond.fieldLink RX3 20 "HedgeHoles" "land" "LHedgeHoles$Land;", Cond.fieldLink RX3 83 "HedgeHoles$Land" "kind" "[I", Cond.fieldLink RX3 30 "HedgeHoles" "notebook" "LHedgeHoles$Notebook;", Cond.methodLink RX3 80 yX3_isGoer, Cond.instanceMethod yX3_isGoer, Cond.selects RX3 yX3_isGoer yX3_isGoer, Cond.initialized RX3, Cond.code yX3_isGoer cX3_isGoer 2 (some .boolean), Cond.fieldLink RX3 77 "HedgeHoles$Land" "goers" "I", Cond.methodLink RX3 70 yX0_become, Cond.instanceMethod yX0_become, Cond.selects RX0 yX0_become yX0_become, Cond.initialized RX0, Cond.code yX0_become cX0_become 2 none, Cond.fieldLink RX0 9 "HedgeHoles$Land" "fields" "I", Cond.fieldLink RX0 15 "HedgeHoles$Land" "goers" "I", Cond.fieldLink RX0 18 "HedgeHoles$Land" "worn" "I", Cond.fieldLink RX0 21 "HedgeHoles$Land" "width" "[I", Cond.methodLink RX0 37 arraycopyName, Cond.native arraycopyName, Cond.static arraycopyName, Cond.initialized "java/lang/System", Cond.fieldLink RX0 25 "HedgeHoles$Land" "kind" "[I"]
def wsX3_kinds_r2 : List Cond := [Cond.fieldLink RX0 28 "HedgeHoles$Land" "girth" "[I", Cond.fieldLink RX0 31 "HedgeHoles$Land" "place" "[I", Cond.methodLink RX3 183 yX1_agrees, Cond.instanceMethod yX1_agrees, Cond.selects RX1 yX1_agrees yX1_agrees, Cond.initialized RX1, Cond.code yX1_agrees cX1_agrees 3 (some .boolean), Cond.fieldLink RX1 22 "HedgeHoles$Notebook" "count" "I", Cond.fieldLink RX1 26 "HedgeHoles$Land" "width" "[I", Cond.fieldLink RX1 15 "HedgeHoles$Notebook" "hedge" "[I", Cond.fieldLink RX1 9 "HedgeHoles$Notebook" "goer" "[I", Cond.fieldLink RX1 18 "HedgeHoles$Notebook" "fits" "[Z", Cond.methodLink RX1 31 yX0_thickOf, Cond.instanceMethod yX0_thickOf, Cond.selects RX0 yX0_thickOf yX0_thickOf, Cond.code yX0_thickOf cX0_thickOf 2 (some .int), Cond.static yX3_thickness, Cond.code yX3_thickness cX3_thickness 2 (some .int), Cond.static yX3_lets, Cond.code yX3_lets cX3_lets 2 (some .boolean)]
def wsX3_kinds : List Cond := .code yX3_kinds cX3_kinds 4 (some .int) :: ((wsX3_kinds_r1 ++ wsX3_kinds_r2) ++ wsX30 ++ wsX00 ++ wsX10)
def wsX3_holes_r1 : List Cond := [Cond.fieldLink RX3 24 "HedgeHoles" "trial" "LHedgeHoles$Land;", Cond.fieldLink RX3 20 "HedgeHoles" "land" "LHedgeHoles$Land;", Cond.fieldLink RX3 103 "HedgeHoles$Land" "width" "[I", Cond.fieldLink RX3 30 "HedgeHoles" "notebook" "LHedgeHoles$Notebook;", Cond.methodLink RX3 96 yX3_areTwoFields, Cond.instanceMethod yX3_areTwoFields, Cond.selects RX3 yX3_areTwoFields yX3_areTwoFields, Cond.initialized RX3, Cond.code yX3_areTwoFields cX3_areTwoFields 3 (some .boolean), Cond.methodLink RX3 112 yX3_isField, Cond.instanceMethod yX3_isField, Cond.selects RX3 yX3_isField yX3_isField, Cond.code yX3_isField cX3_isField 2 (some .boolean), Cond.fieldLink RX3 168 "HedgeHoles$Land" "fields" "I", Cond.methodLink RX3 70 yX0_become, Cond.instanceMethod yX0_become, Cond.selects RX0 yX0_become yX0_become, Cond.initialized RX0, Cond.code yX0_become cX0_become 2 none, Cond.fieldLink RX0 9 "HedgeHoles$Land" "fields" "I", Cond.fieldLink RX0 15 "HedgeHoles$Land" "goers" "I", Cond.fieldLink RX0 18 "HedgeHoles$Land" "worn" "I", Cond.fieldLink RX0 21 "HedgeHoles$Land" "width" "[I", Cond.methodLink RX0 37 arraycopyName]
def wsX3_holes_r2 : List Cond := [Cond.native arraycopyName, Cond.static arraycopyName, Cond.initialized "java/lang/System", Cond.fieldLink RX0 25 "HedgeHoles$Land" "kind" "[I", Cond.fieldLink RX0 28 "HedgeHoles$Land" "girth" "[I", Cond.fieldLink RX0 31 "HedgeHoles$Land" "place" "[I", Cond.methodLink RX3 99 yX0_hedgeOf, Cond.instanceMethod yX0_hedgeOf, Cond.selects RX0 yX0_hedgeOf yX0_hedgeOf, Cond.code yX0_hedgeOf cX0_hedgeOf 5 (some .int), Cond.methodLink RX0 43 Lib.Math.min.name, Cond.static Lib.Math.min.name, Cond.initialized "java/lang/Math", Cond.code Lib.Math.min.name Lib.Math.min.code 2 (some .int), Cond.methodLink RX0 49 Lib.Math.max.name, Cond.static Lib.Math.max.name, Cond.code Lib.Math.max.name Lib.Math.max.code 2 (some .int), Cond.methodLink RX3 183 yX1_agrees, Cond.instanceMethod yX1_agrees, Cond.selects RX1 yX1_agrees yX1_agrees, Cond.initialized RX1, Cond.code yX1_agrees cX1_agrees 3 (some .boolean), Cond.fieldLink RX1 22 "HedgeHoles$Notebook" "count" "I", Cond.fieldLink RX1 26 "HedgeHoles$Land" "width" "[I"]
def wsX3_holes_r3 : List Cond := [Cond.fieldLink RX1 15 "HedgeHoles$Notebook" "hedge" "[I", Cond.fieldLink RX1 9 "HedgeHoles$Notebook" "goer" "[I", Cond.fieldLink RX1 18 "HedgeHoles$Notebook" "fits" "[Z", Cond.methodLink RX1 31 yX0_thickOf, Cond.instanceMethod yX0_thickOf, Cond.selects RX0 yX0_thickOf yX0_thickOf, Cond.code yX0_thickOf cX0_thickOf 2 (some .int), Cond.static yX3_thickness, Cond.code yX3_thickness cX3_thickness 2 (some .int), Cond.static yX3_lets, Cond.code yX3_lets cX3_lets 2 (some .boolean)]
def wsX3_holes : List Cond := .code yX3_holes cX3_holes 6 (some .int) :: ((wsX3_holes_r1 ++ (wsX3_holes_r2 ++ wsX3_holes_r3)) ++ wsX30 ++ wsX00 ++ wsX10)
def wsX3_commonDivisor : List Cond := .code yX3_commonDivisor cX3_commonDivisor 3 (some .int) :: ([])
def wsX3_odds_r1 : List Cond := [Cond.constantLong RX3 187 (-9223372036854775808), Cond.fieldLink RX3 20 "HedgeHoles" "land" "LHedgeHoles$Land;", Cond.fieldLink RX3 93 "HedgeHoles$Land" "place" "[I", Cond.fieldLink RX3 83 "HedgeHoles$Land" "kind" "[I", Cond.methodLink RX3 80 yX3_isGoer, Cond.instanceMethod yX3_isGoer, Cond.selects RX3 yX3_isGoer yX3_isGoer, Cond.initialized RX3, Cond.code yX3_isGoer cX3_isGoer 2 (some .boolean), Cond.fieldLink RX3 77 "HedgeHoles$Land" "goers" "I", Cond.methodLink RX3 112 yX3_isField, Cond.instanceMethod yX3_isField, Cond.selects RX3 yX3_isField yX3_isField, Cond.code yX3_isField cX3_isField 2 (some .boolean), Cond.fieldLink RX3 168 "HedgeHoles$Land" "fields" "I", Cond.methodLink RX3 189 yX3_thickness, Cond.static yX3_thickness, Cond.code yX3_thickness cX3_thickness 2 (some .int), Cond.methodLink RX3 152 yX0_reachOf, Cond.instanceMethod yX0_reachOf, Cond.selects RX0 yX0_reachOf yX0_reachOf, Cond.initialized RX0, Cond.code yX0_reachOf cX0_reachOf 7 (some .int), Cond.fieldLink RX0 9 "HedgeHoles$Land" "fields" "I"]
def wsX3_odds_r2 : List Cond := [Cond.static yX3_isIn, Cond.code yX3_isIn cX3_isIn 2 (some .boolean), Cond.methodLink RX0 81 yX0_letsBetween, Cond.instanceMethod yX0_letsBetween, Cond.selects RX0 yX0_letsBetween yX0_letsBetween, Cond.code yX0_letsBetween cX0_letsBetween 4 (some .boolean), Cond.fieldLink RX0 21 "HedgeHoles$Land" "width" "[I", Cond.methodLink RX0 55 yX0_hedgeOf, Cond.instanceMethod yX0_hedgeOf, Cond.selects RX0 yX0_hedgeOf yX0_hedgeOf, Cond.code yX0_hedgeOf cX0_hedgeOf 5 (some .int), Cond.methodLink RX0 43 Lib.Math.min.name, Cond.static Lib.Math.min.name, Cond.initialized "java/lang/Math", Cond.code Lib.Math.min.name Lib.Math.min.code 2 (some .int), Cond.methodLink RX0 49 Lib.Math.max.name, Cond.static Lib.Math.max.name, Cond.code Lib.Math.max.name Lib.Math.max.code 2 (some .int), Cond.static yX3_lets, Cond.code yX3_lets cX3_lets 2 (some .boolean), Cond.methodLink RX3 109 yX3_isIn, Cond.methodLink RX3 192 yX3_commonDivisor, Cond.static yX3_commonDivisor, Cond.code yX3_commonDivisor cX3_commonDivisor 3 (some .int)]
def wsX3_odds : List Cond := .code yX3_odds cX3_odds 7 (some .long) :: ((wsX3_odds_r1 ++ wsX3_odds_r2) ++ wsX30 ++ wsX00)
def wsX3_sheet_r1 : List Cond := [Cond.fieldLink RX3 44 "HedgeHoles" "lastFault" "I", Cond.fieldLink RX3 13 "HedgeHoles" "rows" "[LHedgeHoles$Row;", Cond.methodLink RX3 48 yX3_isSheet, Cond.static yX3_isSheet, Cond.initialized RX3, Cond.code yX3_isSheet cX3_isSheet 1 (some .boolean), Cond.methodLink RX3 52 yX3_isLane, Cond.static yX3_isLane, Cond.code yX3_isLane cX3_isLane 1 (some .boolean), Cond.methodLink RX3 63 yX3_failed, Cond.instanceMethod yX3_failed, Cond.selects RX3 yX3_failed yX3_failed, Cond.code yX3_failed cX3_failed 2 (some .int), Cond.methodLink RX3 195 yX2_begin, Cond.instanceMethod yX2_begin, Cond.selects RX2 yX2_begin yX2_begin, Cond.initialized RX2, Cond.code yX2_begin cX2_begin 3 none, Cond.fieldLink RX2 9 "HedgeHoles$Row" "cells" "[I", Cond.fieldLink RX2 15 "HedgeHoles$Row" "there" "Z", Cond.fieldLink RX2 19 "HedgeHoles$Row" "lane" "I", Cond.fieldLink RX2 23 "HedgeHoles$Row" "size" "I", Cond.methodLink RX2 26 yJ7_fill_53178, Cond.static yJ7_fill_53178]
def wsX3_sheet_r2 : List Cond := [Cond.initialized RJ7, Cond.code yJ7_fill_53178 cJ7_fill_53178 4 none]
def wsX3_sheet : List Cond := .code yX3_sheet cX3_sheet 4 (some .int) :: ((wsX3_sheet_r1 ++ wsX3_sheet_r2) ++ wsX30 ++ wsX20)
def wsX3_lose : List Cond := .code yX3_lose cX3_lose 3 (some .int) :: ([.fieldLink RX3 13 "HedgeHoles" "rows" "[LHedgeHoles$Row;", .fieldLink RX3 198 "HedgeHoles$Row" "there" "Z", .methodLink RX3 48 yX3_isSheet, .static yX3_isSheet, .initialized RX3, .code yX3_isSheet cX3_isSheet 1 (some .boolean)] ++ wsX30 ++ wsX20)
def wsX3_cutTo : List Cond := .code yX3_cutTo cX3_cutTo 2 (some .int) :: ([])
def wsX3_put : List Cond := .code yX3_put cX3_put 4 (some .int) :: ([.fieldLink RX3 44 "HedgeHoles" "lastFault" "I", .fieldLink RX3 13 "HedgeHoles" "rows" "[LHedgeHoles$Row;", .fieldLink RX3 198 "HedgeHoles$Row" "there" "Z", .fieldLink RX3 202 "HedgeHoles$Row" "cells" "[I", .fieldLink RX3 205 "HedgeHoles$Row" "lane" "I", .methodLink RX3 48 yX3_isSheet, .static yX3_isSheet, .initialized RX3, .code yX3_isSheet cX3_isSheet 1 (some .boolean), .methodLink RX3 63 yX3_failed, .instanceMethod yX3_failed, .selects RX3 yX3_failed yX3_failed, .code yX3_failed cX3_failed 2 (some .int), .methodLink RX3 59 yX2_spans, .instanceMethod yX2_spans, .selects RX2 yX2_spans yX2_spans, .initialized RX2, .code yX2_spans cX2_spans 3 (some .boolean), .fieldLink RX2 23 "HedgeHoles$Row" "size" "I", .methodLink RX3 208 yX3_cutTo, .static yX3_cutTo, .code yX3_cutTo cX3_cutTo 2 (some .int)] ++ wsX30 ++ wsX20)
def wsX3_cell : List Cond := .code yX3_cell cX3_cell 5 (some .long) :: ([.fieldLink RX3 44 "HedgeHoles" "lastFault" "I", .constantLong RX3 187 (-9223372036854775808), .fieldLink RX3 13 "HedgeHoles" "rows" "[LHedgeHoles$Row;", .fieldLink RX3 202 "HedgeHoles$Row" "cells" "[I", .methodLink RX3 48 yX3_isSheet, .static yX3_isSheet, .initialized RX3, .code yX3_isSheet cX3_isSheet 1 (some .boolean), .methodLink RX3 52 yX3_isLane, .static yX3_isLane, .code yX3_isLane cX3_isLane 1 (some .boolean), .methodLink RX3 55 yX2_faultAs, .instanceMethod yX2_faultAs, .selects RX2 yX2_faultAs yX2_faultAs, .initialized RX2, .code yX2_faultAs cX2_faultAs 2 (some .int), .fieldLink RX2 15 "HedgeHoles$Row" "there" "Z", .fieldLink RX2 19 "HedgeHoles$Row" "lane" "I", .methodLink RX3 59 yX2_spans, .instanceMethod yX2_spans, .selects RX2 yX2_spans yX2_spans, .code yX2_spans cX2_spans 3 (some .boolean), .fieldLink RX2 23 "HedgeHoles$Row" "size" "I"] ++ wsX30 ++ wsX20)
def wsX3_copy : List Cond := .code yX3_copy cX3_copy 6 (some .int) :: ([.fieldLink RX3 44 "HedgeHoles" "lastFault" "I", .fieldLink RX3 13 "HedgeHoles" "rows" "[LHedgeHoles$Row;", .fieldLink RX3 198 "HedgeHoles$Row" "there" "Z", .fieldLink RX3 205 "HedgeHoles$Row" "lane" "I", .fieldLink RX3 202 "HedgeHoles$Row" "cells" "[I", .methodLink RX3 211 arraycopyName, .native arraycopyName, .static arraycopyName, .initialized "java/lang/System", .methodLink RX3 48 yX3_isSheet, .static yX3_isSheet, .initialized RX3, .code yX3_isSheet cX3_isSheet 1 (some .boolean), .methodLink RX3 63 yX3_failed, .instanceMethod yX3_failed, .selects RX3 yX3_failed yX3_failed, .code yX3_failed cX3_failed 2 (some .int), .methodLink RX3 59 yX2_spans, .instanceMethod yX2_spans, .selects RX2 yX2_spans yX2_spans, .initialized RX2, .code yX2_spans cX2_spans 3 (some .boolean), .fieldLink RX2 23 "HedgeHoles$Row" "size" "I"] ++ wsX30 ++ wsX20)
def wsX3_leaveTrace : List Cond := .code yX3_leaveTrace cX3_leaveTrace 2 none :: ([.fieldLink RX3 41 "HedgeHoles" "traceLeft" "I"] ++ wsX30)
def wsX3_plainTells : List Cond := .code yX3_plainTells cX3_plainTells 2 (some .int) :: ([.fieldLink RX3 20 "HedgeHoles" "land" "LHedgeHoles$Land;", .fieldLink RX3 87 "HedgeHoles$Land" "girth" "[I", .methodLink RX3 226 yX3_leaveTrace, .instanceMethod yX3_leaveTrace, .selects RX3 yX3_leaveTrace yX3_leaveTrace, .initialized RX3, .code yX3_leaveTrace cX3_leaveTrace 2 none, .fieldLink RX3 41 "HedgeHoles" "traceLeft" "I"] ++ wsX30 ++ wsX00)
def wsX3_thiefTells : List Cond := .code yX3_thiefTells cX3_thiefTells 2 (some .int) :: ([.methodLink RX3 226 yX3_leaveTrace, .instanceMethod yX3_leaveTrace, .selects RX3 yX3_leaveTrace yX3_leaveTrace, .initialized RX3, .code yX3_leaveTrace cX3_leaveTrace 2 none, .fieldLink RX3 41 "HedgeHoles" "traceLeft" "I", .methodLink RX3 223 yX3_plainTells, .instanceMethod yX3_plainTells, .selects RX3 yX3_plainTells yX3_plainTells, .code yX3_plainTells cX3_plainTells 2 (some .int), .fieldLink RX3 20 "HedgeHoles" "land" "LHedgeHoles$Land;", .fieldLink RX3 87 "HedgeHoles$Land" "girth" "[I"] ++ wsX30 ++ wsX00)
def wsX3_childTells : List Cond := .code yX3_childTells cX3_childTells 3 (some .int) :: ([.methodLink RX3 226 yX3_leaveTrace, .instanceMethod yX3_leaveTrace, .selects RX3 yX3_leaveTrace yX3_leaveTrace, .initialized RX3, .code yX3_leaveTrace cX3_leaveTrace 2 none, .fieldLink RX3 41 "HedgeHoles" "traceLeft" "I", .methodLink RX3 220 yX3_thiefTells, .instanceMethod yX3_thiefTells, .selects RX3 yX3_thiefTells yX3_thiefTells, .code yX3_thiefTells cX3_thiefTells 2 (some .int), .methodLink RX3 223 yX3_plainTells, .instanceMethod yX3_plainTells, .selects RX3 yX3_plainTells yX3_plainTells, .code yX3_plainTells cX3_plainTells 2 (some .int), .fieldLink RX3 20 "HedgeHoles" "land" "LHedgeHoles$Land;", .fieldLink RX3 87 "HedgeHoles$Land" "girth" "[I"] ++ wsX30 ++ wsX00)
def wsX3_tell_r1 : List Cond := [Cond.fieldLink RX3 20 "HedgeHoles" "land" "LHedgeHoles$Land;", Cond.fieldLink RX3 83 "HedgeHoles$Land" "kind" "[I", Cond.methodLink RX3 80 yX3_isGoer, Cond.instanceMethod yX3_isGoer, Cond.selects RX3 yX3_isGoer yX3_isGoer, Cond.initialized RX3, Cond.code yX3_isGoer cX3_isGoer 2 (some .boolean), Cond.fieldLink RX3 77 "HedgeHoles$Land" "goers" "I", Cond.methodLink RX3 217 yX3_childTells, Cond.instanceMethod yX3_childTells, Cond.selects RX3 yX3_childTells yX3_childTells, Cond.code yX3_childTells cX3_childTells 3 (some .int), Cond.methodLink RX3 226 yX3_leaveTrace, Cond.instanceMethod yX3_leaveTrace, Cond.selects RX3 yX3_leaveTrace yX3_leaveTrace, Cond.code yX3_leaveTrace cX3_leaveTrace 2 none, Cond.fieldLink RX3 41 "HedgeHoles" "traceLeft" "I", Cond.methodLink RX3 220 yX3_thiefTells, Cond.instanceMethod yX3_thiefTells, Cond.selects RX3 yX3_thiefTells yX3_thiefTells, Cond.code yX3_thiefTells cX3_thiefTells 2 (some .int), Cond.methodLink RX3 223 yX3_plainTells, Cond.instanceMethod yX3_plainTells, Cond.selects RX3 yX3_plainTells yX3_plainTells]
def wsX3_tell_r2 : List Cond := [Cond.code yX3_plainTells cX3_plainTells 2 (some .int), Cond.fieldLink RX3 87 "HedgeHoles$Land" "girth" "[I"]
def wsX3_tell : List Cond := .code yX3_tell cX3_tell 2 (some .int) :: ((wsX3_tell_r1 ++ wsX3_tell_r2) ++ wsX30 ++ wsX00)
def wsX3_hail : List Cond := .code yX3_hail cX3_hail 2 (some .int) :: ([.fieldLink RX3 20 "HedgeHoles" "land" "LHedgeHoles$Land;", .fieldLink RX3 83 "HedgeHoles$Land" "kind" "[I", .fieldLink RX3 93 "HedgeHoles$Land" "place" "[I", .methodLink RX3 80 yX3_isGoer, .instanceMethod yX3_isGoer, .selects RX3 yX3_isGoer yX3_isGoer, .initialized RX3, .code yX3_isGoer cX3_isGoer 2 (some .boolean), .fieldLink RX3 77 "HedgeHoles$Land" "goers" "I", .methodLink RX3 226 yX3_leaveTrace, .instanceMethod yX3_leaveTrace, .selects RX3 yX3_leaveTrace yX3_leaveTrace, .code yX3_leaveTrace cX3_leaveTrace 2 none, .fieldLink RX3 41 "HedgeHoles" "traceLeft" "I"] ++ wsX30 ++ wsX00)
def wsX3_as : List Cond := .code yX3_as cX3_as 3 (some .int) :: ([.fieldLink RX3 44 "HedgeHoles" "lastFault" "I", .fieldLink RX3 20 "HedgeHoles" "land" "LHedgeHoles$Land;", .fieldLink RX3 83 "HedgeHoles$Land" "kind" "[I", .methodLink RX3 80 yX3_isGoer, .instanceMethod yX3_isGoer, .selects RX3 yX3_isGoer yX3_isGoer, .initialized RX3, .code yX3_isGoer cX3_isGoer 2 (some .boolean), .fieldLink RX3 77 "HedgeHoles$Land" "goers" "I", .methodLink RX3 63 yX3_failed, .instanceMethod yX3_failed, .selects RX3 yX3_failed yX3_failed, .code yX3_failed cX3_failed 2 (some .int)] ++ wsX30 ++ wsX00)
def wsX3_trace : List Cond := .code yX3_trace cX3_trace 1 (some .int) :: ([.fieldLink RX3 41 "HedgeHoles" "traceLeft" "I"] ++ wsX30)
def wsX3_fault : List Cond := .code yX3_fault cX3_fault 1 (some .int) :: ([.fieldLink RX3 44 "HedgeHoles" "lastFault" "I"] ++ wsX30)
def wsX3_many : List Cond := .code yX3_many cX3_many 2 (some .int) :: ([.fieldLink RX3 20 "HedgeHoles" "land" "LHedgeHoles$Land;", .fieldLink RX3 168 "HedgeHoles$Land" "fields" "I", .fieldLink RX3 77 "HedgeHoles$Land" "goers" "I", .fieldLink RX3 34 "HedgeHoles" "year" "I", .fieldLink RX3 38 "HedgeHoles" "goings" "I", .fieldLink RX3 30 "HedgeHoles" "notebook" "LHedgeHoles$Notebook;", .fieldLink RX3 74 "HedgeHoles$Notebook" "count" "I"] ++ wsX30 ++ wsX00 ++ wsX10)
def wsX4_init : List Cond := .code yX4_init cX4_init 1 none :: ([.methodLink RX4 1 objectInit, .instanceMethod objectInit, .code objectInit ⟨#[0xb1]⟩ 1 none, .arrayClass .int, .fieldLink RX4 9 "HedgeHolesModel" "sorts" "[I", .fieldLink RX4 13 "HedgeHolesModel" "sheetLong" "[I", .fieldLink RX4 16 "HedgeHolesModel" "cells" "[I", .fieldLink RX4 19 "HedgeHolesModel" "greats" "[I", .fieldLink RX4 22 "HedgeHolesModel" "kind" "[I", .fieldLink RX4 25 "HedgeHolesModel" "girth" "[I", .fieldLink RX4 28 "HedgeHolesModel" "field" "[I", .fieldLink RX4 31 "HedgeHolesModel" "readHoles" "[I", .fieldLink RX4 34 "HedgeHolesModel" "read" "[I", .fieldLink RX4 37 "HedgeHolesModel" "keptGreats" "[I", .fieldLink RX4 40 "HedgeHolesModel" "keptField" "[I", .fieldLink RX4 43 "HedgeHolesModel" "far" "[I", .fieldLink RX4 46 "HedgeHolesModel" "cost" "[I", .fieldLink RX4 49 "HedgeHolesModel" "readWho" "[I", .fieldLink RX4 52 "HedgeHolesModel" "readWhere" "[I", .fieldLink RX4 55 "HedgeHolesModel" "readFits" "[I"] ++ wsX40)
def wsX4_fails : List Cond := .code yX4_fails cX4_fails 2 (some .int) :: ([.fieldLink RX4 58 "HedgeHolesModel" "fault" "I"] ++ wsX40)
def wsX4_lost : List Cond := .code yX4_lost cX4_lost 2 (some .long) :: ([.fieldLink RX4 58 "HedgeHolesModel" "fault" "I", .constantLong RX4 62 (-9223372036854775808)] ++ wsX40)
def wsX4_within : List Cond := .code yX4_within cX4_within 3 (some .boolean) :: ([])
def wsX4_isSheet : List Cond := .code yX4_isSheet cX4_isSheet 1 (some .boolean) :: ([.methodLink RX4 64 yX4_within, .static yX4_within, .initialized RX4, .code yX4_within cX4_within 3 (some .boolean)])
def wsX4_isSort : List Cond := .code yX4_isSort cX4_isSort 1 (some .boolean) :: ([.methodLink RX4 64 yX4_within, .static yX4_within, .initialized RX4, .code yX4_within cX4_within 3 (some .boolean)])
def wsX4_against : List Cond := .code yX4_against cX4_against 5 (some .int) :: ([.fieldLink RX4 9 "HedgeHolesModel" "sorts" "[I", .fieldLink RX4 13 "HedgeHolesModel" "sheetLong" "[I"] ++ wsX40)
def wsX4_isField : List Cond := .code yX4_isField cX4_isField 2 (some .boolean) :: ([.fieldLink RX4 68 "HedgeHolesModel" "fields" "I"] ++ wsX40)
def wsX4_areTwo : List Cond := .code yX4_areTwo cX4_areTwo 3 (some .boolean) :: ([.methodLink RX4 71 yX4_isField, .instanceMethod yX4_isField, .selects RX4 yX4_isField yX4_isField, .initialized RX4, .code yX4_isField cX4_isField 2 (some .boolean), .fieldLink RX4 68 "HedgeHolesModel" "fields" "I"] ++ wsX40)
def wsX4_isGoer : List Cond := .code yX4_isGoer cX4_isGoer 2 (some .boolean) :: ([.fieldLink RX4 75 "HedgeHolesModel" "goers" "I"] ++ wsX40)
def wsX4_isOf : List Cond := .code yX4_isOf cX4_isOf 2 (some .boolean) :: ([])
def wsX4_size : List Cond := .code yX4_size cX4_size 3 (some .int) :: ([])
def wsX4_hedgesOf : List Cond := .code yX4_hedgesOf cX4_hedgesOf 1 (some .int) :: ([])
def wsX4_hedges : List Cond := .code yX4_hedges cX4_hedges 1 (some .int) :: ([.fieldLink RX4 68 "HedgeHolesModel" "fields" "I", .methodLink RX4 78 yX4_hedgesOf, .static yX4_hedgesOf, .initialized RX4, .code yX4_hedgesOf cX4_hedgesOf 1 (some .int)] ++ wsX40)
def wsX4_hedge : List Cond := .code yX4_hedge cX4_hedge 7 (some .int) :: ([.fieldLink RX4 68 "HedgeHolesModel" "fields" "I"] ++ wsX40)
def wsX4_digit : List Cond := .code yX4_digit cX4_digit 4 (some .int) :: ([.fieldLink RX4 82 "HedgeHolesModel" "at" "I", .fieldLink RX4 16 "HedgeHolesModel" "cells" "[I", .methodLink RX4 64 yX4_within, .static yX4_within, .initialized RX4, .code yX4_within cX4_within 3 (some .boolean)] ++ wsX40)
def wsX4_isSign : List Cond := .code yX4_isSign cX4_isSign 3 (some .boolean) :: ([.fieldLink RX4 82 "HedgeHolesModel" "at" "I", .fieldLink RX4 16 "HedgeHolesModel" "cells" "[I"] ++ wsX40)
def wsX4_readGoer : List Cond := .code yX4_readGoer cX4_readGoer 4 (some .boolean) :: ([.fieldLink RX4 82 "HedgeHolesModel" "at" "I", .fieldLink RX4 16 "HedgeHolesModel" "cells" "[I", .fieldLink RX4 111 "HedgeHolesModel" "readGoers" "I", .fieldLink RX4 34 "HedgeHolesModel" "read" "[I", .fieldLink RX4 104 "HedgeHolesModel" "readFields" "I", .methodLink RX4 130 yX4_digit, .instanceMethod yX4_digit, .selects RX4 yX4_digit yX4_digit, .initialized RX4, .code yX4_digit cX4_digit 4 (some .int), .methodLink RX4 64 yX4_within, .static yX4_within, .code yX4_within cX4_within 3 (some .boolean)] ++ wsX40)
def wsX4_readCounty_r1 : List Cond := [Cond.fieldLink RX4 111 "HedgeHolesModel" "readGoers" "I", Cond.fieldLink RX4 104 "HedgeHolesModel" "readFields" "I", Cond.fieldLink RX4 31 "HedgeHolesModel" "readHoles" "[I", Cond.fieldLink RX4 82 "HedgeHolesModel" "at" "I", Cond.methodLink RX4 126 yX4_isSign, Cond.instanceMethod yX4_isSign, Cond.selects RX4 yX4_isSign yX4_isSign, Cond.initialized RX4, Cond.code yX4_isSign cX4_isSign 3 (some .boolean), Cond.fieldLink RX4 16 "HedgeHolesModel" "cells" "[I", Cond.methodLink RX4 130 yX4_digit, Cond.instanceMethod yX4_digit, Cond.selects RX4 yX4_digit yX4_digit, Cond.code yX4_digit cX4_digit 4 (some .int), Cond.methodLink RX4 64 yX4_within, Cond.static yX4_within, Cond.code yX4_within cX4_within 3 (some .boolean), Cond.methodLink RX4 78 yX4_hedgesOf, Cond.static yX4_hedgesOf, Cond.code yX4_hedgesOf cX4_hedgesOf 1 (some .int), Cond.methodLink RX4 134 yX4_readGoer, Cond.instanceMethod yX4_readGoer, Cond.selects RX4 yX4_readGoer yX4_readGoer, Cond.code yX4_readGoer cX4_readGoer 4 (some .boolean)]
def wsX4_readCounty_r2 : List Cond := [Cond.fieldLink RX4 34 "HedgeHolesModel" "read" "[I"]
def wsX4_readCounty : List Cond := .code yX4_readCounty cX4_readCounty 3 (some .boolean) :: ((wsX4_readCounty_r1 ++ wsX4_readCounty_r2) ++ wsX40)
def wsX4_takeCounty : List Cond := .code yX4_takeCounty cX4_takeCounty 2 none :: ([.fieldLink RX4 104 "HedgeHolesModel" "readFields" "I", .fieldLink RX4 68 "HedgeHolesModel" "fields" "I", .fieldLink RX4 19 "HedgeHolesModel" "greats" "[I", .fieldLink RX4 31 "HedgeHolesModel" "readHoles" "[I", .fieldLink RX4 111 "HedgeHolesModel" "readGoers" "I", .fieldLink RX4 75 "HedgeHolesModel" "goers" "I", .fieldLink RX4 22 "HedgeHolesModel" "kind" "[I", .fieldLink RX4 34 "HedgeHolesModel" "read" "[I", .fieldLink RX4 25 "HedgeHolesModel" "girth" "[I", .fieldLink RX4 28 "HedgeHolesModel" "field" "[I", .fieldLink RX4 114 "HedgeHolesModel" "worn" "I", .fieldLink RX4 117 "HedgeHolesModel" "year" "I", .fieldLink RX4 120 "HedgeHolesModel" "went" "I", .fieldLink RX4 123 "HedgeHolesModel" "readings" "I", .methodLink RX4 107 yX4_hedges, .instanceMethod yX4_hedges, .selects RX4 yX4_hedges yX4_hedges, .initialized RX4, .code yX4_hedges cX4_hedges 1 (some .int), .methodLink RX4 78 yX4_hedgesOf, .static yX4_hedgesOf, .code yX4_hedgesOf cX4_hedgesOf 1 (some .int)] ++ wsX40)
def wsX4_county_r1 : List Cond := [Cond.fieldLink RX4 58 "HedgeHolesModel" "fault" "I", Cond.fieldLink RX4 82 "HedgeHolesModel" "at" "I", Cond.fieldLink RX4 75 "HedgeHolesModel" "goers" "I", Cond.methodLink RX4 85 yX4_isSheet, Cond.static yX4_isSheet, Cond.initialized RX4, Cond.code yX4_isSheet cX4_isSheet 1 (some .boolean), Cond.methodLink RX4 64 yX4_within, Cond.static yX4_within, Cond.code yX4_within cX4_within 3 (some .boolean), Cond.methodLink RX4 88 yX4_isSort, Cond.static yX4_isSort, Cond.code yX4_isSort cX4_isSort 1 (some .boolean), Cond.methodLink RX4 91 yX4_against, Cond.instanceMethod yX4_against, Cond.selects RX4 yX4_against yX4_against, Cond.code yX4_against cX4_against 5 (some .int), Cond.fieldLink RX4 9 "HedgeHolesModel" "sorts" "[I", Cond.fieldLink RX4 13 "HedgeHolesModel" "sheetLong" "[I", Cond.methodLink RX4 95 yX4_fails, Cond.instanceMethod yX4_fails, Cond.selects RX4 yX4_fails yX4_fails, Cond.code yX4_fails cX4_fails 2 (some .int), Cond.methodLink RX4 98 yX4_readCounty]
def wsX4_county_r2 : List Cond := [Cond.instanceMethod yX4_readCounty, Cond.selects RX4 yX4_readCounty yX4_readCounty, Cond.code yX4_readCounty cX4_readCounty 3 (some .boolean), Cond.fieldLink RX4 111 "HedgeHolesModel" "readGoers" "I", Cond.fieldLink RX4 104 "HedgeHolesModel" "readFields" "I", Cond.fieldLink RX4 31 "HedgeHolesModel" "readHoles" "[I", Cond.methodLink RX4 126 yX4_isSign, Cond.instanceMethod yX4_isSign, Cond.selects RX4 yX4_isSign yX4_isSign, Cond.code yX4_isSign cX4_isSign 3 (some .boolean), Cond.fieldLink RX4 16 "HedgeHolesModel" "cells" "[I", Cond.methodLink RX4 130 yX4_digit, Cond.instanceMethod yX4_digit, Cond.selects RX4 yX4_digit yX4_digit, Cond.code yX4_digit cX4_digit 4 (some .int), Cond.methodLink RX4 78 yX4_hedgesOf, Cond.static yX4_hedgesOf, Cond.code yX4_hedgesOf cX4_hedgesOf 1 (some .int), Cond.methodLink RX4 134 yX4_readGoer, Cond.instanceMethod yX4_readGoer, Cond.selects RX4 yX4_readGoer yX4_readGoer, Cond.code yX4_readGoer cX4_readGoer 4 (some .boolean), Cond.fieldLink RX4 34 "HedgeHolesModel" "read" "[I", Cond.methodLink RX4 101 yX4_takeCounty]
def wsX4_county_r3 : List Cond := [Cond.instanceMethod yX4_takeCounty, Cond.selects RX4 yX4_takeCounty yX4_takeCounty, Cond.code yX4_takeCounty cX4_takeCounty 2 none, Cond.fieldLink RX4 68 "HedgeHolesModel" "fields" "I", Cond.fieldLink RX4 19 "HedgeHolesModel" "greats" "[I", Cond.fieldLink RX4 22 "HedgeHolesModel" "kind" "[I", Cond.fieldLink RX4 25 "HedgeHolesModel" "girth" "[I", Cond.fieldLink RX4 28 "HedgeHolesModel" "field" "[I", Cond.fieldLink RX4 114 "HedgeHolesModel" "worn" "I", Cond.fieldLink RX4 117 "HedgeHolesModel" "year" "I", Cond.fieldLink RX4 120 "HedgeHolesModel" "went" "I", Cond.fieldLink RX4 123 "HedgeHolesModel" "readings" "I", Cond.methodLink RX4 107 yX4_hedges, Cond.instanceMethod yX4_hedges, Cond.selects RX4 yX4_hedges yX4_hedges, Cond.code yX4_hedges cX4_hedges 1 (some .int)]
def wsX4_county : List Cond := .code yX4_county cX4_county 7 (some .int) :: ((wsX4_county_r1 ++ (wsX4_county_r2 ++ wsX4_county_r3)) ++ wsX40)
def wsX4_thickOf : List Cond := .code yX4_thickOf cX4_thickOf 2 (some .int) :: ([.fieldLink RX4 22 "HedgeHolesModel" "kind" "[I", .fieldLink RX4 25 "HedgeHolesModel" "girth" "[I"] ++ wsX40)
def wsX4_fitsHole : List Cond := .code yX4_fitsHole cX4_fitsHole 3 (some .boolean) :: ([.fieldLink RX4 19 "HedgeHolesModel" "greats" "[I", .methodLink RX4 137 yX4_thickOf, .instanceMethod yX4_thickOf, .selects RX4 yX4_thickOf yX4_thickOf, .initialized RX4, .code yX4_thickOf cX4_thickOf 2 (some .int), .fieldLink RX4 22 "HedgeHolesModel" "kind" "[I", .fieldLink RX4 25 "HedgeHolesModel" "girth" "[I"] ++ wsX40)
def wsX4_ofGoer : List Cond := .code yX4_ofGoer cX4_ofGoer 3 (some .int) :: ([.fieldLink RX4 22 "HedgeHolesModel" "kind" "[I", .fieldLink RX4 25 "HedgeHolesModel" "girth" "[I", .fieldLink RX4 28 "HedgeHolesModel" "field" "[I", .methodLink RX4 140 yX4_isGoer, .instanceMethod yX4_isGoer, .selects RX4 yX4_isGoer yX4_isGoer, .initialized RX4, .code yX4_isGoer cX4_isGoer 2 (some .boolean), .fieldLink RX4 75 "HedgeHolesModel" "goers" "I", .methodLink RX4 137 yX4_thickOf, .instanceMethod yX4_thickOf, .selects RX4 yX4_thickOf yX4_thickOf, .code yX4_thickOf cX4_thickOf 2 (some .int)] ++ wsX40)
def wsX4_hole : List Cond := .code yX4_hole cX4_hole 5 (some .int) :: ([.fieldLink RX4 19 "HedgeHolesModel" "greats" "[I", .fieldLink RX4 114 "HedgeHolesModel" "worn" "I", .methodLink RX4 143 yX4_areTwo, .instanceMethod yX4_areTwo, .selects RX4 yX4_areTwo yX4_areTwo, .initialized RX4, .code yX4_areTwo cX4_areTwo 3 (some .boolean), .methodLink RX4 71 yX4_isField, .instanceMethod yX4_isField, .selects RX4 yX4_isField yX4_isField, .code yX4_isField cX4_isField 2 (some .boolean), .fieldLink RX4 68 "HedgeHolesModel" "fields" "I", .methodLink RX4 146 yX4_hedge, .instanceMethod yX4_hedge, .selects RX4 yX4_hedge yX4_hedge, .code yX4_hedge cX4_hedge 7 (some .int)] ++ wsX40)
def wsX4_hoop : List Cond := .code yX4_hoop cX4_hoop 6 (some .int) :: ([.fieldLink RX4 19 "HedgeHolesModel" "greats" "[I", .fieldLink RX4 114 "HedgeHolesModel" "worn" "I", .methodLink RX4 143 yX4_areTwo, .instanceMethod yX4_areTwo, .selects RX4 yX4_areTwo yX4_areTwo, .initialized RX4, .code yX4_areTwo cX4_areTwo 3 (some .boolean), .methodLink RX4 71 yX4_isField, .instanceMethod yX4_isField, .selects RX4 yX4_isField yX4_isField, .code yX4_isField cX4_isField 2 (some .boolean), .fieldLink RX4 68 "HedgeHolesModel" "fields" "I", .methodLink RX4 64 yX4_within, .static yX4_within, .code yX4_within cX4_within 3 (some .boolean), .methodLink RX4 146 yX4_hedge, .instanceMethod yX4_hedge, .selects RX4 yX4_hedge yX4_hedge, .code yX4_hedge cX4_hedge 7 (some .int)] ++ wsX40)
def wsX4_fatten : List Cond := .code yX4_fatten cX4_fatten 4 (some .int) :: ([.fieldLink RX4 25 "HedgeHolesModel" "girth" "[I", .methodLink RX4 140 yX4_isGoer, .instanceMethod yX4_isGoer, .selects RX4 yX4_isGoer yX4_isGoer, .initialized RX4, .code yX4_isGoer cX4_isGoer 2 (some .boolean), .fieldLink RX4 75 "HedgeHolesModel" "goers" "I", .methodLink RX4 64 yX4_within, .static yX4_within, .code yX4_within cX4_within 3 (some .boolean)] ++ wsX40)
def wsX4_goesTo_r1 : List Cond := [Cond.fieldLink RX4 28 "HedgeHolesModel" "field" "[I", Cond.fieldLink RX4 114 "HedgeHolesModel" "worn" "I", Cond.methodLink RX4 143 yX4_areTwo, Cond.instanceMethod yX4_areTwo, Cond.selects RX4 yX4_areTwo yX4_areTwo, Cond.initialized RX4, Cond.code yX4_areTwo cX4_areTwo 3 (some .boolean), Cond.methodLink RX4 71 yX4_isField, Cond.instanceMethod yX4_isField, Cond.selects RX4 yX4_isField yX4_isField, Cond.code yX4_isField cX4_isField 2 (some .boolean), Cond.fieldLink RX4 68 "HedgeHolesModel" "fields" "I", Cond.methodLink RX4 146 yX4_hedge, Cond.instanceMethod yX4_hedge, Cond.selects RX4 yX4_hedge yX4_hedge, Cond.code yX4_hedge cX4_hedge 7 (some .int), Cond.methodLink RX4 150 yX4_fitsHole, Cond.instanceMethod yX4_fitsHole, Cond.selects RX4 yX4_fitsHole yX4_fitsHole, Cond.code yX4_fitsHole cX4_fitsHole 3 (some .boolean), Cond.fieldLink RX4 19 "HedgeHolesModel" "greats" "[I", Cond.methodLink RX4 137 yX4_thickOf, Cond.instanceMethod yX4_thickOf, Cond.selects RX4 yX4_thickOf yX4_thickOf]
def wsX4_goesTo_r2 : List Cond := [Cond.code yX4_thickOf cX4_thickOf 2 (some .int), Cond.fieldLink RX4 22 "HedgeHolesModel" "kind" "[I", Cond.fieldLink RX4 25 "HedgeHolesModel" "girth" "[I"]
def wsX4_goesTo : List Cond := .code yX4_goesTo cX4_goesTo 3 (some .boolean) :: ((wsX4_goesTo_r1 ++ wsX4_goesTo_r2) ++ wsX40)
def wsX4_go_r1 : List Cond := [Cond.fieldLink RX4 28 "HedgeHolesModel" "field" "[I", Cond.fieldLink RX4 120 "HedgeHolesModel" "went" "I", Cond.fieldLink RX4 19 "HedgeHolesModel" "greats" "[I", Cond.methodLink RX4 140 yX4_isGoer, Cond.instanceMethod yX4_isGoer, Cond.selects RX4 yX4_isGoer yX4_isGoer, Cond.initialized RX4, Cond.code yX4_isGoer cX4_isGoer 2 (some .boolean), Cond.fieldLink RX4 75 "HedgeHolesModel" "goers" "I", Cond.methodLink RX4 71 yX4_isField, Cond.instanceMethod yX4_isField, Cond.selects RX4 yX4_isField yX4_isField, Cond.code yX4_isField cX4_isField 2 (some .boolean), Cond.fieldLink RX4 68 "HedgeHolesModel" "fields" "I", Cond.methodLink RX4 153 yX4_goesTo, Cond.instanceMethod yX4_goesTo, Cond.selects RX4 yX4_goesTo yX4_goesTo, Cond.code yX4_goesTo cX4_goesTo 3 (some .boolean), Cond.fieldLink RX4 114 "HedgeHolesModel" "worn" "I", Cond.methodLink RX4 143 yX4_areTwo, Cond.instanceMethod yX4_areTwo, Cond.selects RX4 yX4_areTwo yX4_areTwo, Cond.code yX4_areTwo cX4_areTwo 3 (some .boolean), Cond.methodLink RX4 146 yX4_hedge]
def wsX4_go_r2 : List Cond := [Cond.instanceMethod yX4_hedge, Cond.selects RX4 yX4_hedge yX4_hedge, Cond.code yX4_hedge cX4_hedge 7 (some .int), Cond.methodLink RX4 150 yX4_fitsHole, Cond.instanceMethod yX4_fitsHole, Cond.selects RX4 yX4_fitsHole yX4_fitsHole, Cond.code yX4_fitsHole cX4_fitsHole 3 (some .boolean), Cond.methodLink RX4 137 yX4_thickOf, Cond.instanceMethod yX4_thickOf, Cond.selects RX4 yX4_thickOf yX4_thickOf, Cond.code yX4_thickOf cX4_thickOf 2 (some .int), Cond.fieldLink RX4 22 "HedgeHolesModel" "kind" "[I", Cond.fieldLink RX4 25 "HedgeHolesModel" "girth" "[I"]
def wsX4_go : List Cond := .code yX4_go cX4_go 4 (some .int) :: ((wsX4_go_r1 ++ wsX4_go_r2) ++ wsX40)
def wsX4_oneYear : List Cond := .code yX4_oneYear cX4_oneYear 3 none :: ([.fieldLink RX4 114 "HedgeHolesModel" "worn" "I", .fieldLink RX4 19 "HedgeHolesModel" "greats" "[I", .methodLink RX4 107 yX4_hedges, .instanceMethod yX4_hedges, .selects RX4 yX4_hedges yX4_hedges, .initialized RX4, .code yX4_hedges cX4_hedges 1 (some .int), .fieldLink RX4 68 "HedgeHolesModel" "fields" "I", .methodLink RX4 78 yX4_hedgesOf, .static yX4_hedgesOf, .code yX4_hedgesOf cX4_hedgesOf 1 (some .int), .methodLink RX4 156 yX4_isOf, .static yX4_isOf, .code yX4_isOf cX4_isOf 2 (some .boolean)] ++ wsX40)
def wsX4_holesNow : List Cond := .code yX4_holesNow cX4_holesNow 3 (some .int) :: ([.fieldLink RX4 19 "HedgeHolesModel" "greats" "[I", .methodLink RX4 107 yX4_hedges, .instanceMethod yX4_hedges, .selects RX4 yX4_hedges yX4_hedges, .initialized RX4, .code yX4_hedges cX4_hedges 1 (some .int), .fieldLink RX4 68 "HedgeHolesModel" "fields" "I", .methodLink RX4 78 yX4_hedgesOf, .static yX4_hedgesOf, .code yX4_hedgesOf cX4_hedgesOf 1 (some .int)] ++ wsX40)
def wsX4_years_r1 : List Cond := [Cond.fieldLink RX4 68 "HedgeHolesModel" "fields" "I", Cond.fieldLink RX4 117 "HedgeHolesModel" "year" "I", Cond.methodLink RX4 64 yX4_within, Cond.static yX4_within, Cond.initialized RX4, Cond.code yX4_within cX4_within 3 (some .boolean), Cond.methodLink RX4 159 yX4_oneYear, Cond.instanceMethod yX4_oneYear, Cond.selects RX4 yX4_oneYear yX4_oneYear, Cond.code yX4_oneYear cX4_oneYear 3 none, Cond.fieldLink RX4 114 "HedgeHolesModel" "worn" "I", Cond.fieldLink RX4 19 "HedgeHolesModel" "greats" "[I", Cond.methodLink RX4 107 yX4_hedges, Cond.instanceMethod yX4_hedges, Cond.selects RX4 yX4_hedges yX4_hedges, Cond.code yX4_hedges cX4_hedges 1 (some .int), Cond.methodLink RX4 78 yX4_hedgesOf, Cond.static yX4_hedgesOf, Cond.code yX4_hedgesOf cX4_hedgesOf 1 (some .int), Cond.methodLink RX4 156 yX4_isOf, Cond.static yX4_isOf, Cond.code yX4_isOf cX4_isOf 2 (some .boolean), Cond.methodLink RX4 162 yX4_holesNow, Cond.instanceMethod yX4_holesNow]
def wsX4_years_r2 : List Cond := [Cond.selects RX4 yX4_holesNow yX4_holesNow, Cond.code yX4_holesNow cX4_holesNow 3 (some .int)]
def wsX4_years : List Cond := .code yX4_years cX4_years 3 (some .int) :: ((wsX4_years_r1 ++ wsX4_years_r2) ++ wsX40)
def wsX4_stop : List Cond := .code yX4_stop cX4_stop 5 (some .int) :: ([.fieldLink RX4 19 "HedgeHolesModel" "greats" "[I", .methodLink RX4 143 yX4_areTwo, .instanceMethod yX4_areTwo, .selects RX4 yX4_areTwo yX4_areTwo, .initialized RX4, .code yX4_areTwo cX4_areTwo 3 (some .boolean), .methodLink RX4 71 yX4_isField, .instanceMethod yX4_isField, .selects RX4 yX4_isField yX4_isField, .code yX4_isField cX4_isField 2 (some .boolean), .fieldLink RX4 68 "HedgeHolesModel" "fields" "I", .methodLink RX4 146 yX4_hedge, .instanceMethod yX4_hedge, .selects RX4 yX4_hedge yX4_hedge, .code yX4_hedge cX4_hedge 7 (some .int)] ++ wsX40)
def wsX4_keepAll : List Cond := .code yX4_keepAll cX4_keepAll 2 none :: ([.fieldLink RX4 114 "HedgeHolesModel" "worn" "I", .fieldLink RX4 165 "HedgeHolesModel" "keptWorn" "I", .fieldLink RX4 37 "HedgeHolesModel" "keptGreats" "[I", .fieldLink RX4 19 "HedgeHolesModel" "greats" "[I", .fieldLink RX4 75 "HedgeHolesModel" "goers" "I", .fieldLink RX4 40 "HedgeHolesModel" "keptField" "[I", .fieldLink RX4 28 "HedgeHolesModel" "field" "[I", .methodLink RX4 107 yX4_hedges, .instanceMethod yX4_hedges, .selects RX4 yX4_hedges yX4_hedges, .initialized RX4, .code yX4_hedges cX4_hedges 1 (some .int), .fieldLink RX4 68 "HedgeHolesModel" "fields" "I", .methodLink RX4 78 yX4_hedgesOf, .static yX4_hedgesOf, .code yX4_hedgesOf cX4_hedgesOf 1 (some .int)] ++ wsX40)
def wsX4_putBack : List Cond := .code yX4_putBack cX4_putBack 2 none :: ([.fieldLink RX4 165 "HedgeHolesModel" "keptWorn" "I", .fieldLink RX4 114 "HedgeHolesModel" "worn" "I", .fieldLink RX4 19 "HedgeHolesModel" "greats" "[I", .fieldLink RX4 37 "HedgeHolesModel" "keptGreats" "[I", .fieldLink RX4 75 "HedgeHolesModel" "goers" "I", .fieldLink RX4 28 "HedgeHolesModel" "field" "[I", .fieldLink RX4 40 "HedgeHolesModel" "keptField" "[I", .methodLink RX4 107 yX4_hedges, .instanceMethod yX4_hedges, .selects RX4 yX4_hedges yX4_hedges, .initialized RX4, .code yX4_hedges cX4_hedges 1 (some .int), .fieldLink RX4 68 "HedgeHolesModel" "fields" "I", .methodLink RX4 78 yX4_hedgesOf, .static yX4_hedgesOf, .code yX4_hedgesOf cX4_hedgesOf 1 (some .int)] ++ wsX40)
def wsX4_does_r1 : List Cond := [Cond.fieldLink RX4 19 "HedgeHolesModel" "greats" "[I", Cond.fieldLink RX4 168 "HedgeHolesModel" "goings" "I", Cond.methodLink RX4 159 yX4_oneYear, Cond.instanceMethod yX4_oneYear, Cond.selects RX4 yX4_oneYear yX4_oneYear, Cond.initialized RX4, Cond.code yX4_oneYear cX4_oneYear 3 none, Cond.fieldLink RX4 114 "HedgeHolesModel" "worn" "I", Cond.methodLink RX4 107 yX4_hedges, Cond.instanceMethod yX4_hedges, Cond.selects RX4 yX4_hedges yX4_hedges, Cond.code yX4_hedges cX4_hedges 1 (some .int), Cond.fieldLink RX4 68 "HedgeHolesModel" "fields" "I", Cond.methodLink RX4 78 yX4_hedgesOf, Cond.static yX4_hedgesOf, Cond.code yX4_hedgesOf cX4_hedgesOf 1 (some .int), Cond.methodLink RX4 156 yX4_isOf, Cond.static yX4_isOf, Cond.code yX4_isOf cX4_isOf 2 (some .boolean), Cond.methodLink RX4 153 yX4_goesTo, Cond.instanceMethod yX4_goesTo, Cond.selects RX4 yX4_goesTo yX4_goesTo, Cond.code yX4_goesTo cX4_goesTo 3 (some .boolean), Cond.fieldLink RX4 28 "HedgeHolesModel" "field" "[I"]
def wsX4_does_r2 : List Cond := [Cond.methodLink RX4 143 yX4_areTwo, Cond.instanceMethod yX4_areTwo, Cond.selects RX4 yX4_areTwo yX4_areTwo, Cond.code yX4_areTwo cX4_areTwo 3 (some .boolean), Cond.methodLink RX4 71 yX4_isField, Cond.instanceMethod yX4_isField, Cond.selects RX4 yX4_isField yX4_isField, Cond.code yX4_isField cX4_isField 2 (some .boolean), Cond.methodLink RX4 146 yX4_hedge, Cond.instanceMethod yX4_hedge, Cond.selects RX4 yX4_hedge yX4_hedge, Cond.code yX4_hedge cX4_hedge 7 (some .int), Cond.methodLink RX4 150 yX4_fitsHole, Cond.instanceMethod yX4_fitsHole, Cond.selects RX4 yX4_fitsHole yX4_fitsHole, Cond.code yX4_fitsHole cX4_fitsHole 3 (some .boolean), Cond.methodLink RX4 137 yX4_thickOf, Cond.instanceMethod yX4_thickOf, Cond.selects RX4 yX4_thickOf yX4_thickOf, Cond.code yX4_thickOf cX4_thickOf 2 (some .int), Cond.fieldLink RX4 22 "HedgeHolesModel" "kind" "[I", Cond.fieldLink RX4 25 "HedgeHolesModel" "girth" "[I"]
def wsX4_does : List Cond := .code yX4_does cX4_does 4 (some .boolean) :: ((wsX4_does_r1 ++ wsX4_does_r2) ++ wsX40)
def wsX4_goSeason_r1 : List Cond := [Cond.fieldLink RX4 168 "HedgeHolesModel" "goings" "I", Cond.fieldLink RX4 16 "HedgeHolesModel" "cells" "[I", Cond.methodLink RX4 171 yX4_does, Cond.instanceMethod yX4_does, Cond.selects RX4 yX4_does yX4_does, Cond.initialized RX4, Cond.code yX4_does cX4_does 4 (some .boolean), Cond.fieldLink RX4 19 "HedgeHolesModel" "greats" "[I", Cond.methodLink RX4 159 yX4_oneYear, Cond.instanceMethod yX4_oneYear, Cond.selects RX4 yX4_oneYear yX4_oneYear, Cond.code yX4_oneYear cX4_oneYear 3 none, Cond.fieldLink RX4 114 "HedgeHolesModel" "worn" "I", Cond.methodLink RX4 107 yX4_hedges, Cond.instanceMethod yX4_hedges, Cond.selects RX4 yX4_hedges yX4_hedges, Cond.code yX4_hedges cX4_hedges 1 (some .int), Cond.fieldLink RX4 68 "HedgeHolesModel" "fields" "I", Cond.methodLink RX4 78 yX4_hedgesOf, Cond.static yX4_hedgesOf, Cond.code yX4_hedgesOf cX4_hedgesOf 1 (some .int), Cond.methodLink RX4 156 yX4_isOf, Cond.static yX4_isOf, Cond.code yX4_isOf cX4_isOf 2 (some .boolean)]
def wsX4_goSeason_r2 : List Cond := [Cond.methodLink RX4 153 yX4_goesTo, Cond.instanceMethod yX4_goesTo, Cond.selects RX4 yX4_goesTo yX4_goesTo, Cond.code yX4_goesTo cX4_goesTo 3 (some .boolean), Cond.fieldLink RX4 28 "HedgeHolesModel" "field" "[I", Cond.methodLink RX4 143 yX4_areTwo, Cond.instanceMethod yX4_areTwo, Cond.selects RX4 yX4_areTwo yX4_areTwo, Cond.code yX4_areTwo cX4_areTwo 3 (some .boolean), Cond.methodLink RX4 71 yX4_isField, Cond.instanceMethod yX4_isField, Cond.selects RX4 yX4_isField yX4_isField, Cond.code yX4_isField cX4_isField 2 (some .boolean), Cond.methodLink RX4 146 yX4_hedge, Cond.instanceMethod yX4_hedge, Cond.selects RX4 yX4_hedge yX4_hedge, Cond.code yX4_hedge cX4_hedge 7 (some .int), Cond.methodLink RX4 150 yX4_fitsHole, Cond.instanceMethod yX4_fitsHole, Cond.selects RX4 yX4_fitsHole yX4_fitsHole, Cond.code yX4_fitsHole cX4_fitsHole 3 (some .boolean), Cond.methodLink RX4 137 yX4_thickOf, Cond.instanceMethod yX4_thickOf, Cond.selects RX4 yX4_thickOf yX4_thickOf]
def wsX4_goSeason_r3 : List Cond := [Cond.code yX4_thickOf cX4_thickOf 2 (some .int), Cond.fieldLink RX4 22 "HedgeHolesModel" "kind" "[I", Cond.fieldLink RX4 25 "HedgeHolesModel" "girth" "[I"]
def wsX4_goSeason : List Cond := .code yX4_goSeason cX4_goSeason 4 (some .int) :: ((wsX4_goSeason_r1 ++ (wsX4_goSeason_r2 ++ wsX4_goSeason_r3)) ++ wsX40)
def wsX4_refusesPair : List Cond := .code yX4_refusesPair cX4_refusesPair 4 (some .int) :: ([.methodLink RX4 64 yX4_within, .static yX4_within, .initialized RX4, .code yX4_within cX4_within 3 (some .boolean), .methodLink RX4 140 yX4_isGoer, .instanceMethod yX4_isGoer, .selects RX4 yX4_isGoer yX4_isGoer, .code yX4_isGoer cX4_isGoer 2 (some .boolean), .fieldLink RX4 75 "HedgeHolesModel" "goers" "I"] ++ wsX40)
def wsX4_tellSeason : List Cond := .code yX4_tellSeason cX4_tellSeason 4 (some .int) :: ([.fieldLink RX4 28 "HedgeHolesModel" "field" "[I", .fieldLink RX4 114 "HedgeHolesModel" "worn" "I", .fieldLink RX4 168 "HedgeHolesModel" "goings" "I", .fieldLink RX4 75 "HedgeHolesModel" "goers" "I", .methodLink RX4 140 yX4_isGoer, .instanceMethod yX4_isGoer, .selects RX4 yX4_isGoer yX4_isGoer, .initialized RX4, .code yX4_isGoer cX4_isGoer 2 (some .boolean), .methodLink RX4 162 yX4_holesNow, .instanceMethod yX4_holesNow, .selects RX4 yX4_holesNow yX4_holesNow, .code yX4_holesNow cX4_holesNow 3 (some .int), .fieldLink RX4 19 "HedgeHolesModel" "greats" "[I", .methodLink RX4 107 yX4_hedges, .instanceMethod yX4_hedges, .selects RX4 yX4_hedges yX4_hedges, .code yX4_hedges cX4_hedges 1 (some .int), .fieldLink RX4 68 "HedgeHolesModel" "fields" "I", .methodLink RX4 78 yX4_hedgesOf, .static yX4_hedgesOf, .code yX4_hedgesOf cX4_hedgesOf 1 (some .int)] ++ wsX40)
def wsX4_season_r1 : List Cond := [Cond.fieldLink RX4 58 "HedgeHolesModel" "fault" "I", Cond.fieldLink RX4 68 "HedgeHolesModel" "fields" "I", Cond.fieldLink RX4 16 "HedgeHolesModel" "cells" "[I", Cond.methodLink RX4 85 yX4_isSheet, Cond.static yX4_isSheet, Cond.initialized RX4, Cond.code yX4_isSheet cX4_isSheet 1 (some .boolean), Cond.methodLink RX4 64 yX4_within, Cond.static yX4_within, Cond.code yX4_within cX4_within 3 (some .boolean), Cond.methodLink RX4 88 yX4_isSort, Cond.static yX4_isSort, Cond.code yX4_isSort cX4_isSort 1 (some .boolean), Cond.methodLink RX4 91 yX4_against, Cond.instanceMethod yX4_against, Cond.selects RX4 yX4_against yX4_against, Cond.code yX4_against cX4_against 5 (some .int), Cond.fieldLink RX4 9 "HedgeHolesModel" "sorts" "[I", Cond.fieldLink RX4 13 "HedgeHolesModel" "sheetLong" "[I", Cond.methodLink RX4 95 yX4_fails, Cond.instanceMethod yX4_fails, Cond.selects RX4 yX4_fails yX4_fails, Cond.code yX4_fails cX4_fails 2 (some .int), Cond.methodLink RX4 174 yX4_refusesPair]
def wsX4_season_r2 : List Cond := [Cond.instanceMethod yX4_refusesPair, Cond.selects RX4 yX4_refusesPair yX4_refusesPair, Cond.code yX4_refusesPair cX4_refusesPair 4 (some .int), Cond.methodLink RX4 140 yX4_isGoer, Cond.instanceMethod yX4_isGoer, Cond.selects RX4 yX4_isGoer yX4_isGoer, Cond.code yX4_isGoer cX4_isGoer 2 (some .boolean), Cond.fieldLink RX4 75 "HedgeHolesModel" "goers" "I", Cond.methodLink RX4 177 yX4_keepAll, Cond.instanceMethod yX4_keepAll, Cond.selects RX4 yX4_keepAll yX4_keepAll, Cond.code yX4_keepAll cX4_keepAll 2 none, Cond.fieldLink RX4 114 "HedgeHolesModel" "worn" "I", Cond.fieldLink RX4 165 "HedgeHolesModel" "keptWorn" "I", Cond.fieldLink RX4 37 "HedgeHolesModel" "keptGreats" "[I", Cond.fieldLink RX4 19 "HedgeHolesModel" "greats" "[I", Cond.fieldLink RX4 40 "HedgeHolesModel" "keptField" "[I", Cond.fieldLink RX4 28 "HedgeHolesModel" "field" "[I", Cond.methodLink RX4 107 yX4_hedges, Cond.instanceMethod yX4_hedges, Cond.selects RX4 yX4_hedges yX4_hedges, Cond.code yX4_hedges cX4_hedges 1 (some .int), Cond.methodLink RX4 78 yX4_hedgesOf, Cond.static yX4_hedgesOf]
def wsX4_season_r3 : List Cond := [Cond.code yX4_hedgesOf cX4_hedgesOf 1 (some .int), Cond.methodLink RX4 180 yX4_goSeason, Cond.instanceMethod yX4_goSeason, Cond.selects RX4 yX4_goSeason yX4_goSeason, Cond.code yX4_goSeason cX4_goSeason 4 (some .int), Cond.fieldLink RX4 168 "HedgeHolesModel" "goings" "I", Cond.methodLink RX4 171 yX4_does, Cond.instanceMethod yX4_does, Cond.selects RX4 yX4_does yX4_does, Cond.code yX4_does cX4_does 4 (some .boolean), Cond.methodLink RX4 159 yX4_oneYear, Cond.instanceMethod yX4_oneYear, Cond.selects RX4 yX4_oneYear yX4_oneYear, Cond.code yX4_oneYear cX4_oneYear 3 none, Cond.methodLink RX4 156 yX4_isOf, Cond.static yX4_isOf, Cond.code yX4_isOf cX4_isOf 2 (some .boolean), Cond.methodLink RX4 153 yX4_goesTo, Cond.instanceMethod yX4_goesTo, Cond.selects RX4 yX4_goesTo yX4_goesTo, Cond.code yX4_goesTo cX4_goesTo 3 (some .boolean), Cond.methodLink RX4 143 yX4_areTwo, Cond.instanceMethod yX4_areTwo, Cond.selects RX4 yX4_areTwo yX4_areTwo]
def wsX4_season_r4 : List Cond := [Cond.code yX4_areTwo cX4_areTwo 3 (some .boolean), Cond.methodLink RX4 71 yX4_isField, Cond.instanceMethod yX4_isField, Cond.selects RX4 yX4_isField yX4_isField, Cond.code yX4_isField cX4_isField 2 (some .boolean), Cond.methodLink RX4 146 yX4_hedge, Cond.instanceMethod yX4_hedge, Cond.selects RX4 yX4_hedge yX4_hedge, Cond.code yX4_hedge cX4_hedge 7 (some .int), Cond.methodLink RX4 150 yX4_fitsHole, Cond.instanceMethod yX4_fitsHole, Cond.selects RX4 yX4_fitsHole yX4_fitsHole, Cond.code yX4_fitsHole cX4_fitsHole 3 (some .boolean), Cond.methodLink RX4 137 yX4_thickOf, Cond.instanceMethod yX4_thickOf, Cond.selects RX4 yX4_thickOf yX4_thickOf, Cond.code yX4_thickOf cX4_thickOf 2 (some .int), Cond.fieldLink RX4 22 "HedgeHolesModel" "kind" "[I", Cond.fieldLink RX4 25 "HedgeHolesModel" "girth" "[I", Cond.methodLink RX4 183 yX4_tellSeason, Cond.instanceMethod yX4_tellSeason, Cond.selects RX4 yX4_tellSeason yX4_tellSeason, Cond.code yX4_tellSeason cX4_tellSeason 4 (some .int), Cond.methodLink RX4 162 yX4_holesNow]
def wsX4_season_r5 : List Cond := [Cond.instanceMethod yX4_holesNow, Cond.selects RX4 yX4_holesNow yX4_holesNow, Cond.code yX4_holesNow cX4_holesNow 3 (some .int), Cond.methodLink RX4 186 yX4_putBack, Cond.instanceMethod yX4_putBack, Cond.selects RX4 yX4_putBack yX4_putBack, Cond.code yX4_putBack cX4_putBack 2 none]
def wsX4_season : List Cond := .code yX4_season cX4_season 10 (some .int) :: ((wsX4_season_r1 ++ (wsX4_season_r2 ++ (wsX4_season_r3 ++ (wsX4_season_r4 ++ wsX4_season_r5)))) ++ wsX40)
def wsX4_reached : List Cond := .code yX4_reached cX4_reached 9 (some .int) :: ([.fieldLink RX4 68 "HedgeHolesModel" "fields" "I", .fieldLink RX4 19 "HedgeHolesModel" "greats" "[I", .methodLink RX4 156 yX4_isOf, .static yX4_isOf, .initialized RX4, .code yX4_isOf cX4_isOf 2 (some .boolean), .methodLink RX4 146 yX4_hedge, .instanceMethod yX4_hedge, .selects RX4 yX4_hedge yX4_hedge, .code yX4_hedge cX4_hedge 7 (some .int)] ++ wsX40)
def wsX4_wantsOf : List Cond := .code yX4_wantsOf cX4_wantsOf 2 (some .int) :: ([.methodLink RX4 137 yX4_thickOf, .instanceMethod yX4_thickOf, .selects RX4 yX4_thickOf yX4_thickOf, .initialized RX4, .code yX4_thickOf cX4_thickOf 2 (some .int), .fieldLink RX4 22 "HedgeHolesModel" "kind" "[I", .fieldLink RX4 25 "HedgeHolesModel" "girth" "[I"] ++ wsX40)
def wsX4_reachedBy_r1 : List Cond := [Cond.fieldLink RX4 28 "HedgeHolesModel" "field" "[I", Cond.methodLink RX4 189 yX4_wantsOf, Cond.instanceMethod yX4_wantsOf, Cond.selects RX4 yX4_wantsOf yX4_wantsOf, Cond.initialized RX4, Cond.code yX4_wantsOf cX4_wantsOf 2 (some .int), Cond.methodLink RX4 137 yX4_thickOf, Cond.instanceMethod yX4_thickOf, Cond.selects RX4 yX4_thickOf yX4_thickOf, Cond.code yX4_thickOf cX4_thickOf 2 (some .int), Cond.fieldLink RX4 22 "HedgeHolesModel" "kind" "[I", Cond.fieldLink RX4 25 "HedgeHolesModel" "girth" "[I", Cond.methodLink RX4 192 yX4_reached, Cond.instanceMethod yX4_reached, Cond.selects RX4 yX4_reached yX4_reached, Cond.code yX4_reached cX4_reached 9 (some .int), Cond.fieldLink RX4 68 "HedgeHolesModel" "fields" "I", Cond.fieldLink RX4 19 "HedgeHolesModel" "greats" "[I", Cond.methodLink RX4 156 yX4_isOf, Cond.static yX4_isOf, Cond.code yX4_isOf cX4_isOf 2 (some .boolean), Cond.methodLink RX4 146 yX4_hedge, Cond.instanceMethod yX4_hedge, Cond.selects RX4 yX4_hedge yX4_hedge]
def wsX4_reachedBy_r2 : List Cond := [Cond.code yX4_hedge cX4_hedge 7 (some .int)]
def wsX4_reachedBy : List Cond := .code yX4_reachedBy cX4_reachedBy 2 (some .int) :: ((wsX4_reachedBy_r1 ++ wsX4_reachedBy_r2) ++ wsX40)
def wsX4_widest : List Cond := .code yX4_widest cX4_widest 4 (some .int) :: ([.methodLink RX4 143 yX4_areTwo, .instanceMethod yX4_areTwo, .selects RX4 yX4_areTwo yX4_areTwo, .initialized RX4, .code yX4_areTwo cX4_areTwo 3 (some .boolean), .methodLink RX4 71 yX4_isField, .instanceMethod yX4_isField, .selects RX4 yX4_isField yX4_isField, .code yX4_isField cX4_isField 2 (some .boolean), .fieldLink RX4 68 "HedgeHolesModel" "fields" "I", .methodLink RX4 192 yX4_reached, .instanceMethod yX4_reached, .selects RX4 yX4_reached yX4_reached, .code yX4_reached cX4_reached 9 (some .int), .fieldLink RX4 19 "HedgeHolesModel" "greats" "[I", .methodLink RX4 156 yX4_isOf, .static yX4_isOf, .code yX4_isOf cX4_isOf 2 (some .boolean), .methodLink RX4 146 yX4_hedge, .instanceMethod yX4_hedge, .selects RX4 yX4_hedge yX4_hedge, .code yX4_hedge cX4_hedge 7 (some .int)] ++ wsX40)
def wsX4_findFar : List Cond := .code yX4_findFar cX4_findFar 7 none :: ([.fieldLink RX4 68 "HedgeHolesModel" "fields" "I", .fieldLink RX4 43 "HedgeHolesModel" "far" "[I", .methodLink RX4 146 yX4_hedge, .instanceMethod yX4_hedge, .selects RX4 yX4_hedge yX4_hedge, .initialized RX4, .code yX4_hedge cX4_hedge 7 (some .int), .methodLink RX4 150 yX4_fitsHole, .instanceMethod yX4_fitsHole, .selects RX4 yX4_fitsHole yX4_fitsHole, .code yX4_fitsHole cX4_fitsHole 3 (some .boolean), .fieldLink RX4 19 "HedgeHolesModel" "greats" "[I", .methodLink RX4 137 yX4_thickOf, .instanceMethod yX4_thickOf, .selects RX4 yX4_thickOf yX4_thickOf, .code yX4_thickOf cX4_thickOf 2 (some .int), .fieldLink RX4 22 "HedgeHolesModel" "kind" "[I", .fieldLink RX4 25 "HedgeHolesModel" "girth" "[I"] ++ wsX40)
def wsX4_way_r1 : List Cond := [Cond.fieldLink RX4 28 "HedgeHolesModel" "field" "[I", Cond.fieldLink RX4 43 "HedgeHolesModel" "far" "[I", Cond.methodLink RX4 140 yX4_isGoer, Cond.instanceMethod yX4_isGoer, Cond.selects RX4 yX4_isGoer yX4_isGoer, Cond.initialized RX4, Cond.code yX4_isGoer cX4_isGoer 2 (some .boolean), Cond.fieldLink RX4 75 "HedgeHolesModel" "goers" "I", Cond.methodLink RX4 71 yX4_isField, Cond.instanceMethod yX4_isField, Cond.selects RX4 yX4_isField yX4_isField, Cond.code yX4_isField cX4_isField 2 (some .boolean), Cond.fieldLink RX4 68 "HedgeHolesModel" "fields" "I", Cond.methodLink RX4 64 yX4_within, Cond.static yX4_within, Cond.code yX4_within cX4_within 3 (some .boolean), Cond.methodLink RX4 195 yX4_findFar, Cond.instanceMethod yX4_findFar, Cond.selects RX4 yX4_findFar yX4_findFar, Cond.code yX4_findFar cX4_findFar 7 none, Cond.methodLink RX4 146 yX4_hedge, Cond.instanceMethod yX4_hedge, Cond.selects RX4 yX4_hedge yX4_hedge, Cond.code yX4_hedge cX4_hedge 7 (some .int)]
def wsX4_way_r2 : List Cond := [Cond.methodLink RX4 150 yX4_fitsHole, Cond.instanceMethod yX4_fitsHole, Cond.selects RX4 yX4_fitsHole yX4_fitsHole, Cond.code yX4_fitsHole cX4_fitsHole 3 (some .boolean), Cond.fieldLink RX4 19 "HedgeHolesModel" "greats" "[I", Cond.methodLink RX4 137 yX4_thickOf, Cond.instanceMethod yX4_thickOf, Cond.selects RX4 yX4_thickOf yX4_thickOf, Cond.code yX4_thickOf cX4_thickOf 2 (some .int), Cond.fieldLink RX4 22 "HedgeHolesModel" "kind" "[I", Cond.fieldLink RX4 25 "HedgeHolesModel" "girth" "[I"]
def wsX4_way : List Cond := .code yX4_way cX4_way 7 (some .int) :: ((wsX4_way_r1 ++ wsX4_way_r2) ++ wsX40)
def wsX4_market_r1 : List Cond := [Cond.fieldLink RX4 68 "HedgeHolesModel" "fields" "I", Cond.fieldLink RX4 75 "HedgeHolesModel" "goers" "I", Cond.methodLink RX4 64 yX4_within, Cond.static yX4_within, Cond.initialized RX4, Cond.code yX4_within cX4_within 3 (some .boolean), Cond.methodLink RX4 199 yX4_reachedBy, Cond.instanceMethod yX4_reachedBy, Cond.selects RX4 yX4_reachedBy yX4_reachedBy, Cond.code yX4_reachedBy cX4_reachedBy 2 (some .int), Cond.fieldLink RX4 28 "HedgeHolesModel" "field" "[I", Cond.methodLink RX4 189 yX4_wantsOf, Cond.instanceMethod yX4_wantsOf, Cond.selects RX4 yX4_wantsOf yX4_wantsOf, Cond.code yX4_wantsOf cX4_wantsOf 2 (some .int), Cond.methodLink RX4 137 yX4_thickOf, Cond.instanceMethod yX4_thickOf, Cond.selects RX4 yX4_thickOf yX4_thickOf, Cond.code yX4_thickOf cX4_thickOf 2 (some .int), Cond.fieldLink RX4 22 "HedgeHolesModel" "kind" "[I", Cond.fieldLink RX4 25 "HedgeHolesModel" "girth" "[I", Cond.methodLink RX4 192 yX4_reached, Cond.instanceMethod yX4_reached, Cond.selects RX4 yX4_reached yX4_reached]
def wsX4_market_r2 : List Cond := [Cond.code yX4_reached cX4_reached 9 (some .int), Cond.fieldLink RX4 19 "HedgeHolesModel" "greats" "[I", Cond.methodLink RX4 156 yX4_isOf, Cond.static yX4_isOf, Cond.code yX4_isOf cX4_isOf 2 (some .boolean), Cond.methodLink RX4 146 yX4_hedge, Cond.instanceMethod yX4_hedge, Cond.selects RX4 yX4_hedge yX4_hedge, Cond.code yX4_hedge cX4_hedge 7 (some .int), Cond.methodLink RX4 202 yX4_size, Cond.static yX4_size, Cond.code yX4_size cX4_size 3 (some .int)]
def wsX4_market : List Cond := .code yX4_market cX4_market 7 (some .int) :: ((wsX4_market_r1 ++ wsX4_market_r2) ++ wsX40)
def wsX4_widen_r1 : List Cond := [Cond.fieldLink RX4 68 "HedgeHolesModel" "fields" "I", Cond.fieldLink RX4 46 "HedgeHolesModel" "cost" "[I", Cond.fieldLink RX4 28 "HedgeHolesModel" "field" "[I", Cond.fieldLink RX4 19 "HedgeHolesModel" "greats" "[I", Cond.methodLink RX4 140 yX4_isGoer, Cond.instanceMethod yX4_isGoer, Cond.selects RX4 yX4_isGoer yX4_isGoer, Cond.initialized RX4, Cond.code yX4_isGoer cX4_isGoer 2 (some .boolean), Cond.fieldLink RX4 75 "HedgeHolesModel" "goers" "I", Cond.methodLink RX4 71 yX4_isField, Cond.instanceMethod yX4_isField, Cond.selects RX4 yX4_isField yX4_isField, Cond.code yX4_isField cX4_isField 2 (some .boolean), Cond.methodLink RX4 146 yX4_hedge, Cond.instanceMethod yX4_hedge, Cond.selects RX4 yX4_hedge yX4_hedge, Cond.code yX4_hedge cX4_hedge 7 (some .int), Cond.methodLink RX4 150 yX4_fitsHole, Cond.instanceMethod yX4_fitsHole, Cond.selects RX4 yX4_fitsHole yX4_fitsHole, Cond.code yX4_fitsHole cX4_fitsHole 3 (some .boolean), Cond.methodLink RX4 137 yX4_thickOf, Cond.instanceMethod yX4_thickOf]
def wsX4_widen_r2 : List Cond := [Cond.selects RX4 yX4_thickOf yX4_thickOf, Cond.code yX4_thickOf cX4_thickOf 2 (some .int), Cond.fieldLink RX4 22 "HedgeHolesModel" "kind" "[I", Cond.fieldLink RX4 25 "HedgeHolesModel" "girth" "[I"]
def wsX4_widen : List Cond := .code yX4_widen cX4_widen 7 (some .int) :: ((wsX4_widen_r1 ++ wsX4_widen_r2) ++ wsX40)
def wsX4_keep_r1 : List Cond := [Cond.fieldLink RX4 28 "HedgeHolesModel" "field" "[I", Cond.methodLink RX4 140 yX4_isGoer, Cond.instanceMethod yX4_isGoer, Cond.selects RX4 yX4_isGoer yX4_isGoer, Cond.initialized RX4, Cond.code yX4_isGoer cX4_isGoer 2 (some .boolean), Cond.fieldLink RX4 75 "HedgeHolesModel" "goers" "I", Cond.methodLink RX4 71 yX4_isField, Cond.instanceMethod yX4_isField, Cond.selects RX4 yX4_isField yX4_isField, Cond.code yX4_isField cX4_isField 2 (some .boolean), Cond.fieldLink RX4 68 "HedgeHolesModel" "fields" "I", Cond.methodLink RX4 107 yX4_hedges, Cond.instanceMethod yX4_hedges, Cond.selects RX4 yX4_hedges yX4_hedges, Cond.code yX4_hedges cX4_hedges 1 (some .int), Cond.methodLink RX4 78 yX4_hedgesOf, Cond.static yX4_hedgesOf, Cond.code yX4_hedgesOf cX4_hedgesOf 1 (some .int), Cond.methodLink RX4 202 yX4_size, Cond.static yX4_size, Cond.code yX4_size cX4_size 3 (some .int), Cond.methodLink RX4 189 yX4_wantsOf, Cond.instanceMethod yX4_wantsOf]
def wsX4_keep_r2 : List Cond := [Cond.selects RX4 yX4_wantsOf yX4_wantsOf, Cond.code yX4_wantsOf cX4_wantsOf 2 (some .int), Cond.methodLink RX4 137 yX4_thickOf, Cond.instanceMethod yX4_thickOf, Cond.selects RX4 yX4_thickOf yX4_thickOf, Cond.code yX4_thickOf cX4_thickOf 2 (some .int), Cond.fieldLink RX4 22 "HedgeHolesModel" "kind" "[I", Cond.fieldLink RX4 25 "HedgeHolesModel" "girth" "[I", Cond.methodLink RX4 192 yX4_reached, Cond.instanceMethod yX4_reached, Cond.selects RX4 yX4_reached yX4_reached, Cond.code yX4_reached cX4_reached 9 (some .int), Cond.fieldLink RX4 19 "HedgeHolesModel" "greats" "[I", Cond.methodLink RX4 156 yX4_isOf, Cond.static yX4_isOf, Cond.code yX4_isOf cX4_isOf 2 (some .boolean), Cond.methodLink RX4 146 yX4_hedge, Cond.instanceMethod yX4_hedge, Cond.selects RX4 yX4_hedge yX4_hedge, Cond.code yX4_hedge cX4_hedge 7 (some .int)]
def wsX4_keep : List Cond := .code yX4_keep cX4_keep 6 (some .int) :: ((wsX4_keep_r1 ++ wsX4_keep_r2) ++ wsX40)
def wsX4_reading_r1 : List Cond := [Cond.fieldLink RX4 123 "HedgeHolesModel" "readings" "I", Cond.fieldLink RX4 49 "HedgeHolesModel" "readWho" "[I", Cond.fieldLink RX4 52 "HedgeHolesModel" "readWhere" "[I", Cond.fieldLink RX4 55 "HedgeHolesModel" "readFits" "[I", Cond.methodLink RX4 140 yX4_isGoer, Cond.instanceMethod yX4_isGoer, Cond.selects RX4 yX4_isGoer yX4_isGoer, Cond.initialized RX4, Cond.code yX4_isGoer cX4_isGoer 2 (some .boolean), Cond.fieldLink RX4 75 "HedgeHolesModel" "goers" "I", Cond.methodLink RX4 143 yX4_areTwo, Cond.instanceMethod yX4_areTwo, Cond.selects RX4 yX4_areTwo yX4_areTwo, Cond.code yX4_areTwo cX4_areTwo 3 (some .boolean), Cond.methodLink RX4 71 yX4_isField, Cond.instanceMethod yX4_isField, Cond.selects RX4 yX4_isField yX4_isField, Cond.code yX4_isField cX4_isField 2 (some .boolean), Cond.fieldLink RX4 68 "HedgeHolesModel" "fields" "I", Cond.methodLink RX4 64 yX4_within, Cond.static yX4_within, Cond.code yX4_within cX4_within 3 (some .boolean), Cond.methodLink RX4 146 yX4_hedge, Cond.instanceMethod yX4_hedge]
def wsX4_reading_r2 : List Cond := [Cond.selects RX4 yX4_hedge yX4_hedge, Cond.code yX4_hedge cX4_hedge 7 (some .int)]
def wsX4_reading : List Cond := .code yX4_reading cX4_reading 5 (some .int) :: ((wsX4_reading_r1 ++ wsX4_reading_r2) ++ wsX40)
def wsX4_back : List Cond := .code yX4_back cX4_back 2 (some .int) :: ([.fieldLink RX4 123 "HedgeHolesModel" "readings" "I", .methodLink RX4 64 yX4_within, .static yX4_within, .initialized RX4, .code yX4_within cX4_within 3 (some .boolean)] ++ wsX40)
def wsX4_areSo : List Cond := .code yX4_areSo cX4_areSo 3 (some .boolean) :: ([.fieldLink RX4 123 "HedgeHolesModel" "readings" "I", .fieldLink RX4 49 "HedgeHolesModel" "readWho" "[I", .fieldLink RX4 52 "HedgeHolesModel" "readWhere" "[I", .fieldLink RX4 55 "HedgeHolesModel" "readFits" "[I", .methodLink RX4 150 yX4_fitsHole, .instanceMethod yX4_fitsHole, .selects RX4 yX4_fitsHole yX4_fitsHole, .initialized RX4, .code yX4_fitsHole cX4_fitsHole 3 (some .boolean), .fieldLink RX4 19 "HedgeHolesModel" "greats" "[I", .methodLink RX4 137 yX4_thickOf, .instanceMethod yX4_thickOf, .selects RX4 yX4_thickOf yX4_thickOf, .code yX4_thickOf cX4_thickOf 2 (some .int), .fieldLink RX4 22 "HedgeHolesModel" "kind" "[I", .fieldLink RX4 25 "HedgeHolesModel" "girth" "[I"] ++ wsX40)
def wsX4_girths_r1 : List Cond := [Cond.fieldLink RX4 25 "HedgeHolesModel" "girth" "[I", Cond.methodLink RX4 140 yX4_isGoer, Cond.instanceMethod yX4_isGoer, Cond.selects RX4 yX4_isGoer yX4_isGoer, Cond.initialized RX4, Cond.code yX4_isGoer cX4_isGoer 2 (some .boolean), Cond.fieldLink RX4 75 "HedgeHolesModel" "goers" "I", Cond.methodLink RX4 205 yX4_areSo, Cond.instanceMethod yX4_areSo, Cond.selects RX4 yX4_areSo yX4_areSo, Cond.code yX4_areSo cX4_areSo 3 (some .boolean), Cond.fieldLink RX4 123 "HedgeHolesModel" "readings" "I", Cond.fieldLink RX4 49 "HedgeHolesModel" "readWho" "[I", Cond.fieldLink RX4 52 "HedgeHolesModel" "readWhere" "[I", Cond.fieldLink RX4 55 "HedgeHolesModel" "readFits" "[I", Cond.methodLink RX4 150 yX4_fitsHole, Cond.instanceMethod yX4_fitsHole, Cond.selects RX4 yX4_fitsHole yX4_fitsHole, Cond.code yX4_fitsHole cX4_fitsHole 3 (some .boolean), Cond.fieldLink RX4 19 "HedgeHolesModel" "greats" "[I", Cond.methodLink RX4 137 yX4_thickOf, Cond.instanceMethod yX4_thickOf, Cond.selects RX4 yX4_thickOf yX4_thickOf, Cond.code yX4_thickOf cX4_thickOf 2 (some .int)]
def wsX4_girths_r2 : List Cond := [Cond.fieldLink RX4 22 "HedgeHolesModel" "kind" "[I"]
def wsX4_girths : List Cond := .code yX4_girths cX4_girths 5 (some .int) :: ((wsX4_girths_r1 ++ wsX4_girths_r2) ++ wsX40)
def wsX4_kinds_r1 : List Cond := [Cond.fieldLink RX4 22 "HedgeHolesModel" "kind" "[I", Cond.methodLink RX4 140 yX4_isGoer, Cond.instanceMethod yX4_isGoer, Cond.selects RX4 yX4_isGoer yX4_isGoer, Cond.initialized RX4, Cond.code yX4_isGoer cX4_isGoer 2 (some .boolean), Cond.fieldLink RX4 75 "HedgeHolesModel" "goers" "I", Cond.methodLink RX4 205 yX4_areSo, Cond.instanceMethod yX4_areSo, Cond.selects RX4 yX4_areSo yX4_areSo, Cond.code yX4_areSo cX4_areSo 3 (some .boolean), Cond.fieldLink RX4 123 "HedgeHolesModel" "readings" "I", Cond.fieldLink RX4 49 "HedgeHolesModel" "readWho" "[I", Cond.fieldLink RX4 52 "HedgeHolesModel" "readWhere" "[I", Cond.fieldLink RX4 55 "HedgeHolesModel" "readFits" "[I", Cond.methodLink RX4 150 yX4_fitsHole, Cond.instanceMethod yX4_fitsHole, Cond.selects RX4 yX4_fitsHole yX4_fitsHole, Cond.code yX4_fitsHole cX4_fitsHole 3 (some .boolean), Cond.fieldLink RX4 19 "HedgeHolesModel" "greats" "[I", Cond.methodLink RX4 137 yX4_thickOf, Cond.instanceMethod yX4_thickOf, Cond.selects RX4 yX4_thickOf yX4_thickOf, Cond.code yX4_thickOf cX4_thickOf 2 (some .int)]
def wsX4_kinds_r2 : List Cond := [Cond.fieldLink RX4 25 "HedgeHolesModel" "girth" "[I"]
def wsX4_kinds : List Cond := .code yX4_kinds cX4_kinds 5 (some .int) :: ((wsX4_kinds_r1 ++ wsX4_kinds_r2) ++ wsX40)
def wsX4_holes_r1 : List Cond := [Cond.fieldLink RX4 19 "HedgeHolesModel" "greats" "[I", Cond.methodLink RX4 143 yX4_areTwo, Cond.instanceMethod yX4_areTwo, Cond.selects RX4 yX4_areTwo yX4_areTwo, Cond.initialized RX4, Cond.code yX4_areTwo cX4_areTwo 3 (some .boolean), Cond.methodLink RX4 71 yX4_isField, Cond.instanceMethod yX4_isField, Cond.selects RX4 yX4_isField yX4_isField, Cond.code yX4_isField cX4_isField 2 (some .boolean), Cond.fieldLink RX4 68 "HedgeHolesModel" "fields" "I", Cond.methodLink RX4 146 yX4_hedge, Cond.instanceMethod yX4_hedge, Cond.selects RX4 yX4_hedge yX4_hedge, Cond.code yX4_hedge cX4_hedge 7 (some .int), Cond.methodLink RX4 205 yX4_areSo, Cond.instanceMethod yX4_areSo, Cond.selects RX4 yX4_areSo yX4_areSo, Cond.code yX4_areSo cX4_areSo 3 (some .boolean), Cond.fieldLink RX4 123 "HedgeHolesModel" "readings" "I", Cond.fieldLink RX4 49 "HedgeHolesModel" "readWho" "[I", Cond.fieldLink RX4 52 "HedgeHolesModel" "readWhere" "[I", Cond.fieldLink RX4 55 "HedgeHolesModel" "readFits" "[I", Cond.methodLink RX4 150 yX4_fitsHole]
def wsX4_holes_r2 : List Cond := [Cond.instanceMethod yX4_fitsHole, Cond.selects RX4 yX4_fitsHole yX4_fitsHole, Cond.code yX4_fitsHole cX4_fitsHole 3 (some .boolean), Cond.methodLink RX4 137 yX4_thickOf, Cond.instanceMethod yX4_thickOf, Cond.selects RX4 yX4_thickOf yX4_thickOf, Cond.code yX4_thickOf cX4_thickOf 2 (some .int), Cond.fieldLink RX4 22 "HedgeHolesModel" "kind" "[I", Cond.fieldLink RX4 25 "HedgeHolesModel" "girth" "[I"]
def wsX4_holes : List Cond := .code yX4_holes cX4_holes 7 (some .int) :: ((wsX4_holes_r1 ++ wsX4_holes_r2) ++ wsX40)
def wsX4_inLeastTerms : List Cond := .code yX4_inLeastTerms cX4_inLeastTerms 11 (some .long) :: ([])
def wsX4_odds_r1 : List Cond := [Cond.constantLong RX4 62 (-9223372036854775808), Cond.fieldLink RX4 25 "HedgeHolesModel" "girth" "[I", Cond.constantLong RX4 209 (9), Cond.methodLink RX4 140 yX4_isGoer, Cond.instanceMethod yX4_isGoer, Cond.selects RX4 yX4_isGoer yX4_isGoer, Cond.initialized RX4, Cond.code yX4_isGoer cX4_isGoer 2 (some .boolean), Cond.fieldLink RX4 75 "HedgeHolesModel" "goers" "I", Cond.methodLink RX4 71 yX4_isField, Cond.instanceMethod yX4_isField, Cond.selects RX4 yX4_isField yX4_isField, Cond.code yX4_isField cX4_isField 2 (some .boolean), Cond.fieldLink RX4 68 "HedgeHolesModel" "fields" "I", Cond.methodLink RX4 64 yX4_within, Cond.static yX4_within, Cond.code yX4_within cX4_within 3 (some .boolean), Cond.methodLink RX4 199 yX4_reachedBy, Cond.instanceMethod yX4_reachedBy, Cond.selects RX4 yX4_reachedBy yX4_reachedBy, Cond.code yX4_reachedBy cX4_reachedBy 2 (some .int), Cond.fieldLink RX4 28 "HedgeHolesModel" "field" "[I", Cond.methodLink RX4 189 yX4_wantsOf, Cond.instanceMethod yX4_wantsOf]
def wsX4_odds_r2 : List Cond := [Cond.selects RX4 yX4_wantsOf yX4_wantsOf, Cond.code yX4_wantsOf cX4_wantsOf 2 (some .int), Cond.methodLink RX4 137 yX4_thickOf, Cond.instanceMethod yX4_thickOf, Cond.selects RX4 yX4_thickOf yX4_thickOf, Cond.code yX4_thickOf cX4_thickOf 2 (some .int), Cond.fieldLink RX4 22 "HedgeHolesModel" "kind" "[I", Cond.methodLink RX4 192 yX4_reached, Cond.instanceMethod yX4_reached, Cond.selects RX4 yX4_reached yX4_reached, Cond.code yX4_reached cX4_reached 9 (some .int), Cond.fieldLink RX4 19 "HedgeHolesModel" "greats" "[I", Cond.methodLink RX4 156 yX4_isOf, Cond.static yX4_isOf, Cond.code yX4_isOf cX4_isOf 2 (some .boolean), Cond.methodLink RX4 146 yX4_hedge, Cond.instanceMethod yX4_hedge, Cond.selects RX4 yX4_hedge yX4_hedge, Cond.code yX4_hedge cX4_hedge 7 (some .int), Cond.methodLink RX4 211 yX4_inLeastTerms, Cond.static yX4_inLeastTerms, Cond.code yX4_inLeastTerms cX4_inLeastTerms 11 (some .long)]
def wsX4_odds : List Cond := .code yX4_odds cX4_odds 7 (some .long) :: ((wsX4_odds_r1 ++ wsX4_odds_r2) ++ wsX40)
def wsX4_sheet : List Cond := .code yX4_sheet cX4_sheet 5 (some .int) :: ([.fieldLink RX4 58 "HedgeHolesModel" "fault" "I", .fieldLink RX4 9 "HedgeHolesModel" "sorts" "[I", .fieldLink RX4 13 "HedgeHolesModel" "sheetLong" "[I", .fieldLink RX4 16 "HedgeHolesModel" "cells" "[I", .methodLink RX4 85 yX4_isSheet, .static yX4_isSheet, .initialized RX4, .code yX4_isSheet cX4_isSheet 1 (some .boolean), .methodLink RX4 64 yX4_within, .static yX4_within, .code yX4_within cX4_within 3 (some .boolean), .methodLink RX4 88 yX4_isSort, .static yX4_isSort, .code yX4_isSort cX4_isSort 1 (some .boolean), .methodLink RX4 95 yX4_fails, .instanceMethod yX4_fails, .selects RX4 yX4_fails yX4_fails, .code yX4_fails cX4_fails 2 (some .int)] ++ wsX40)
def wsX4_lose : List Cond := .code yX4_lose cX4_lose 3 (some .int) :: ([.fieldLink RX4 9 "HedgeHolesModel" "sorts" "[I", .methodLink RX4 85 yX4_isSheet, .static yX4_isSheet, .initialized RX4, .code yX4_isSheet cX4_isSheet 1 (some .boolean), .methodLink RX4 64 yX4_within, .static yX4_within, .code yX4_within cX4_within 3 (some .boolean)] ++ wsX40)
def wsX4_put : List Cond := .code yX4_put cX4_put 4 (some .int) :: ([.fieldLink RX4 58 "HedgeHolesModel" "fault" "I", .fieldLink RX4 9 "HedgeHolesModel" "sorts" "[I", .fieldLink RX4 13 "HedgeHolesModel" "sheetLong" "[I", .fieldLink RX4 16 "HedgeHolesModel" "cells" "[I", .methodLink RX4 85 yX4_isSheet, .static yX4_isSheet, .initialized RX4, .code yX4_isSheet cX4_isSheet 1 (some .boolean), .methodLink RX4 64 yX4_within, .static yX4_within, .code yX4_within cX4_within 3 (some .boolean), .methodLink RX4 95 yX4_fails, .instanceMethod yX4_fails, .selects RX4 yX4_fails yX4_fails, .code yX4_fails cX4_fails 2 (some .int)] ++ wsX40)
def wsX4_cell : List Cond := .code yX4_cell cX4_cell 4 (some .long) :: ([.fieldLink RX4 58 "HedgeHolesModel" "fault" "I", .constantLong RX4 62 (-9223372036854775808), .fieldLink RX4 9 "HedgeHolesModel" "sorts" "[I", .fieldLink RX4 13 "HedgeHolesModel" "sheetLong" "[I", .fieldLink RX4 16 "HedgeHolesModel" "cells" "[I", .methodLink RX4 85 yX4_isSheet, .static yX4_isSheet, .initialized RX4, .code yX4_isSheet cX4_isSheet 1 (some .boolean), .methodLink RX4 64 yX4_within, .static yX4_within, .code yX4_within cX4_within 3 (some .boolean), .methodLink RX4 88 yX4_isSort, .static yX4_isSort, .code yX4_isSort cX4_isSort 1 (some .boolean), .methodLink RX4 215 yX4_lost, .instanceMethod yX4_lost, .selects RX4 yX4_lost yX4_lost, .code yX4_lost cX4_lost 2 (some .long)] ++ wsX40)
def wsX4_copy : List Cond := .code yX4_copy cX4_copy 10 (some .int) :: ([.fieldLink RX4 58 "HedgeHolesModel" "fault" "I", .fieldLink RX4 9 "HedgeHolesModel" "sorts" "[I", .fieldLink RX4 13 "HedgeHolesModel" "sheetLong" "[I", .fieldLink RX4 16 "HedgeHolesModel" "cells" "[I", .methodLink RX4 85 yX4_isSheet, .static yX4_isSheet, .initialized RX4, .code yX4_isSheet cX4_isSheet 1 (some .boolean), .methodLink RX4 64 yX4_within, .static yX4_within, .code yX4_within cX4_within 3 (some .boolean), .methodLink RX4 95 yX4_fails, .instanceMethod yX4_fails, .selects RX4 yX4_fails yX4_fails, .code yX4_fails cX4_fails 2 (some .int)] ++ wsX40)
def wsX4_begins : List Cond := .code yX4_begins cX4_begins 2 none :: ([.fieldLink RX4 219 "HedgeHolesModel" "trace" "I"] ++ wsX40)
def wsX4_tell : List Cond := .code yX4_tell cX4_tell 3 (some .int) :: ([.fieldLink RX4 25 "HedgeHolesModel" "girth" "[I", .fieldLink RX4 22 "HedgeHolesModel" "kind" "[I", .methodLink RX4 140 yX4_isGoer, .instanceMethod yX4_isGoer, .selects RX4 yX4_isGoer yX4_isGoer, .initialized RX4, .code yX4_isGoer cX4_isGoer 2 (some .boolean), .fieldLink RX4 75 "HedgeHolesModel" "goers" "I", .methodLink RX4 222 yX4_begins, .instanceMethod yX4_begins, .selects RX4 yX4_begins yX4_begins, .code yX4_begins cX4_begins 2 none, .fieldLink RX4 219 "HedgeHolesModel" "trace" "I"] ++ wsX40)
def wsX4_hail : List Cond := .code yX4_hail cX4_hail 2 (some .int) :: ([.fieldLink RX4 22 "HedgeHolesModel" "kind" "[I", .fieldLink RX4 28 "HedgeHolesModel" "field" "[I", .methodLink RX4 140 yX4_isGoer, .instanceMethod yX4_isGoer, .selects RX4 yX4_isGoer yX4_isGoer, .initialized RX4, .code yX4_isGoer cX4_isGoer 2 (some .boolean), .fieldLink RX4 75 "HedgeHolesModel" "goers" "I", .methodLink RX4 222 yX4_begins, .instanceMethod yX4_begins, .selects RX4 yX4_begins yX4_begins, .code yX4_begins cX4_begins 2 none, .fieldLink RX4 219 "HedgeHolesModel" "trace" "I"] ++ wsX40)
def wsX4_as : List Cond := .code yX4_as cX4_as 3 (some .int) :: ([.fieldLink RX4 58 "HedgeHolesModel" "fault" "I", .fieldLink RX4 22 "HedgeHolesModel" "kind" "[I", .methodLink RX4 140 yX4_isGoer, .instanceMethod yX4_isGoer, .selects RX4 yX4_isGoer yX4_isGoer, .initialized RX4, .code yX4_isGoer cX4_isGoer 2 (some .boolean), .fieldLink RX4 75 "HedgeHolesModel" "goers" "I", .methodLink RX4 64 yX4_within, .static yX4_within, .code yX4_within cX4_within 3 (some .boolean), .methodLink RX4 95 yX4_fails, .instanceMethod yX4_fails, .selects RX4 yX4_fails yX4_fails, .code yX4_fails cX4_fails 2 (some .int)] ++ wsX40)
def wsX4_trace : List Cond := .code yX4_trace cX4_trace 1 (some .int) :: ([.fieldLink RX4 219 "HedgeHolesModel" "trace" "I"] ++ wsX40)
def wsX4_fault : List Cond := .code yX4_fault cX4_fault 1 (some .int) :: ([.fieldLink RX4 58 "HedgeHolesModel" "fault" "I"] ++ wsX40)
def wsX4_many : List Cond := .code yX4_many cX4_many 2 (some .int) :: ([.fieldLink RX4 68 "HedgeHolesModel" "fields" "I", .fieldLink RX4 75 "HedgeHolesModel" "goers" "I", .fieldLink RX4 117 "HedgeHolesModel" "year" "I", .fieldLink RX4 120 "HedgeHolesModel" "went" "I", .fieldLink RX4 123 "HedgeHolesModel" "readings" "I"] ++ wsX40)
def wsJ9_max_7cf53 : List Cond := .code yJ9_max_7cf53 cJ9_max_7cf53 2 (some .int) :: ([])
def wsJ9_min_7cf53 : List Cond := .code yJ9_min_7cf53 cJ9_min_7cf53 2 (some .int) :: ([])
abbrev vwCl : List vw_C := [(RX0, TX0, 8), (RX1, TX1, 4), (RX2, TX2, 4), (RX3, TX3, 8), (RX4, TX4, 29)]
end
section
set_option maxRecDepth 20000 in
theorem ggX0_thickOf_X3_thickness : GoodIn wsX0_thickOf wsX3_thickness := goodIn_r _ [5] (by decide +kernel) (by decide +kernel)
set_option maxRecDepth 20000 in
theorem gX0_thickOf_X3_thickness_n52 : GoodIn wsX0_thickOf (wsX3_thickness) := ggX0_thickOf_X3_thickness
set_option maxRecDepth 20000 in
theorem ggX0_letsBetween_X0_hedgeOf : GoodIn wsX0_letsBetween wsX0_hedgeOf := goodIn_r _ [6, 7, 8, 9, 10, 11, 12, 13, 14, 18, 19, 20, 21, 22, 23, 24, 25] (by decide +kernel) (by decide +kernel)
set_option maxRecDepth 20000 in
theorem gX0_letsBetween_X0_hedgeOf : GoodIn wsX0_letsBetween (wsV RX0 55 RX0 yX0_hedgeOf wsX0_hedgeOf) := goodIn_app (goodIn_of _ (by decide +kernel)) ggX0_letsBetween_X0_hedgeOf
set_option maxRecDepth 20000 in
theorem ggX0_letsBetween_X3_lets : GoodIn wsX0_letsBetween wsX3_lets := goodIn_r _ [17] (by decide +kernel) (by decide +kernel)
set_option maxRecDepth 20000 in
theorem gX0_letsBetween_X3_lets_n58 : GoodIn wsX0_letsBetween (wsX3_lets) := ggX0_letsBetween_X3_lets
set_option maxRecDepth 20000 in
theorem ggX0_reads_X3_digit : GoodIn wsX0_reads wsX3_digit := goodIn_r _ [5] (by decide +kernel) (by decide +kernel)
set_option maxRecDepth 20000 in
theorem gX0_reads_X3_digit_n62 : GoodIn wsX0_reads (wsX3_digit) := ggX0_reads_X3_digit
set_option maxRecDepth 20000 in
theorem ggX0_reads_X0_hedges : GoodIn wsX0_reads wsX0_hedges := goodIn_r _ [10, 1, 22, 23, 24, 25, 26, 27, 28, 29] (by decide +kernel) (by decide +kernel)
set_option maxRecDepth 20000 in
theorem gX0_reads_X0_hedges : GoodIn wsX0_reads (wsV RX0 66 RX0 yX0_hedges wsX0_hedges) := goodIn_app (goodIn_of _ (by decide +kernel)) ggX0_reads_X0_hedges
set_option maxRecDepth 20000 in
theorem ggX0_reads_X0_readsGoer : GoodIn wsX0_reads wsX0_readsGoer := goodIn_r _ [14, 15, 16, 17, 1, 18, 19, 20, 9, 21, 3, 4, 5, 22, 23, 24, 25, 26, 27, 28, 29] (by decide +kernel) (by decide +kernel)
set_option maxRecDepth 20000 in
theorem gX0_reads_X0_readsGoer : GoodIn wsX0_reads (wsV RX0 70 RX0 yX0_readsGoer wsX0_readsGoer) := goodIn_app (goodIn_of _ (by decide +kernel)) ggX0_reads_X0_readsGoer
set_option maxRecDepth 20000 in
theorem ggX0_readsGoer_X0_kindOf : GoodIn wsX0_readsGoer wsX0_kindOf := goodIn_r _ [9] (by decide +kernel) (by decide +kernel)
set_option maxRecDepth 20000 in
theorem gX0_readsGoer_X0_kindOf : GoodIn wsX0_readsGoer (va_wsS RX0 74 yX0_kindOf wsX0_kindOf) := goodIn_app (goodIn_of _ (by decide +kernel)) ggX0_readsGoer_X0_kindOf
set_option maxRecDepth 20000 in
theorem ggX0_readsGoer_X3_digit : GoodIn wsX0_readsGoer wsX3_digit := goodIn_r _ [12] (by decide +kernel) (by decide +kernel)
set_option maxRecDepth 20000 in
theorem gX0_readsGoer_X3_digit_n62 : GoodIn wsX0_readsGoer (wsX3_digit) := ggX0_readsGoer_X3_digit
set_option maxRecDepth 20000 in
theorem ggX0_mayEndAt_X0_hedges : GoodIn wsX0_mayEndAt wsX0_hedges := goodIn_r _ [6, 7, 8, 9, 10, 11, 12, 13, 14, 15] (by decide +kernel) (by decide +kernel)
set_option maxRecDepth 20000 in
theorem gX0_mayEndAt_X0_hedges : GoodIn wsX0_mayEndAt (wsV RX0 66 RX0 yX0_hedges wsX0_hedges) := goodIn_app (goodIn_of _ (by decide +kernel)) ggX0_mayEndAt_X0_hedges
set_option maxRecDepth 20000 in
theorem ggX0_canMove_X0_thickOf : GoodIn wsX0_canMove wsX0_thickOf := goodIn_r _ [6, 7, 8, 9, 10, 11, 31, 32, 33, 34, 35, 36, 37, 38] (by decide +kernel) (by decide +kernel)
set_option maxRecDepth 20000 in
theorem gX0_canMove_X0_thickOf : GoodIn wsX0_canMove (wsV RX0 78 RX0 yX0_thickOf wsX0_thickOf) := goodIn_app (goodIn_of _ (by decide +kernel)) ggX0_canMove_X0_thickOf
set_option maxRecDepth 20000 in
theorem ggX0_canMove_X0_letsBetween : GoodIn wsX0_canMove wsX0_letsBetween := goodIn_r _ [15, 16, 17, 18, 19, 5, 20, 21, 22, 23, 24, 25, 26, 27, 28, 29, 10, 30, 31, 32, 33, 34, 35, 36, 37, 38] (by decide +kernel) (by decide +kernel)
set_option maxRecDepth 20000 in
theorem gX0_canMove_X0_letsBetween : GoodIn wsX0_canMove (wsV RX0 81 RX0 yX0_letsBetween wsX0_letsBetween) := goodIn_app (goodIn_of _ (by decide +kernel)) ggX0_canMove_X0_letsBetween
set_option maxRecDepth 20000 in
theorem ggX0_move_X0_hedgeOf : GoodIn wsX0_move wsX0_hedgeOf := goodIn_r _ [7, 8, 9, 10, 11, 12, 13, 14, 15, 16, 17, 18, 19, 20, 21, 22, 23] (by decide +kernel) (by decide +kernel)
set_option maxRecDepth 20000 in
theorem gX0_move_X0_hedgeOf : GoodIn wsX0_move (wsV RX0 55 RX0 yX0_hedgeOf wsX0_hedgeOf) := goodIn_app (goodIn_of _ (by decide +kernel)) ggX0_move_X0_hedgeOf
set_option maxRecDepth 20000 in
theorem ggX0_age_X0_hedges : GoodIn wsX0_age wsX0_hedges := goodIn_r _ [14, 15, 19, 20, 21, 22, 23, 24, 25, 26] (by decide +kernel) (by decide +kernel)
set_option maxRecDepth 20000 in
theorem gX0_age_X0_hedges : GoodIn wsX0_age (wsV RX0 66 RX0 yX0_hedges wsX0_hedges) := goodIn_app (goodIn_of _ (by decide +kernel)) ggX0_age_X0_hedges
set_option maxRecDepth 20000 in
theorem ggX0_age_X3_isIn : GoodIn wsX0_age wsX3_isIn := goodIn_r _ [18] (by decide +kernel) (by decide +kernel)
set_option maxRecDepth 20000 in
theorem gX0_age_X3_isIn_n84 : GoodIn wsX0_age (wsX3_isIn) := ggX0_age_X3_isIn
set_option maxRecDepth 20000 in
theorem ggX0_stopUp_X0_hedges : GoodIn wsX0_stopUp wsX0_hedges := goodIn_r _ [6, 7, 8, 9, 10, 11, 12, 13, 14, 15] (by decide +kernel) (by decide +kernel)
set_option maxRecDepth 20000 in
theorem gX0_stopUp_X0_hedges : GoodIn wsX0_stopUp (wsV RX0 66 RX0 yX0_hedges wsX0_hedges) := goodIn_app (goodIn_of _ (by decide +kernel)) ggX0_stopUp_X0_hedges
set_option maxRecDepth 20000 in
theorem ggX0_acts_X0_age : GoodIn wsX0_acts wsX0_age := goodIn_r _ [6, 7, 8, 9, 10, 11, 12, 13, 14, 15, 16, 17, 18, 5, 19, 1, 20, 21, 22, 54, 55, 56, 57, 58, 59, 60, 61] (by decide +kernel) (by decide +kernel)
set_option maxRecDepth 20000 in
theorem gX0_acts_X0_age : GoodIn wsX0_acts (wsV RX0 87 RX0 yX0_age wsX0_age) := goodIn_app (goodIn_of _ (by decide +kernel)) ggX0_acts_X0_age
set_option maxRecDepth 20000 in
theorem ggX0_acts_X0_stopUp : GoodIn wsX0_acts wsX0_stopUp := goodIn_r _ [26, 7, 16, 17, 18, 5, 19, 1, 54, 55, 56, 57, 58, 59, 60, 61] (by decide +kernel) (by decide +kernel)
set_option maxRecDepth 20000 in
theorem gX0_acts_X0_stopUp : GoodIn wsX0_acts (wsV RX0 91 RX0 yX0_stopUp wsX0_stopUp) := goodIn_app (goodIn_of _ (by decide +kernel)) ggX0_acts_X0_stopUp
set_option maxRecDepth 20000 in
theorem ggX0_acts_X0_canMove : GoodIn wsX0_acts wsX0_canMove := goodIn_r _ [30, 31, 32, 33, 34, 5, 35, 36, 37, 38, 21, 39, 40, 41, 42, 43, 7, 44, 45, 46, 47, 9, 10, 11, 12, 13, 14, 15, 1, 48, 49, 54, 55, 56, 57, 58, 59, 60, 61] (by decide +kernel) (by decide +kernel)
set_option maxRecDepth 20000 in
theorem gX0_acts_X0_canMove : GoodIn wsX0_acts (wsV RX0 95 RX0 yX0_canMove wsX0_canMove) := goodIn_app (goodIn_of _ (by decide +kernel)) ggX0_acts_X0_canMove
set_option maxRecDepth 20000 in
theorem ggX0_acts_X0_move : GoodIn wsX0_acts wsX0_move := goodIn_r _ [53, 8, 31, 44, 45, 46, 5, 47, 9, 10, 11, 12, 13, 14, 15, 1, 54, 55, 56, 57, 58, 59, 60, 61] (by decide +kernel) (by decide +kernel)
set_option maxRecDepth 20000 in
theorem gX0_acts_X0_move : GoodIn wsX0_acts (wsV RX0 98 RX0 yX0_move wsX0_move) := goodIn_app (goodIn_of _ (by decide +kernel)) ggX0_acts_X0_move
set_option maxRecDepth 20000 in
theorem ggX0_openHoles_X0_hedges : GoodIn wsX0_openHoles wsX0_hedges := goodIn_r _ [6, 7, 8, 9, 10, 11, 12, 13, 14, 15] (by decide +kernel) (by decide +kernel)
set_option maxRecDepth 20000 in
theorem gX0_openHoles_X0_hedges : GoodIn wsX0_openHoles (wsV RX0 66 RX0 yX0_hedges wsX0_hedges) := goodIn_app (goodIn_of _ (by decide +kernel)) ggX0_openHoles_X0_hedges
set_option maxRecDepth 20000 in
theorem ggX0_reachOf_X3_isIn : GoodIn wsX0_reachOf wsX3_isIn := goodIn_r _ [4] (by decide +kernel) (by decide +kernel)
set_option maxRecDepth 20000 in
theorem gX0_reachOf_X3_isIn_n84 : GoodIn wsX0_reachOf (wsX3_isIn) := ggX0_reachOf_X3_isIn
set_option maxRecDepth 20000 in
theorem ggX0_reachOf_X0_letsBetween : GoodIn wsX0_reachOf wsX0_letsBetween := goodIn_r _ [9, 10, 11, 12, 13, 8, 14, 15, 16, 17, 18, 19, 20, 21, 1, 22, 3, 23, 24, 25, 26, 27, 28, 29, 30, 31] (by decide +kernel) (by decide +kernel)
set_option maxRecDepth 20000 in
theorem gX0_reachOf_X0_letsBetween : GoodIn wsX0_reachOf (wsV RX0 81 RX0 yX0_letsBetween wsX0_letsBetween) := goodIn_app (goodIn_of _ (by decide +kernel)) ggX0_reachOf_X0_letsBetween
set_option maxRecDepth 20000 in
theorem ggX0_comersTo_X0_thickOf : GoodIn wsX0_comersTo wsX0_thickOf := goodIn_r _ [7, 8, 9, 10, 11, 12, 38, 39, 40, 41, 42, 43, 44, 45] (by decide +kernel) (by decide +kernel)
set_option maxRecDepth 20000 in
theorem gX0_comersTo_X0_thickOf : GoodIn wsX0_comersTo (wsV RX0 78 RX0 yX0_thickOf wsX0_thickOf) := goodIn_app (goodIn_of _ (by decide +kernel)) ggX0_comersTo_X0_thickOf
set_option maxRecDepth 20000 in
theorem ggX0_comersTo_X0_reachOf : GoodIn wsX0_comersTo wsX0_reachOf := goodIn_r _ [16, 17, 18, 11, 19, 20, 21, 22, 6, 23, 24, 25, 26, 27, 28, 29, 30, 31, 32, 33, 34, 35, 36, 37, 38, 39, 40, 41, 42, 43, 44, 45] (by decide +kernel) (by decide +kernel)
set_option maxRecDepth 20000 in
theorem gX0_comersTo_X0_reachOf : GoodIn wsX0_comersTo (wsV RX0 102 RX0 yX0_reachOf wsX0_reachOf) := goodIn_app (goodIn_of _ (by decide +kernel)) ggX0_comersTo_X0_reachOf
set_option maxRecDepth 20000 in
theorem ggX0_comersTo_X3_isIn : GoodIn wsX0_comersTo wsX3_isIn := goodIn_r _ [19] (by decide +kernel) (by decide +kernel)
set_option maxRecDepth 20000 in
theorem gX0_comersTo_X3_isIn_n84 : GoodIn wsX0_comersTo (wsX3_isIn) := ggX0_comersTo_X3_isIn
set_option maxRecDepth 20000 in
theorem ggX0_measureTo_X0_hedgeOf : GoodIn wsX0_measureTo wsX0_hedgeOf := goodIn_r _ [12, 4, 5, 6, 7, 13, 14, 15, 1, 23, 24, 25, 26, 27, 28, 29, 30] (by decide +kernel) (by decide +kernel)
set_option maxRecDepth 20000 in
theorem gX0_measureTo_X0_hedgeOf : GoodIn wsX0_measureTo (wsV RX0 55 RX0 yX0_hedgeOf wsX0_hedgeOf) := goodIn_app (goodIn_of _ (by decide +kernel)) ggX0_measureTo_X0_hedgeOf
set_option maxRecDepth 20000 in
theorem ggX0_measureTo_X0_letsBetween : GoodIn wsX0_measureTo wsX0_letsBetween := goodIn_r _ [19, 3, 8, 9, 10, 11, 12, 4, 5, 6, 7, 13, 14, 15, 1, 20, 21, 22, 23, 24, 25, 26, 27, 28, 29, 30] (by decide +kernel) (by decide +kernel)
set_option maxRecDepth 20000 in
theorem gX0_measureTo_X0_letsBetween : GoodIn wsX0_measureTo (wsV RX0 81 RX0 yX0_letsBetween wsX0_letsBetween) := goodIn_app (goodIn_of _ (by decide +kernel)) ggX0_measureTo_X0_letsBetween
set_option maxRecDepth 20000 in
theorem ggX0_fieldOnWay_X0_thickOf : GoodIn wsX0_fieldOnWay wsX0_thickOf := goodIn_r _ [6, 7, 8, 9, 10, 11, 36, 37, 38, 39, 40, 41, 42, 43] (by decide +kernel) (by decide +kernel)
set_option maxRecDepth 20000 in
theorem gX0_fieldOnWay_X0_thickOf : GoodIn wsX0_fieldOnWay (wsV RX0 78 RX0 yX0_thickOf wsX0_thickOf) := goodIn_app (goodIn_of _ (by decide +kernel)) ggX0_fieldOnWay_X0_thickOf
set_option maxRecDepth 20000 in
theorem ggX0_fieldOnWay_X0_nearerThan : GoodIn wsX0_fieldOnWay wsX0_nearerThan := goodIn_r _ [15, 16, 17, 18, 19, 20, 5, 21, 22, 23, 24, 25, 26, 27, 28, 29, 30, 31, 32, 33, 34, 10, 35, 36, 37, 38, 39, 40, 41, 42, 43] (by decide +kernel) (by decide +kernel)
set_option maxRecDepth 20000 in
theorem gX0_fieldOnWay_X0_nearerThan : GoodIn wsX0_fieldOnWay (wsV RX0 105 RX0 yX0_nearerThan wsX0_nearerThan) := goodIn_app (goodIn_of _ (by decide +kernel)) ggX0_fieldOnWay_X0_nearerThan
set_option maxRecDepth 20000 in
theorem ggX0_nearerThan_X0_letsBetween : GoodIn wsX0_nearerThan wsX0_letsBetween := goodIn_r _ [7, 8, 9, 10, 11, 6, 12, 13, 14, 15, 16, 17, 18, 19, 1, 20, 21, 22, 23, 24, 25, 26, 27, 28, 29, 30] (by decide +kernel) (by decide +kernel)
set_option maxRecDepth 20000 in
theorem gX0_nearerThan_X0_letsBetween : GoodIn wsX0_nearerThan (wsV RX0 81 RX0 yX0_letsBetween wsX0_letsBetween) := goodIn_app (goodIn_of _ (by decide +kernel)) ggX0_nearerThan_X0_letsBetween
set_option maxRecDepth 20000 in
theorem ggX0_fewestToShut_X3_isIn : GoodIn wsX0_fewestToShut wsX3_isIn := goodIn_r _ [5] (by decide +kernel) (by decide +kernel)
set_option maxRecDepth 20000 in
theorem gX0_fewestToShut_X3_isIn_n84 : GoodIn wsX0_fewestToShut (wsX3_isIn) := ggX0_fewestToShut_X3_isIn
set_option maxRecDepth 20000 in
theorem ggX0_fewestToShut_X0_thickOf : GoodIn wsX0_fewestToShut wsX0_thickOf := goodIn_r _ [10, 11, 12, 13, 4, 14, 47, 48, 49, 50, 51, 52, 53, 54] (by decide +kernel) (by decide +kernel)
set_option maxRecDepth 20000 in
theorem gX0_fewestToShut_X0_thickOf : GoodIn wsX0_fewestToShut (wsV RX0 78 RX0 yX0_thickOf wsX0_thickOf) := goodIn_app (goodIn_of _ (by decide +kernel)) ggX0_fewestToShut_X0_thickOf
set_option maxRecDepth 20000 in
theorem ggX0_fewestToShut_X0_fittedAround : GoodIn wsX0_fewestToShut wsX0_fittedAround := goodIn_r _ [18, 1, 3, 4, 5, 19, 20, 21, 9, 22, 23, 24, 25, 26, 27, 28, 29, 30, 31, 32, 33, 34, 35, 36, 47, 48, 49, 50, 51, 52, 53, 54] (by decide +kernel) (by decide +kernel)
set_option maxRecDepth 20000 in
theorem gX0_fewestToShut_X0_fittedAround : GoodIn wsX0_fewestToShut (wsV RX0 108 RX0 yX0_fittedAround wsX0_fittedAround) := goodIn_app (goodIn_of _ (by decide +kernel)) ggX0_fewestToShut_X0_fittedAround
set_option maxRecDepth 20000 in
theorem ggX0_fewestToShut_X0_isFewer : GoodIn wsX0_fewestToShut wsX0_isFewer := goodIn_r _ [39, 40, 41, 42, 43, 44, 45, 46] (by decide +kernel) (by decide +kernel)
set_option maxRecDepth 20000 in
theorem gX0_fewestToShut_X0_isFewer : GoodIn wsX0_fewestToShut (va_wsS RX0 111 yX0_isFewer wsX0_isFewer) := goodIn_app (goodIn_of _ (by decide +kernel)) ggX0_fewestToShut_X0_isFewer
set_option maxRecDepth 20000 in
theorem ggX0_fittedAround_X3_isIn : GoodIn wsX0_fittedAround wsX3_isIn := goodIn_r _ [4] (by decide +kernel) (by decide +kernel)
set_option maxRecDepth 20000 in
theorem gX0_fittedAround_X3_isIn_n84 : GoodIn wsX0_fittedAround (wsX3_isIn) := ggX0_fittedAround_X3_isIn
set_option maxRecDepth 20000 in
theorem ggX0_fittedAround_X0_letsBetween : GoodIn wsX0_fittedAround wsX0_letsBetween := goodIn_r _ [9, 10, 11, 12, 13, 8, 14, 15, 16, 17, 18, 19, 20, 21, 1, 22, 3, 23, 24, 25, 26, 27, 28, 29, 30, 31] (by decide +kernel) (by decide +kernel)
set_option maxRecDepth 20000 in
theorem gX0_fittedAround_X0_letsBetween : GoodIn wsX0_fittedAround (wsV RX0 81 RX0 yX0_letsBetween wsX0_letsBetween) := goodIn_app (goodIn_of _ (by decide +kernel)) ggX0_fittedAround_X0_letsBetween
set_option maxRecDepth 20000 in
theorem ggX0_fittedAround_X0_hedgeOf : GoodIn wsX0_fittedAround wsX0_hedgeOf := goodIn_r _ [14, 15, 16, 17, 18, 19, 20, 21, 1, 24, 25, 26, 27, 28, 29, 30, 31] (by decide +kernel) (by decide +kernel)
set_option maxRecDepth 20000 in
theorem gX0_fittedAround_X0_hedgeOf : GoodIn wsX0_fittedAround (wsV RX0 55 RX0 yX0_hedgeOf wsX0_hedgeOf) := goodIn_app (goodIn_of _ (by decide +kernel)) ggX0_fittedAround_X0_hedgeOf
set_option maxRecDepth 20000 in
theorem ggX0_isFewer_J6_bitCount_0f7a4 : GoodIn wsX0_isFewer wsJ6_bitCount_0f7a4 := goodIn_r _ [4, 5, 6, 7] (by decide +kernel) (by decide +kernel)
set_option maxRecDepth 20000 in
theorem gX0_isFewer_J6_bitCount_0f7a4 : GoodIn wsX0_isFewer (va_wsS RX0 114 yJ6_bitCount_0f7a4 wsJ6_bitCount_0f7a4) := goodIn_app (goodIn_of _ (by decide +kernel)) ggX0_isFewer_J6_bitCount_0f7a4
set_option maxRecDepth 20000 in
theorem ggX1_agrees_X0_thickOf : GoodIn wsX1_agrees wsX0_thickOf := goodIn_r _ [10, 11, 12, 13, 14, 15, 22, 23, 24, 25, 26, 27, 28, 29] (by decide +kernel) (by decide +kernel)
set_option maxRecDepth 20000 in
theorem gX1_agrees_X0_thickOf : GoodIn wsX1_agrees (wsV RX1 31 RX0 yX0_thickOf wsX0_thickOf) := goodIn_app (goodIn_of _ (by decide +kernel)) ggX1_agrees_X0_thickOf
set_option maxRecDepth 20000 in
theorem ggX1_agrees_X3_lets : GoodIn wsX1_agrees wsX3_lets := goodIn_r _ [17] (by decide +kernel) (by decide +kernel)
set_option maxRecDepth 20000 in
theorem gX1_agrees_X3_lets_n35 : GoodIn wsX1_agrees (wsX3_lets) := ggX1_agrees_X3_lets
set_option maxRecDepth 20000 in
theorem ggX2_begin_J7_fill_53178 : GoodIn wsX2_begin wsJ7_fill_53178 := goodIn_r _ [8] (by decide +kernel) (by decide +kernel)
set_option maxRecDepth 20000 in
theorem gX2_begin_J7_fill_53178 : GoodIn wsX2_begin (va_wsS RX2 26 yJ7_fill_53178 wsJ7_fill_53178) := goodIn_app (goodIn_of _ (by decide +kernel)) ggX2_begin_J7_fill_53178
set_option maxRecDepth 20000 in
theorem ggX3_init_X0_init : GoodIn wsX3_init wsX0_init := goodIn_r _ [23, 24, 2, 3, 25, 26, 27, 28, 29, 30, 31, 32, 33, 59, 60, 61, 62, 63, 64, 65, 66] (by decide +kernel) (by decide +kernel)
set_option maxRecDepth 20000 in
theorem gX3_init_X0_init : GoodIn wsX3_init (wsX0_init) := ggX3_init_X0_init
set_option maxRecDepth 20000 in
theorem ggX3_init_X1_init : GoodIn wsX3_init wsX1_init := goodIn_r _ [36, 37, 2, 3, 28, 38, 39, 40, 41, 42, 67, 68, 69, 70] (by decide +kernel) (by decide +kernel)
set_option maxRecDepth 20000 in
theorem gX3_init_X1_init : GoodIn wsX3_init (wsX1_init) := ggX3_init_X1_init
set_option maxRecDepth 20000 in
theorem ggX3_init_X2_init : GoodIn wsX3_init wsX2_init := goodIn_r _ [45, 46, 2, 3, 28, 47, 48, 49, 50, 71, 72, 73, 74] (by decide +kernel) (by decide +kernel)
set_option maxRecDepth 20000 in
theorem gX3_init_X2_init : GoodIn wsX3_init (wsX2_init) := ggX3_init_X2_init
set_option maxRecDepth 20000 in
theorem ggX3_county_X3_isSheet : GoodIn wsX3_county wsX3_isSheet := goodIn_r _ [13] (by decide +kernel) (by decide +kernel)
set_option maxRecDepth 20000 in
theorem gX3_county_X3_isSheet : GoodIn wsX3_county (va_wsS RX3 48 yX3_isSheet wsX3_isSheet) := goodIn_app (goodIn_of _ (by decide +kernel)) ggX3_county_X3_isSheet
set_option maxRecDepth 20000 in
theorem ggX3_county_X3_isLane : GoodIn wsX3_county wsX3_isLane := goodIn_r _ [16] (by decide +kernel) (by decide +kernel)
set_option maxRecDepth 20000 in
theorem gX3_county_X3_isLane : GoodIn wsX3_county (va_wsS RX3 52 yX3_isLane wsX3_isLane) := goodIn_app (goodIn_of _ (by decide +kernel)) ggX3_county_X3_isLane
set_option maxRecDepth 20000 in
theorem ggX3_county_X2_faultAs : GoodIn wsX3_county wsX2_faultAs := goodIn_r _ [21, 22, 23, 99, 100, 101, 102] (by decide +kernel) (by decide +kernel)
set_option maxRecDepth 20000 in
theorem gX3_county_X2_faultAs : GoodIn wsX3_county (wsV RX3 55 RX2 yX2_faultAs wsX2_faultAs) := goodIn_app (goodIn_of _ (by decide +kernel)) ggX3_county_X2_faultAs
set_option maxRecDepth 20000 in
theorem ggX3_county_X2_spans : GoodIn wsX3_county wsX2_spans := goodIn_r _ [27, 28, 99, 100, 101, 102] (by decide +kernel) (by decide +kernel)
set_option maxRecDepth 20000 in
theorem gX3_county_X2_spans : GoodIn wsX3_county (wsV RX3 59 RX2 yX2_spans wsX2_spans) := goodIn_app (goodIn_of _ (by decide +kernel)) ggX3_county_X2_spans
set_option maxRecDepth 20000 in
theorem ggX3_county_X3_failed : GoodIn wsX3_county wsX3_failed := goodIn_r _ [32, 1, 79, 80, 81, 82, 83, 84, 85, 86] (by decide +kernel) (by decide +kernel)
set_option maxRecDepth 20000 in
theorem gX3_county_X3_failed : GoodIn wsX3_county (wsV RX3 63 RX3 yX3_failed wsX3_failed) := goodIn_app (goodIn_of _ (by decide +kernel)) ggX3_county_X3_failed
set_option maxRecDepth 20000 in
theorem ggX3_county_X3_firstFaultOfText : GoodIn wsX3_county wsX3_firstFaultOfText := goodIn_r _ [36, 4, 37, 38, 39, 40, 41, 42, 43, 44, 45, 46, 47, 48, 49, 50, 51, 12, 52, 53, 54, 55, 56, 57, 58, 59, 60, 61, 62, 63, 64, 65, 66, 67, 68, 69, 70, 79, 80, 81, 82, 83, 84, 85, 86, 99, 100, 101, 102, 91, 92, 93, 94, 95, 96, 97, 98] (by decide +kernel) (by decide +kernel)
set_option maxRecDepth 20000 in
theorem gX3_county_X3_firstFaultOfText : GoodIn wsX3_county (wsV RX3 66 RX3 yX3_firstFaultOfText wsX3_firstFaultOfText) := goodIn_app (goodIn_of _ (by decide +kernel)) ggX3_county_X3_firstFaultOfText
set_option maxRecDepth 20000 in
theorem ggX3_county_X0_become : GoodIn wsX3_county wsX0_become := goodIn_r _ [74, 43, 44, 45, 50, 75, 76, 77, 78, 61, 62, 63, 91, 92, 93, 94, 95, 96, 97, 98] (by decide +kernel) (by decide +kernel)
set_option maxRecDepth 20000 in
theorem gX3_county_X0_become : GoodIn wsX3_county (wsV RX3 70 RX0 yX0_become wsX0_become) := goodIn_app (goodIn_of _ (by decide +kernel)) ggX3_county_X0_become
set_option maxRecDepth 20000 in
theorem ggX3_ofGoer_X3_isGoer : GoodIn wsX3_ofGoer wsX3_isGoer := goodIn_r _ [9, 1, 10, 20, 21, 22, 23, 24, 25, 26, 27, 28, 29, 30, 31, 32, 33, 34, 35] (by decide +kernel) (by decide +kernel)
set_option maxRecDepth 20000 in
theorem gX3_ofGoer_X3_isGoer : GoodIn wsX3_ofGoer (wsV RX3 80 RX3 yX3_isGoer wsX3_isGoer) := goodIn_app (goodIn_of _ (by decide +kernel)) ggX3_ofGoer_X3_isGoer
set_option maxRecDepth 20000 in
theorem ggX3_ofGoer_X0_thickOf : GoodIn wsX3_ofGoer wsX0_thickOf := goodIn_r _ [15, 16, 17, 18, 8, 19, 28, 29, 30, 31, 32, 33, 34, 35] (by decide +kernel) (by decide +kernel)
set_option maxRecDepth 20000 in
theorem gX3_ofGoer_X0_thickOf : GoodIn wsX3_ofGoer (wsV RX3 90 RX0 yX0_thickOf wsX0_thickOf) := goodIn_app (goodIn_of _ (by decide +kernel)) ggX3_ofGoer_X0_thickOf
set_option maxRecDepth 20000 in
theorem ggX3_hole_X3_areTwoFields : GoodIn wsX3_hole wsX3_areTwoFields := goodIn_r _ [8, 9, 10, 11, 7, 12, 1, 13, 30, 31, 32, 33, 34, 35, 36, 37, 38, 39, 40, 41, 42, 43, 44, 45] (by decide +kernel) (by decide +kernel)
set_option maxRecDepth 20000 in
theorem gX3_hole_X3_areTwoFields : GoodIn wsX3_hole (wsV RX3 96 RX3 yX3_areTwoFields wsX3_areTwoFields) := goodIn_app (goodIn_of _ (by decide +kernel)) ggX3_hole_X3_areTwoFields
set_option maxRecDepth 20000 in
theorem ggX3_hole_X0_hedgeOf : GoodIn wsX3_hole wsX0_hedgeOf := goodIn_r _ [18, 19, 20, 21, 22, 23, 24, 25, 26, 38, 39, 40, 41, 42, 43, 44, 45] (by decide +kernel) (by decide +kernel)
set_option maxRecDepth 20000 in
theorem gX3_hole_X0_hedgeOf : GoodIn wsX3_hole (wsV RX3 99 RX0 yX0_hedgeOf wsX0_hedgeOf) := goodIn_app (goodIn_of _ (by decide +kernel)) ggX3_hole_X0_hedgeOf
set_option maxRecDepth 20000 in
theorem ggX3_hole_X3_isIn : GoodIn wsX3_hole wsX3_isIn := goodIn_r _ [29] (by decide +kernel) (by decide +kernel)
set_option maxRecDepth 20000 in
theorem gX3_hole_X3_isIn : GoodIn wsX3_hole (va_wsS RX3 109 yX3_isIn wsX3_isIn) := goodIn_app (goodIn_of _ (by decide +kernel)) ggX3_hole_X3_isIn
set_option maxRecDepth 20000 in
theorem ggX3_hoop_X3_areTwoFields : GoodIn wsX3_hoop wsX3_areTwoFields := goodIn_r _ [8, 9, 10, 11, 7, 12, 1, 13, 27, 28, 29, 30, 31, 32, 33, 34, 35, 36, 37, 38, 39, 40, 41, 42] (by decide +kernel) (by decide +kernel)
set_option maxRecDepth 20000 in
theorem gX3_hoop_X3_areTwoFields : GoodIn wsX3_hoop (wsV RX3 96 RX3 yX3_areTwoFields wsX3_areTwoFields) := goodIn_app (goodIn_of _ (by decide +kernel)) ggX3_hoop_X3_areTwoFields
set_option maxRecDepth 20000 in
theorem ggX3_hoop_X0_hedgeOf : GoodIn wsX3_hoop wsX0_hedgeOf := goodIn_r _ [18, 19, 20, 21, 22, 23, 24, 25, 26, 35, 36, 37, 38, 39, 40, 41, 42] (by decide +kernel) (by decide +kernel)
set_option maxRecDepth 20000 in
theorem gX3_hoop_X0_hedgeOf : GoodIn wsX3_hoop (wsV RX3 99 RX0 yX0_hedgeOf wsX0_hedgeOf) := goodIn_app (goodIn_of _ (by decide +kernel)) ggX3_hoop_X0_hedgeOf
set_option maxRecDepth 20000 in
theorem ggX3_fatten_X3_isGoer : GoodIn wsX3_fatten wsX3_isGoer := goodIn_r _ [7, 1, 8, 9, 10, 11, 12, 13, 14, 15, 16, 17, 18, 19, 20, 21, 22, 23, 24] (by decide +kernel) (by decide +kernel)
set_option maxRecDepth 20000 in
theorem gX3_fatten_X3_isGoer : GoodIn wsX3_fatten (wsV RX3 80 RX3 yX3_isGoer wsX3_isGoer) := goodIn_app (goodIn_of _ (by decide +kernel)) ggX3_fatten_X3_isGoer
set_option maxRecDepth 20000 in
theorem ggX3_go_X3_isGoer : GoodIn wsX3_go wsX3_isGoer := goodIn_r _ [9, 1, 10, 56, 57, 58, 59, 60, 61, 62, 63, 64, 65, 66, 67, 68, 69, 70, 71] (by decide +kernel) (by decide +kernel)
set_option maxRecDepth 20000 in
theorem gX3_go_X3_isGoer : GoodIn wsX3_go (wsV RX3 80 RX3 yX3_isGoer wsX3_isGoer) := goodIn_app (goodIn_of _ (by decide +kernel)) ggX3_go_X3_isGoer
set_option maxRecDepth 20000 in
theorem ggX3_go_X3_isField : GoodIn wsX3_go wsX3_isField := goodIn_r _ [14, 1, 15, 56, 57, 58, 59, 60, 61, 62, 63, 64, 65, 66, 67, 68, 69, 70, 71] (by decide +kernel) (by decide +kernel)
set_option maxRecDepth 20000 in
theorem gX3_go_X3_isField : GoodIn wsX3_go (wsV RX3 112 RX3 yX3_isField wsX3_isField) := goodIn_app (goodIn_of _ (by decide +kernel)) ggX3_go_X3_isField
set_option maxRecDepth 20000 in
theorem ggX3_go_X0_canMove : GoodIn wsX3_go wsX0_canMove := goodIn_r _ [20, 21, 22, 23, 24, 19, 25, 26, 27, 28, 8, 29, 30, 31, 32, 33, 34, 35, 36, 37, 38, 39, 40, 41, 42, 43, 44, 45, 46, 47, 48, 64, 65, 66, 67, 68, 69, 70, 71] (by decide +kernel) (by decide +kernel)
set_option maxRecDepth 20000 in
theorem gX3_go_X0_canMove : GoodIn wsX3_go (wsV RX3 115 RX0 yX0_canMove wsX0_canMove) := goodIn_app (goodIn_of _ (by decide +kernel)) ggX3_go_X0_canMove
set_option maxRecDepth 20000 in
theorem ggX3_go_X0_hedgeOf : GoodIn wsX3_go wsX0_hedgeOf := goodIn_r _ [38, 39, 40, 41, 42, 43, 44, 45, 46, 64, 65, 66, 67, 68, 69, 70, 71] (by decide +kernel) (by decide +kernel)
set_option maxRecDepth 20000 in
theorem gX3_go_X0_hedgeOf : GoodIn wsX3_go (wsV RX3 99 RX0 yX0_hedgeOf wsX0_hedgeOf) := goodIn_app (goodIn_of _ (by decide +kernel)) ggX3_go_X0_hedgeOf
set_option maxRecDepth 20000 in
theorem ggX3_go_X0_thickOf : GoodIn wsX3_go wsX0_thickOf := goodIn_r _ [25, 26, 27, 28, 8, 29, 64, 65, 66, 67, 68, 69, 70, 71] (by decide +kernel) (by decide +kernel)
set_option maxRecDepth 20000 in
theorem gX3_go_X0_thickOf : GoodIn wsX3_go (wsV RX3 90 RX0 yX0_thickOf wsX0_thickOf) := goodIn_app (goodIn_of _ (by decide +kernel)) ggX3_go_X0_thickOf
set_option maxRecDepth 20000 in
theorem ggX3_go_X0_move : GoodIn wsX3_go wsX0_move := goodIn_r _ [54, 55, 21, 35, 36, 37, 19, 38, 39, 40, 41, 42, 43, 44, 45, 46, 64, 65, 66, 67, 68, 69, 70, 71] (by decide +kernel) (by decide +kernel)
set_option maxRecDepth 20000 in
theorem gX3_go_X0_move : GoodIn wsX3_go (wsV RX3 118 RX0 yX0_move wsX0_move) := goodIn_app (goodIn_of _ (by decide +kernel)) ggX3_go_X0_move
set_option maxRecDepth 20000 in
theorem ggX3_years_X3_hasCounty : GoodIn wsX3_years wsX3_hasCounty := goodIn_r _ [7, 1, 8, 34, 35, 36, 37, 38, 39, 40, 41, 42, 43, 44, 45, 46, 47, 48, 49] (by decide +kernel) (by decide +kernel)
set_option maxRecDepth 20000 in
theorem gX3_years_X3_hasCounty : GoodIn wsX3_years (wsV RX3 122 RX3 yX3_hasCounty wsX3_hasCounty) := goodIn_app (goodIn_of _ (by decide +kernel)) ggX3_years_X3_hasCounty
set_option maxRecDepth 20000 in
theorem ggX3_years_X0_age : GoodIn wsX3_years wsX0_age := goodIn_r _ [13, 14, 15, 16, 17, 18, 19, 20, 21, 22, 23, 24, 25, 12, 26, 27, 28, 6, 29, 42, 43, 44, 45, 46, 47, 48, 49] (by decide +kernel) (by decide +kernel)
set_option maxRecDepth 20000 in
theorem gX3_years_X0_age : GoodIn wsX3_years (wsV RX3 126 RX0 yX0_age wsX0_age) := goodIn_app (goodIn_of _ (by decide +kernel)) ggX3_years_X0_age
set_option maxRecDepth 20000 in
theorem ggX3_years_X0_openHoles : GoodIn wsX3_years wsX0_openHoles := goodIn_r _ [33, 14, 23, 24, 25, 12, 26, 27, 42, 43, 44, 45, 46, 47, 48, 49] (by decide +kernel) (by decide +kernel)
set_option maxRecDepth 20000 in
theorem gX3_years_X0_openHoles : GoodIn wsX3_years (wsV RX3 130 RX0 yX0_openHoles wsX0_openHoles) := goodIn_app (goodIn_of _ (by decide +kernel)) ggX3_years_X0_openHoles
set_option maxRecDepth 20000 in
theorem ggX3_stop_X3_areTwoFields : GoodIn wsX3_stop wsX3_areTwoFields := goodIn_r _ [7, 8, 9, 10, 6, 11, 1, 12, 35, 36, 37, 38, 39, 40, 41, 42, 43, 44, 45, 46, 47, 48, 49, 50] (by decide +kernel) (by decide +kernel)
set_option maxRecDepth 20000 in
theorem gX3_stop_X3_areTwoFields : GoodIn wsX3_stop (wsV RX3 96 RX3 yX3_areTwoFields wsX3_areTwoFields) := goodIn_app (goodIn_of _ (by decide +kernel)) ggX3_stop_X3_areTwoFields
set_option maxRecDepth 20000 in
theorem ggX3_stop_X0_hedgeOf : GoodIn wsX3_stop wsX0_hedgeOf := goodIn_r _ [17, 18, 19, 20, 21, 22, 23, 24, 25, 43, 44, 45, 46, 47, 48, 49, 50] (by decide +kernel) (by decide +kernel)
set_option maxRecDepth 20000 in
theorem gX3_stop_X0_hedgeOf : GoodIn wsX3_stop (wsV RX3 99 RX0 yX0_hedgeOf wsX0_hedgeOf) := goodIn_app (goodIn_of _ (by decide +kernel)) ggX3_stop_X0_hedgeOf
set_option maxRecDepth 20000 in
theorem ggX3_stop_X0_stopUp : GoodIn wsX3_stop wsX0_stopUp := goodIn_r _ [29, 30, 31, 32, 33, 16, 34, 25, 43, 44, 45, 46, 47, 48, 49, 50] (by decide +kernel) (by decide +kernel)
set_option maxRecDepth 20000 in
theorem gX3_stop_X0_stopUp : GoodIn wsX3_stop (wsV RX3 134 RX0 yX0_stopUp wsX0_stopUp) := goodIn_app (goodIn_of _ (by decide +kernel)) ggX3_stop_X0_stopUp
set_option maxRecDepth 20000 in
theorem ggX3_season_X3_isSheet : GoodIn wsX3_season wsX3_isSheet := goodIn_r _ [6] (by decide +kernel) (by decide +kernel)
set_option maxRecDepth 20000 in
theorem gX3_season_X3_isSheet : GoodIn wsX3_season (va_wsS RX3 48 yX3_isSheet wsX3_isSheet) := goodIn_app (goodIn_of _ (by decide +kernel)) ggX3_season_X3_isSheet
set_option maxRecDepth 20000 in
theorem ggX3_season_X3_isLane : GoodIn wsX3_season wsX3_isLane := goodIn_r _ [9] (by decide +kernel) (by decide +kernel)
set_option maxRecDepth 20000 in
theorem gX3_season_X3_isLane : GoodIn wsX3_season (va_wsS RX3 52 yX3_isLane wsX3_isLane) := goodIn_app (goodIn_of _ (by decide +kernel)) ggX3_season_X3_isLane
set_option maxRecDepth 20000 in
theorem ggX3_season_X3_isAskedOfSeason : GoodIn wsX3_season wsX3_isAskedOfSeason := goodIn_r _ [12] (by decide +kernel) (by decide +kernel)
set_option maxRecDepth 20000 in
theorem gX3_season_X3_isAskedOfSeason : GoodIn wsX3_season (va_wsS RX3 137 yX3_isAskedOfSeason wsX3_isAskedOfSeason) := goodIn_app (goodIn_of _ (by decide +kernel)) ggX3_season_X3_isAskedOfSeason
set_option maxRecDepth 20000 in
theorem ggX3_season_X2_faultAs : GoodIn wsX3_season wsX2_faultAs := goodIn_r _ [17, 18, 19, 140, 141, 142, 143] (by decide +kernel) (by decide +kernel)
set_option maxRecDepth 20000 in
theorem gX3_season_X2_faultAs : GoodIn wsX3_season (wsV RX3 55 RX2 yX2_faultAs wsX2_faultAs) := goodIn_app (goodIn_of _ (by decide +kernel)) ggX3_season_X2_faultAs
set_option maxRecDepth 20000 in
theorem ggX3_season_X2_spans : GoodIn wsX3_season wsX2_spans := goodIn_r _ [23, 24, 140, 141, 142, 143] (by decide +kernel) (by decide +kernel)
set_option maxRecDepth 20000 in
theorem gX3_season_X2_spans : GoodIn wsX3_season (wsV RX3 59 RX2 yX2_spans wsX2_spans) := goodIn_app (goodIn_of _ (by decide +kernel)) ggX3_season_X2_spans
set_option maxRecDepth 20000 in
theorem ggX3_season_X3_failed : GoodIn wsX3_season wsX3_failed := goodIn_r _ [28, 1, 132, 133, 134, 135, 136, 137, 138, 139] (by decide +kernel) (by decide +kernel)
set_option maxRecDepth 20000 in
theorem gX3_season_X3_failed : GoodIn wsX3_season (wsV RX3 63 RX3 yX3_failed wsX3_failed) := goodIn_app (goodIn_of _ (by decide +kernel)) ggX3_season_X3_failed
set_option maxRecDepth 20000 in
theorem ggX3_season_X3_hasCounty : GoodIn wsX3_season wsX3_hasCounty := goodIn_r _ [32, 33, 34, 132, 133, 134, 135, 136, 137, 138, 139, 144, 145, 146, 147, 148, 149, 150, 151] (by decide +kernel) (by decide +kernel)
set_option maxRecDepth 20000 in
theorem gX3_season_X3_hasCounty : GoodIn wsX3_season (wsV RX3 122 RX3 yX3_hasCounty wsX3_hasCounty) := goodIn_app (goodIn_of _ (by decide +kernel)) ggX3_season_X3_hasCounty
set_option maxRecDepth 20000 in
theorem ggX3_season_X3_refusalOfPairs : GoodIn wsX3_season wsX3_refusalOfPairs := goodIn_r _ [38, 39, 40, 41, 42, 5, 43, 33, 44, 140, 141, 142, 143, 132, 133, 134, 135, 136, 137, 138, 139, 144, 145, 146, 147, 148, 149, 150, 151] (by decide +kernel) (by decide +kernel)
set_option maxRecDepth 20000 in
theorem gX3_season_X3_refusalOfPairs : GoodIn wsX3_season (wsV RX3 140 RX3 yX3_refusalOfPairs wsX3_refusalOfPairs) := goodIn_app (goodIn_of _ (by decide +kernel)) ggX3_season_X3_refusalOfPairs
set_option maxRecDepth 20000 in
theorem ggX3_season_X3_firstWrongOfSeason : GoodIn wsX3_season wsX3_firstWrongOfSeason := goodIn_r _ [48, 49, 33, 39, 50, 51, 52, 53, 54, 55, 56, 57, 58, 59, 60, 61, 62, 63, 64, 65, 66, 67, 68, 69, 70, 71, 72, 73, 74, 75, 76, 77, 78, 79, 80, 81, 82, 83, 84, 85, 5, 86, 87, 88, 89, 90, 91, 92, 93, 94, 95, 96, 97, 98, 99, 100, 101, 102, 103, 104, 105, 106, 107, 108, 109, 110, 111, 112, 113, 114, 132, 133, 134, 135, 136, 137, 138, 139, 140, 141, 142, 143, 144, 145, 146, 147, 148, 149, 150, 151] (by decide +kernel) (by decide +kernel)
set_option maxRecDepth 20000 in
theorem gX3_season_X3_firstWrongOfSeason : GoodIn wsX3_season (wsV RX3 143 RX3 yX3_firstWrongOfSeason wsX3_firstWrongOfSeason) := goodIn_app (goodIn_of _ (by decide +kernel)) ggX3_season_X3_firstWrongOfSeason
set_option maxRecDepth 20000 in
theorem ggX3_season_X3_goingsTold : GoodIn wsX3_season wsX3_goingsTold := goodIn_r _ [117, 39, 140, 141, 142, 143] (by decide +kernel) (by decide +kernel)
set_option maxRecDepth 20000 in
theorem gX3_season_X3_goingsTold : GoodIn wsX3_season (va_wsS RX3 146 yX3_goingsTold wsX3_goingsTold) := goodIn_app (goodIn_of _ (by decide +kernel)) ggX3_season_X3_goingsTold
set_option maxRecDepth 20000 in
theorem ggX3_season_X3_ofTrial : GoodIn wsX3_season wsX3_ofTrial := goodIn_r _ [121, 49, 122, 123, 124, 125, 126, 53, 127, 58, 81, 82, 83, 84, 55, 128, 129, 130, 131, 56, 65, 40, 41, 42, 5, 43, 33, 44, 132, 133, 134, 135, 136, 137, 138, 139, 144, 145, 146, 147, 148, 149, 150, 151] (by decide +kernel) (by decide +kernel)
set_option maxRecDepth 20000 in
theorem gX3_season_X3_ofTrial : GoodIn wsX3_season (wsV RX3 149 RX3 yX3_ofTrial wsX3_ofTrial) := goodIn_app (goodIn_of _ (by decide +kernel)) ggX3_season_X3_ofTrial
set_option maxRecDepth 20000 in
theorem ggX3_widest_X3_areTwoFields : GoodIn wsX3_widest wsX3_areTwoFields := goodIn_r _ [6, 7, 8, 9, 5, 10, 1, 11, 39, 40, 41, 42, 43, 44, 45, 46, 47, 48, 49, 50, 51, 52, 53, 54] (by decide +kernel) (by decide +kernel)
set_option maxRecDepth 20000 in
theorem gX3_widest_X3_areTwoFields : GoodIn wsX3_widest (wsV RX3 96 RX3 yX3_areTwoFields wsX3_areTwoFields) := goodIn_app (goodIn_of _ (by decide +kernel)) ggX3_widest_X3_areTwoFields
set_option maxRecDepth 20000 in
theorem ggX3_widest_X0_reachOf : GoodIn wsX3_widest wsX0_reachOf := goodIn_r _ [16, 17, 18, 5, 19, 20, 21, 22, 15, 23, 24, 25, 26, 27, 28, 29, 30, 31, 32, 33, 34, 35, 36, 37, 47, 48, 49, 50, 51, 52, 53, 54] (by decide +kernel) (by decide +kernel)
set_option maxRecDepth 20000 in
theorem gX3_widest_X0_reachOf : GoodIn wsX3_widest (wsV RX3 152 RX0 yX0_reachOf wsX0_reachOf) := goodIn_app (goodIn_of _ (by decide +kernel)) ggX3_widest_X0_reachOf
set_option maxRecDepth 20000 in
theorem ggX3_widest_X3_isIn : GoodIn wsX3_widest wsX3_isIn := goodIn_r _ [19] (by decide +kernel) (by decide +kernel)
set_option maxRecDepth 20000 in
theorem gX3_widest_X3_isIn : GoodIn wsX3_widest (va_wsS RX3 109 yX3_isIn wsX3_isIn) := goodIn_app (goodIn_of _ (by decide +kernel)) ggX3_widest_X3_isIn
set_option maxRecDepth 20000 in
theorem ggX3_way_X3_isGoer : GoodIn wsX3_way wsX3_isGoer := goodIn_r _ [8, 1, 9, 58, 59, 60, 61, 62, 63, 64, 65, 66, 67, 68, 69, 70, 71, 72, 73] (by decide +kernel) (by decide +kernel)
set_option maxRecDepth 20000 in
theorem gX3_way_X3_isGoer : GoodIn wsX3_way (wsV RX3 80 RX3 yX3_isGoer wsX3_isGoer) := goodIn_app (goodIn_of _ (by decide +kernel)) ggX3_way_X3_isGoer
set_option maxRecDepth 20000 in
theorem ggX3_way_X3_isField : GoodIn wsX3_way wsX3_isField := goodIn_r _ [13, 1, 14, 58, 59, 60, 61, 62, 63, 64, 65, 66, 67, 68, 69, 70, 71, 72, 73] (by decide +kernel) (by decide +kernel)
set_option maxRecDepth 20000 in
theorem gX3_way_X3_isField : GoodIn wsX3_way (wsV RX3 112 RX3 yX3_isField wsX3_isField) := goodIn_app (goodIn_of _ (by decide +kernel)) ggX3_way_X3_isField
set_option maxRecDepth 20000 in
theorem ggX3_way_X0_thickOf : GoodIn wsX3_way wsX0_thickOf := goodIn_r _ [19, 20, 21, 22, 7, 23, 66, 67, 68, 69, 70, 71, 72, 73] (by decide +kernel) (by decide +kernel)
set_option maxRecDepth 20000 in
theorem gX3_way_X0_thickOf : GoodIn wsX3_way (wsV RX3 90 RX0 yX0_thickOf wsX0_thickOf) := goodIn_app (goodIn_of _ (by decide +kernel)) ggX3_way_X0_thickOf
set_option maxRecDepth 20000 in
theorem ggX3_way_X0_measureTo : GoodIn wsX3_way wsX0_measureTo := goodIn_r _ [27, 28, 29, 30, 31, 32, 33, 34, 35, 36, 37, 18, 38, 39, 40, 41, 42, 43, 44, 45, 46, 7, 47, 66, 67, 68, 69, 70, 71, 72, 73] (by decide +kernel) (by decide +kernel)
set_option maxRecDepth 20000 in
theorem gX3_way_X0_measureTo : GoodIn wsX3_way (wsV RX3 155 RX0 yX0_measureTo wsX0_measureTo) := goodIn_app (goodIn_of _ (by decide +kernel)) ggX3_way_X0_measureTo
set_option maxRecDepth 20000 in
theorem ggX3_way_X0_fieldOnWay : GoodIn wsX3_way wsX0_fieldOnWay := goodIn_r _ [51, 52, 53, 16, 17, 18, 19, 20, 21, 22, 7, 23, 54, 55, 56, 57, 28, 29, 42, 43, 44, 45, 30, 35, 36, 37, 38, 31, 32, 33, 34, 39, 40, 41, 46, 47, 66, 67, 68, 69, 70, 71, 72, 73] (by decide +kernel) (by decide +kernel)
set_option maxRecDepth 20000 in
theorem gX3_way_X0_fieldOnWay : GoodIn wsX3_way (wsV RX3 162 RX0 yX0_fieldOnWay wsX0_fieldOnWay) := goodIn_app (goodIn_of _ (by decide +kernel)) ggX3_way_X0_fieldOnWay
set_option maxRecDepth 20000 in
theorem ggX3_market_X3_hasCounty : GoodIn wsX3_market wsX3_hasCounty := goodIn_r _ [7, 1, 2, 55, 56, 57, 58, 59, 60, 61, 62, 63, 64, 65, 66, 67, 68, 69, 70] (by decide +kernel) (by decide +kernel)
set_option maxRecDepth 20000 in
theorem gX3_market_X3_hasCounty : GoodIn wsX3_market (wsV RX3 122 RX3 yX3_hasCounty wsX3_hasCounty) := goodIn_app (goodIn_of _ (by decide +kernel)) ggX3_market_X3_hasCounty
set_option maxRecDepth 20000 in
theorem ggX3_market_X0_comersTo : GoodIn wsX3_market wsX0_comersTo := goodIn_r _ [12, 13, 14, 15, 16, 17, 11, 18, 19, 20, 21, 6, 22, 23, 24, 25, 26, 27, 28, 29, 30, 31, 32, 33, 34, 35, 36, 37, 38, 39, 40, 41, 42, 43, 44, 45, 46, 47, 63, 64, 65, 66, 67, 68, 69, 70] (by decide +kernel) (by decide +kernel)
set_option maxRecDepth 20000 in
theorem gX3_market_X0_comersTo : GoodIn wsX3_market (wsV RX3 165 RX0 yX0_comersTo wsX0_comersTo) := goodIn_app (goodIn_of _ (by decide +kernel)) ggX3_market_X0_comersTo
set_option maxRecDepth 20000 in
theorem ggX3_market_J6_bitCount_0f7a4 : GoodIn wsX3_market wsJ6_bitCount_0f7a4 := goodIn_r _ [51, 52, 53, 54] (by decide +kernel) (by decide +kernel)
set_option maxRecDepth 20000 in
theorem gX3_market_J6_bitCount_0f7a4 : GoodIn wsX3_market (va_wsS RX3 171 yJ6_bitCount_0f7a4 wsJ6_bitCount_0f7a4) := goodIn_app (goodIn_of _ (by decide +kernel)) ggX3_market_J6_bitCount_0f7a4
set_option maxRecDepth 20000 in
theorem ggX3_widen_X3_isGoer : GoodIn wsX3_widen wsX3_isGoer := goodIn_r _ [8, 1, 9, 48, 49, 50, 51, 52, 53, 54, 55, 56, 57, 58, 59, 60, 61, 62, 63] (by decide +kernel) (by decide +kernel)
set_option maxRecDepth 20000 in
theorem gX3_widen_X3_isGoer : GoodIn wsX3_widen (wsV RX3 80 RX3 yX3_isGoer wsX3_isGoer) := goodIn_app (goodIn_of _ (by decide +kernel)) ggX3_widen_X3_isGoer
set_option maxRecDepth 20000 in
theorem ggX3_widen_X3_isField : GoodIn wsX3_widen wsX3_isField := goodIn_r _ [13, 1, 14, 48, 49, 50, 51, 52, 53, 54, 55, 56, 57, 58, 59, 60, 61, 62, 63] (by decide +kernel) (by decide +kernel)
set_option maxRecDepth 20000 in
theorem gX3_widen_X3_isField : GoodIn wsX3_widen (wsV RX3 112 RX3 yX3_isField wsX3_isField) := goodIn_app (goodIn_of _ (by decide +kernel)) ggX3_widen_X3_isField
set_option maxRecDepth 20000 in
theorem ggX3_widen_X0_thickOf : GoodIn wsX3_widen wsX0_thickOf := goodIn_r _ [19, 20, 21, 22, 7, 23, 56, 57, 58, 59, 60, 61, 62, 63] (by decide +kernel) (by decide +kernel)
set_option maxRecDepth 20000 in
theorem gX3_widen_X0_thickOf : GoodIn wsX3_widen (wsV RX3 90 RX0 yX0_thickOf wsX0_thickOf) := goodIn_app (goodIn_of _ (by decide +kernel)) ggX3_widen_X0_thickOf
set_option maxRecDepth 20000 in
theorem ggX3_widen_X0_measureTo : GoodIn wsX3_widen wsX0_measureTo := goodIn_r _ [27, 28, 29, 30, 31, 32, 33, 34, 35, 36, 37, 18, 38, 39, 40, 41, 42, 43, 44, 45, 46, 7, 47, 56, 57, 58, 59, 60, 61, 62, 63] (by decide +kernel) (by decide +kernel)
set_option maxRecDepth 20000 in
theorem gX3_widen_X0_measureTo : GoodIn wsX3_widen (wsV RX3 155 RX0 yX0_measureTo wsX0_measureTo) := goodIn_app (goodIn_of _ (by decide +kernel)) ggX3_widen_X0_measureTo
set_option maxRecDepth 20000 in
theorem ggX3_keep_X3_isGoer : GoodIn wsX3_keep wsX3_isGoer := goodIn_r _ [7, 1, 8, 63, 64, 65, 66, 67, 68, 69, 70, 71, 72, 73, 74, 75, 76, 77, 78] (by decide +kernel) (by decide +kernel)
set_option maxRecDepth 20000 in
theorem gX3_keep_X3_isGoer : GoodIn wsX3_keep (wsV RX3 80 RX3 yX3_isGoer wsX3_isGoer) := goodIn_app (goodIn_of _ (by decide +kernel)) ggX3_keep_X3_isGoer
set_option maxRecDepth 20000 in
theorem ggX3_keep_X3_isField : GoodIn wsX3_keep wsX3_isField := goodIn_r _ [12, 1, 13, 63, 64, 65, 66, 67, 68, 69, 70, 71, 72, 73, 74, 75, 76, 77, 78] (by decide +kernel) (by decide +kernel)
set_option maxRecDepth 20000 in
theorem gX3_keep_X3_isField : GoodIn wsX3_keep (wsV RX3 112 RX3 yX3_isField wsX3_isField) := goodIn_app (goodIn_of _ (by decide +kernel)) ggX3_keep_X3_isField
set_option maxRecDepth 20000 in
theorem ggX3_keep_X0_fewestToShut : GoodIn wsX3_keep wsX0_fewestToShut := goodIn_r _ [18, 19, 20, 21, 6, 22, 23, 24, 25, 17, 26, 27, 28, 29, 30, 31, 32, 33, 34, 35, 36, 37, 38, 39, 40, 41, 42, 43, 44, 45, 46, 47, 48, 49, 50, 51, 52, 53, 54, 55, 56, 57, 58, 59, 60, 61, 62, 71, 72, 73, 74, 75, 76, 77, 78] (by decide +kernel) (by decide +kernel)
set_option maxRecDepth 20000 in
theorem gX3_keep_X0_fewestToShut : GoodIn wsX3_keep (wsV RX3 176 RX0 yX0_fewestToShut wsX0_fewestToShut) := goodIn_app (goodIn_of _ (by decide +kernel)) ggX3_keep_X0_fewestToShut
set_option maxRecDepth 20000 in
theorem ggX3_reading_X3_isGoer : GoodIn wsX3_reading wsX3_isGoer := goodIn_r _ [8, 3, 9, 41, 42, 43, 44, 45, 46, 47, 48, 53, 54, 55, 56, 57, 58, 59, 60] (by decide +kernel) (by decide +kernel)
set_option maxRecDepth 20000 in
theorem gX3_reading_X3_isGoer : GoodIn wsX3_reading (wsV RX3 80 RX3 yX3_isGoer wsX3_isGoer) := goodIn_app (goodIn_of _ (by decide +kernel)) ggX3_reading_X3_isGoer
set_option maxRecDepth 20000 in
theorem ggX3_reading_X3_areTwoFields : GoodIn wsX3_reading wsX3_areTwoFields := goodIn_r _ [13, 14, 15, 16, 7, 17, 3, 18, 41, 42, 43, 44, 45, 46, 47, 48, 53, 54, 55, 56, 57, 58, 59, 60] (by decide +kernel) (by decide +kernel)
set_option maxRecDepth 20000 in
theorem gX3_reading_X3_areTwoFields : GoodIn wsX3_reading (wsV RX3 96 RX3 yX3_areTwoFields wsX3_areTwoFields) := goodIn_app (goodIn_of _ (by decide +kernel)) ggX3_reading_X3_areTwoFields
set_option maxRecDepth 20000 in
theorem ggX3_reading_X0_hedgeOf : GoodIn wsX3_reading wsX0_hedgeOf := goodIn_r _ [23, 24, 25, 26, 27, 28, 29, 30, 31, 53, 54, 55, 56, 57, 58, 59, 60] (by decide +kernel) (by decide +kernel)
set_option maxRecDepth 20000 in
theorem gX3_reading_X0_hedgeOf : GoodIn wsX3_reading (wsV RX3 99 RX0 yX0_hedgeOf wsX0_hedgeOf) := goodIn_app (goodIn_of _ (by decide +kernel)) ggX3_reading_X0_hedgeOf
set_option maxRecDepth 20000 in
theorem ggX3_reading_X1_write : GoodIn wsX3_reading wsX1_write := goodIn_r _ [36, 37, 38, 39, 40, 49, 50, 51, 52] (by decide +kernel) (by decide +kernel)
set_option maxRecDepth 20000 in
theorem gX3_reading_X1_write : GoodIn wsX3_reading (wsV RX3 179 RX1 yX1_write wsX1_write) := goodIn_app (goodIn_of _ (by decide +kernel)) ggX3_reading_X1_write
set_option maxRecDepth 20000 in
theorem ggX3_girths_X3_isGoer : GoodIn wsX3_girths wsX3_isGoer := goodIn_r _ [9, 2, 10, 45, 46, 47, 48, 49, 50, 51, 52, 53, 54, 55, 56, 57, 58, 59, 60] (by decide +kernel) (by decide +kernel)
set_option maxRecDepth 20000 in
theorem gX3_girths_X3_isGoer : GoodIn wsX3_girths (wsV RX3 80 RX3 yX3_isGoer wsX3_isGoer) := goodIn_app (goodIn_of _ (by decide +kernel)) ggX3_girths_X3_isGoer
set_option maxRecDepth 20000 in
theorem ggX3_girths_X0_become : GoodIn wsX3_girths wsX0_become := goodIn_r _ [15, 16, 17, 18, 19, 20, 21, 22, 23, 24, 25, 26, 53, 54, 55, 56, 57, 58, 59, 60] (by decide +kernel) (by decide +kernel)
set_option maxRecDepth 20000 in
theorem gX3_girths_X0_become : GoodIn wsX3_girths (wsV RX3 70 RX0 yX0_become wsX0_become) := goodIn_app (goodIn_of _ (by decide +kernel)) ggX3_girths_X0_become
set_option maxRecDepth 20000 in
theorem ggX3_girths_X1_agrees : GoodIn wsX3_girths wsX1_agrees := goodIn_r _ [31, 32, 33, 34, 35, 36, 37, 38, 39, 14, 40, 24, 25, 41, 8, 42, 43, 44, 61, 62, 63, 64, 53, 54, 55, 56, 57, 58, 59, 60] (by decide +kernel) (by decide +kernel)
set_option maxRecDepth 20000 in
theorem gX3_girths_X1_agrees : GoodIn wsX3_girths (wsV RX3 183 RX1 yX1_agrees wsX1_agrees) := goodIn_app (goodIn_of _ (by decide +kernel)) ggX3_girths_X1_agrees
set_option maxRecDepth 20000 in
theorem ggX3_kinds_X3_isGoer : GoodIn wsX3_kinds wsX3_isGoer := goodIn_r _ [9, 2, 10, 45, 46, 47, 48, 49, 50, 51, 52, 53, 54, 55, 56, 57, 58, 59, 60] (by decide +kernel) (by decide +kernel)
set_option maxRecDepth 20000 in
theorem gX3_kinds_X3_isGoer : GoodIn wsX3_kinds (wsV RX3 80 RX3 yX3_isGoer wsX3_isGoer) := goodIn_app (goodIn_of _ (by decide +kernel)) ggX3_kinds_X3_isGoer
set_option maxRecDepth 20000 in
theorem ggX3_kinds_X0_become : GoodIn wsX3_kinds wsX0_become := goodIn_r _ [15, 16, 17, 18, 19, 20, 21, 22, 23, 24, 25, 26, 53, 54, 55, 56, 57, 58, 59, 60] (by decide +kernel) (by decide +kernel)
set_option maxRecDepth 20000 in
theorem gX3_kinds_X0_become : GoodIn wsX3_kinds (wsV RX3 70 RX0 yX0_become wsX0_become) := goodIn_app (goodIn_of _ (by decide +kernel)) ggX3_kinds_X0_become
set_option maxRecDepth 20000 in
theorem ggX3_kinds_X1_agrees : GoodIn wsX3_kinds wsX1_agrees := goodIn_r _ [31, 32, 33, 34, 35, 36, 37, 38, 39, 14, 40, 24, 25, 41, 8, 42, 43, 44, 61, 62, 63, 64, 53, 54, 55, 56, 57, 58, 59, 60] (by decide +kernel) (by decide +kernel)
set_option maxRecDepth 20000 in
theorem gX3_kinds_X1_agrees : GoodIn wsX3_kinds (wsV RX3 183 RX1 yX1_agrees wsX1_agrees) := goodIn_app (goodIn_of _ (by decide +kernel)) ggX3_kinds_X1_agrees
set_option maxRecDepth 20000 in
theorem ggX3_holes_X3_areTwoFields : GoodIn wsX3_holes wsX3_areTwoFields := goodIn_r _ [9, 10, 11, 12, 8, 13, 2, 14, 60, 61, 62, 63, 64, 65, 66, 67, 68, 69, 70, 71, 72, 73, 74, 75] (by decide +kernel) (by decide +kernel)
set_option maxRecDepth 20000 in
theorem gX3_holes_X3_areTwoFields : GoodIn wsX3_holes (wsV RX3 96 RX3 yX3_areTwoFields wsX3_areTwoFields) := goodIn_app (goodIn_of _ (by decide +kernel)) ggX3_holes_X3_areTwoFields
set_option maxRecDepth 20000 in
theorem ggX3_holes_X0_become : GoodIn wsX3_holes wsX0_become := goodIn_r _ [19, 20, 21, 22, 23, 24, 25, 26, 27, 28, 29, 30, 68, 69, 70, 71, 72, 73, 74, 75] (by decide +kernel) (by decide +kernel)
set_option maxRecDepth 20000 in
theorem gX3_holes_X0_become : GoodIn wsX3_holes (wsV RX3 70 RX0 yX0_become wsX0_become) := goodIn_app (goodIn_of _ (by decide +kernel)) ggX3_holes_X0_become
set_option maxRecDepth 20000 in
theorem ggX3_holes_X0_hedgeOf : GoodIn wsX3_holes wsX0_hedgeOf := goodIn_r _ [34, 35, 36, 37, 38, 39, 40, 41, 20, 68, 69, 70, 71, 72, 73, 74, 75] (by decide +kernel) (by decide +kernel)
set_option maxRecDepth 20000 in
theorem gX3_holes_X0_hedgeOf : GoodIn wsX3_holes (wsV RX3 99 RX0 yX0_hedgeOf wsX0_hedgeOf) := goodIn_app (goodIn_of _ (by decide +kernel)) ggX3_holes_X0_hedgeOf
set_option maxRecDepth 20000 in
theorem ggX3_holes_X1_agrees : GoodIn wsX3_holes wsX1_agrees := goodIn_r _ [46, 47, 48, 49, 50, 51, 52, 53, 54, 18, 55, 28, 29, 56, 8, 57, 58, 59, 76, 77, 78, 79, 68, 69, 70, 71, 72, 73, 74, 75] (by decide +kernel) (by decide +kernel)
set_option maxRecDepth 20000 in
theorem gX3_holes_X1_agrees : GoodIn wsX3_holes (wsV RX3 183 RX1 yX1_agrees wsX1_agrees) := goodIn_app (goodIn_of _ (by decide +kernel)) ggX3_holes_X1_agrees
set_option maxRecDepth 20000 in
theorem ggX3_odds_X3_isGoer : GoodIn wsX3_odds wsX3_isGoer := goodIn_r _ [9, 2, 10, 49, 50, 51, 52, 53, 54, 55, 56, 57, 58, 59, 60, 61, 62, 63, 64] (by decide +kernel) (by decide +kernel)
set_option maxRecDepth 20000 in
theorem gX3_odds_X3_isGoer : GoodIn wsX3_odds (wsV RX3 80 RX3 yX3_isGoer wsX3_isGoer) := goodIn_app (goodIn_of _ (by decide +kernel)) ggX3_odds_X3_isGoer
set_option maxRecDepth 20000 in
theorem ggX3_odds_X3_isField : GoodIn wsX3_odds wsX3_isField := goodIn_r _ [14, 2, 15, 49, 50, 51, 52, 53, 54, 55, 56, 57, 58, 59, 60, 61, 62, 63, 64] (by decide +kernel) (by decide +kernel)
set_option maxRecDepth 20000 in
theorem gX3_odds_X3_isField : GoodIn wsX3_odds (wsV RX3 112 RX3 yX3_isField wsX3_isField) := goodIn_app (goodIn_of _ (by decide +kernel)) ggX3_odds_X3_isField
set_option maxRecDepth 20000 in
theorem ggX3_odds_X3_thickness : GoodIn wsX3_odds wsX3_thickness := goodIn_r _ [18] (by decide +kernel) (by decide +kernel)
set_option maxRecDepth 20000 in
theorem gX3_odds_X3_thickness : GoodIn wsX3_odds (va_wsS RX3 189 yX3_thickness wsX3_thickness) := goodIn_app (goodIn_of _ (by decide +kernel)) ggX3_odds_X3_thickness
set_option maxRecDepth 20000 in
theorem ggX3_odds_X0_reachOf : GoodIn wsX3_odds wsX0_reachOf := goodIn_r _ [23, 24, 25, 8, 26, 27, 28, 29, 22, 30, 31, 32, 33, 34, 35, 36, 37, 38, 39, 40, 41, 42, 43, 44, 57, 58, 59, 60, 61, 62, 63, 64] (by decide +kernel) (by decide +kernel)
set_option maxRecDepth 20000 in
theorem gX3_odds_X0_reachOf : GoodIn wsX3_odds (wsV RX3 152 RX0 yX0_reachOf wsX0_reachOf) := goodIn_app (goodIn_of _ (by decide +kernel)) ggX3_odds_X0_reachOf
set_option maxRecDepth 20000 in
theorem ggX3_odds_X3_isIn : GoodIn wsX3_odds wsX3_isIn := goodIn_r _ [26] (by decide +kernel) (by decide +kernel)
set_option maxRecDepth 20000 in
theorem gX3_odds_X3_isIn : GoodIn wsX3_odds (va_wsS RX3 109 yX3_isIn wsX3_isIn) := goodIn_app (goodIn_of _ (by decide +kernel)) ggX3_odds_X3_isIn
set_option maxRecDepth 20000 in
theorem ggX3_odds_X3_commonDivisor : GoodIn wsX3_odds wsX3_commonDivisor := goodIn_r _ [48] (by decide +kernel) (by decide +kernel)
set_option maxRecDepth 20000 in
theorem gX3_odds_X3_commonDivisor : GoodIn wsX3_odds (va_wsS RX3 192 yX3_commonDivisor wsX3_commonDivisor) := goodIn_app (goodIn_of _ (by decide +kernel)) ggX3_odds_X3_commonDivisor
set_option maxRecDepth 20000 in
theorem ggX3_sheet_X3_isSheet : GoodIn wsX3_sheet wsX3_isSheet := goodIn_r _ [6] (by decide +kernel) (by decide +kernel)
set_option maxRecDepth 20000 in
theorem gX3_sheet_X3_isSheet : GoodIn wsX3_sheet (va_wsS RX3 48 yX3_isSheet wsX3_isSheet) := goodIn_app (goodIn_of _ (by decide +kernel)) ggX3_sheet_X3_isSheet
set_option maxRecDepth 20000 in
theorem ggX3_sheet_X3_isLane : GoodIn wsX3_sheet wsX3_isLane := goodIn_r _ [9] (by decide +kernel) (by decide +kernel)
set_option maxRecDepth 20000 in
theorem gX3_sheet_X3_isLane : GoodIn wsX3_sheet (va_wsS RX3 52 yX3_isLane wsX3_isLane) := goodIn_app (goodIn_of _ (by decide +kernel)) ggX3_sheet_X3_isLane
set_option maxRecDepth 20000 in
theorem ggX3_sheet_X3_failed : GoodIn wsX3_sheet wsX3_failed := goodIn_r _ [13, 1, 27, 28, 29, 30, 31, 32, 33, 34] (by decide +kernel) (by decide +kernel)
set_option maxRecDepth 20000 in
theorem gX3_sheet_X3_failed : GoodIn wsX3_sheet (wsV RX3 63 RX3 yX3_failed wsX3_failed) := goodIn_app (goodIn_of _ (by decide +kernel)) ggX3_sheet_X3_failed
set_option maxRecDepth 20000 in
theorem ggX3_sheet_X2_begin : GoodIn wsX3_sheet wsX2_begin := goodIn_r _ [18, 19, 20, 21, 22, 23, 24, 25, 26, 35, 36, 37, 38] (by decide +kernel) (by decide +kernel)
set_option maxRecDepth 20000 in
theorem gX3_sheet_X2_begin : GoodIn wsX3_sheet (wsV RX3 195 RX2 yX2_begin wsX2_begin) := goodIn_app (goodIn_of _ (by decide +kernel)) ggX3_sheet_X2_begin
set_option maxRecDepth 20000 in
theorem ggX3_lose_X3_isSheet : GoodIn wsX3_lose wsX3_isSheet := goodIn_r _ [6] (by decide +kernel) (by decide +kernel)
set_option maxRecDepth 20000 in
theorem gX3_lose_X3_isSheet : GoodIn wsX3_lose (va_wsS RX3 48 yX3_isSheet wsX3_isSheet) := goodIn_app (goodIn_of _ (by decide +kernel)) ggX3_lose_X3_isSheet
set_option maxRecDepth 20000 in
theorem ggX3_put_X3_isSheet : GoodIn wsX3_put wsX3_isSheet := goodIn_r _ [9] (by decide +kernel) (by decide +kernel)
set_option maxRecDepth 20000 in
theorem gX3_put_X3_isSheet : GoodIn wsX3_put (va_wsS RX3 48 yX3_isSheet wsX3_isSheet) := goodIn_app (goodIn_of _ (by decide +kernel)) ggX3_put_X3_isSheet
set_option maxRecDepth 20000 in
theorem ggX3_put_X3_failed : GoodIn wsX3_put wsX3_failed := goodIn_r _ [13, 1, 23, 24, 25, 26, 27, 28, 29, 30] (by decide +kernel) (by decide +kernel)
set_option maxRecDepth 20000 in
theorem gX3_put_X3_failed : GoodIn wsX3_put (wsV RX3 63 RX3 yX3_failed wsX3_failed) := goodIn_app (goodIn_of _ (by decide +kernel)) ggX3_put_X3_failed
set_option maxRecDepth 20000 in
theorem ggX3_put_X2_spans : GoodIn wsX3_put wsX2_spans := goodIn_r _ [18, 19, 31, 32, 33, 34] (by decide +kernel) (by decide +kernel)
set_option maxRecDepth 20000 in
theorem gX3_put_X2_spans : GoodIn wsX3_put (wsV RX3 59 RX2 yX2_spans wsX2_spans) := goodIn_app (goodIn_of _ (by decide +kernel)) ggX3_put_X2_spans
set_option maxRecDepth 20000 in
theorem ggX3_put_X3_cutTo : GoodIn wsX3_put wsX3_cutTo := goodIn_r _ [22] (by decide +kernel) (by decide +kernel)
set_option maxRecDepth 20000 in
theorem gX3_put_X3_cutTo : GoodIn wsX3_put (va_wsS RX3 208 yX3_cutTo wsX3_cutTo) := goodIn_app (goodIn_of _ (by decide +kernel)) ggX3_put_X3_cutTo
set_option maxRecDepth 20000 in
theorem ggX3_cell_X3_isSheet : GoodIn wsX3_cell wsX3_isSheet := goodIn_r _ [8] (by decide +kernel) (by decide +kernel)
set_option maxRecDepth 20000 in
theorem gX3_cell_X3_isSheet : GoodIn wsX3_cell (va_wsS RX3 48 yX3_isSheet wsX3_isSheet) := goodIn_app (goodIn_of _ (by decide +kernel)) ggX3_cell_X3_isSheet
set_option maxRecDepth 20000 in
theorem ggX3_cell_X3_isLane : GoodIn wsX3_cell wsX3_isLane := goodIn_r _ [11] (by decide +kernel) (by decide +kernel)
set_option maxRecDepth 20000 in
theorem gX3_cell_X3_isLane : GoodIn wsX3_cell (va_wsS RX3 52 yX3_isLane wsX3_isLane) := goodIn_app (goodIn_of _ (by decide +kernel)) ggX3_cell_X3_isLane
set_option maxRecDepth 20000 in
theorem ggX3_cell_X2_faultAs : GoodIn wsX3_cell wsX2_faultAs := goodIn_r _ [16, 17, 18, 32, 33, 34, 35] (by decide +kernel) (by decide +kernel)
set_option maxRecDepth 20000 in
theorem gX3_cell_X2_faultAs : GoodIn wsX3_cell (wsV RX3 55 RX2 yX2_faultAs wsX2_faultAs) := goodIn_app (goodIn_of _ (by decide +kernel)) ggX3_cell_X2_faultAs
set_option maxRecDepth 20000 in
theorem ggX3_cell_X2_spans : GoodIn wsX3_cell wsX2_spans := goodIn_r _ [22, 23, 32, 33, 34, 35] (by decide +kernel) (by decide +kernel)
set_option maxRecDepth 20000 in
theorem gX3_cell_X2_spans : GoodIn wsX3_cell (wsV RX3 59 RX2 yX2_spans wsX2_spans) := goodIn_app (goodIn_of _ (by decide +kernel)) ggX3_cell_X2_spans
set_option maxRecDepth 20000 in
theorem ggX3_copy_X3_isSheet : GoodIn wsX3_copy wsX3_isSheet := goodIn_r _ [13] (by decide +kernel) (by decide +kernel)
set_option maxRecDepth 20000 in
theorem gX3_copy_X3_isSheet : GoodIn wsX3_copy (va_wsS RX3 48 yX3_isSheet wsX3_isSheet) := goodIn_app (goodIn_of _ (by decide +kernel)) ggX3_copy_X3_isSheet
set_option maxRecDepth 20000 in
theorem ggX3_copy_X3_failed : GoodIn wsX3_copy wsX3_failed := goodIn_r _ [17, 1, 24, 25, 26, 27, 28, 29, 30, 31] (by decide +kernel) (by decide +kernel)
set_option maxRecDepth 20000 in
theorem gX3_copy_X3_failed : GoodIn wsX3_copy (wsV RX3 63 RX3 yX3_failed wsX3_failed) := goodIn_app (goodIn_of _ (by decide +kernel)) ggX3_copy_X3_failed
set_option maxRecDepth 20000 in
theorem ggX3_copy_X2_spans : GoodIn wsX3_copy wsX2_spans := goodIn_r _ [22, 23, 32, 33, 34, 35] (by decide +kernel) (by decide +kernel)
set_option maxRecDepth 20000 in
theorem gX3_copy_X2_spans : GoodIn wsX3_copy (wsV RX3 59 RX2 yX2_spans wsX2_spans) := goodIn_app (goodIn_of _ (by decide +kernel)) ggX3_copy_X2_spans
set_option maxRecDepth 20000 in
theorem ggX3_tell_X3_isGoer : GoodIn wsX3_tell wsX3_isGoer := goodIn_r _ [7, 1, 8, 27, 28, 29, 30, 31, 32, 33, 34, 35, 36, 37, 38, 39, 40, 41, 42] (by decide +kernel) (by decide +kernel)
set_option maxRecDepth 20000 in
theorem gX3_tell_X3_isGoer : GoodIn wsX3_tell (wsV RX3 80 RX3 yX3_isGoer wsX3_isGoer) := goodIn_app (goodIn_of _ (by decide +kernel)) ggX3_tell_X3_isGoer
set_option maxRecDepth 20000 in
theorem ggX3_tell_X3_childTells : GoodIn wsX3_tell wsX3_childTells := goodIn_r _ [12, 13, 14, 15, 6, 16, 17, 18, 19, 20, 21, 22, 23, 24, 25, 1, 26, 27, 28, 29, 30, 31, 32, 33, 34, 35, 36, 37, 38, 39, 40, 41, 42] (by decide +kernel) (by decide +kernel)
set_option maxRecDepth 20000 in
theorem gX3_tell_X3_childTells : GoodIn wsX3_tell (wsV RX3 217 RX3 yX3_childTells wsX3_childTells) := goodIn_app (goodIn_of _ (by decide +kernel)) ggX3_tell_X3_childTells
set_option maxRecDepth 20000 in
theorem ggX3_tell_X3_thiefTells : GoodIn wsX3_tell wsX3_thiefTells := goodIn_r _ [21, 13, 14, 15, 6, 16, 17, 22, 23, 24, 25, 1, 26, 27, 28, 29, 30, 31, 32, 33, 34, 35, 36, 37, 38, 39, 40, 41, 42] (by decide +kernel) (by decide +kernel)
set_option maxRecDepth 20000 in
theorem gX3_tell_X3_thiefTells : GoodIn wsX3_tell (wsV RX3 220 RX3 yX3_thiefTells wsX3_thiefTells) := goodIn_app (goodIn_of _ (by decide +kernel)) ggX3_tell_X3_thiefTells
set_option maxRecDepth 20000 in
theorem ggX3_tell_X3_plainTells : GoodIn wsX3_tell wsX3_plainTells := goodIn_r _ [25, 1, 26, 13, 14, 15, 6, 16, 17, 27, 28, 29, 30, 31, 32, 33, 34, 35, 36, 37, 38, 39, 40, 41, 42] (by decide +kernel) (by decide +kernel)
set_option maxRecDepth 20000 in
theorem gX3_tell_X3_plainTells : GoodIn wsX3_tell (wsV RX3 223 RX3 yX3_plainTells wsX3_plainTells) := goodIn_app (goodIn_of _ (by decide +kernel)) ggX3_tell_X3_plainTells
set_option maxRecDepth 20000 in
theorem ggX3_hail_X3_isGoer : GoodIn wsX3_hail wsX3_isGoer := goodIn_r _ [8, 1, 9, 15, 16, 17, 18, 19, 20, 21, 22, 23, 24, 25, 26, 27, 28, 29, 30] (by decide +kernel) (by decide +kernel)
set_option maxRecDepth 20000 in
theorem gX3_hail_X3_isGoer : GoodIn wsX3_hail (wsV RX3 80 RX3 yX3_isGoer wsX3_isGoer) := goodIn_app (goodIn_of _ (by decide +kernel)) ggX3_hail_X3_isGoer
set_option maxRecDepth 20000 in
theorem ggX3_hail_X3_leaveTrace : GoodIn wsX3_hail wsX3_leaveTrace := goodIn_r _ [13, 14, 15, 16, 17, 18, 19, 20, 21, 22] (by decide +kernel) (by decide +kernel)
set_option maxRecDepth 20000 in
theorem gX3_hail_X3_leaveTrace : GoodIn wsX3_hail (wsV RX3 226 RX3 yX3_leaveTrace wsX3_leaveTrace) := goodIn_app (goodIn_of _ (by decide +kernel)) ggX3_hail_X3_leaveTrace
set_option maxRecDepth 20000 in
theorem ggX3_as_X3_isGoer : GoodIn wsX3_as wsX3_isGoer := goodIn_r _ [8, 2, 9, 14, 15, 16, 17, 18, 19, 20, 21, 22, 23, 24, 25, 26, 27, 28, 29] (by decide +kernel) (by decide +kernel)
set_option maxRecDepth 20000 in
theorem gX3_as_X3_isGoer : GoodIn wsX3_as (wsV RX3 80 RX3 yX3_isGoer wsX3_isGoer) := goodIn_app (goodIn_of _ (by decide +kernel)) ggX3_as_X3_isGoer
set_option maxRecDepth 20000 in
theorem ggX3_as_X3_failed : GoodIn wsX3_as wsX3_failed := goodIn_r _ [13, 1, 14, 15, 16, 17, 18, 19, 20, 21] (by decide +kernel) (by decide +kernel)
set_option maxRecDepth 20000 in
theorem gX3_as_X3_failed : GoodIn wsX3_as (wsV RX3 63 RX3 yX3_failed wsX3_failed) := goodIn_app (goodIn_of _ (by decide +kernel)) ggX3_as_X3_failed
set_option maxRecDepth 20000 in
theorem ggX3_areTwoFields_X3_isField : GoodIn wsX3_areTwoFields wsX3_isField := goodIn_r _ [5, 6, 7, 8, 9, 10, 11, 12, 13, 14, 15, 16, 17, 18, 19, 20, 21, 22, 23] (by decide +kernel) (by decide +kernel)
set_option maxRecDepth 20000 in
theorem gX3_areTwoFields_X3_isField : GoodIn wsX3_areTwoFields (wsV RX3 112 RX3 yX3_isField wsX3_isField) := goodIn_app (goodIn_of _ (by decide +kernel)) ggX3_areTwoFields_X3_isField
set_option maxRecDepth 20000 in
theorem ggX3_firstFaultOfText_X0_clear : GoodIn wsX3_firstFaultOfText wsX0_clear := goodIn_r _ [7, 8, 9, 10, 49, 50, 51, 52, 53, 54, 55, 56] (by decide +kernel) (by decide +kernel)
set_option maxRecDepth 20000 in
theorem gX3_firstFaultOfText_X0_clear : GoodIn wsX3_firstFaultOfText (wsV RX3 229 RX0 yX0_clear wsX0_clear) := goodIn_app (goodIn_of _ (by decide +kernel)) ggX3_firstFaultOfText_X0_clear
set_option maxRecDepth 20000 in
theorem ggX3_firstFaultOfText_X0_reads : GoodIn wsX3_firstFaultOfText wsX0_reads := goodIn_r _ [14, 8, 15, 16, 17, 18, 19, 20, 21, 6, 22, 23, 24, 25, 26, 27, 28, 29, 9, 30, 31, 32, 49, 50, 51, 52, 53, 54, 55, 56] (by decide +kernel) (by decide +kernel)
set_option maxRecDepth 20000 in
theorem gX3_firstFaultOfText_X0_reads : GoodIn wsX3_firstFaultOfText (wsV RX3 232 RX0 yX0_reads wsX0_reads) := goodIn_app (goodIn_of _ (by decide +kernel)) ggX3_firstFaultOfText_X0_reads
set_option maxRecDepth 20000 in
theorem ggX3_firstFaultOfText_X0_mayEndAt : GoodIn wsX3_firstFaultOfText wsX0_mayEndAt := goodIn_r _ [36, 9, 19, 20, 21, 6, 22, 8, 49, 50, 51, 52, 53, 54, 55, 56] (by decide +kernel) (by decide +kernel)
set_option maxRecDepth 20000 in
theorem gX3_firstFaultOfText_X0_mayEndAt : GoodIn wsX3_firstFaultOfText (wsV RX3 235 RX0 yX0_mayEndAt wsX0_mayEndAt) := goodIn_app (goodIn_of _ (by decide +kernel)) ggX3_firstFaultOfText_X0_mayEndAt
set_option maxRecDepth 20000 in
theorem ggX3_refusalOfPairs_X3_isGoer : GoodIn wsX3_refusalOfPairs wsX3_isGoer := goodIn_r _ [6, 7, 8, 13, 14, 15, 16, 17, 18, 19, 20, 21, 22, 23, 24, 25, 26, 27, 28] (by decide +kernel) (by decide +kernel)
set_option maxRecDepth 20000 in
theorem gX3_refusalOfPairs_X3_isGoer : GoodIn wsX3_refusalOfPairs (wsV RX3 80 RX3 yX3_isGoer wsX3_isGoer) := goodIn_app (goodIn_of _ (by decide +kernel)) ggX3_refusalOfPairs_X3_isGoer
set_option maxRecDepth 20000 in
theorem ggX3_firstWrongOfSeason_X0_become : GoodIn wsX3_firstWrongOfSeason wsX0_become := goodIn_r _ [8, 9, 10, 11, 12, 13, 14, 15, 16, 17, 18, 19, 82, 83, 84, 85, 86, 87, 88, 89] (by decide +kernel) (by decide +kernel)
set_option maxRecDepth 20000 in
theorem gX3_firstWrongOfSeason_X0_become : GoodIn wsX3_firstWrongOfSeason (wsV RX3 70 RX0 yX0_become wsX0_become) := goodIn_app (goodIn_of _ (by decide +kernel)) ggX3_firstWrongOfSeason_X0_become
set_option maxRecDepth 20000 in
theorem ggX3_firstWrongOfSeason_X0_acts : GoodIn wsX3_firstWrongOfSeason wsX0_acts := goodIn_r _ [23, 9, 24, 25, 26, 7, 27, 12, 11, 28, 29, 30, 31, 32, 33, 34, 35, 36, 37, 38, 39, 40, 41, 42, 43, 44, 45, 46, 47, 48, 49, 19, 50, 51, 52, 53, 17, 18, 54, 55, 56, 57, 58, 59, 60, 61, 62, 63, 64, 65, 66, 67, 68, 69, 82, 83, 84, 85, 86, 87, 88, 89] (by decide +kernel) (by decide +kernel)
set_option maxRecDepth 20000 in
theorem gX3_firstWrongOfSeason_X0_acts : GoodIn wsX3_firstWrongOfSeason (wsV RX3 238 RX0 yX0_acts wsX0_acts) := goodIn_app (goodIn_of _ (by decide +kernel)) ggX3_firstWrongOfSeason_X0_acts
set_option maxRecDepth 20000 in
theorem ggX3_ofTrial_X0_openHoles : GoodIn wsX3_ofTrial wsX0_openHoles := goodIn_r _ [8, 9, 10, 11, 12, 7, 13, 14, 36, 37, 38, 39, 40, 41, 42, 43] (by decide +kernel) (by decide +kernel)
set_option maxRecDepth 20000 in
theorem gX3_ofTrial_X0_openHoles : GoodIn wsX3_ofTrial (wsV RX3 130 RX0 yX0_openHoles wsX0_openHoles) := goodIn_app (goodIn_of _ (by decide +kernel)) ggX3_ofTrial_X0_openHoles
set_option maxRecDepth 20000 in
theorem ggX3_ofTrial_X0_peopled : GoodIn wsX3_ofTrial wsX0_peopled := goodIn_r _ [18, 19, 20, 36, 37, 38, 39, 40, 41, 42, 43] (by decide +kernel) (by decide +kernel)
set_option maxRecDepth 20000 in
theorem gX3_ofTrial_X0_peopled : GoodIn wsX3_ofTrial (wsV RX3 241 RX0 yX0_peopled wsX0_peopled) := goodIn_app (goodIn_of _ (by decide +kernel)) ggX3_ofTrial_X0_peopled
set_option maxRecDepth 20000 in
theorem ggX3_ofTrial_X3_isGoer : GoodIn wsX3_ofTrial wsX3_isGoer := goodIn_r _ [25, 26, 27, 28, 29, 30, 31, 32, 33, 34, 35, 36, 37, 38, 39, 40, 41, 42, 43] (by decide +kernel) (by decide +kernel)
set_option maxRecDepth 20000 in
theorem gX3_ofTrial_X3_isGoer : GoodIn wsX3_ofTrial (wsV RX3 80 RX3 yX3_isGoer wsX3_isGoer) := goodIn_app (goodIn_of _ (by decide +kernel)) ggX3_ofTrial_X3_isGoer
set_option maxRecDepth 20000 in
theorem ggX3_plainTells_X3_leaveTrace : GoodIn wsX3_plainTells wsX3_leaveTrace := goodIn_r _ [7, 8, 9, 10, 11, 12, 13, 14, 15, 16] (by decide +kernel) (by decide +kernel)
set_option maxRecDepth 20000 in
theorem gX3_plainTells_X3_leaveTrace : GoodIn wsX3_plainTells (wsV RX3 226 RX3 yX3_leaveTrace wsX3_leaveTrace) := goodIn_app (goodIn_of _ (by decide +kernel)) ggX3_plainTells_X3_leaveTrace
set_option maxRecDepth 20000 in
theorem ggX3_thiefTells_X3_leaveTrace : GoodIn wsX3_thiefTells wsX3_leaveTrace := goodIn_r _ [5, 6, 13, 14, 15, 16, 17, 18, 19, 20] (by decide +kernel) (by decide +kernel)
set_option maxRecDepth 20000 in
theorem gX3_thiefTells_X3_leaveTrace : GoodIn wsX3_thiefTells (wsV RX3 226 RX3 yX3_leaveTrace wsX3_leaveTrace) := goodIn_app (goodIn_of _ (by decide +kernel)) ggX3_thiefTells_X3_leaveTrace
set_option maxRecDepth 20000 in
theorem ggX3_thiefTells_X3_plainTells : GoodIn wsX3_thiefTells wsX3_plainTells := goodIn_r _ [10, 11, 12, 1, 2, 3, 4, 5, 6, 13, 14, 15, 16, 17, 18, 19, 20, 21, 22, 23, 24, 25, 26, 27, 28] (by decide +kernel) (by decide +kernel)
set_option maxRecDepth 20000 in
theorem gX3_thiefTells_X3_plainTells : GoodIn wsX3_thiefTells (wsV RX3 223 RX3 yX3_plainTells wsX3_plainTells) := goodIn_app (goodIn_of _ (by decide +kernel)) ggX3_thiefTells_X3_plainTells
set_option maxRecDepth 20000 in
theorem ggX3_childTells_X3_leaveTrace : GoodIn wsX3_childTells wsX3_leaveTrace := goodIn_r _ [5, 6, 17, 18, 19, 20, 21, 22, 23, 24] (by decide +kernel) (by decide +kernel)
set_option maxRecDepth 20000 in
theorem gX3_childTells_X3_leaveTrace : GoodIn wsX3_childTells (wsV RX3 226 RX3 yX3_leaveTrace wsX3_leaveTrace) := goodIn_app (goodIn_of _ (by decide +kernel)) ggX3_childTells_X3_leaveTrace
set_option maxRecDepth 20000 in
theorem ggX3_childTells_X3_thiefTells : GoodIn wsX3_childTells wsX3_thiefTells := goodIn_r _ [10, 1, 2, 3, 4, 5, 6, 11, 12, 13, 14, 15, 16, 17, 18, 19, 20, 21, 22, 23, 24, 25, 26, 27, 28, 29, 30, 31, 32] (by decide +kernel) (by decide +kernel)
set_option maxRecDepth 20000 in
theorem gX3_childTells_X3_thiefTells : GoodIn wsX3_childTells (wsV RX3 220 RX3 yX3_thiefTells wsX3_thiefTells) := goodIn_app (goodIn_of _ (by decide +kernel)) ggX3_childTells_X3_thiefTells
set_option maxRecDepth 20000 in
theorem ggX3_childTells_X3_plainTells : GoodIn wsX3_childTells wsX3_plainTells := goodIn_r _ [14, 15, 16, 1, 2, 3, 4, 5, 6, 17, 18, 19, 20, 21, 22, 23, 24, 25, 26, 27, 28, 29, 30, 31, 32] (by decide +kernel) (by decide +kernel)
set_option maxRecDepth 20000 in
theorem gX3_childTells_X3_plainTells : GoodIn wsX3_childTells (wsV RX3 223 RX3 yX3_plainTells wsX3_plainTells) := goodIn_app (goodIn_of _ (by decide +kernel)) ggX3_childTells_X3_plainTells
end
section
set_option maxRecDepth 20000 in
theorem ggX4_isSheet_X4_within : GoodIn wsX4_isSheet wsX4_within := goodIn_r _ [4] (by decide +kernel) (by decide +kernel)
set_option maxRecDepth 20000 in
theorem gX4_isSheet_X4_within : GoodIn wsX4_isSheet (va_wsS RX4 64 yX4_within wsX4_within) := goodIn_app (goodIn_of _ (by decide +kernel)) ggX4_isSheet_X4_within
set_option maxRecDepth 20000 in
theorem ggX4_isSort_X4_within : GoodIn wsX4_isSort wsX4_within := goodIn_r _ [4] (by decide +kernel) (by decide +kernel)
set_option maxRecDepth 20000 in
theorem gX4_isSort_X4_within : GoodIn wsX4_isSort (va_wsS RX4 64 yX4_within wsX4_within) := goodIn_app (goodIn_of _ (by decide +kernel)) ggX4_isSort_X4_within
set_option maxRecDepth 20000 in
theorem ggX4_areTwo_X4_isField : GoodIn wsX4_areTwo wsX4_isField := goodIn_r _ [5, 6, 7, 8, 9, 10, 11, 12, 13, 14, 15, 16, 17, 18, 19, 20, 21, 22, 23, 24, 25, 26, 27, 28, 29, 30, 31, 32, 33, 34, 35] (by decide +kernel) (by decide +kernel)
set_option maxRecDepth 20000 in
theorem gX4_areTwo_X4_isField : GoodIn wsX4_areTwo (wsV RX4 71 RX4 yX4_isField wsX4_isField) := goodIn_app (goodIn_of _ (by decide +kernel)) ggX4_areTwo_X4_isField
set_option maxRecDepth 20000 in
theorem ggX4_hedges_X4_hedgesOf : GoodIn wsX4_hedges wsX4_hedgesOf := goodIn_r _ [5] (by decide +kernel) (by decide +kernel)
set_option maxRecDepth 20000 in
theorem gX4_hedges_X4_hedgesOf : GoodIn wsX4_hedges (va_wsS RX4 78 yX4_hedgesOf wsX4_hedgesOf) := goodIn_app (goodIn_of _ (by decide +kernel)) ggX4_hedges_X4_hedgesOf
set_option maxRecDepth 20000 in
theorem ggX4_digit_X4_within : GoodIn wsX4_digit wsX4_within := goodIn_r _ [6] (by decide +kernel) (by decide +kernel)
set_option maxRecDepth 20000 in
theorem gX4_digit_X4_within : GoodIn wsX4_digit (va_wsS RX4 64 yX4_within wsX4_within) := goodIn_app (goodIn_of _ (by decide +kernel)) ggX4_digit_X4_within
set_option maxRecDepth 20000 in
theorem ggX4_county_X4_isSheet : GoodIn wsX4_county wsX4_isSheet := goodIn_r _ [7, 8, 9, 6, 10] (by decide +kernel) (by decide +kernel)
set_option maxRecDepth 20000 in
theorem gX4_county_X4_isSheet : GoodIn wsX4_county (va_wsS RX4 85 yX4_isSheet wsX4_isSheet) := goodIn_app (goodIn_of _ (by decide +kernel)) ggX4_county_X4_isSheet
set_option maxRecDepth 20000 in
theorem ggX4_county_X4_isSort : GoodIn wsX4_county wsX4_isSort := goodIn_r _ [13, 8, 9, 6, 10] (by decide +kernel) (by decide +kernel)
set_option maxRecDepth 20000 in
theorem gX4_county_X4_isSort : GoodIn wsX4_county (va_wsS RX4 88 yX4_isSort wsX4_isSort) := goodIn_app (goodIn_of _ (by decide +kernel)) ggX4_county_X4_isSort
set_option maxRecDepth 20000 in
theorem ggX4_county_X4_against : GoodIn wsX4_county wsX4_against := goodIn_r _ [17, 18, 19, 65, 66, 67, 68, 69, 70, 71, 72, 73, 74, 75, 76, 77, 78, 79, 80, 81, 82, 83, 84, 85, 86, 87, 88, 89, 90, 91, 92, 93] (by decide +kernel) (by decide +kernel)
set_option maxRecDepth 20000 in
theorem gX4_county_X4_against : GoodIn wsX4_county (wsV RX4 91 RX4 yX4_against wsX4_against) := goodIn_app (goodIn_of _ (by decide +kernel)) ggX4_county_X4_against
set_option maxRecDepth 20000 in
theorem ggX4_county_X4_fails : GoodIn wsX4_county wsX4_fails := goodIn_r _ [23, 1, 65, 66, 67, 68, 69, 70, 71, 72, 73, 74, 75, 76, 77, 78, 79, 80, 81, 82, 83, 84, 85, 86, 87, 88, 89, 90, 91, 92, 93] (by decide +kernel) (by decide +kernel)
set_option maxRecDepth 20000 in
theorem gX4_county_X4_fails : GoodIn wsX4_county (wsV RX4 95 RX4 yX4_fails wsX4_fails) := goodIn_app (goodIn_of _ (by decide +kernel)) ggX4_county_X4_fails
set_option maxRecDepth 20000 in
theorem ggX4_county_X4_readCounty : GoodIn wsX4_county wsX4_readCounty := goodIn_r _ [27, 28, 29, 30, 2, 31, 32, 33, 6, 34, 35, 36, 37, 38, 39, 8, 9, 10, 40, 41, 42, 43, 44, 45, 46, 47, 65, 66, 67, 68, 69, 70, 71, 72, 73, 74, 75, 76, 77, 78, 79, 80, 81, 82, 83, 84, 85, 86, 87, 88, 89, 90, 91, 92, 93] (by decide +kernel) (by decide +kernel)
set_option maxRecDepth 20000 in
theorem gX4_county_X4_readCounty : GoodIn wsX4_county (wsV RX4 98 RX4 yX4_readCounty wsX4_readCounty) := goodIn_app (goodIn_of _ (by decide +kernel)) ggX4_county_X4_readCounty
set_option maxRecDepth 20000 in
theorem ggX4_county_X4_takeCounty : GoodIn wsX4_county wsX4_takeCounty := goodIn_r _ [51, 29, 52, 53, 30, 28, 3, 54, 47, 55, 56, 57, 58, 59, 60, 61, 62, 63, 6, 64, 40, 41, 42, 65, 66, 67, 68, 69, 70, 71, 72, 73, 74, 75, 76, 77, 78, 79, 80, 81, 82, 83, 84, 85, 86, 87, 88, 89, 90, 91, 92, 93] (by decide +kernel) (by decide +kernel)
set_option maxRecDepth 20000 in
theorem gX4_county_X4_takeCounty : GoodIn wsX4_county (wsV RX4 101 RX4 yX4_takeCounty wsX4_takeCounty) := goodIn_app (goodIn_of _ (by decide +kernel)) ggX4_county_X4_takeCounty
set_option maxRecDepth 20000 in
theorem ggX4_takeCounty_X4_hedges : GoodIn wsX4_takeCounty wsX4_hedges := goodIn_r _ [19, 2, 20, 21, 18, 22, 23, 24, 25, 26, 27, 28, 29, 30, 31, 32, 33, 34, 35, 36, 37, 38, 39, 40, 41, 42, 43, 44, 45, 46, 47, 48, 49, 50, 51] (by decide +kernel) (by decide +kernel)
set_option maxRecDepth 20000 in
theorem gX4_takeCounty_X4_hedges : GoodIn wsX4_takeCounty (wsV RX4 107 RX4 yX4_hedges wsX4_hedges) := goodIn_app (goodIn_of _ (by decide +kernel)) ggX4_takeCounty_X4_hedges
set_option maxRecDepth 20000 in
theorem ggX4_readCounty_X4_isSign : GoodIn wsX4_readCounty wsX4_isSign := goodIn_r _ [9, 4, 10, 26, 27, 28, 29, 30, 31, 32, 33, 34, 35, 36, 37, 38, 39, 40, 41, 42, 43, 44, 45, 46, 47, 48, 49, 50, 51, 52, 53, 54] (by decide +kernel) (by decide +kernel)
set_option maxRecDepth 20000 in
theorem gX4_readCounty_X4_isSign : GoodIn wsX4_readCounty (wsV RX4 126 RX4 yX4_isSign wsX4_isSign) := goodIn_app (goodIn_of _ (by decide +kernel)) ggX4_readCounty_X4_isSign
set_option maxRecDepth 20000 in
theorem ggX4_readCounty_X4_digit : GoodIn wsX4_readCounty wsX4_digit := goodIn_r _ [14, 4, 10, 15, 16, 8, 17, 26, 27, 28, 29, 30, 31, 32, 33, 34, 35, 36, 37, 38, 39, 40, 41, 42, 43, 44, 45, 46, 47, 48, 49, 50, 51, 52, 53, 54] (by decide +kernel) (by decide +kernel)
set_option maxRecDepth 20000 in
theorem gX4_readCounty_X4_digit : GoodIn wsX4_readCounty (wsV RX4 130 RX4 yX4_digit wsX4_digit) := goodIn_app (goodIn_of _ (by decide +kernel)) ggX4_readCounty_X4_digit
set_option maxRecDepth 20000 in
theorem ggX4_readCounty_X4_hedgesOf : GoodIn wsX4_readCounty wsX4_hedgesOf := goodIn_r _ [20] (by decide +kernel) (by decide +kernel)
set_option maxRecDepth 20000 in
theorem gX4_readCounty_X4_hedgesOf : GoodIn wsX4_readCounty (va_wsS RX4 78 yX4_hedgesOf wsX4_hedgesOf) := goodIn_app (goodIn_of _ (by decide +kernel)) ggX4_readCounty_X4_hedgesOf
set_option maxRecDepth 20000 in
theorem ggX4_readCounty_X4_readGoer : GoodIn wsX4_readCounty wsX4_readGoer := goodIn_r _ [24, 4, 10, 1, 25, 2, 11, 12, 13, 8, 14, 15, 16, 17, 26, 27, 28, 29, 30, 31, 32, 33, 34, 35, 36, 37, 38, 39, 40, 41, 42, 43, 44, 45, 46, 47, 48, 49, 50, 51, 52, 53, 54] (by decide +kernel) (by decide +kernel)
set_option maxRecDepth 20000 in
theorem gX4_readCounty_X4_readGoer : GoodIn wsX4_readCounty (wsV RX4 134 RX4 yX4_readGoer wsX4_readGoer) := goodIn_app (goodIn_of _ (by decide +kernel)) ggX4_readCounty_X4_readGoer
set_option maxRecDepth 20000 in
theorem ggX4_readGoer_X4_digit : GoodIn wsX4_readGoer wsX4_digit := goodIn_r _ [10, 1, 2, 11, 12, 9, 13, 14, 15, 16, 17, 18, 19, 20, 21, 22, 23, 24, 25, 26, 27, 28, 29, 30, 31, 32, 33, 34, 35, 36, 37, 38, 39, 40, 41, 42] (by decide +kernel) (by decide +kernel)
set_option maxRecDepth 20000 in
theorem gX4_readGoer_X4_digit : GoodIn wsX4_readGoer (wsV RX4 130 RX4 yX4_digit wsX4_digit) := goodIn_app (goodIn_of _ (by decide +kernel)) ggX4_readGoer_X4_digit
set_option maxRecDepth 20000 in
theorem ggX4_fitsHole_X4_thickOf : GoodIn wsX4_fitsHole wsX4_thickOf := goodIn_r _ [6, 7, 8, 9, 10, 11, 12, 13, 14, 15, 16, 17, 18, 19, 20, 21, 22, 23, 24, 25, 26, 27, 28, 29, 30, 31, 32, 33, 34, 35, 36, 37] (by decide +kernel) (by decide +kernel)
set_option maxRecDepth 20000 in
theorem gX4_fitsHole_X4_thickOf : GoodIn wsX4_fitsHole (wsV RX4 137 RX4 yX4_thickOf wsX4_thickOf) := goodIn_app (goodIn_of _ (by decide +kernel)) ggX4_fitsHole_X4_thickOf
set_option maxRecDepth 20000 in
theorem ggX4_ofGoer_X4_isGoer : GoodIn wsX4_ofGoer wsX4_isGoer := goodIn_r _ [8, 9, 14, 15, 16, 17, 18, 19, 20, 21, 22, 23, 24, 25, 26, 27, 28, 29, 30, 31, 32, 33, 34, 35, 36, 37, 38, 39, 40, 41, 42] (by decide +kernel) (by decide +kernel)
set_option maxRecDepth 20000 in
theorem gX4_ofGoer_X4_isGoer : GoodIn wsX4_ofGoer (wsV RX4 140 RX4 yX4_isGoer wsX4_isGoer) := goodIn_app (goodIn_of _ (by decide +kernel)) ggX4_ofGoer_X4_isGoer
set_option maxRecDepth 20000 in
theorem ggX4_ofGoer_X4_thickOf : GoodIn wsX4_ofGoer wsX4_thickOf := goodIn_r _ [13, 1, 2, 14, 15, 16, 17, 18, 19, 20, 21, 22, 23, 24, 25, 26, 27, 28, 29, 30, 31, 32, 33, 34, 35, 36, 37, 38, 39, 40, 41, 42] (by decide +kernel) (by decide +kernel)
set_option maxRecDepth 20000 in
theorem gX4_ofGoer_X4_thickOf : GoodIn wsX4_ofGoer (wsV RX4 137 RX4 yX4_thickOf wsX4_thickOf) := goodIn_app (goodIn_of _ (by decide +kernel)) ggX4_ofGoer_X4_thickOf
set_option maxRecDepth 20000 in
theorem ggX4_hole_X4_areTwo : GoodIn wsX4_hole wsX4_areTwo := goodIn_r _ [7, 8, 9, 10, 6, 11, 12, 17, 18, 19, 20, 21, 22, 23, 24, 25, 26, 27, 28, 29, 30, 31, 32, 33, 34, 35, 36, 37, 38, 39, 40, 41, 42, 43, 44, 45] (by decide +kernel) (by decide +kernel)
set_option maxRecDepth 20000 in
theorem gX4_hole_X4_areTwo : GoodIn wsX4_hole (wsV RX4 143 RX4 yX4_areTwo wsX4_areTwo) := goodIn_app (goodIn_of _ (by decide +kernel)) ggX4_hole_X4_areTwo
set_option maxRecDepth 20000 in
theorem ggX4_hole_X4_hedge : GoodIn wsX4_hole wsX4_hedge := goodIn_r _ [16, 12, 17, 18, 19, 20, 21, 22, 23, 24, 25, 26, 27, 28, 29, 30, 31, 32, 33, 34, 35, 36, 37, 38, 39, 40, 41, 42, 43, 44, 45] (by decide +kernel) (by decide +kernel)
set_option maxRecDepth 20000 in
theorem gX4_hole_X4_hedge : GoodIn wsX4_hole (wsV RX4 146 RX4 yX4_hedge wsX4_hedge) := goodIn_app (goodIn_of _ (by decide +kernel)) ggX4_hole_X4_hedge
set_option maxRecDepth 20000 in
theorem ggX4_hoop_X4_areTwo : GoodIn wsX4_hoop wsX4_areTwo := goodIn_r _ [7, 8, 9, 10, 6, 11, 12, 20, 21, 22, 23, 24, 25, 26, 27, 28, 29, 30, 31, 32, 33, 34, 35, 36, 37, 38, 39, 40, 41, 42, 43, 44, 45, 46, 47, 48] (by decide +kernel) (by decide +kernel)
set_option maxRecDepth 20000 in
theorem gX4_hoop_X4_areTwo : GoodIn wsX4_hoop (wsV RX4 143 RX4 yX4_areTwo wsX4_areTwo) := goodIn_app (goodIn_of _ (by decide +kernel)) ggX4_hoop_X4_areTwo
set_option maxRecDepth 20000 in
theorem ggX4_hoop_X4_within : GoodIn wsX4_hoop wsX4_within := goodIn_r _ [15] (by decide +kernel) (by decide +kernel)
set_option maxRecDepth 20000 in
theorem gX4_hoop_X4_within : GoodIn wsX4_hoop (va_wsS RX4 64 yX4_within wsX4_within) := goodIn_app (goodIn_of _ (by decide +kernel)) ggX4_hoop_X4_within
set_option maxRecDepth 20000 in
theorem ggX4_hoop_X4_hedge : GoodIn wsX4_hoop wsX4_hedge := goodIn_r _ [19, 12, 20, 21, 22, 23, 24, 25, 26, 27, 28, 29, 30, 31, 32, 33, 34, 35, 36, 37, 38, 39, 40, 41, 42, 43, 44, 45, 46, 47, 48] (by decide +kernel) (by decide +kernel)
set_option maxRecDepth 20000 in
theorem gX4_hoop_X4_hedge : GoodIn wsX4_hoop (wsV RX4 146 RX4 yX4_hedge wsX4_hedge) := goodIn_app (goodIn_of _ (by decide +kernel)) ggX4_hoop_X4_hedge
set_option maxRecDepth 20000 in
theorem ggX4_fatten_X4_isGoer : GoodIn wsX4_fatten wsX4_isGoer := goodIn_r _ [6, 7, 11, 12, 13, 14, 15, 16, 17, 18, 19, 20, 21, 22, 23, 24, 25, 26, 27, 28, 29, 30, 31, 32, 33, 34, 35, 36, 37, 38, 39] (by decide +kernel) (by decide +kernel)
set_option maxRecDepth 20000 in
theorem gX4_fatten_X4_isGoer : GoodIn wsX4_fatten (wsV RX4 140 RX4 yX4_isGoer wsX4_isGoer) := goodIn_app (goodIn_of _ (by decide +kernel)) ggX4_fatten_X4_isGoer
set_option maxRecDepth 20000 in
theorem ggX4_fatten_X4_within : GoodIn wsX4_fatten wsX4_within := goodIn_r _ [10] (by decide +kernel) (by decide +kernel)
set_option maxRecDepth 20000 in
theorem gX4_fatten_X4_within : GoodIn wsX4_fatten (va_wsS RX4 64 yX4_within wsX4_within) := goodIn_app (goodIn_of _ (by decide +kernel)) ggX4_fatten_X4_within
set_option maxRecDepth 20000 in
theorem ggX4_goesTo_X4_areTwo : GoodIn wsX4_goesTo wsX4_areTwo := goodIn_r _ [7, 8, 9, 10, 6, 11, 12, 28, 29, 30, 31, 32, 33, 34, 35, 36, 37, 38, 39, 40, 41, 42, 43, 44, 45, 46, 47, 48, 49, 50, 51, 52, 53, 54, 55, 56] (by decide +kernel) (by decide +kernel)
set_option maxRecDepth 20000 in
theorem gX4_goesTo_X4_areTwo : GoodIn wsX4_goesTo (wsV RX4 143 RX4 yX4_areTwo wsX4_areTwo) := goodIn_app (goodIn_of _ (by decide +kernel)) ggX4_goesTo_X4_areTwo
set_option maxRecDepth 20000 in
theorem ggX4_goesTo_X4_hedge : GoodIn wsX4_goesTo wsX4_hedge := goodIn_r _ [16, 12, 28, 29, 30, 31, 32, 33, 34, 35, 36, 37, 38, 39, 40, 41, 42, 43, 44, 45, 46, 47, 48, 49, 50, 51, 52, 53, 54, 55, 56] (by decide +kernel) (by decide +kernel)
set_option maxRecDepth 20000 in
theorem gX4_goesTo_X4_hedge : GoodIn wsX4_goesTo (wsV RX4 146 RX4 yX4_hedge wsX4_hedge) := goodIn_app (goodIn_of _ (by decide +kernel)) ggX4_goesTo_X4_hedge
set_option maxRecDepth 20000 in
theorem ggX4_goesTo_X4_fitsHole : GoodIn wsX4_goesTo wsX4_fitsHole := goodIn_r _ [20, 21, 22, 23, 24, 6, 25, 26, 27, 28, 29, 30, 31, 32, 33, 34, 35, 36, 37, 38, 39, 40, 41, 42, 43, 44, 45, 46, 47, 48, 49, 50, 51, 52, 53, 54, 55, 56] (by decide +kernel) (by decide +kernel)
set_option maxRecDepth 20000 in
theorem gX4_goesTo_X4_fitsHole : GoodIn wsX4_goesTo (wsV RX4 150 RX4 yX4_fitsHole wsX4_fitsHole) := goodIn_app (goodIn_of _ (by decide +kernel)) ggX4_goesTo_X4_fitsHole
set_option maxRecDepth 20000 in
theorem ggX4_go_X4_isGoer : GoodIn wsX4_go wsX4_isGoer := goodIn_r _ [8, 9, 38, 39, 40, 41, 42, 43, 44, 45, 46, 47, 48, 49, 50, 51, 52, 53, 54, 55, 56, 57, 58, 59, 60, 61, 62, 63, 64, 65, 66] (by decide +kernel) (by decide +kernel)
set_option maxRecDepth 20000 in
theorem gX4_go_X4_isGoer : GoodIn wsX4_go (wsV RX4 140 RX4 yX4_isGoer wsX4_isGoer) := goodIn_app (goodIn_of _ (by decide +kernel)) ggX4_go_X4_isGoer
set_option maxRecDepth 20000 in
theorem ggX4_go_X4_isField : GoodIn wsX4_go wsX4_isField := goodIn_r _ [13, 14, 38, 39, 40, 41, 42, 43, 44, 45, 46, 47, 48, 49, 50, 51, 52, 53, 54, 55, 56, 57, 58, 59, 60, 61, 62, 63, 64, 65, 66] (by decide +kernel) (by decide +kernel)
set_option maxRecDepth 20000 in
theorem gX4_go_X4_isField : GoodIn wsX4_go (wsV RX4 71 RX4 yX4_isField wsX4_isField) := goodIn_app (goodIn_of _ (by decide +kernel)) ggX4_go_X4_isField
set_option maxRecDepth 20000 in
theorem ggX4_go_X4_goesTo : GoodIn wsX4_go wsX4_goesTo := goodIn_r _ [18, 1, 19, 20, 21, 22, 7, 23, 10, 11, 12, 13, 14, 24, 25, 26, 27, 28, 29, 30, 31, 3, 32, 33, 34, 35, 36, 37, 38, 39, 40, 41, 42, 43, 44, 45, 46, 47, 48, 49, 50, 51, 52, 53, 54, 55, 56, 57, 58, 59, 60, 61, 62, 63, 64, 65, 66] (by decide +kernel) (by decide +kernel)
set_option maxRecDepth 20000 in
theorem gX4_go_X4_goesTo : GoodIn wsX4_go (wsV RX4 153 RX4 yX4_goesTo wsX4_goesTo) := goodIn_app (goodIn_of _ (by decide +kernel)) ggX4_go_X4_goesTo
set_option maxRecDepth 20000 in
theorem ggX4_go_X4_hedge : GoodIn wsX4_go wsX4_hedge := goodIn_r _ [27, 14, 38, 39, 40, 41, 42, 43, 44, 45, 46, 47, 48, 49, 50, 51, 52, 53, 54, 55, 56, 57, 58, 59, 60, 61, 62, 63, 64, 65, 66] (by decide +kernel) (by decide +kernel)
set_option maxRecDepth 20000 in
theorem gX4_go_X4_hedge : GoodIn wsX4_go (wsV RX4 146 RX4 yX4_hedge wsX4_hedge) := goodIn_app (goodIn_of _ (by decide +kernel)) ggX4_go_X4_hedge
set_option maxRecDepth 20000 in
theorem ggX4_go_X4_thickOf : GoodIn wsX4_go wsX4_thickOf := goodIn_r _ [35, 36, 37, 38, 39, 40, 41, 42, 43, 44, 45, 46, 47, 48, 49, 50, 51, 52, 53, 54, 55, 56, 57, 58, 59, 60, 61, 62, 63, 64, 65, 66] (by decide +kernel) (by decide +kernel)
set_option maxRecDepth 20000 in
theorem gX4_go_X4_thickOf : GoodIn wsX4_go (wsV RX4 137 RX4 yX4_thickOf wsX4_thickOf) := goodIn_app (goodIn_of _ (by decide +kernel)) ggX4_go_X4_thickOf
set_option maxRecDepth 20000 in
theorem ggX4_oneYear_X4_hedges : GoodIn wsX4_oneYear wsX4_hedges := goodIn_r _ [7, 8, 9, 10, 6, 11, 15, 16, 17, 18, 19, 20, 21, 22, 23, 24, 25, 26, 27, 28, 29, 30, 31, 32, 33, 34, 35, 36, 37, 38, 39, 40, 41, 42, 43] (by decide +kernel) (by decide +kernel)
set_option maxRecDepth 20000 in
theorem gX4_oneYear_X4_hedges : GoodIn wsX4_oneYear (wsV RX4 107 RX4 yX4_hedges wsX4_hedges) := goodIn_app (goodIn_of _ (by decide +kernel)) ggX4_oneYear_X4_hedges
set_option maxRecDepth 20000 in
theorem ggX4_oneYear_X4_isOf : GoodIn wsX4_oneYear wsX4_isOf := goodIn_r _ [14] (by decide +kernel) (by decide +kernel)
set_option maxRecDepth 20000 in
theorem gX4_oneYear_X4_isOf : GoodIn wsX4_oneYear (va_wsS RX4 156 yX4_isOf wsX4_isOf) := goodIn_app (goodIn_of _ (by decide +kernel)) ggX4_oneYear_X4_isOf
set_option maxRecDepth 20000 in
theorem ggX4_holesNow_X4_hedges : GoodIn wsX4_holesNow wsX4_hedges := goodIn_r _ [6, 7, 8, 9, 5, 10, 11, 12, 13, 14, 15, 16, 17, 18, 19, 20, 21, 22, 23, 24, 25, 26, 27, 28, 29, 30, 31, 32, 33, 34, 35, 36, 37, 38, 39] (by decide +kernel) (by decide +kernel)
set_option maxRecDepth 20000 in
theorem gX4_holesNow_X4_hedges : GoodIn wsX4_holesNow (wsV RX4 107 RX4 yX4_hedges wsX4_hedges) := goodIn_app (goodIn_of _ (by decide +kernel)) ggX4_holesNow_X4_hedges
set_option maxRecDepth 20000 in
theorem ggX4_years_X4_within : GoodIn wsX4_years wsX4_within := goodIn_r _ [6] (by decide +kernel) (by decide +kernel)
set_option maxRecDepth 20000 in
theorem gX4_years_X4_within : GoodIn wsX4_years (va_wsS RX4 64 yX4_within wsX4_within) := goodIn_app (goodIn_of _ (by decide +kernel)) ggX4_years_X4_within
set_option maxRecDepth 20000 in
theorem ggX4_years_X4_oneYear : GoodIn wsX4_years wsX4_oneYear := goodIn_r _ [10, 11, 12, 13, 14, 15, 5, 16, 1, 17, 18, 19, 20, 21, 22, 27, 28, 29, 30, 31, 32, 33, 34, 35, 36, 37, 38, 39, 40, 41, 42, 43, 44, 45, 46, 47, 48, 49, 50, 51, 52, 53, 54, 55] (by decide +kernel) (by decide +kernel)
set_option maxRecDepth 20000 in
theorem gX4_years_X4_oneYear : GoodIn wsX4_years (wsV RX4 159 RX4 yX4_oneYear wsX4_oneYear) := goodIn_app (goodIn_of _ (by decide +kernel)) ggX4_years_X4_oneYear
set_option maxRecDepth 20000 in
theorem ggX4_years_X4_holesNow : GoodIn wsX4_years wsX4_holesNow := goodIn_r _ [26, 12, 13, 14, 15, 5, 16, 1, 17, 18, 19, 27, 28, 29, 30, 31, 32, 33, 34, 35, 36, 37, 38, 39, 40, 41, 42, 43, 44, 45, 46, 47, 48, 49, 50, 51, 52, 53, 54, 55] (by decide +kernel) (by decide +kernel)
set_option maxRecDepth 20000 in
theorem gX4_years_X4_holesNow : GoodIn wsX4_years (wsV RX4 162 RX4 yX4_holesNow wsX4_holesNow) := goodIn_app (goodIn_of _ (by decide +kernel)) ggX4_years_X4_holesNow
set_option maxRecDepth 20000 in
theorem ggX4_stop_X4_areTwo : GoodIn wsX4_stop wsX4_areTwo := goodIn_r _ [6, 7, 8, 9, 5, 10, 11, 16, 17, 18, 19, 20, 21, 22, 23, 24, 25, 26, 27, 28, 29, 30, 31, 32, 33, 34, 35, 36, 37, 38, 39, 40, 41, 42, 43, 44] (by decide +kernel) (by decide +kernel)
set_option maxRecDepth 20000 in
theorem gX4_stop_X4_areTwo : GoodIn wsX4_stop (wsV RX4 143 RX4 yX4_areTwo wsX4_areTwo) := goodIn_app (goodIn_of _ (by decide +kernel)) ggX4_stop_X4_areTwo
set_option maxRecDepth 20000 in
theorem ggX4_stop_X4_hedge : GoodIn wsX4_stop wsX4_hedge := goodIn_r _ [15, 11, 16, 17, 18, 19, 20, 21, 22, 23, 24, 25, 26, 27, 28, 29, 30, 31, 32, 33, 34, 35, 36, 37, 38, 39, 40, 41, 42, 43, 44] (by decide +kernel) (by decide +kernel)
set_option maxRecDepth 20000 in
theorem gX4_stop_X4_hedge : GoodIn wsX4_stop (wsV RX4 146 RX4 yX4_hedge wsX4_hedge) := goodIn_app (goodIn_of _ (by decide +kernel)) ggX4_stop_X4_hedge
set_option maxRecDepth 20000 in
theorem ggX4_keepAll_X4_hedges : GoodIn wsX4_keepAll wsX4_hedges := goodIn_r _ [12, 13, 14, 15, 11, 16, 17, 18, 19, 20, 21, 22, 23, 24, 25, 26, 27, 28, 29, 30, 31, 32, 33, 34, 35, 36, 37, 38, 39, 40, 41, 42, 43, 44, 45] (by decide +kernel) (by decide +kernel)
set_option maxRecDepth 20000 in
theorem gX4_keepAll_X4_hedges : GoodIn wsX4_keepAll (wsV RX4 107 RX4 yX4_hedges wsX4_hedges) := goodIn_app (goodIn_of _ (by decide +kernel)) ggX4_keepAll_X4_hedges
set_option maxRecDepth 20000 in
theorem ggX4_putBack_X4_hedges : GoodIn wsX4_putBack wsX4_hedges := goodIn_r _ [12, 13, 14, 15, 11, 16, 17, 18, 19, 20, 21, 22, 23, 24, 25, 26, 27, 28, 29, 30, 31, 32, 33, 34, 35, 36, 37, 38, 39, 40, 41, 42, 43, 44, 45] (by decide +kernel) (by decide +kernel)
set_option maxRecDepth 20000 in
theorem gX4_putBack_X4_hedges : GoodIn wsX4_putBack (wsV RX4 107 RX4 yX4_hedges wsX4_hedges) := goodIn_app (goodIn_of _ (by decide +kernel)) ggX4_putBack_X4_hedges
set_option maxRecDepth 20000 in
theorem ggX4_does_X4_oneYear : GoodIn wsX4_does wsX4_oneYear := goodIn_r _ [7, 8, 1, 9, 10, 11, 6, 12, 13, 14, 15, 16, 17, 18, 19, 47, 48, 49, 50, 51, 52, 53, 54, 55, 56, 57, 58, 59, 60, 61, 62, 63, 64, 65, 66, 67, 68, 69, 70, 71, 72, 73, 74, 75] (by decide +kernel) (by decide +kernel)
set_option maxRecDepth 20000 in
theorem gX4_does_X4_oneYear : GoodIn wsX4_does (wsV RX4 159 RX4 yX4_oneYear wsX4_oneYear) := goodIn_app (goodIn_of _ (by decide +kernel)) ggX4_does_X4_oneYear
set_option maxRecDepth 20000 in
theorem ggX4_does_X4_hedges : GoodIn wsX4_does wsX4_hedges := goodIn_r _ [12, 13, 14, 15, 6, 16, 47, 48, 49, 50, 51, 52, 53, 54, 55, 56, 57, 58, 59, 60, 61, 62, 63, 64, 65, 66, 67, 68, 69, 70, 71, 72, 73, 74, 75] (by decide +kernel) (by decide +kernel)
set_option maxRecDepth 20000 in
theorem gX4_does_X4_hedges : GoodIn wsX4_does (wsV RX4 107 RX4 yX4_hedges wsX4_hedges) := goodIn_app (goodIn_of _ (by decide +kernel)) ggX4_does_X4_hedges
set_option maxRecDepth 20000 in
theorem ggX4_does_X4_goesTo : GoodIn wsX4_does wsX4_goesTo := goodIn_r _ [23, 24, 8, 25, 26, 27, 6, 28, 29, 30, 31, 32, 13, 33, 34, 35, 36, 37, 38, 39, 40, 1, 41, 42, 43, 44, 45, 46, 47, 48, 49, 50, 51, 52, 53, 54, 55, 56, 57, 58, 59, 60, 61, 62, 63, 64, 65, 66, 67, 68, 69, 70, 71, 72, 73, 74, 75] (by decide +kernel) (by decide +kernel)
set_option maxRecDepth 20000 in
theorem gX4_does_X4_goesTo : GoodIn wsX4_does (wsV RX4 153 RX4 yX4_goesTo wsX4_goesTo) := goodIn_app (goodIn_of _ (by decide +kernel)) ggX4_does_X4_goesTo
set_option maxRecDepth 20000 in
theorem ggX4_goSeason_X4_does : GoodIn wsX4_goSeason wsX4_does := goodIn_r _ [7, 8, 1, 9, 10, 11, 6, 12, 13, 14, 15, 16, 17, 18, 19, 20, 21, 22, 23, 24, 25, 26, 27, 28, 29, 30, 31, 32, 33, 34, 35, 36, 37, 38, 39, 40, 41, 42, 43, 44, 45, 46, 47, 48, 49, 50, 51, 52, 53, 54, 55, 56, 57, 58, 59, 60, 61, 62, 63, 64, 65, 66, 67, 68, 69, 70, 71, 72, 73, 74, 75, 76, 77, 78, 79, 80] (by decide +kernel) (by decide +kernel)
set_option maxRecDepth 20000 in
theorem gX4_goSeason_X4_does : GoodIn wsX4_goSeason (wsV RX4 171 RX4 yX4_does wsX4_does) := goodIn_app (goodIn_of _ (by decide +kernel)) ggX4_goSeason_X4_does
set_option maxRecDepth 20000 in
theorem ggX4_refusesPair_X4_within : GoodIn wsX4_refusesPair wsX4_within := goodIn_r _ [4] (by decide +kernel) (by decide +kernel)
set_option maxRecDepth 20000 in
theorem gX4_refusesPair_X4_within : GoodIn wsX4_refusesPair (va_wsS RX4 64 yX4_within wsX4_within) := goodIn_app (goodIn_of _ (by decide +kernel)) ggX4_refusesPair_X4_within
set_option maxRecDepth 20000 in
theorem ggX4_refusesPair_X4_isGoer : GoodIn wsX4_refusesPair wsX4_isGoer := goodIn_r _ [8, 9, 10, 11, 12, 13, 14, 15, 16, 17, 18, 19, 20, 21, 22, 23, 24, 25, 26, 27, 28, 29, 30, 31, 32, 33, 34, 35, 36, 37, 38] (by decide +kernel) (by decide +kernel)
set_option maxRecDepth 20000 in
theorem gX4_refusesPair_X4_isGoer : GoodIn wsX4_refusesPair (wsV RX4 140 RX4 yX4_isGoer wsX4_isGoer) := goodIn_app (goodIn_of _ (by decide +kernel)) ggX4_refusesPair_X4_isGoer
set_option maxRecDepth 20000 in
theorem ggX4_season_X4_isSheet : GoodIn wsX4_season wsX4_isSheet := goodIn_r _ [7, 8, 9, 6, 10] (by decide +kernel) (by decide +kernel)
set_option maxRecDepth 20000 in
theorem gX4_season_X4_isSheet : GoodIn wsX4_season (va_wsS RX4 85 yX4_isSheet wsX4_isSheet) := goodIn_app (goodIn_of _ (by decide +kernel)) ggX4_season_X4_isSheet
set_option maxRecDepth 20000 in
theorem ggX4_season_X4_isSort : GoodIn wsX4_season wsX4_isSort := goodIn_r _ [13, 8, 9, 6, 10] (by decide +kernel) (by decide +kernel)
set_option maxRecDepth 20000 in
theorem gX4_season_X4_isSort : GoodIn wsX4_season (va_wsS RX4 88 yX4_isSort wsX4_isSort) := goodIn_app (goodIn_of _ (by decide +kernel)) ggX4_season_X4_isSort
set_option maxRecDepth 20000 in
theorem ggX4_season_X4_within : GoodIn wsX4_season wsX4_within := goodIn_r _ [10] (by decide +kernel) (by decide +kernel)
set_option maxRecDepth 20000 in
theorem gX4_season_X4_within : GoodIn wsX4_season (va_wsS RX4 64 yX4_within wsX4_within) := goodIn_app (goodIn_of _ (by decide +kernel)) ggX4_season_X4_within
set_option maxRecDepth 20000 in
theorem ggX4_season_X4_against : GoodIn wsX4_season wsX4_against := goodIn_r _ [17, 18, 19, 104, 105, 106, 107, 108, 109, 110, 111, 112, 113, 114, 115, 116, 117, 118, 119, 120, 121, 122, 123, 124, 125, 126, 127, 128, 129, 130, 131, 132] (by decide +kernel) (by decide +kernel)
set_option maxRecDepth 20000 in
theorem gX4_season_X4_against : GoodIn wsX4_season (wsV RX4 91 RX4 yX4_against wsX4_against) := goodIn_app (goodIn_of _ (by decide +kernel)) ggX4_season_X4_against
set_option maxRecDepth 20000 in
theorem ggX4_season_X4_fails : GoodIn wsX4_season wsX4_fails := goodIn_r _ [23, 1, 104, 105, 106, 107, 108, 109, 110, 111, 112, 113, 114, 115, 116, 117, 118, 119, 120, 121, 122, 123, 124, 125, 126, 127, 128, 129, 130, 131, 132] (by decide +kernel) (by decide +kernel)
set_option maxRecDepth 20000 in
theorem gX4_season_X4_fails : GoodIn wsX4_season (wsV RX4 95 RX4 yX4_fails wsX4_fails) := goodIn_app (goodIn_of _ (by decide +kernel)) ggX4_season_X4_fails
set_option maxRecDepth 20000 in
theorem ggX4_season_X4_refusesPair : GoodIn wsX4_season wsX4_refusesPair := goodIn_r _ [27, 8, 9, 6, 10, 28, 29, 30, 31, 32, 104, 105, 106, 107, 108, 109, 110, 111, 112, 113, 114, 115, 116, 117, 118, 119, 120, 121, 122, 123, 124, 125, 126, 127, 128, 129, 130, 131, 132] (by decide +kernel) (by decide +kernel)
set_option maxRecDepth 20000 in
theorem gX4_season_X4_refusesPair : GoodIn wsX4_season (wsV RX4 174 RX4 yX4_refusesPair wsX4_refusesPair) := goodIn_app (goodIn_of _ (by decide +kernel)) ggX4_season_X4_refusesPair
set_option maxRecDepth 20000 in
theorem ggX4_season_X4_keepAll : GoodIn wsX4_season wsX4_keepAll := goodIn_r _ [36, 37, 38, 39, 40, 32, 41, 42, 43, 44, 45, 6, 46, 2, 47, 48, 49, 104, 105, 106, 107, 108, 109, 110, 111, 112, 113, 114, 115, 116, 117, 118, 119, 120, 121, 122, 123, 124, 125, 126, 127, 128, 129, 130, 131, 132] (by decide +kernel) (by decide +kernel)
set_option maxRecDepth 20000 in
theorem gX4_season_X4_keepAll : GoodIn wsX4_season (wsV RX4 177 RX4 yX4_keepAll wsX4_keepAll) := goodIn_app (goodIn_of _ (by decide +kernel)) ggX4_season_X4_keepAll
set_option maxRecDepth 20000 in
theorem ggX4_season_X4_goSeason : GoodIn wsX4_season wsX4_goSeason := goodIn_r _ [53, 54, 3, 55, 56, 57, 6, 58, 40, 59, 60, 61, 62, 37, 43, 44, 45, 46, 2, 47, 48, 49, 63, 64, 65, 66, 67, 68, 69, 42, 70, 71, 72, 73, 74, 75, 76, 77, 78, 79, 80, 81, 82, 83, 84, 85, 86, 87, 88, 89, 90, 91, 104, 105, 106, 107, 108, 109, 110, 111, 112, 113, 114, 115, 116, 117, 118, 119, 120, 121, 122, 123, 124, 125, 126, 127, 128, 129, 130, 131, 132] (by decide +kernel) (by decide +kernel)
set_option maxRecDepth 20000 in
theorem gX4_season_X4_goSeason : GoodIn wsX4_season (wsV RX4 180 RX4 yX4_goSeason wsX4_goSeason) := goodIn_app (goodIn_of _ (by decide +kernel)) ggX4_season_X4_goSeason
set_option maxRecDepth 20000 in
theorem ggX4_season_X4_tellSeason : GoodIn wsX4_season wsX4_tellSeason := goodIn_r _ [95, 42, 37, 54, 32, 28, 29, 30, 6, 31, 96, 97, 98, 99, 40, 43, 44, 45, 46, 2, 47, 48, 49, 104, 105, 106, 107, 108, 109, 110, 111, 112, 113, 114, 115, 116, 117, 118, 119, 120, 121, 122, 123, 124, 125, 126, 127, 128, 129, 130, 131, 132] (by decide +kernel) (by decide +kernel)
set_option maxRecDepth 20000 in
theorem gX4_season_X4_tellSeason : GoodIn wsX4_season (wsV RX4 183 RX4 yX4_tellSeason wsX4_tellSeason) := goodIn_app (goodIn_of _ (by decide +kernel)) ggX4_season_X4_tellSeason
set_option maxRecDepth 20000 in
theorem ggX4_season_X4_putBack : GoodIn wsX4_season wsX4_putBack := goodIn_r _ [103, 38, 37, 40, 39, 32, 42, 41, 43, 44, 45, 6, 46, 2, 47, 48, 49, 104, 105, 106, 107, 108, 109, 110, 111, 112, 113, 114, 115, 116, 117, 118, 119, 120, 121, 122, 123, 124, 125, 126, 127, 128, 129, 130, 131, 132] (by decide +kernel) (by decide +kernel)
set_option maxRecDepth 20000 in
theorem gX4_season_X4_putBack : GoodIn wsX4_season (wsV RX4 186 RX4 yX4_putBack wsX4_putBack) := goodIn_app (goodIn_of _ (by decide +kernel)) ggX4_season_X4_putBack
set_option maxRecDepth 20000 in
theorem ggX4_tellSeason_X4_isGoer : GoodIn wsX4_tellSeason wsX4_isGoer := goodIn_r _ [9, 4, 23, 24, 25, 26, 27, 28, 29, 30, 31, 32, 33, 34, 35, 36, 37, 38, 39, 40, 41, 42, 43, 44, 45, 46, 47, 48, 49, 50, 51] (by decide +kernel) (by decide +kernel)
set_option maxRecDepth 20000 in
theorem gX4_tellSeason_X4_isGoer : GoodIn wsX4_tellSeason (wsV RX4 140 RX4 yX4_isGoer wsX4_isGoer) := goodIn_app (goodIn_of _ (by decide +kernel)) ggX4_tellSeason_X4_isGoer
set_option maxRecDepth 20000 in
theorem ggX4_tellSeason_X4_holesNow : GoodIn wsX4_tellSeason wsX4_holesNow := goodIn_r _ [13, 14, 15, 16, 17, 8, 18, 19, 20, 21, 22, 23, 24, 25, 26, 27, 28, 29, 30, 31, 32, 33, 34, 35, 36, 37, 38, 39, 40, 41, 42, 43, 44, 45, 46, 47, 48, 49, 50, 51] (by decide +kernel) (by decide +kernel)
set_option maxRecDepth 20000 in
theorem gX4_tellSeason_X4_holesNow : GoodIn wsX4_tellSeason (wsV RX4 162 RX4 yX4_holesNow wsX4_holesNow) := goodIn_app (goodIn_of _ (by decide +kernel)) ggX4_tellSeason_X4_holesNow
set_option maxRecDepth 20000 in
theorem ggX4_reached_X4_isOf : GoodIn wsX4_reached wsX4_isOf := goodIn_r _ [6] (by decide +kernel) (by decide +kernel)
set_option maxRecDepth 20000 in
theorem gX4_reached_X4_isOf : GoodIn wsX4_reached (va_wsS RX4 156 yX4_isOf wsX4_isOf) := goodIn_app (goodIn_of _ (by decide +kernel)) ggX4_reached_X4_isOf
set_option maxRecDepth 20000 in
theorem ggX4_reached_X4_hedge : GoodIn wsX4_reached wsX4_hedge := goodIn_r _ [10, 1, 11, 12, 13, 14, 15, 16, 17, 18, 19, 20, 21, 22, 23, 24, 25, 26, 27, 28, 29, 30, 31, 32, 33, 34, 35, 36, 37, 38, 39] (by decide +kernel) (by decide +kernel)
set_option maxRecDepth 20000 in
theorem gX4_reached_X4_hedge : GoodIn wsX4_reached (wsV RX4 146 RX4 yX4_hedge wsX4_hedge) := goodIn_app (goodIn_of _ (by decide +kernel)) ggX4_reached_X4_hedge
set_option maxRecDepth 20000 in
theorem ggX4_wantsOf_X4_thickOf : GoodIn wsX4_wantsOf wsX4_thickOf := goodIn_r _ [5, 6, 7, 8, 9, 10, 11, 12, 13, 14, 15, 16, 17, 18, 19, 20, 21, 22, 23, 24, 25, 26, 27, 28, 29, 30, 31, 32, 33, 34, 35, 36] (by decide +kernel) (by decide +kernel)
set_option maxRecDepth 20000 in
theorem gX4_wantsOf_X4_thickOf : GoodIn wsX4_wantsOf (wsV RX4 137 RX4 yX4_thickOf wsX4_thickOf) := goodIn_app (goodIn_of _ (by decide +kernel)) ggX4_wantsOf_X4_thickOf
set_option maxRecDepth 20000 in
theorem ggX4_reachedBy_X4_wantsOf : GoodIn wsX4_reachedBy wsX4_wantsOf := goodIn_r _ [6, 7, 8, 9, 5, 10, 11, 12, 26, 27, 28, 29, 30, 31, 32, 33, 34, 35, 36, 37, 38, 39, 40, 41, 42, 43, 44, 45, 46, 47, 48, 49, 50, 51, 52, 53, 54] (by decide +kernel) (by decide +kernel)
set_option maxRecDepth 20000 in
theorem gX4_reachedBy_X4_wantsOf : GoodIn wsX4_reachedBy (wsV RX4 189 RX4 yX4_wantsOf wsX4_wantsOf) := goodIn_app (goodIn_of _ (by decide +kernel)) ggX4_reachedBy_X4_wantsOf
set_option maxRecDepth 20000 in
theorem ggX4_reachedBy_X4_reached : GoodIn wsX4_reachedBy wsX4_reached := goodIn_r _ [16, 17, 18, 19, 20, 5, 21, 22, 23, 24, 25, 26, 27, 28, 29, 30, 31, 32, 33, 34, 35, 36, 37, 38, 39, 40, 41, 42, 43, 44, 45, 46, 47, 48, 49, 50, 51, 52, 53, 54] (by decide +kernel) (by decide +kernel)
set_option maxRecDepth 20000 in
theorem gX4_reachedBy_X4_reached : GoodIn wsX4_reachedBy (wsV RX4 192 RX4 yX4_reached wsX4_reached) := goodIn_app (goodIn_of _ (by decide +kernel)) ggX4_reachedBy_X4_reached
set_option maxRecDepth 20000 in
theorem ggX4_widest_X4_areTwo : GoodIn wsX4_widest wsX4_areTwo := goodIn_r _ [5, 6, 7, 8, 4, 9, 10, 23, 24, 25, 26, 27, 28, 29, 30, 31, 32, 33, 34, 35, 36, 37, 38, 39, 40, 41, 42, 43, 44, 45, 46, 47, 48, 49, 50, 51] (by decide +kernel) (by decide +kernel)
set_option maxRecDepth 20000 in
theorem gX4_widest_X4_areTwo : GoodIn wsX4_widest (wsV RX4 143 RX4 yX4_areTwo wsX4_areTwo) := goodIn_app (goodIn_of _ (by decide +kernel)) ggX4_widest_X4_areTwo
set_option maxRecDepth 20000 in
theorem ggX4_widest_X4_reached : GoodIn wsX4_widest wsX4_reached := goodIn_r _ [14, 10, 15, 16, 17, 4, 18, 19, 20, 21, 22, 23, 24, 25, 26, 27, 28, 29, 30, 31, 32, 33, 34, 35, 36, 37, 38, 39, 40, 41, 42, 43, 44, 45, 46, 47, 48, 49, 50, 51] (by decide +kernel) (by decide +kernel)
set_option maxRecDepth 20000 in
theorem gX4_widest_X4_reached : GoodIn wsX4_widest (wsV RX4 192 RX4 yX4_reached wsX4_reached) := goodIn_app (goodIn_of _ (by decide +kernel)) ggX4_widest_X4_reached
set_option maxRecDepth 20000 in
theorem ggX4_widest_X4_isOf : GoodIn wsX4_widest wsX4_isOf := goodIn_r _ [18] (by decide +kernel) (by decide +kernel)
set_option maxRecDepth 20000 in
theorem gX4_widest_X4_isOf : GoodIn wsX4_widest (va_wsS RX4 156 yX4_isOf wsX4_isOf) := goodIn_app (goodIn_of _ (by decide +kernel)) ggX4_widest_X4_isOf
set_option maxRecDepth 20000 in
theorem ggX4_findFar_X4_hedge : GoodIn wsX4_findFar wsX4_hedge := goodIn_r _ [7, 1, 19, 20, 21, 22, 23, 24, 25, 26, 27, 28, 29, 30, 31, 32, 33, 34, 35, 36, 37, 38, 39, 40, 41, 42, 43, 44, 45, 46, 47] (by decide +kernel) (by decide +kernel)
set_option maxRecDepth 20000 in
theorem gX4_findFar_X4_hedge : GoodIn wsX4_findFar (wsV RX4 146 RX4 yX4_hedge wsX4_hedge) := goodIn_app (goodIn_of _ (by decide +kernel)) ggX4_findFar_X4_hedge
set_option maxRecDepth 20000 in
theorem ggX4_findFar_X4_fitsHole : GoodIn wsX4_findFar wsX4_fitsHole := goodIn_r _ [11, 12, 13, 14, 15, 6, 16, 17, 18, 19, 20, 21, 22, 23, 24, 25, 26, 27, 28, 29, 30, 31, 32, 33, 34, 35, 36, 37, 38, 39, 40, 41, 42, 43, 44, 45, 46, 47] (by decide +kernel) (by decide +kernel)
set_option maxRecDepth 20000 in
theorem gX4_findFar_X4_fitsHole : GoodIn wsX4_findFar (wsV RX4 150 RX4 yX4_fitsHole wsX4_fitsHole) := goodIn_app (goodIn_of _ (by decide +kernel)) ggX4_findFar_X4_fitsHole
set_option maxRecDepth 20000 in
theorem ggX4_way_X4_isGoer : GoodIn wsX4_way wsX4_isGoer := goodIn_r _ [7, 8, 36, 37, 38, 39, 40, 41, 42, 43, 44, 45, 46, 47, 48, 49, 50, 51, 52, 53, 54, 55, 56, 57, 58, 59, 60, 61, 62, 63, 64] (by decide +kernel) (by decide +kernel)
set_option maxRecDepth 20000 in
theorem gX4_way_X4_isGoer : GoodIn wsX4_way (wsV RX4 140 RX4 yX4_isGoer wsX4_isGoer) := goodIn_app (goodIn_of _ (by decide +kernel)) ggX4_way_X4_isGoer
set_option maxRecDepth 20000 in
theorem ggX4_way_X4_isField : GoodIn wsX4_way wsX4_isField := goodIn_r _ [12, 13, 36, 37, 38, 39, 40, 41, 42, 43, 44, 45, 46, 47, 48, 49, 50, 51, 52, 53, 54, 55, 56, 57, 58, 59, 60, 61, 62, 63, 64] (by decide +kernel) (by decide +kernel)
set_option maxRecDepth 20000 in
theorem gX4_way_X4_isField : GoodIn wsX4_way (wsV RX4 71 RX4 yX4_isField wsX4_isField) := goodIn_app (goodIn_of _ (by decide +kernel)) ggX4_way_X4_isField
set_option maxRecDepth 20000 in
theorem ggX4_way_X4_within : GoodIn wsX4_way wsX4_within := goodIn_r _ [16] (by decide +kernel) (by decide +kernel)
set_option maxRecDepth 20000 in
theorem gX4_way_X4_within : GoodIn wsX4_way (va_wsS RX4 64 yX4_within wsX4_within) := goodIn_app (goodIn_of _ (by decide +kernel)) ggX4_way_X4_within
set_option maxRecDepth 20000 in
theorem ggX4_way_X4_findFar : GoodIn wsX4_way wsX4_findFar := goodIn_r _ [20, 13, 2, 21, 22, 23, 6, 24, 25, 26, 27, 28, 29, 30, 31, 32, 33, 34, 35, 36, 37, 38, 39, 40, 41, 42, 43, 44, 45, 46, 47, 48, 49, 50, 51, 52, 53, 54, 55, 56, 57, 58, 59, 60, 61, 62, 63, 64] (by decide +kernel) (by decide +kernel)
set_option maxRecDepth 20000 in
theorem gX4_way_X4_findFar : GoodIn wsX4_way (wsV RX4 195 RX4 yX4_findFar wsX4_findFar) := goodIn_app (goodIn_of _ (by decide +kernel)) ggX4_way_X4_findFar
set_option maxRecDepth 20000 in
theorem ggX4_way_X4_hedge : GoodIn wsX4_way wsX4_hedge := goodIn_r _ [24, 13, 36, 37, 38, 39, 40, 41, 42, 43, 44, 45, 46, 47, 48, 49, 50, 51, 52, 53, 54, 55, 56, 57, 58, 59, 60, 61, 62, 63, 64] (by decide +kernel) (by decide +kernel)
set_option maxRecDepth 20000 in
theorem gX4_way_X4_hedge : GoodIn wsX4_way (wsV RX4 146 RX4 yX4_hedge wsX4_hedge) := goodIn_app (goodIn_of _ (by decide +kernel)) ggX4_way_X4_hedge
set_option maxRecDepth 20000 in
theorem ggX4_way_X4_fitsHole : GoodIn wsX4_way wsX4_fitsHole := goodIn_r _ [28, 29, 30, 31, 32, 6, 33, 34, 35, 36, 37, 38, 39, 40, 41, 42, 43, 44, 45, 46, 47, 48, 49, 50, 51, 52, 53, 54, 55, 56, 57, 58, 59, 60, 61, 62, 63, 64] (by decide +kernel) (by decide +kernel)
set_option maxRecDepth 20000 in
theorem gX4_way_X4_fitsHole : GoodIn wsX4_way (wsV RX4 150 RX4 yX4_fitsHole wsX4_fitsHole) := goodIn_app (goodIn_of _ (by decide +kernel)) ggX4_way_X4_fitsHole
set_option maxRecDepth 20000 in
theorem ggX4_market_X4_within : GoodIn wsX4_market wsX4_within := goodIn_r _ [6] (by decide +kernel) (by decide +kernel)
set_option maxRecDepth 20000 in
theorem gX4_market_X4_within : GoodIn wsX4_market (va_wsS RX4 64 yX4_within wsX4_within) := goodIn_app (goodIn_of _ (by decide +kernel)) ggX4_market_X4_within
set_option maxRecDepth 20000 in
theorem ggX4_market_X4_reachedBy : GoodIn wsX4_market wsX4_reachedBy := goodIn_r _ [10, 11, 12, 13, 14, 5, 15, 16, 17, 18, 19, 20, 21, 22, 23, 24, 25, 1, 26, 27, 28, 29, 30, 31, 32, 33, 37, 38, 39, 40, 41, 42, 43, 44, 45, 46, 47, 48, 49, 50, 51, 52, 53, 54, 55, 56, 57, 58, 59, 60, 61, 62, 63, 64, 65] (by decide +kernel) (by decide +kernel)
set_option maxRecDepth 20000 in
theorem gX4_market_X4_reachedBy : GoodIn wsX4_market (wsV RX4 199 RX4 yX4_reachedBy wsX4_reachedBy) := goodIn_app (goodIn_of _ (by decide +kernel)) ggX4_market_X4_reachedBy
set_option maxRecDepth 20000 in
theorem ggX4_market_X4_isOf : GoodIn wsX4_market wsX4_isOf := goodIn_r _ [29] (by decide +kernel) (by decide +kernel)
set_option maxRecDepth 20000 in
theorem gX4_market_X4_isOf : GoodIn wsX4_market (va_wsS RX4 156 yX4_isOf wsX4_isOf) := goodIn_app (goodIn_of _ (by decide +kernel)) ggX4_market_X4_isOf
set_option maxRecDepth 20000 in
theorem ggX4_market_X4_size : GoodIn wsX4_market wsX4_size := goodIn_r _ [36] (by decide +kernel) (by decide +kernel)
set_option maxRecDepth 20000 in
theorem gX4_market_X4_size : GoodIn wsX4_market (va_wsS RX4 202 yX4_size wsX4_size) := goodIn_app (goodIn_of _ (by decide +kernel)) ggX4_market_X4_size
set_option maxRecDepth 20000 in
theorem ggX4_widen_X4_isGoer : GoodIn wsX4_widen wsX4_isGoer := goodIn_r _ [9, 10, 29, 30, 31, 32, 33, 34, 35, 36, 37, 38, 39, 40, 41, 42, 43, 44, 45, 46, 47, 48, 49, 50, 51, 52, 53, 54, 55, 56, 57] (by decide +kernel) (by decide +kernel)
set_option maxRecDepth 20000 in
theorem gX4_widen_X4_isGoer : GoodIn wsX4_widen (wsV RX4 140 RX4 yX4_isGoer wsX4_isGoer) := goodIn_app (goodIn_of _ (by decide +kernel)) ggX4_widen_X4_isGoer
set_option maxRecDepth 20000 in
theorem ggX4_widen_X4_isField : GoodIn wsX4_widen wsX4_isField := goodIn_r _ [14, 1, 29, 30, 31, 32, 33, 34, 35, 36, 37, 38, 39, 40, 41, 42, 43, 44, 45, 46, 47, 48, 49, 50, 51, 52, 53, 54, 55, 56, 57] (by decide +kernel) (by decide +kernel)
set_option maxRecDepth 20000 in
theorem gX4_widen_X4_isField : GoodIn wsX4_widen (wsV RX4 71 RX4 yX4_isField wsX4_isField) := goodIn_app (goodIn_of _ (by decide +kernel)) ggX4_widen_X4_isField
set_option maxRecDepth 20000 in
theorem ggX4_widen_X4_hedge : GoodIn wsX4_widen wsX4_hedge := goodIn_r _ [18, 1, 29, 30, 31, 32, 33, 34, 35, 36, 37, 38, 39, 40, 41, 42, 43, 44, 45, 46, 47, 48, 49, 50, 51, 52, 53, 54, 55, 56, 57] (by decide +kernel) (by decide +kernel)
set_option maxRecDepth 20000 in
theorem gX4_widen_X4_hedge : GoodIn wsX4_widen (wsV RX4 146 RX4 yX4_hedge wsX4_hedge) := goodIn_app (goodIn_of _ (by decide +kernel)) ggX4_widen_X4_hedge
set_option maxRecDepth 20000 in
theorem ggX4_widen_X4_fitsHole : GoodIn wsX4_widen wsX4_fitsHole := goodIn_r _ [22, 4, 23, 24, 25, 8, 26, 27, 28, 29, 30, 31, 32, 33, 34, 35, 36, 37, 38, 39, 40, 41, 42, 43, 44, 45, 46, 47, 48, 49, 50, 51, 52, 53, 54, 55, 56, 57] (by decide +kernel) (by decide +kernel)
set_option maxRecDepth 20000 in
theorem gX4_widen_X4_fitsHole : GoodIn wsX4_widen (wsV RX4 150 RX4 yX4_fitsHole wsX4_fitsHole) := goodIn_app (goodIn_of _ (by decide +kernel)) ggX4_widen_X4_fitsHole
set_option maxRecDepth 20000 in
theorem ggX4_keep_X4_isGoer : GoodIn wsX4_keep wsX4_isGoer := goodIn_r _ [6, 7, 45, 46, 47, 48, 49, 50, 51, 52, 53, 54, 55, 56, 57, 58, 59, 60, 61, 62, 63, 64, 65, 66, 67, 68, 69, 70, 71, 72, 73] (by decide +kernel) (by decide +kernel)
set_option maxRecDepth 20000 in
theorem gX4_keep_X4_isGoer : GoodIn wsX4_keep (wsV RX4 140 RX4 yX4_isGoer wsX4_isGoer) := goodIn_app (goodIn_of _ (by decide +kernel)) ggX4_keep_X4_isGoer
set_option maxRecDepth 20000 in
theorem ggX4_keep_X4_isField : GoodIn wsX4_keep wsX4_isField := goodIn_r _ [11, 12, 45, 46, 47, 48, 49, 50, 51, 52, 53, 54, 55, 56, 57, 58, 59, 60, 61, 62, 63, 64, 65, 66, 67, 68, 69, 70, 71, 72, 73] (by decide +kernel) (by decide +kernel)
set_option maxRecDepth 20000 in
theorem gX4_keep_X4_isField : GoodIn wsX4_keep (wsV RX4 71 RX4 yX4_isField wsX4_isField) := goodIn_app (goodIn_of _ (by decide +kernel)) ggX4_keep_X4_isField
set_option maxRecDepth 20000 in
theorem ggX4_keep_X4_hedges : GoodIn wsX4_keep wsX4_hedges := goodIn_r _ [16, 12, 17, 18, 5, 19, 45, 46, 47, 48, 49, 50, 51, 52, 53, 54, 55, 56, 57, 58, 59, 60, 61, 62, 63, 64, 65, 66, 67, 68, 69, 70, 71, 72, 73] (by decide +kernel) (by decide +kernel)
set_option maxRecDepth 20000 in
theorem gX4_keep_X4_hedges : GoodIn wsX4_keep (wsV RX4 107 RX4 yX4_hedges wsX4_hedges) := goodIn_app (goodIn_of _ (by decide +kernel)) ggX4_keep_X4_hedges
set_option maxRecDepth 20000 in
theorem ggX4_keep_X4_size : GoodIn wsX4_keep wsX4_size := goodIn_r _ [22] (by decide +kernel) (by decide +kernel)
set_option maxRecDepth 20000 in
theorem gX4_keep_X4_size : GoodIn wsX4_keep (va_wsS RX4 202 yX4_size wsX4_size) := goodIn_app (goodIn_of _ (by decide +kernel)) ggX4_keep_X4_size
set_option maxRecDepth 20000 in
theorem ggX4_keep_X4_wantsOf : GoodIn wsX4_keep wsX4_wantsOf := goodIn_r _ [26, 27, 28, 29, 5, 30, 31, 32, 45, 46, 47, 48, 49, 50, 51, 52, 53, 54, 55, 56, 57, 58, 59, 60, 61, 62, 63, 64, 65, 66, 67, 68, 69, 70, 71, 72, 73] (by decide +kernel) (by decide +kernel)
set_option maxRecDepth 20000 in
theorem gX4_keep_X4_wantsOf : GoodIn wsX4_keep (wsV RX4 189 RX4 yX4_wantsOf wsX4_wantsOf) := goodIn_app (goodIn_of _ (by decide +kernel)) ggX4_keep_X4_wantsOf
set_option maxRecDepth 20000 in
theorem ggX4_keep_X4_reached : GoodIn wsX4_keep wsX4_reached := goodIn_r _ [36, 12, 37, 38, 39, 5, 40, 41, 42, 43, 44, 45, 46, 47, 48, 49, 50, 51, 52, 53, 54, 55, 56, 57, 58, 59, 60, 61, 62, 63, 64, 65, 66, 67, 68, 69, 70, 71, 72, 73] (by decide +kernel) (by decide +kernel)
set_option maxRecDepth 20000 in
theorem gX4_keep_X4_reached : GoodIn wsX4_keep (wsV RX4 192 RX4 yX4_reached wsX4_reached) := goodIn_app (goodIn_of _ (by decide +kernel)) ggX4_keep_X4_reached
set_option maxRecDepth 20000 in
theorem ggX4_keep_X4_isOf : GoodIn wsX4_keep wsX4_isOf := goodIn_r _ [40] (by decide +kernel) (by decide +kernel)
set_option maxRecDepth 20000 in
theorem gX4_keep_X4_isOf : GoodIn wsX4_keep (va_wsS RX4 156 yX4_isOf wsX4_isOf) := goodIn_app (goodIn_of _ (by decide +kernel)) ggX4_keep_X4_isOf
set_option maxRecDepth 20000 in
theorem ggX4_reading_X4_isGoer : GoodIn wsX4_reading wsX4_isGoer := goodIn_r _ [9, 10, 27, 28, 29, 30, 31, 32, 33, 34, 35, 36, 37, 38, 39, 40, 41, 42, 43, 44, 45, 46, 47, 48, 49, 50, 51, 52, 53, 54, 55] (by decide +kernel) (by decide +kernel)
set_option maxRecDepth 20000 in
theorem gX4_reading_X4_isGoer : GoodIn wsX4_reading (wsV RX4 140 RX4 yX4_isGoer wsX4_isGoer) := goodIn_app (goodIn_of _ (by decide +kernel)) ggX4_reading_X4_isGoer
set_option maxRecDepth 20000 in
theorem ggX4_reading_X4_areTwo : GoodIn wsX4_reading wsX4_areTwo := goodIn_r _ [14, 15, 16, 17, 8, 18, 19, 27, 28, 29, 30, 31, 32, 33, 34, 35, 36, 37, 38, 39, 40, 41, 42, 43, 44, 45, 46, 47, 48, 49, 50, 51, 52, 53, 54, 55] (by decide +kernel) (by decide +kernel)
set_option maxRecDepth 20000 in
theorem gX4_reading_X4_areTwo : GoodIn wsX4_reading (wsV RX4 143 RX4 yX4_areTwo wsX4_areTwo) := goodIn_app (goodIn_of _ (by decide +kernel)) ggX4_reading_X4_areTwo
set_option maxRecDepth 20000 in
theorem ggX4_reading_X4_within : GoodIn wsX4_reading wsX4_within := goodIn_r _ [22] (by decide +kernel) (by decide +kernel)
set_option maxRecDepth 20000 in
theorem gX4_reading_X4_within : GoodIn wsX4_reading (va_wsS RX4 64 yX4_within wsX4_within) := goodIn_app (goodIn_of _ (by decide +kernel)) ggX4_reading_X4_within
set_option maxRecDepth 20000 in
theorem ggX4_reading_X4_hedge : GoodIn wsX4_reading wsX4_hedge := goodIn_r _ [26, 19, 27, 28, 29, 30, 31, 32, 33, 34, 35, 36, 37, 38, 39, 40, 41, 42, 43, 44, 45, 46, 47, 48, 49, 50, 51, 52, 53, 54, 55] (by decide +kernel) (by decide +kernel)
set_option maxRecDepth 20000 in
theorem gX4_reading_X4_hedge : GoodIn wsX4_reading (wsV RX4 146 RX4 yX4_hedge wsX4_hedge) := goodIn_app (goodIn_of _ (by decide +kernel)) ggX4_reading_X4_hedge
set_option maxRecDepth 20000 in
theorem ggX4_back_X4_within : GoodIn wsX4_back wsX4_within := goodIn_r _ [5] (by decide +kernel) (by decide +kernel)
set_option maxRecDepth 20000 in
theorem gX4_back_X4_within : GoodIn wsX4_back (va_wsS RX4 64 yX4_within wsX4_within) := goodIn_app (goodIn_of _ (by decide +kernel)) ggX4_back_X4_within
set_option maxRecDepth 20000 in
theorem ggX4_areSo_X4_fitsHole : GoodIn wsX4_areSo wsX4_fitsHole := goodIn_r _ [9, 10, 11, 12, 13, 8, 14, 15, 16, 17, 18, 19, 20, 21, 22, 23, 24, 25, 26, 27, 28, 29, 30, 31, 32, 33, 34, 35, 36, 37, 38, 39, 40, 41, 42, 43, 44, 45] (by decide +kernel) (by decide +kernel)
set_option maxRecDepth 20000 in
theorem gX4_areSo_X4_fitsHole : GoodIn wsX4_areSo (wsV RX4 150 RX4 yX4_fitsHole wsX4_fitsHole) := goodIn_app (goodIn_of _ (by decide +kernel)) ggX4_areSo_X4_fitsHole
set_option maxRecDepth 20000 in
theorem ggX4_girths_X4_isGoer : GoodIn wsX4_girths wsX4_isGoer := goodIn_r _ [6, 7, 26, 27, 28, 29, 30, 31, 32, 33, 34, 35, 36, 37, 38, 39, 40, 41, 42, 43, 44, 45, 46, 47, 48, 49, 50, 51, 52, 53, 54] (by decide +kernel) (by decide +kernel)
set_option maxRecDepth 20000 in
theorem gX4_girths_X4_isGoer : GoodIn wsX4_girths (wsV RX4 140 RX4 yX4_isGoer wsX4_isGoer) := goodIn_app (goodIn_of _ (by decide +kernel)) ggX4_girths_X4_isGoer
set_option maxRecDepth 20000 in
theorem ggX4_girths_X4_areSo : GoodIn wsX4_girths wsX4_areSo := goodIn_r _ [11, 12, 13, 14, 15, 16, 17, 18, 5, 19, 20, 21, 22, 23, 24, 25, 1, 26, 27, 28, 29, 30, 31, 32, 33, 34, 35, 36, 37, 38, 39, 40, 41, 42, 43, 44, 45, 46, 47, 48, 49, 50, 51, 52, 53, 54] (by decide +kernel) (by decide +kernel)
set_option maxRecDepth 20000 in
theorem gX4_girths_X4_areSo : GoodIn wsX4_girths (wsV RX4 205 RX4 yX4_areSo wsX4_areSo) := goodIn_app (goodIn_of _ (by decide +kernel)) ggX4_girths_X4_areSo
set_option maxRecDepth 20000 in
theorem ggX4_kinds_X4_isGoer : GoodIn wsX4_kinds wsX4_isGoer := goodIn_r _ [6, 7, 26, 27, 28, 29, 30, 31, 32, 33, 34, 35, 36, 37, 38, 39, 40, 41, 42, 43, 44, 45, 46, 47, 48, 49, 50, 51, 52, 53, 54] (by decide +kernel) (by decide +kernel)
set_option maxRecDepth 20000 in
theorem gX4_kinds_X4_isGoer : GoodIn wsX4_kinds (wsV RX4 140 RX4 yX4_isGoer wsX4_isGoer) := goodIn_app (goodIn_of _ (by decide +kernel)) ggX4_kinds_X4_isGoer
set_option maxRecDepth 20000 in
theorem ggX4_kinds_X4_areSo : GoodIn wsX4_kinds wsX4_areSo := goodIn_r _ [11, 12, 13, 14, 15, 16, 17, 18, 5, 19, 20, 21, 22, 23, 24, 1, 25, 26, 27, 28, 29, 30, 31, 32, 33, 34, 35, 36, 37, 38, 39, 40, 41, 42, 43, 44, 45, 46, 47, 48, 49, 50, 51, 52, 53, 54] (by decide +kernel) (by decide +kernel)
set_option maxRecDepth 20000 in
theorem gX4_kinds_X4_areSo : GoodIn wsX4_kinds (wsV RX4 205 RX4 yX4_areSo wsX4_areSo) := goodIn_app (goodIn_of _ (by decide +kernel)) ggX4_kinds_X4_areSo
set_option maxRecDepth 20000 in
theorem ggX4_holes_X4_areTwo : GoodIn wsX4_holes wsX4_areTwo := goodIn_r _ [6, 7, 8, 9, 5, 10, 11, 34, 35, 36, 37, 38, 39, 40, 41, 42, 43, 44, 45, 46, 47, 48, 49, 50, 51, 52, 53, 54, 55, 56, 57, 58, 59, 60, 61, 62] (by decide +kernel) (by decide +kernel)
set_option maxRecDepth 20000 in
theorem gX4_holes_X4_areTwo : GoodIn wsX4_holes (wsV RX4 143 RX4 yX4_areTwo wsX4_areTwo) := goodIn_app (goodIn_of _ (by decide +kernel)) ggX4_holes_X4_areTwo
set_option maxRecDepth 20000 in
theorem ggX4_holes_X4_hedge : GoodIn wsX4_holes wsX4_hedge := goodIn_r _ [15, 11, 34, 35, 36, 37, 38, 39, 40, 41, 42, 43, 44, 45, 46, 47, 48, 49, 50, 51, 52, 53, 54, 55, 56, 57, 58, 59, 60, 61, 62] (by decide +kernel) (by decide +kernel)
set_option maxRecDepth 20000 in
theorem gX4_holes_X4_hedge : GoodIn wsX4_holes (wsV RX4 146 RX4 yX4_hedge wsX4_hedge) := goodIn_app (goodIn_of _ (by decide +kernel)) ggX4_holes_X4_hedge
set_option maxRecDepth 20000 in
theorem ggX4_holes_X4_areSo : GoodIn wsX4_holes wsX4_areSo := goodIn_r _ [19, 20, 21, 22, 23, 24, 25, 26, 5, 27, 1, 28, 29, 30, 31, 32, 33, 34, 35, 36, 37, 38, 39, 40, 41, 42, 43, 44, 45, 46, 47, 48, 49, 50, 51, 52, 53, 54, 55, 56, 57, 58, 59, 60, 61, 62] (by decide +kernel) (by decide +kernel)
set_option maxRecDepth 20000 in
theorem gX4_holes_X4_areSo : GoodIn wsX4_holes (wsV RX4 205 RX4 yX4_areSo wsX4_areSo) := goodIn_app (goodIn_of _ (by decide +kernel)) ggX4_holes_X4_areSo
set_option maxRecDepth 20000 in
theorem ggX4_odds_X4_isGoer : GoodIn wsX4_odds wsX4_isGoer := goodIn_r _ [8, 9, 47, 48, 49, 50, 51, 52, 53, 54, 55, 56, 57, 58, 59, 60, 61, 62, 63, 64, 65, 66, 67, 68, 69, 70, 71, 72, 73, 74, 75] (by decide +kernel) (by decide +kernel)
set_option maxRecDepth 20000 in
theorem gX4_odds_X4_isGoer : GoodIn wsX4_odds (wsV RX4 140 RX4 yX4_isGoer wsX4_isGoer) := goodIn_app (goodIn_of _ (by decide +kernel)) ggX4_odds_X4_isGoer
set_option maxRecDepth 20000 in
theorem ggX4_odds_X4_isField : GoodIn wsX4_odds wsX4_isField := goodIn_r _ [13, 14, 47, 48, 49, 50, 51, 52, 53, 54, 55, 56, 57, 58, 59, 60, 61, 62, 63, 64, 65, 66, 67, 68, 69, 70, 71, 72, 73, 74, 75] (by decide +kernel) (by decide +kernel)
set_option maxRecDepth 20000 in
theorem gX4_odds_X4_isField : GoodIn wsX4_odds (wsV RX4 71 RX4 yX4_isField wsX4_isField) := goodIn_app (goodIn_of _ (by decide +kernel)) ggX4_odds_X4_isField
set_option maxRecDepth 20000 in
theorem ggX4_odds_X4_within : GoodIn wsX4_odds wsX4_within := goodIn_r _ [17] (by decide +kernel) (by decide +kernel)
set_option maxRecDepth 20000 in
theorem gX4_odds_X4_within : GoodIn wsX4_odds (va_wsS RX4 64 yX4_within wsX4_within) := goodIn_app (goodIn_of _ (by decide +kernel)) ggX4_odds_X4_within
set_option maxRecDepth 20000 in
theorem ggX4_odds_X4_reachedBy : GoodIn wsX4_odds wsX4_reachedBy := goodIn_r _ [21, 22, 23, 24, 25, 7, 26, 27, 28, 29, 30, 31, 2, 32, 33, 34, 35, 14, 36, 37, 38, 39, 40, 41, 42, 43, 47, 48, 49, 50, 51, 52, 53, 54, 55, 56, 57, 58, 59, 60, 61, 62, 63, 64, 65, 66, 67, 68, 69, 70, 71, 72, 73, 74, 75] (by decide +kernel) (by decide +kernel)
set_option maxRecDepth 20000 in
theorem gX4_odds_X4_reachedBy : GoodIn wsX4_odds (wsV RX4 199 RX4 yX4_reachedBy wsX4_reachedBy) := goodIn_app (goodIn_of _ (by decide +kernel)) ggX4_odds_X4_reachedBy
set_option maxRecDepth 20000 in
theorem ggX4_odds_X4_isOf : GoodIn wsX4_odds wsX4_isOf := goodIn_r _ [39] (by decide +kernel) (by decide +kernel)
set_option maxRecDepth 20000 in
theorem gX4_odds_X4_isOf : GoodIn wsX4_odds (va_wsS RX4 156 yX4_isOf wsX4_isOf) := goodIn_app (goodIn_of _ (by decide +kernel)) ggX4_odds_X4_isOf
set_option maxRecDepth 20000 in
theorem ggX4_odds_X4_inLeastTerms : GoodIn wsX4_odds wsX4_inLeastTerms := goodIn_r _ [46] (by decide +kernel) (by decide +kernel)
set_option maxRecDepth 20000 in
theorem gX4_odds_X4_inLeastTerms : GoodIn wsX4_odds (va_wsS RX4 211 yX4_inLeastTerms wsX4_inLeastTerms) := goodIn_app (goodIn_of _ (by decide +kernel)) ggX4_odds_X4_inLeastTerms
set_option maxRecDepth 20000 in
theorem ggX4_sheet_X4_isSheet : GoodIn wsX4_sheet wsX4_isSheet := goodIn_r _ [8, 9, 10, 7, 11] (by decide +kernel) (by decide +kernel)
set_option maxRecDepth 20000 in
theorem gX4_sheet_X4_isSheet : GoodIn wsX4_sheet (va_wsS RX4 85 yX4_isSheet wsX4_isSheet) := goodIn_app (goodIn_of _ (by decide +kernel)) ggX4_sheet_X4_isSheet
set_option maxRecDepth 20000 in
theorem ggX4_sheet_X4_isSort : GoodIn wsX4_sheet wsX4_isSort := goodIn_r _ [14, 9, 10, 7, 11] (by decide +kernel) (by decide +kernel)
set_option maxRecDepth 20000 in
theorem gX4_sheet_X4_isSort : GoodIn wsX4_sheet (va_wsS RX4 88 yX4_isSort wsX4_isSort) := goodIn_app (goodIn_of _ (by decide +kernel)) ggX4_sheet_X4_isSort
set_option maxRecDepth 20000 in
theorem ggX4_sheet_X4_fails : GoodIn wsX4_sheet wsX4_fails := goodIn_r _ [18, 1, 19, 20, 21, 22, 23, 24, 25, 26, 27, 28, 29, 30, 31, 32, 33, 34, 35, 36, 37, 38, 39, 40, 41, 42, 43, 44, 45, 46, 47] (by decide +kernel) (by decide +kernel)
set_option maxRecDepth 20000 in
theorem gX4_sheet_X4_fails : GoodIn wsX4_sheet (wsV RX4 95 RX4 yX4_fails wsX4_fails) := goodIn_app (goodIn_of _ (by decide +kernel)) ggX4_sheet_X4_fails
set_option maxRecDepth 20000 in
theorem ggX4_lose_X4_isSheet : GoodIn wsX4_lose wsX4_isSheet := goodIn_r _ [5, 6, 7, 4, 8] (by decide +kernel) (by decide +kernel)
set_option maxRecDepth 20000 in
theorem gX4_lose_X4_isSheet : GoodIn wsX4_lose (va_wsS RX4 85 yX4_isSheet wsX4_isSheet) := goodIn_app (goodIn_of _ (by decide +kernel)) ggX4_lose_X4_isSheet
set_option maxRecDepth 20000 in
theorem ggX4_put_X4_isSheet : GoodIn wsX4_put wsX4_isSheet := goodIn_r _ [8, 9, 10, 7, 11] (by decide +kernel) (by decide +kernel)
set_option maxRecDepth 20000 in
theorem gX4_put_X4_isSheet : GoodIn wsX4_put (va_wsS RX4 85 yX4_isSheet wsX4_isSheet) := goodIn_app (goodIn_of _ (by decide +kernel)) ggX4_put_X4_isSheet
set_option maxRecDepth 20000 in
theorem ggX4_put_X4_fails : GoodIn wsX4_put wsX4_fails := goodIn_r _ [15, 1, 16, 17, 18, 19, 20, 21, 22, 23, 24, 25, 26, 27, 28, 29, 30, 31, 32, 33, 34, 35, 36, 37, 38, 39, 40, 41, 42, 43, 44] (by decide +kernel) (by decide +kernel)
set_option maxRecDepth 20000 in
theorem gX4_put_X4_fails : GoodIn wsX4_put (wsV RX4 95 RX4 yX4_fails wsX4_fails) := goodIn_app (goodIn_of _ (by decide +kernel)) ggX4_put_X4_fails
set_option maxRecDepth 20000 in
theorem ggX4_put_X4_within : GoodIn wsX4_put wsX4_within := goodIn_r _ [11] (by decide +kernel) (by decide +kernel)
set_option maxRecDepth 20000 in
theorem gX4_put_X4_within : GoodIn wsX4_put (va_wsS RX4 64 yX4_within wsX4_within) := goodIn_app (goodIn_of _ (by decide +kernel)) ggX4_put_X4_within
set_option maxRecDepth 20000 in
theorem ggX4_cell_X4_isSheet : GoodIn wsX4_cell wsX4_isSheet := goodIn_r _ [9, 10, 11, 8, 12] (by decide +kernel) (by decide +kernel)
set_option maxRecDepth 20000 in
theorem gX4_cell_X4_isSheet : GoodIn wsX4_cell (va_wsS RX4 85 yX4_isSheet wsX4_isSheet) := goodIn_app (goodIn_of _ (by decide +kernel)) ggX4_cell_X4_isSheet
set_option maxRecDepth 20000 in
theorem ggX4_cell_X4_isSort : GoodIn wsX4_cell wsX4_isSort := goodIn_r _ [15, 10, 11, 8, 12] (by decide +kernel) (by decide +kernel)
set_option maxRecDepth 20000 in
theorem gX4_cell_X4_isSort : GoodIn wsX4_cell (va_wsS RX4 88 yX4_isSort wsX4_isSort) := goodIn_app (goodIn_of _ (by decide +kernel)) ggX4_cell_X4_isSort
set_option maxRecDepth 20000 in
theorem ggX4_cell_X4_lost : GoodIn wsX4_cell wsX4_lost := goodIn_r _ [19, 1, 2, 20, 21, 22, 23, 24, 25, 26, 27, 28, 29, 30, 31, 32, 33, 34, 35, 36, 37, 38, 39, 40, 41, 42, 43, 44, 45, 46, 47, 48] (by decide +kernel) (by decide +kernel)
set_option maxRecDepth 20000 in
theorem gX4_cell_X4_lost : GoodIn wsX4_cell (wsV RX4 215 RX4 yX4_lost wsX4_lost) := goodIn_app (goodIn_of _ (by decide +kernel)) ggX4_cell_X4_lost
set_option maxRecDepth 20000 in
theorem ggX4_cell_X4_within : GoodIn wsX4_cell wsX4_within := goodIn_r _ [12] (by decide +kernel) (by decide +kernel)
set_option maxRecDepth 20000 in
theorem gX4_cell_X4_within : GoodIn wsX4_cell (va_wsS RX4 64 yX4_within wsX4_within) := goodIn_app (goodIn_of _ (by decide +kernel)) ggX4_cell_X4_within
set_option maxRecDepth 20000 in
theorem ggX4_copy_X4_isSheet : GoodIn wsX4_copy wsX4_isSheet := goodIn_r _ [8, 9, 10, 7, 11] (by decide +kernel) (by decide +kernel)
set_option maxRecDepth 20000 in
theorem gX4_copy_X4_isSheet : GoodIn wsX4_copy (va_wsS RX4 85 yX4_isSheet wsX4_isSheet) := goodIn_app (goodIn_of _ (by decide +kernel)) ggX4_copy_X4_isSheet
set_option maxRecDepth 20000 in
theorem ggX4_copy_X4_fails : GoodIn wsX4_copy wsX4_fails := goodIn_r _ [15, 1, 16, 17, 18, 19, 20, 21, 22, 23, 24, 25, 26, 27, 28, 29, 30, 31, 32, 33, 34, 35, 36, 37, 38, 39, 40, 41, 42, 43, 44] (by decide +kernel) (by decide +kernel)
set_option maxRecDepth 20000 in
theorem gX4_copy_X4_fails : GoodIn wsX4_copy (wsV RX4 95 RX4 yX4_fails wsX4_fails) := goodIn_app (goodIn_of _ (by decide +kernel)) ggX4_copy_X4_fails
set_option maxRecDepth 20000 in
theorem ggX4_tell_X4_isGoer : GoodIn wsX4_tell wsX4_isGoer := goodIn_r _ [7, 8, 14, 15, 16, 17, 18, 19, 20, 21, 22, 23, 24, 25, 26, 27, 28, 29, 30, 31, 32, 33, 34, 35, 36, 37, 38, 39, 40, 41, 42] (by decide +kernel) (by decide +kernel)
set_option maxRecDepth 20000 in
theorem gX4_tell_X4_isGoer : GoodIn wsX4_tell (wsV RX4 140 RX4 yX4_isGoer wsX4_isGoer) := goodIn_app (goodIn_of _ (by decide +kernel)) ggX4_tell_X4_isGoer
set_option maxRecDepth 20000 in
theorem ggX4_tell_X4_begins : GoodIn wsX4_tell wsX4_begins := goodIn_r _ [12, 13, 14, 15, 16, 17, 18, 19, 20, 21, 22, 23, 24, 25, 26, 27, 28, 29, 30, 31, 32, 33, 34, 35, 36, 37, 38, 39, 40, 41, 42] (by decide +kernel) (by decide +kernel)
set_option maxRecDepth 20000 in
theorem gX4_tell_X4_begins : GoodIn wsX4_tell (wsV RX4 222 RX4 yX4_begins wsX4_begins) := goodIn_app (goodIn_of _ (by decide +kernel)) ggX4_tell_X4_begins
set_option maxRecDepth 20000 in
theorem ggX4_hail_X4_isGoer : GoodIn wsX4_hail wsX4_isGoer := goodIn_r _ [7, 8, 14, 15, 16, 17, 18, 19, 20, 21, 22, 23, 24, 25, 26, 27, 28, 29, 30, 31, 32, 33, 34, 35, 36, 37, 38, 39, 40, 41, 42] (by decide +kernel) (by decide +kernel)
set_option maxRecDepth 20000 in
theorem gX4_hail_X4_isGoer : GoodIn wsX4_hail (wsV RX4 140 RX4 yX4_isGoer wsX4_isGoer) := goodIn_app (goodIn_of _ (by decide +kernel)) ggX4_hail_X4_isGoer
set_option maxRecDepth 20000 in
theorem ggX4_hail_X4_begins : GoodIn wsX4_hail wsX4_begins := goodIn_r _ [12, 13, 14, 15, 16, 17, 18, 19, 20, 21, 22, 23, 24, 25, 26, 27, 28, 29, 30, 31, 32, 33, 34, 35, 36, 37, 38, 39, 40, 41, 42] (by decide +kernel) (by decide +kernel)
set_option maxRecDepth 20000 in
theorem gX4_hail_X4_begins : GoodIn wsX4_hail (wsV RX4 222 RX4 yX4_begins wsX4_begins) := goodIn_app (goodIn_of _ (by decide +kernel)) ggX4_hail_X4_begins
set_option maxRecDepth 20000 in
theorem ggX4_as_X4_isGoer : GoodIn wsX4_as wsX4_isGoer := goodIn_r _ [7, 8, 16, 17, 18, 19, 20, 21, 22, 23, 24, 25, 26, 27, 28, 29, 30, 31, 32, 33, 34, 35, 36, 37, 38, 39, 40, 41, 42, 43, 44] (by decide +kernel) (by decide +kernel)
set_option maxRecDepth 20000 in
theorem gX4_as_X4_isGoer : GoodIn wsX4_as (wsV RX4 140 RX4 yX4_isGoer wsX4_isGoer) := goodIn_app (goodIn_of _ (by decide +kernel)) ggX4_as_X4_isGoer
set_option maxRecDepth 20000 in
theorem ggX4_as_X4_within : GoodIn wsX4_as wsX4_within := goodIn_r _ [11] (by decide +kernel) (by decide +kernel)
set_option maxRecDepth 20000 in
theorem gX4_as_X4_within : GoodIn wsX4_as (va_wsS RX4 64 yX4_within wsX4_within) := goodIn_app (goodIn_of _ (by decide +kernel)) ggX4_as_X4_within
set_option maxRecDepth 20000 in
theorem ggX4_as_X4_fails : GoodIn wsX4_as wsX4_fails := goodIn_r _ [15, 1, 16, 17, 18, 19, 20, 21, 22, 23, 24, 25, 26, 27, 28, 29, 30, 31, 32, 33, 34, 35, 36, 37, 38, 39, 40, 41, 42, 43, 44] (by decide +kernel) (by decide +kernel)
set_option maxRecDepth 20000 in
theorem gX4_as_X4_fails : GoodIn wsX4_as (wsV RX4 95 RX4 yX4_fails wsX4_fails) := goodIn_app (goodIn_of _ (by decide +kernel)) ggX4_as_X4_fails
end
section
theorem dX0_init_0 : decode cX0_init 0 = .ok (.aload_n 0, 1) := by decide +kernel
theorem dX0_init_1 : decode cX0_init 1 = .ok (.invokespecial 3, 3) := by decide +kernel
theorem dX0_init_4 : decode cX0_init 4 = .ok (.aload_n 0, 1) := by decide +kernel
theorem dX0_init_5 : decode cX0_init 5 = .ok (.iconst 0, 1) := by decide +kernel
theorem dX0_init_6 : decode cX0_init 6 = .ok (.putfield 9, 3) := by decide +kernel
theorem dX0_init_9 : decode cX0_init 9 = .ok (.aload_n 0, 1) := by decide +kernel
theorem dX0_init_10 : decode cX0_init 10 = .ok (.iconst 0, 1) := by decide +kernel
theorem dX0_init_11 : decode cX0_init 11 = .ok (.putfield 15, 3) := by decide +kernel
theorem dX0_init_14 : decode cX0_init 14 = .ok (.aload_n 0, 1) := by decide +kernel
theorem dX0_init_15 : decode cX0_init 15 = .ok (.iconst 0, 1) := by decide +kernel
theorem dX0_init_16 : decode cX0_init 16 = .ok (.putfield 18, 3) := by decide +kernel
theorem dX0_init_19 : decode cX0_init 19 = .ok (.aload_n 0, 1) := by decide +kernel
theorem dX0_init_20 : decode cX0_init 20 = .ok (.bipush 10, 2) := by decide +kernel
theorem dX0_init_22 : decode cX0_init 22 = .ok (.newarray .int, 2) := by decide +kernel
theorem dX0_init_24 : decode cX0_init 24 = .ok (.putfield 21, 3) := by decide +kernel
theorem dX0_init_27 : decode cX0_init 27 = .ok (.aload_n 0, 1) := by decide +kernel
theorem dX0_init_28 : decode cX0_init 28 = .ok (.iconst 5, 1) := by decide +kernel
theorem dX0_init_29 : decode cX0_init 29 = .ok (.newarray .int, 2) := by decide +kernel
theorem dX0_init_31 : decode cX0_init 31 = .ok (.putfield 25, 3) := by decide +kernel
theorem dX0_init_34 : decode cX0_init 34 = .ok (.aload_n 0, 1) := by decide +kernel
theorem dX0_init_35 : decode cX0_init 35 = .ok (.iconst 5, 1) := by decide +kernel
theorem dX0_init_36 : decode cX0_init 36 = .ok (.newarray .int, 2) := by decide +kernel
theorem dX0_init_38 : decode cX0_init 38 = .ok (.putfield 28, 3) := by decide +kernel
theorem dX0_init_41 : decode cX0_init 41 = .ok (.aload_n 0, 1) := by decide +kernel
theorem dX0_init_42 : decode cX0_init 42 = .ok (.iconst 5, 1) := by decide +kernel
theorem dX0_init_43 : decode cX0_init 43 = .ok (.newarray .int, 2) := by decide +kernel
theorem dX0_init_45 : decode cX0_init 45 = .ok (.putfield 31, 3) := by decide +kernel
theorem dX0_init_48 : decode cX0_init 48 = .ok (.aload_n 0, 1) := by decide +kernel
theorem dX0_init_49 : decode cX0_init 49 = .ok (.iconst 5, 1) := by decide +kernel
theorem dX0_init_50 : decode cX0_init 50 = .ok (.newarray .int, 2) := by decide +kernel
theorem dX0_init_52 : decode cX0_init 52 = .ok (.putfield 34, 3) := by decide +kernel
theorem dX0_init_55 : decode cX0_init 55 = .ok (.return_, 1) := by decide +kernel
theorem dX0_clear_0 : decode cX0_clear 0 = .ok (.aload_n 0, 1) := by decide +kernel
theorem dX0_clear_1 : decode cX0_clear 1 = .ok (.iconst 0, 1) := by decide +kernel
theorem dX0_clear_2 : decode cX0_clear 2 = .ok (.putfield 9, 3) := by decide +kernel
theorem dX0_clear_5 : decode cX0_clear 5 = .ok (.aload_n 0, 1) := by decide +kernel
theorem dX0_clear_6 : decode cX0_clear 6 = .ok (.iconst 0, 1) := by decide +kernel
theorem dX0_clear_7 : decode cX0_clear 7 = .ok (.putfield 15, 3) := by decide +kernel
theorem dX0_clear_10 : decode cX0_clear 10 = .ok (.aload_n 0, 1) := by decide +kernel
theorem dX0_clear_11 : decode cX0_clear 11 = .ok (.iconst 0, 1) := by decide +kernel
theorem dX0_clear_12 : decode cX0_clear 12 = .ok (.putfield 18, 3) := by decide +kernel
theorem dX0_clear_15 : decode cX0_clear 15 = .ok (.return_, 1) := by decide +kernel
theorem dX0_become_0 : decode cX0_become 0 = .ok (.aload_n 0, 1) := by decide +kernel
theorem dX0_become_1 : decode cX0_become 1 = .ok (.aload_n 1, 1) := by decide +kernel
theorem dX0_become_2 : decode cX0_become 2 = .ok (.getfield 9, 3) := by decide +kernel
theorem dX0_become_5 : decode cX0_become 5 = .ok (.putfield 9, 3) := by decide +kernel
theorem dX0_become_8 : decode cX0_become 8 = .ok (.aload_n 0, 1) := by decide +kernel
theorem dX0_become_9 : decode cX0_become 9 = .ok (.aload_n 1, 1) := by decide +kernel
theorem dX0_become_10 : decode cX0_become 10 = .ok (.getfield 15, 3) := by decide +kernel
theorem dX0_become_13 : decode cX0_become 13 = .ok (.putfield 15, 3) := by decide +kernel
theorem dX0_become_16 : decode cX0_become 16 = .ok (.aload_n 0, 1) := by decide +kernel
theorem dX0_become_17 : decode cX0_become 17 = .ok (.aload_n 1, 1) := by decide +kernel
theorem dX0_become_18 : decode cX0_become 18 = .ok (.getfield 18, 3) := by decide +kernel
theorem dX0_become_21 : decode cX0_become 21 = .ok (.putfield 18, 3) := by decide +kernel
theorem dX0_become_24 : decode cX0_become 24 = .ok (.aload_n 1, 1) := by decide +kernel
theorem dX0_become_25 : decode cX0_become 25 = .ok (.getfield 21, 3) := by decide +kernel
theorem dX0_become_28 : decode cX0_become 28 = .ok (.iconst 0, 1) := by decide +kernel
theorem dX0_become_29 : decode cX0_become 29 = .ok (.aload_n 0, 1) := by decide +kernel
theorem dX0_become_30 : decode cX0_become 30 = .ok (.getfield 21, 3) := by decide +kernel
theorem dX0_become_33 : decode cX0_become 33 = .ok (.iconst 0, 1) := by decide +kernel
theorem dX0_become_34 : decode cX0_become 34 = .ok (.bipush 10, 2) := by decide +kernel
theorem dX0_become_36 : decode cX0_become 36 = .ok (.invokestatic 37, 3) := by decide +kernel
theorem dX0_become_39 : decode cX0_become 39 = .ok (.aload_n 1, 1) := by decide +kernel
theorem dX0_become_40 : decode cX0_become 40 = .ok (.getfield 25, 3) := by decide +kernel
theorem dX0_become_43 : decode cX0_become 43 = .ok (.iconst 0, 1) := by decide +kernel
theorem dX0_become_44 : decode cX0_become 44 = .ok (.aload_n 0, 1) := by decide +kernel
theorem dX0_become_45 : decode cX0_become 45 = .ok (.getfield 25, 3) := by decide +kernel
theorem dX0_become_48 : decode cX0_become 48 = .ok (.iconst 0, 1) := by decide +kernel
theorem dX0_become_49 : decode cX0_become 49 = .ok (.iconst 5, 1) := by decide +kernel
theorem dX0_become_50 : decode cX0_become 50 = .ok (.invokestatic 37, 3) := by decide +kernel
theorem dX0_become_53 : decode cX0_become 53 = .ok (.aload_n 1, 1) := by decide +kernel
theorem dX0_become_54 : decode cX0_become 54 = .ok (.getfield 28, 3) := by decide +kernel
theorem dX0_become_57 : decode cX0_become 57 = .ok (.iconst 0, 1) := by decide +kernel
theorem dX0_become_58 : decode cX0_become 58 = .ok (.aload_n 0, 1) := by decide +kernel
theorem dX0_become_59 : decode cX0_become 59 = .ok (.getfield 28, 3) := by decide +kernel
theorem dX0_become_62 : decode cX0_become 62 = .ok (.iconst 0, 1) := by decide +kernel
theorem dX0_become_63 : decode cX0_become 63 = .ok (.iconst 5, 1) := by decide +kernel
theorem dX0_become_64 : decode cX0_become 64 = .ok (.invokestatic 37, 3) := by decide +kernel
theorem dX0_become_67 : decode cX0_become 67 = .ok (.aload_n 1, 1) := by decide +kernel
theorem dX0_become_68 : decode cX0_become 68 = .ok (.getfield 31, 3) := by decide +kernel
theorem dX0_become_71 : decode cX0_become 71 = .ok (.iconst 0, 1) := by decide +kernel
theorem dX0_become_72 : decode cX0_become 72 = .ok (.aload_n 0, 1) := by decide +kernel
theorem dX0_become_73 : decode cX0_become 73 = .ok (.getfield 31, 3) := by decide +kernel
theorem dX0_become_76 : decode cX0_become 76 = .ok (.iconst 0, 1) := by decide +kernel
theorem dX0_become_77 : decode cX0_become 77 = .ok (.iconst 5, 1) := by decide +kernel
theorem dX0_become_78 : decode cX0_become 78 = .ok (.invokestatic 37, 3) := by decide +kernel
theorem dX0_become_81 : decode cX0_become 81 = .ok (.return_, 1) := by decide +kernel
theorem dX0_hedges_0 : decode cX0_hedges 0 = .ok (.aload_n 0, 1) := by decide +kernel
theorem dX0_hedges_1 : decode cX0_hedges 1 = .ok (.getfield 9, 3) := by decide +kernel
theorem dX0_hedges_4 : decode cX0_hedges 4 = .ok (.aload_n 0, 1) := by decide +kernel
theorem dX0_hedges_5 : decode cX0_hedges 5 = .ok (.getfield 9, 3) := by decide +kernel
theorem dX0_hedges_8 : decode cX0_hedges 8 = .ok (.iconst 1, 1) := by decide +kernel
theorem dX0_hedges_9 : decode cX0_hedges 9 = .ok (.isub, 1) := by decide +kernel
theorem dX0_hedges_10 : decode cX0_hedges 10 = .ok (.imul, 1) := by decide +kernel
theorem dX0_hedges_11 : decode cX0_hedges 11 = .ok (.iconst 2, 1) := by decide +kernel
theorem dX0_hedges_12 : decode cX0_hedges 12 = .ok (.idiv, 1) := by decide +kernel
theorem dX0_hedges_13 : decode cX0_hedges 13 = .ok (.ireturn, 1) := by decide +kernel
theorem dX0_hedgeOf_0 : decode cX0_hedgeOf 0 = .ok (.iload_n 1, 1) := by decide +kernel
theorem dX0_hedgeOf_1 : decode cX0_hedgeOf 1 = .ok (.iload_n 2, 1) := by decide +kernel
theorem dX0_hedgeOf_2 : decode cX0_hedgeOf 2 = .ok (.invokestatic 43, 3) := by decide +kernel
theorem dX0_hedgeOf_5 : decode cX0_hedgeOf 5 = .ok (.istore_n 3, 1) := by decide +kernel
theorem dX0_hedgeOf_6 : decode cX0_hedgeOf 6 = .ok (.iload_n 1, 1) := by decide +kernel
theorem dX0_hedgeOf_7 : decode cX0_hedgeOf 7 = .ok (.iload_n 2, 1) := by decide +kernel
theorem dX0_hedgeOf_8 : decode cX0_hedgeOf 8 = .ok (.invokestatic 49, 3) := by decide +kernel
theorem dX0_hedgeOf_11 : decode cX0_hedgeOf 11 = .ok (.istore 4, 2) := by decide +kernel
theorem dX0_hedgeOf_13 : decode cX0_hedgeOf 13 = .ok (.iload_n 3, 1) := by decide +kernel
theorem dX0_hedgeOf_14 : decode cX0_hedgeOf 14 = .ok (.iconst 2, 1) := by decide +kernel
theorem dX0_hedgeOf_15 : decode cX0_hedgeOf 15 = .ok (.aload_n 0, 1) := by decide +kernel
theorem dX0_hedgeOf_16 : decode cX0_hedgeOf 16 = .ok (.getfield 9, 3) := by decide +kernel
theorem dX0_hedgeOf_19 : decode cX0_hedgeOf 19 = .ok (.imul, 1) := by decide +kernel
theorem dX0_hedgeOf_20 : decode cX0_hedgeOf 20 = .ok (.iload_n 3, 1) := by decide +kernel
theorem dX0_hedgeOf_21 : decode cX0_hedgeOf 21 = .ok (.isub, 1) := by decide +kernel
theorem dX0_hedgeOf_22 : decode cX0_hedgeOf 22 = .ok (.iconst 1, 1) := by decide +kernel
theorem dX0_hedgeOf_23 : decode cX0_hedgeOf 23 = .ok (.isub, 1) := by decide +kernel
theorem dX0_hedgeOf_24 : decode cX0_hedgeOf 24 = .ok (.imul, 1) := by decide +kernel
theorem dX0_hedgeOf_25 : decode cX0_hedgeOf 25 = .ok (.iconst 2, 1) := by decide +kernel
theorem dX0_hedgeOf_26 : decode cX0_hedgeOf 26 = .ok (.idiv, 1) := by decide +kernel
theorem dX0_hedgeOf_27 : decode cX0_hedgeOf 27 = .ok (.iload 4, 2) := by decide +kernel
theorem dX0_hedgeOf_29 : decode cX0_hedgeOf 29 = .ok (.iadd, 1) := by decide +kernel
theorem dX0_hedgeOf_30 : decode cX0_hedgeOf 30 = .ok (.iload_n 3, 1) := by decide +kernel
theorem dX0_hedgeOf_31 : decode cX0_hedgeOf 31 = .ok (.isub, 1) := by decide +kernel
theorem dX0_hedgeOf_32 : decode cX0_hedgeOf 32 = .ok (.iconst 1, 1) := by decide +kernel
theorem dX0_hedgeOf_33 : decode cX0_hedgeOf 33 = .ok (.isub, 1) := by decide +kernel
theorem dX0_hedgeOf_34 : decode cX0_hedgeOf 34 = .ok (.ireturn, 1) := by decide +kernel
theorem dX0_thickOf_0 : decode cX0_thickOf 0 = .ok (.aload_n 0, 1) := by decide +kernel
theorem dX0_thickOf_1 : decode cX0_thickOf 1 = .ok (.getfield 25, 3) := by decide +kernel
theorem dX0_thickOf_4 : decode cX0_thickOf 4 = .ok (.iload_n 1, 1) := by decide +kernel
theorem dX0_thickOf_5 : decode cX0_thickOf 5 = .ok (.iaload, 1) := by decide +kernel
theorem dX0_thickOf_6 : decode cX0_thickOf 6 = .ok (.aload_n 0, 1) := by decide +kernel
theorem dX0_thickOf_7 : decode cX0_thickOf 7 = .ok (.getfield 28, 3) := by decide +kernel
theorem dX0_thickOf_10 : decode cX0_thickOf 10 = .ok (.iload_n 1, 1) := by decide +kernel
theorem dX0_thickOf_11 : decode cX0_thickOf 11 = .ok (.iaload, 1) := by decide +kernel
theorem dX0_thickOf_12 : decode cX0_thickOf 12 = .ok (.invokestatic 52, 3) := by decide +kernel
theorem dX0_thickOf_15 : decode cX0_thickOf 15 = .ok (.ireturn, 1) := by decide +kernel
theorem dX0_letsBetween_0 : decode cX0_letsBetween 0 = .ok (.iload_n 1, 1) := by decide +kernel
theorem dX0_letsBetween_1 : decode cX0_letsBetween 1 = .ok (.iload_n 2, 1) := by decide +kernel
theorem dX0_letsBetween_2 : decode cX0_letsBetween 2 = .ok (.if_icmp .eq 25, 3) := by decide +kernel
theorem dX0_letsBetween_5 : decode cX0_letsBetween 5 = .ok (.aload_n 0, 1) := by decide +kernel
theorem dX0_letsBetween_6 : decode cX0_letsBetween 6 = .ok (.getfield 21, 3) := by decide +kernel
theorem dX0_letsBetween_9 : decode cX0_letsBetween 9 = .ok (.aload_n 0, 1) := by decide +kernel
theorem dX0_letsBetween_10 : decode cX0_letsBetween 10 = .ok (.iload_n 1, 1) := by decide +kernel
theorem dX0_letsBetween_11 : decode cX0_letsBetween 11 = .ok (.iload_n 2, 1) := by decide +kernel
theorem dX0_letsBetween_12 : decode cX0_letsBetween 12 = .ok (.invokevirtual 55, 3) := by decide +kernel
theorem dX0_letsBetween_15 : decode cX0_letsBetween 15 = .ok (.iaload, 1) := by decide +kernel
theorem dX0_letsBetween_16 : decode cX0_letsBetween 16 = .ok (.iload_n 3, 1) := by decide +kernel
theorem dX0_letsBetween_17 : decode cX0_letsBetween 17 = .ok (.invokestatic 58, 3) := by decide +kernel
theorem dX0_letsBetween_20 : decode cX0_letsBetween 20 = .ok (.ifCond .eq 7, 3) := by decide +kernel
theorem dX0_letsBetween_23 : decode cX0_letsBetween 23 = .ok (.iconst 1, 1) := by decide +kernel
theorem dX0_letsBetween_24 : decode cX0_letsBetween 24 = .ok (.goto 4, 3) := by decide +kernel
theorem dX0_letsBetween_27 : decode cX0_letsBetween 27 = .ok (.iconst 0, 1) := by decide +kernel
theorem dX0_letsBetween_28 : decode cX0_letsBetween 28 = .ok (.ireturn, 1) := by decide +kernel
theorem dX0_reads_0 : decode cX0_reads 0 = .ok (.iload_n 1, 1) := by decide +kernel
theorem dX0_reads_1 : decode cX0_reads 1 = .ok (.ifCond .ne 15, 3) := by decide +kernel
theorem dX0_reads_4 : decode cX0_reads 4 = .ok (.iload_n 2, 1) := by decide +kernel
theorem dX0_reads_5 : decode cX0_reads 5 = .ok (.bipush 104, 2) := by decide +kernel
theorem dX0_reads_7 : decode cX0_reads 7 = .ok (.if_icmp .ne 7, 3) := by decide +kernel
theorem dX0_reads_10 : decode cX0_reads 10 = .ok (.iconst 1, 1) := by decide +kernel
theorem dX0_reads_11 : decode cX0_reads 11 = .ok (.goto 4, 3) := by decide +kernel
theorem dX0_reads_14 : decode cX0_reads 14 = .ok (.iconst 0, 1) := by decide +kernel
theorem dX0_reads_15 : decode cX0_reads 15 = .ok (.ireturn, 1) := by decide +kernel
theorem dX0_reads_16 : decode cX0_reads 16 = .ok (.iload_n 1, 1) := by decide +kernel
theorem dX0_reads_17 : decode cX0_reads 17 = .ok (.iconst 1, 1) := by decide +kernel
theorem dX0_reads_18 : decode cX0_reads 18 = .ok (.if_icmp .ne 37, 3) := by decide +kernel
theorem dX0_reads_21 : decode cX0_reads 21 = .ok (.iload_n 2, 1) := by decide +kernel
theorem dX0_reads_22 : decode cX0_reads 22 = .ok (.iconst 2, 1) := by decide +kernel
theorem dX0_reads_23 : decode cX0_reads 23 = .ok (.iconst 5, 1) := by decide +kernel
theorem dX0_reads_24 : decode cX0_reads 24 = .ok (.invokestatic 62, 3) := by decide +kernel
theorem dX0_reads_27 : decode cX0_reads 27 = .ok (.istore_n 3, 1) := by decide +kernel
theorem dX0_reads_28 : decode cX0_reads 28 = .ok (.aload_n 0, 1) := by decide +kernel
theorem dX0_reads_29 : decode cX0_reads 29 = .ok (.iload_n 3, 1) := by decide +kernel
theorem dX0_reads_30 : decode cX0_reads 30 = .ok (.bipush (-9), 2) := by decide +kernel
theorem dX0_reads_32 : decode cX0_reads 32 = .ok (.if_icmp .ne 7, 3) := by decide +kernel
theorem dX0_reads_35 : decode cX0_reads 35 = .ok (.iconst 0, 1) := by decide +kernel
theorem dX0_reads_36 : decode cX0_reads 36 = .ok (.goto 4, 3) := by decide +kernel
theorem dX0_reads_39 : decode cX0_reads 39 = .ok (.iload_n 3, 1) := by decide +kernel
theorem dX0_reads_40 : decode cX0_reads 40 = .ok (.putfield 9, 3) := by decide +kernel
theorem dX0_reads_43 : decode cX0_reads 43 = .ok (.iload_n 3, 1) := by decide +kernel
theorem dX0_reads_44 : decode cX0_reads 44 = .ok (.bipush (-9), 2) := by decide +kernel
theorem dX0_reads_46 : decode cX0_reads 46 = .ok (.if_icmp .eq 7, 3) := by decide +kernel
theorem dX0_reads_49 : decode cX0_reads 49 = .ok (.iconst 1, 1) := by decide +kernel
theorem dX0_reads_50 : decode cX0_reads 50 = .ok (.goto 4, 3) := by decide +kernel
theorem dX0_reads_53 : decode cX0_reads 53 = .ok (.iconst 0, 1) := by decide +kernel
theorem dX0_reads_54 : decode cX0_reads 54 = .ok (.ireturn, 1) := by decide +kernel
theorem dX0_reads_55 : decode cX0_reads 55 = .ok (.iload_n 1, 1) := by decide +kernel
theorem dX0_reads_56 : decode cX0_reads 56 = .ok (.iconst 2, 1) := by decide +kernel
theorem dX0_reads_57 : decode cX0_reads 57 = .ok (.isub, 1) := by decide +kernel
theorem dX0_reads_58 : decode cX0_reads 58 = .ok (.istore_n 3, 1) := by decide +kernel
theorem dX0_reads_59 : decode cX0_reads 59 = .ok (.iload_n 3, 1) := by decide +kernel
theorem dX0_reads_60 : decode cX0_reads 60 = .ok (.aload_n 0, 1) := by decide +kernel
theorem dX0_reads_61 : decode cX0_reads 61 = .ok (.invokevirtual 66, 3) := by decide +kernel
theorem dX0_reads_64 : decode cX0_reads 64 = .ok (.if_icmp .ge 33, 3) := by decide +kernel
theorem dX0_reads_67 : decode cX0_reads 67 = .ok (.aload_n 0, 1) := by decide +kernel
theorem dX0_reads_68 : decode cX0_reads 68 = .ok (.getfield 21, 3) := by decide +kernel
theorem dX0_reads_71 : decode cX0_reads 71 = .ok (.iload_n 3, 1) := by decide +kernel
theorem dX0_reads_72 : decode cX0_reads 72 = .ok (.iload_n 2, 1) := by decide +kernel
theorem dX0_reads_73 : decode cX0_reads 73 = .ok (.iconst 0, 1) := by decide +kernel
theorem dX0_reads_74 : decode cX0_reads 74 = .ok (.bipush 9, 2) := by decide +kernel
theorem dX0_reads_76 : decode cX0_reads 76 = .ok (.invokestatic 62, 3) := by decide +kernel
theorem dX0_reads_79 : decode cX0_reads 79 = .ok (.iastore, 1) := by decide +kernel
theorem dX0_reads_80 : decode cX0_reads 80 = .ok (.aload_n 0, 1) := by decide +kernel
theorem dX0_reads_81 : decode cX0_reads 81 = .ok (.getfield 21, 3) := by decide +kernel
theorem dX0_reads_84 : decode cX0_reads 84 = .ok (.iload_n 3, 1) := by decide +kernel
theorem dX0_reads_85 : decode cX0_reads 85 = .ok (.iaload, 1) := by decide +kernel
theorem dX0_reads_86 : decode cX0_reads 86 = .ok (.bipush (-9), 2) := by decide +kernel
theorem dX0_reads_88 : decode cX0_reads 88 = .ok (.if_icmp .eq 7, 3) := by decide +kernel
theorem dX0_reads_91 : decode cX0_reads 91 = .ok (.iconst 1, 1) := by decide +kernel
theorem dX0_reads_92 : decode cX0_reads 92 = .ok (.goto 4, 3) := by decide +kernel
theorem dX0_reads_95 : decode cX0_reads 95 = .ok (.iconst 0, 1) := by decide +kernel
theorem dX0_reads_96 : decode cX0_reads 96 = .ok (.ireturn, 1) := by decide +kernel
theorem dX0_reads_97 : decode cX0_reads 97 = .ok (.iload_n 3, 1) := by decide +kernel
theorem dX0_reads_98 : decode cX0_reads 98 = .ok (.aload_n 0, 1) := by decide +kernel
theorem dX0_reads_99 : decode cX0_reads 99 = .ok (.invokevirtual 66, 3) := by decide +kernel
theorem dX0_reads_102 : decode cX0_reads 102 = .ok (.isub, 1) := by decide +kernel
theorem dX0_reads_103 : decode cX0_reads 103 = .ok (.istore 4, 2) := by decide +kernel
theorem dX0_reads_105 : decode cX0_reads 105 = .ok (.iload 4, 2) := by decide +kernel
theorem dX0_reads_107 : decode cX0_reads 107 = .ok (.bipush 20, 2) := by decide +kernel
theorem dX0_reads_109 : decode cX0_reads 109 = .ok (.if_icmp .ge 23, 3) := by decide +kernel
theorem dX0_reads_112 : decode cX0_reads 112 = .ok (.aload_n 0, 1) := by decide +kernel
theorem dX0_reads_113 : decode cX0_reads 113 = .ok (.iload 4, 2) := by decide +kernel
theorem dX0_reads_115 : decode cX0_reads 115 = .ok (.iconst 4, 1) := by decide +kernel
theorem dX0_reads_116 : decode cX0_reads 116 = .ok (.idiv, 1) := by decide +kernel
theorem dX0_reads_117 : decode cX0_reads 117 = .ok (.iload 4, 2) := by decide +kernel
theorem dX0_reads_119 : decode cX0_reads 119 = .ok (.iconst 4, 1) := by decide +kernel
theorem dX0_reads_120 : decode cX0_reads 120 = .ok (.irem, 1) := by decide +kernel
theorem dX0_reads_121 : decode cX0_reads 121 = .ok (.iload_n 2, 1) := by decide +kernel
theorem dX0_reads_122 : decode cX0_reads 122 = .ok (.invokevirtual 70, 3) := by decide +kernel
theorem dX0_reads_125 : decode cX0_reads 125 = .ok (.ifCond .eq 7, 3) := by decide +kernel
theorem dX0_reads_128 : decode cX0_reads 128 = .ok (.iconst 1, 1) := by decide +kernel
theorem dX0_reads_129 : decode cX0_reads 129 = .ok (.goto 4, 3) := by decide +kernel
theorem dX0_reads_132 : decode cX0_reads 132 = .ok (.iconst 0, 1) := by decide +kernel
theorem dX0_reads_133 : decode cX0_reads 133 = .ok (.ireturn, 1) := by decide +kernel
theorem dX0_readsGoer_0 : decode cX0_readsGoer 0 = .ok (.iload_n 2, 1) := by decide +kernel
theorem dX0_readsGoer_1 : decode cX0_readsGoer 1 = .ok (.tableswitch 96 0 2 #[27, 39, 66], 27) := by decide +kernel
theorem dX0_readsGoer_28 : decode cX0_readsGoer 28 = .ok (.iload_n 3, 1) := by decide +kernel
theorem dX0_readsGoer_29 : decode cX0_readsGoer 29 = .ok (.bipush 59, 2) := by decide +kernel
theorem dX0_readsGoer_31 : decode cX0_readsGoer 31 = .ok (.if_icmp .ne 7, 3) := by decide +kernel
theorem dX0_readsGoer_34 : decode cX0_readsGoer 34 = .ok (.iconst 1, 1) := by decide +kernel
theorem dX0_readsGoer_35 : decode cX0_readsGoer 35 = .ok (.goto 4, 3) := by decide +kernel
theorem dX0_readsGoer_38 : decode cX0_readsGoer 38 = .ok (.iconst 0, 1) := by decide +kernel
theorem dX0_readsGoer_39 : decode cX0_readsGoer 39 = .ok (.ireturn, 1) := by decide +kernel
theorem dX0_readsGoer_40 : decode cX0_readsGoer 40 = .ok (.aload_n 0, 1) := by decide +kernel
theorem dX0_readsGoer_41 : decode cX0_readsGoer 41 = .ok (.getfield 25, 3) := by decide +kernel
theorem dX0_readsGoer_44 : decode cX0_readsGoer 44 = .ok (.iload_n 1, 1) := by decide +kernel
theorem dX0_readsGoer_45 : decode cX0_readsGoer 45 = .ok (.iload_n 3, 1) := by decide +kernel
theorem dX0_readsGoer_46 : decode cX0_readsGoer 46 = .ok (.invokestatic 74, 3) := by decide +kernel
theorem dX0_readsGoer_49 : decode cX0_readsGoer 49 = .ok (.iastore, 1) := by decide +kernel
theorem dX0_readsGoer_50 : decode cX0_readsGoer 50 = .ok (.aload_n 0, 1) := by decide +kernel
theorem dX0_readsGoer_51 : decode cX0_readsGoer 51 = .ok (.getfield 25, 3) := by decide +kernel
theorem dX0_readsGoer_54 : decode cX0_readsGoer 54 = .ok (.iload_n 1, 1) := by decide +kernel
theorem dX0_readsGoer_55 : decode cX0_readsGoer 55 = .ok (.iaload, 1) := by decide +kernel
theorem dX0_readsGoer_56 : decode cX0_readsGoer 56 = .ok (.bipush (-9), 2) := by decide +kernel
theorem dX0_readsGoer_58 : decode cX0_readsGoer 58 = .ok (.if_icmp .eq 7, 3) := by decide +kernel
theorem dX0_readsGoer_61 : decode cX0_readsGoer 61 = .ok (.iconst 1, 1) := by decide +kernel
theorem dX0_readsGoer_62 : decode cX0_readsGoer 62 = .ok (.goto 4, 3) := by decide +kernel
theorem dX0_readsGoer_65 : decode cX0_readsGoer 65 = .ok (.iconst 0, 1) := by decide +kernel
theorem dX0_readsGoer_66 : decode cX0_readsGoer 66 = .ok (.ireturn, 1) := by decide +kernel
theorem dX0_readsGoer_67 : decode cX0_readsGoer 67 = .ok (.aload_n 0, 1) := by decide +kernel
theorem dX0_readsGoer_68 : decode cX0_readsGoer 68 = .ok (.getfield 28, 3) := by decide +kernel
theorem dX0_readsGoer_71 : decode cX0_readsGoer 71 = .ok (.iload_n 1, 1) := by decide +kernel
theorem dX0_readsGoer_72 : decode cX0_readsGoer 72 = .ok (.iload_n 3, 1) := by decide +kernel
theorem dX0_readsGoer_73 : decode cX0_readsGoer 73 = .ok (.iconst 1, 1) := by decide +kernel
theorem dX0_readsGoer_74 : decode cX0_readsGoer 74 = .ok (.bipush 9, 2) := by decide +kernel
theorem dX0_readsGoer_76 : decode cX0_readsGoer 76 = .ok (.invokestatic 62, 3) := by decide +kernel
theorem dX0_readsGoer_79 : decode cX0_readsGoer 79 = .ok (.iastore, 1) := by decide +kernel
theorem dX0_readsGoer_80 : decode cX0_readsGoer 80 = .ok (.aload_n 0, 1) := by decide +kernel
theorem dX0_readsGoer_81 : decode cX0_readsGoer 81 = .ok (.getfield 28, 3) := by decide +kernel
theorem dX0_readsGoer_84 : decode cX0_readsGoer 84 = .ok (.iload_n 1, 1) := by decide +kernel
theorem dX0_readsGoer_85 : decode cX0_readsGoer 85 = .ok (.iaload, 1) := by decide +kernel
theorem dX0_readsGoer_86 : decode cX0_readsGoer 86 = .ok (.bipush (-9), 2) := by decide +kernel
theorem dX0_readsGoer_88 : decode cX0_readsGoer 88 = .ok (.if_icmp .eq 7, 3) := by decide +kernel
theorem dX0_readsGoer_91 : decode cX0_readsGoer 91 = .ok (.iconst 1, 1) := by decide +kernel
theorem dX0_readsGoer_92 : decode cX0_readsGoer 92 = .ok (.goto 4, 3) := by decide +kernel
theorem dX0_readsGoer_95 : decode cX0_readsGoer 95 = .ok (.iconst 0, 1) := by decide +kernel
theorem dX0_readsGoer_96 : decode cX0_readsGoer 96 = .ok (.ireturn, 1) := by decide +kernel
theorem dX0_readsGoer_97 : decode cX0_readsGoer 97 = .ok (.aload_n 0, 1) := by decide +kernel
theorem dX0_readsGoer_98 : decode cX0_readsGoer 98 = .ok (.getfield 31, 3) := by decide +kernel
theorem dX0_readsGoer_101 : decode cX0_readsGoer 101 = .ok (.iload_n 1, 1) := by decide +kernel
theorem dX0_readsGoer_102 : decode cX0_readsGoer 102 = .ok (.iload_n 3, 1) := by decide +kernel
theorem dX0_readsGoer_103 : decode cX0_readsGoer 103 = .ok (.iconst 0, 1) := by decide +kernel
theorem dX0_readsGoer_104 : decode cX0_readsGoer 104 = .ok (.aload_n 0, 1) := by decide +kernel
theorem dX0_readsGoer_105 : decode cX0_readsGoer 105 = .ok (.getfield 9, 3) := by decide +kernel
theorem dX0_readsGoer_108 : decode cX0_readsGoer 108 = .ok (.iconst 1, 1) := by decide +kernel
theorem dX0_readsGoer_109 : decode cX0_readsGoer 109 = .ok (.isub, 1) := by decide +kernel
theorem dX0_readsGoer_110 : decode cX0_readsGoer 110 = .ok (.invokestatic 62, 3) := by decide +kernel
theorem dX0_readsGoer_113 : decode cX0_readsGoer 113 = .ok (.iastore, 1) := by decide +kernel
theorem dX0_readsGoer_114 : decode cX0_readsGoer 114 = .ok (.aload_n 0, 1) := by decide +kernel
theorem dX0_readsGoer_115 : decode cX0_readsGoer 115 = .ok (.iload_n 1, 1) := by decide +kernel
theorem dX0_readsGoer_116 : decode cX0_readsGoer 116 = .ok (.iconst 1, 1) := by decide +kernel
theorem dX0_readsGoer_117 : decode cX0_readsGoer 117 = .ok (.iadd, 1) := by decide +kernel
theorem dX0_readsGoer_118 : decode cX0_readsGoer 118 = .ok (.putfield 15, 3) := by decide +kernel
theorem dX0_readsGoer_121 : decode cX0_readsGoer 121 = .ok (.aload_n 0, 1) := by decide +kernel
theorem dX0_readsGoer_122 : decode cX0_readsGoer 122 = .ok (.getfield 31, 3) := by decide +kernel
theorem dX0_readsGoer_125 : decode cX0_readsGoer 125 = .ok (.iload_n 1, 1) := by decide +kernel
theorem dX0_readsGoer_126 : decode cX0_readsGoer 126 = .ok (.iaload, 1) := by decide +kernel
theorem dX0_readsGoer_127 : decode cX0_readsGoer 127 = .ok (.bipush (-9), 2) := by decide +kernel
theorem dX0_readsGoer_129 : decode cX0_readsGoer 129 = .ok (.if_icmp .eq 7, 3) := by decide +kernel
theorem dX0_readsGoer_132 : decode cX0_readsGoer 132 = .ok (.iconst 1, 1) := by decide +kernel
theorem dX0_readsGoer_133 : decode cX0_readsGoer 133 = .ok (.goto 4, 3) := by decide +kernel
theorem dX0_readsGoer_136 : decode cX0_readsGoer 136 = .ok (.iconst 0, 1) := by decide +kernel
theorem dX0_readsGoer_137 : decode cX0_readsGoer 137 = .ok (.ireturn, 1) := by decide +kernel
theorem dX0_kindOf_0 : decode cX0_kindOf 0 = .ok (.iload_n 0, 1) := by decide +kernel
theorem dX0_kindOf_1 : decode cX0_kindOf 1 = .ok (.lookupswitch 41 #[(99, 39), (103, 35), (116, 37)], 35) := by decide +kernel
theorem dX0_kindOf_36 : decode cX0_kindOf 36 = .ok (.iconst 0, 1) := by decide +kernel
theorem dX0_kindOf_37 : decode cX0_kindOf 37 = .ok (.ireturn, 1) := by decide +kernel
theorem dX0_kindOf_38 : decode cX0_kindOf 38 = .ok (.iconst 1, 1) := by decide +kernel
theorem dX0_kindOf_39 : decode cX0_kindOf 39 = .ok (.ireturn, 1) := by decide +kernel
theorem dX0_kindOf_40 : decode cX0_kindOf 40 = .ok (.iconst 2, 1) := by decide +kernel
theorem dX0_kindOf_41 : decode cX0_kindOf 41 = .ok (.ireturn, 1) := by decide +kernel
theorem dX0_kindOf_42 : decode cX0_kindOf 42 = .ok (.bipush (-9), 2) := by decide +kernel
theorem dX0_kindOf_44 : decode cX0_kindOf 44 = .ok (.ireturn, 1) := by decide +kernel
theorem dX0_mayEndAt_0 : decode cX0_mayEndAt 0 = .ok (.aload_n 0, 1) := by decide +kernel
theorem dX0_mayEndAt_1 : decode cX0_mayEndAt 1 = .ok (.getfield 15, 3) := by decide +kernel
theorem dX0_mayEndAt_4 : decode cX0_mayEndAt 4 = .ok (.ifCond .le 24, 3) := by decide +kernel
theorem dX0_mayEndAt_7 : decode cX0_mayEndAt 7 = .ok (.iload_n 1, 1) := by decide +kernel
theorem dX0_mayEndAt_8 : decode cX0_mayEndAt 8 = .ok (.iconst 2, 1) := by decide +kernel
theorem dX0_mayEndAt_9 : decode cX0_mayEndAt 9 = .ok (.aload_n 0, 1) := by decide +kernel
theorem dX0_mayEndAt_10 : decode cX0_mayEndAt 10 = .ok (.invokevirtual 66, 3) := by decide +kernel
theorem dX0_mayEndAt_13 : decode cX0_mayEndAt 13 = .ok (.iadd, 1) := by decide +kernel
theorem dX0_mayEndAt_14 : decode cX0_mayEndAt 14 = .ok (.aload_n 0, 1) := by decide +kernel
theorem dX0_mayEndAt_15 : decode cX0_mayEndAt 15 = .ok (.getfield 15, 3) := by decide +kernel
theorem dX0_mayEndAt_18 : decode cX0_mayEndAt 18 = .ok (.iconst 4, 1) := by decide +kernel
theorem dX0_mayEndAt_19 : decode cX0_mayEndAt 19 = .ok (.imul, 1) := by decide +kernel
theorem dX0_mayEndAt_20 : decode cX0_mayEndAt 20 = .ok (.iadd, 1) := by decide +kernel
theorem dX0_mayEndAt_21 : decode cX0_mayEndAt 21 = .ok (.if_icmp .ne 7, 3) := by decide +kernel
theorem dX0_mayEndAt_24 : decode cX0_mayEndAt 24 = .ok (.iconst 1, 1) := by decide +kernel
theorem dX0_mayEndAt_25 : decode cX0_mayEndAt 25 = .ok (.goto 4, 3) := by decide +kernel
theorem dX0_mayEndAt_28 : decode cX0_mayEndAt 28 = .ok (.iconst 0, 1) := by decide +kernel
theorem dX0_mayEndAt_29 : decode cX0_mayEndAt 29 = .ok (.ireturn, 1) := by decide +kernel
theorem dX0_canMove_0 : decode cX0_canMove 0 = .ok (.aload_n 0, 1) := by decide +kernel
theorem dX0_canMove_1 : decode cX0_canMove 1 = .ok (.aload_n 0, 1) := by decide +kernel
theorem dX0_canMove_2 : decode cX0_canMove 2 = .ok (.getfield 31, 3) := by decide +kernel
theorem dX0_canMove_5 : decode cX0_canMove 5 = .ok (.iload_n 1, 1) := by decide +kernel
theorem dX0_canMove_6 : decode cX0_canMove 6 = .ok (.iaload, 1) := by decide +kernel
theorem dX0_canMove_7 : decode cX0_canMove 7 = .ok (.iload_n 2, 1) := by decide +kernel
theorem dX0_canMove_8 : decode cX0_canMove 8 = .ok (.aload_n 0, 1) := by decide +kernel
theorem dX0_canMove_9 : decode cX0_canMove 9 = .ok (.iload_n 1, 1) := by decide +kernel
theorem dX0_canMove_10 : decode cX0_canMove 10 = .ok (.invokevirtual 78, 3) := by decide +kernel
theorem dX0_canMove_13 : decode cX0_canMove 13 = .ok (.invokevirtual 81, 3) := by decide +kernel
theorem dX0_canMove_16 : decode cX0_canMove 16 = .ok (.ireturn, 1) := by decide +kernel
theorem dX0_move_0 : decode cX0_move 0 = .ok (.aload_n 0, 1) := by decide +kernel
theorem dX0_move_1 : decode cX0_move 1 = .ok (.dup, 1) := by decide +kernel
theorem dX0_move_2 : decode cX0_move 2 = .ok (.getfield 18, 3) := by decide +kernel
theorem dX0_move_5 : decode cX0_move 5 = .ok (.iconst 1, 1) := by decide +kernel
theorem dX0_move_6 : decode cX0_move 6 = .ok (.aload_n 0, 1) := by decide +kernel
theorem dX0_move_7 : decode cX0_move 7 = .ok (.aload_n 0, 1) := by decide +kernel
theorem dX0_move_8 : decode cX0_move 8 = .ok (.getfield 31, 3) := by decide +kernel
theorem dX0_move_11 : decode cX0_move 11 = .ok (.iload_n 1, 1) := by decide +kernel
theorem dX0_move_12 : decode cX0_move 12 = .ok (.iaload, 1) := by decide +kernel
theorem dX0_move_13 : decode cX0_move 13 = .ok (.iload_n 2, 1) := by decide +kernel
theorem dX0_move_14 : decode cX0_move 14 = .ok (.invokevirtual 55, 3) := by decide +kernel
theorem dX0_move_17 : decode cX0_move 17 = .ok (.ishl, 1) := by decide +kernel
theorem dX0_move_18 : decode cX0_move 18 = .ok (.ior, 1) := by decide +kernel
theorem dX0_move_19 : decode cX0_move 19 = .ok (.putfield 18, 3) := by decide +kernel
theorem dX0_move_22 : decode cX0_move 22 = .ok (.aload_n 0, 1) := by decide +kernel
theorem dX0_move_23 : decode cX0_move 23 = .ok (.getfield 31, 3) := by decide +kernel
theorem dX0_move_26 : decode cX0_move 26 = .ok (.iload_n 1, 1) := by decide +kernel
theorem dX0_move_27 : decode cX0_move 27 = .ok (.iload_n 2, 1) := by decide +kernel
theorem dX0_move_28 : decode cX0_move 28 = .ok (.iastore, 1) := by decide +kernel
theorem dX0_move_29 : decode cX0_move 29 = .ok (.return_, 1) := by decide +kernel
theorem dX0_age_0 : decode cX0_age 0 = .ok (.iconst 0, 1) := by decide +kernel
theorem dX0_age_1 : decode cX0_age 1 = .ok (.istore_n 2, 1) := by decide +kernel
theorem dX0_age_2 : decode cX0_age 2 = .ok (.iload_n 2, 1) := by decide +kernel
theorem dX0_age_3 : decode cX0_age 3 = .ok (.iload_n 1, 1) := by decide +kernel
theorem dX0_age_4 : decode cX0_age 4 = .ok (.if_icmp .ge 75, 3) := by decide +kernel
theorem dX0_age_7 : decode cX0_age 7 = .ok (.iconst 0, 1) := by decide +kernel
theorem dX0_age_8 : decode cX0_age 8 = .ok (.istore_n 3, 1) := by decide +kernel
theorem dX0_age_9 : decode cX0_age 9 = .ok (.iload_n 3, 1) := by decide +kernel
theorem dX0_age_10 : decode cX0_age 10 = .ok (.aload_n 0, 1) := by decide +kernel
theorem dX0_age_11 : decode cX0_age 11 = .ok (.invokevirtual 66, 3) := by decide +kernel
theorem dX0_age_14 : decode cX0_age 14 = .ok (.if_icmp .ge 54, 3) := by decide +kernel
theorem dX0_age_17 : decode cX0_age 17 = .ok (.aload_n 0, 1) := by decide +kernel
theorem dX0_age_18 : decode cX0_age 18 = .ok (.getfield 21, 3) := by decide +kernel
theorem dX0_age_21 : decode cX0_age 21 = .ok (.iload_n 3, 1) := by decide +kernel
theorem dX0_age_22 : decode cX0_age 22 = .ok (.aload_n 0, 1) := by decide +kernel
theorem dX0_age_23 : decode cX0_age 23 = .ok (.getfield 18, 3) := by decide +kernel
theorem dX0_age_26 : decode cX0_age 26 = .ok (.iload_n 3, 1) := by decide +kernel
theorem dX0_age_27 : decode cX0_age 27 = .ok (.invokestatic 84, 3) := by decide +kernel
theorem dX0_age_30 : decode cX0_age 30 = .ok (.ifCond .eq 19, 3) := by decide +kernel
theorem dX0_age_33 : decode cX0_age 33 = .ok (.aload_n 0, 1) := by decide +kernel
theorem dX0_age_34 : decode cX0_age 34 = .ok (.getfield 21, 3) := by decide +kernel
theorem dX0_age_37 : decode cX0_age 37 = .ok (.iload_n 3, 1) := by decide +kernel
theorem dX0_age_38 : decode cX0_age 38 = .ok (.iaload, 1) := by decide +kernel
theorem dX0_age_39 : decode cX0_age 39 = .ok (.iconst 1, 1) := by decide +kernel
theorem dX0_age_40 : decode cX0_age 40 = .ok (.iadd, 1) := by decide +kernel
theorem dX0_age_41 : decode cX0_age 41 = .ok (.bipush 9, 2) := by decide +kernel
theorem dX0_age_43 : decode cX0_age 43 = .ok (.invokestatic 43, 3) := by decide +kernel
theorem dX0_age_46 : decode cX0_age 46 = .ok (.goto 15, 3) := by decide +kernel
theorem dX0_age_49 : decode cX0_age 49 = .ok (.aload_n 0, 1) := by decide +kernel
theorem dX0_age_50 : decode cX0_age 50 = .ok (.getfield 21, 3) := by decide +kernel
theorem dX0_age_53 : decode cX0_age 53 = .ok (.iload_n 3, 1) := by decide +kernel
theorem dX0_age_54 : decode cX0_age 54 = .ok (.iaload, 1) := by decide +kernel
theorem dX0_age_55 : decode cX0_age 55 = .ok (.iconst 1, 1) := by decide +kernel
theorem dX0_age_56 : decode cX0_age 56 = .ok (.isub, 1) := by decide +kernel
theorem dX0_age_57 : decode cX0_age 57 = .ok (.iconst 0, 1) := by decide +kernel
theorem dX0_age_58 : decode cX0_age 58 = .ok (.invokestatic 49, 3) := by decide +kernel
theorem dX0_age_61 : decode cX0_age 61 = .ok (.iastore, 1) := by decide +kernel
theorem dX0_age_62 : decode cX0_age 62 = .ok (.iinc 3 1, 3) := by decide +kernel
theorem dX0_age_65 : decode cX0_age 65 = .ok (.goto (-56), 3) := by decide +kernel
theorem dX0_age_68 : decode cX0_age 68 = .ok (.aload_n 0, 1) := by decide +kernel
theorem dX0_age_69 : decode cX0_age 69 = .ok (.iconst 0, 1) := by decide +kernel
theorem dX0_age_70 : decode cX0_age 70 = .ok (.putfield 18, 3) := by decide +kernel
theorem dX0_age_73 : decode cX0_age 73 = .ok (.iinc 2 1, 3) := by decide +kernel
theorem dX0_age_76 : decode cX0_age 76 = .ok (.goto (-74), 3) := by decide +kernel
theorem dX0_age_79 : decode cX0_age 79 = .ok (.return_, 1) := by decide +kernel
theorem dX0_stopUp_0 : decode cX0_stopUp 0 = .ok (.iload_n 1, 1) := by decide +kernel
theorem dX0_stopUp_1 : decode cX0_stopUp 1 = .ok (.aload_n 0, 1) := by decide +kernel
theorem dX0_stopUp_2 : decode cX0_stopUp 2 = .ok (.invokevirtual 66, 3) := by decide +kernel
theorem dX0_stopUp_5 : decode cX0_stopUp 5 = .ok (.if_icmp .ge 12, 3) := by decide +kernel
theorem dX0_stopUp_8 : decode cX0_stopUp 8 = .ok (.aload_n 0, 1) := by decide +kernel
theorem dX0_stopUp_9 : decode cX0_stopUp 9 = .ok (.getfield 21, 3) := by decide +kernel
theorem dX0_stopUp_12 : decode cX0_stopUp 12 = .ok (.iload_n 1, 1) := by decide +kernel
theorem dX0_stopUp_13 : decode cX0_stopUp 13 = .ok (.iaload, 1) := by decide +kernel
theorem dX0_stopUp_14 : decode cX0_stopUp 14 = .ok (.ifCond .ne 5, 3) := by decide +kernel
theorem dX0_stopUp_17 : decode cX0_stopUp 17 = .ok (.iconst 0, 1) := by decide +kernel
theorem dX0_stopUp_18 : decode cX0_stopUp 18 = .ok (.ireturn, 1) := by decide +kernel
theorem dX0_stopUp_19 : decode cX0_stopUp 19 = .ok (.aload_n 0, 1) := by decide +kernel
theorem dX0_stopUp_20 : decode cX0_stopUp 20 = .ok (.getfield 21, 3) := by decide +kernel
theorem dX0_stopUp_23 : decode cX0_stopUp 23 = .ok (.iload_n 1, 1) := by decide +kernel
theorem dX0_stopUp_24 : decode cX0_stopUp 24 = .ok (.bipush 9, 2) := by decide +kernel
theorem dX0_stopUp_26 : decode cX0_stopUp 26 = .ok (.iastore, 1) := by decide +kernel
theorem dX0_stopUp_27 : decode cX0_stopUp 27 = .ok (.iconst 1, 1) := by decide +kernel
theorem dX0_stopUp_28 : decode cX0_stopUp 28 = .ok (.ireturn, 1) := by decide +kernel
theorem dX0_acts_0 : decode cX0_acts 0 = .ok (.iload_n 2, 1) := by decide +kernel
theorem dX0_acts_1 : decode cX0_acts 1 = .ok (.bipush 10, 2) := by decide +kernel
theorem dX0_acts_3 : decode cX0_acts 3 = .ok (.if_icmp .ne 10, 3) := by decide +kernel
theorem dX0_acts_6 : decode cX0_acts 6 = .ok (.aload_n 0, 1) := by decide +kernel
theorem dX0_acts_7 : decode cX0_acts 7 = .ok (.iload_n 1, 1) := by decide +kernel
theorem dX0_acts_8 : decode cX0_acts 8 = .ok (.invokevirtual 87, 3) := by decide +kernel
theorem dX0_acts_11 : decode cX0_acts 11 = .ok (.iconst 1, 1) := by decide +kernel
theorem dX0_acts_12 : decode cX0_acts 12 = .ok (.ireturn, 1) := by decide +kernel
theorem dX0_acts_13 : decode cX0_acts 13 = .ok (.iload_n 2, 1) := by decide +kernel
theorem dX0_acts_14 : decode cX0_acts 14 = .ok (.bipush 20, 2) := by decide +kernel
theorem dX0_acts_16 : decode cX0_acts 16 = .ok (.if_icmp .ne 9, 3) := by decide +kernel
theorem dX0_acts_19 : decode cX0_acts 19 = .ok (.aload_n 0, 1) := by decide +kernel
theorem dX0_acts_20 : decode cX0_acts 20 = .ok (.iload_n 1, 1) := by decide +kernel
theorem dX0_acts_21 : decode cX0_acts 21 = .ok (.invokevirtual 91, 3) := by decide +kernel
theorem dX0_acts_24 : decode cX0_acts 24 = .ok (.ireturn, 1) := by decide +kernel
theorem dX0_acts_25 : decode cX0_acts 25 = .ok (.iload_n 2, 1) := by decide +kernel
theorem dX0_acts_26 : decode cX0_acts 26 = .ok (.aload_n 0, 1) := by decide +kernel
theorem dX0_acts_27 : decode cX0_acts 27 = .ok (.getfield 9, 3) := by decide +kernel
theorem dX0_acts_30 : decode cX0_acts 30 = .ok (.if_icmp .ge 12, 3) := by decide +kernel
theorem dX0_acts_33 : decode cX0_acts 33 = .ok (.aload_n 0, 1) := by decide +kernel
theorem dX0_acts_34 : decode cX0_acts 34 = .ok (.iload_n 1, 1) := by decide +kernel
theorem dX0_acts_35 : decode cX0_acts 35 = .ok (.iload_n 2, 1) := by decide +kernel
theorem dX0_acts_36 : decode cX0_acts 36 = .ok (.invokevirtual 95, 3) := by decide +kernel
theorem dX0_acts_39 : decode cX0_acts 39 = .ok (.ifCond .ne 5, 3) := by decide +kernel
theorem dX0_acts_42 : decode cX0_acts 42 = .ok (.iconst 0, 1) := by decide +kernel
theorem dX0_acts_43 : decode cX0_acts 43 = .ok (.ireturn, 1) := by decide +kernel
theorem dX0_acts_44 : decode cX0_acts 44 = .ok (.aload_n 0, 1) := by decide +kernel
theorem dX0_acts_45 : decode cX0_acts 45 = .ok (.iload_n 1, 1) := by decide +kernel
theorem dX0_acts_46 : decode cX0_acts 46 = .ok (.iload_n 2, 1) := by decide +kernel
theorem dX0_acts_47 : decode cX0_acts 47 = .ok (.invokevirtual 98, 3) := by decide +kernel
theorem dX0_acts_50 : decode cX0_acts 50 = .ok (.iconst 1, 1) := by decide +kernel
theorem dX0_acts_51 : decode cX0_acts 51 = .ok (.ireturn, 1) := by decide +kernel
theorem dX0_openHoles_0 : decode cX0_openHoles 0 = .ok (.iconst 0, 1) := by decide +kernel
theorem dX0_openHoles_1 : decode cX0_openHoles 1 = .ok (.istore_n 1, 1) := by decide +kernel
theorem dX0_openHoles_2 : decode cX0_openHoles 2 = .ok (.iconst 0, 1) := by decide +kernel
theorem dX0_openHoles_3 : decode cX0_openHoles 3 = .ok (.istore_n 2, 1) := by decide +kernel
theorem dX0_openHoles_4 : decode cX0_openHoles 4 = .ok (.iload_n 2, 1) := by decide +kernel
theorem dX0_openHoles_5 : decode cX0_openHoles 5 = .ok (.aload_n 0, 1) := by decide +kernel
theorem dX0_openHoles_6 : decode cX0_openHoles 6 = .ok (.invokevirtual 66, 3) := by decide +kernel
theorem dX0_openHoles_9 : decode cX0_openHoles 9 = .ok (.if_icmp .ge 26, 3) := by decide +kernel
theorem dX0_openHoles_12 : decode cX0_openHoles 12 = .ok (.iload_n 1, 1) := by decide +kernel
theorem dX0_openHoles_13 : decode cX0_openHoles 13 = .ok (.aload_n 0, 1) := by decide +kernel
theorem dX0_openHoles_14 : decode cX0_openHoles 14 = .ok (.getfield 21, 3) := by decide +kernel
theorem dX0_openHoles_17 : decode cX0_openHoles 17 = .ok (.iload_n 2, 1) := by decide +kernel
theorem dX0_openHoles_18 : decode cX0_openHoles 18 = .ok (.iaload, 1) := by decide +kernel
theorem dX0_openHoles_19 : decode cX0_openHoles 19 = .ok (.ifCond .le 7, 3) := by decide +kernel
theorem dX0_openHoles_22 : decode cX0_openHoles 22 = .ok (.iconst 1, 1) := by decide +kernel
theorem dX0_openHoles_23 : decode cX0_openHoles 23 = .ok (.goto 4, 3) := by decide +kernel
theorem dX0_openHoles_26 : decode cX0_openHoles 26 = .ok (.iconst 0, 1) := by decide +kernel
theorem dX0_openHoles_27 : decode cX0_openHoles 27 = .ok (.iadd, 1) := by decide +kernel
theorem dX0_openHoles_28 : decode cX0_openHoles 28 = .ok (.istore_n 1, 1) := by decide +kernel
theorem dX0_openHoles_29 : decode cX0_openHoles 29 = .ok (.iinc 2 1, 3) := by decide +kernel
theorem dX0_openHoles_32 : decode cX0_openHoles 32 = .ok (.goto (-28), 3) := by decide +kernel
theorem dX0_openHoles_35 : decode cX0_openHoles 35 = .ok (.iload_n 1, 1) := by decide +kernel
theorem dX0_openHoles_36 : decode cX0_openHoles 36 = .ok (.ireturn, 1) := by decide +kernel
theorem dX0_peopled_0 : decode cX0_peopled 0 = .ok (.iconst 0, 1) := by decide +kernel
theorem dX0_peopled_1 : decode cX0_peopled 1 = .ok (.istore_n 1, 1) := by decide +kernel
theorem dX0_peopled_2 : decode cX0_peopled 2 = .ok (.iconst 0, 1) := by decide +kernel
theorem dX0_peopled_3 : decode cX0_peopled 3 = .ok (.istore_n 2, 1) := by decide +kernel
theorem dX0_peopled_4 : decode cX0_peopled 4 = .ok (.iload_n 2, 1) := by decide +kernel
theorem dX0_peopled_5 : decode cX0_peopled 5 = .ok (.aload_n 0, 1) := by decide +kernel
theorem dX0_peopled_6 : decode cX0_peopled 6 = .ok (.getfield 15, 3) := by decide +kernel
theorem dX0_peopled_9 : decode cX0_peopled 9 = .ok (.if_icmp .ge 20, 3) := by decide +kernel
theorem dX0_peopled_12 : decode cX0_peopled 12 = .ok (.iload_n 1, 1) := by decide +kernel
theorem dX0_peopled_13 : decode cX0_peopled 13 = .ok (.iconst 1, 1) := by decide +kernel
theorem dX0_peopled_14 : decode cX0_peopled 14 = .ok (.aload_n 0, 1) := by decide +kernel
theorem dX0_peopled_15 : decode cX0_peopled 15 = .ok (.getfield 31, 3) := by decide +kernel
theorem dX0_peopled_18 : decode cX0_peopled 18 = .ok (.iload_n 2, 1) := by decide +kernel
theorem dX0_peopled_19 : decode cX0_peopled 19 = .ok (.iaload, 1) := by decide +kernel
theorem dX0_peopled_20 : decode cX0_peopled 20 = .ok (.ishl, 1) := by decide +kernel
theorem dX0_peopled_21 : decode cX0_peopled 21 = .ok (.ior, 1) := by decide +kernel
theorem dX0_peopled_22 : decode cX0_peopled 22 = .ok (.istore_n 1, 1) := by decide +kernel
theorem dX0_peopled_23 : decode cX0_peopled 23 = .ok (.iinc 2 1, 3) := by decide +kernel
theorem dX0_peopled_26 : decode cX0_peopled 26 = .ok (.goto (-22), 3) := by decide +kernel
theorem dX0_peopled_29 : decode cX0_peopled 29 = .ok (.iload_n 1, 1) := by decide +kernel
theorem dX0_peopled_30 : decode cX0_peopled 30 = .ok (.ireturn, 1) := by decide +kernel
theorem dX0_reachOf_0 : decode cX0_reachOf 0 = .ok (.iconst 1, 1) := by decide +kernel
theorem dX0_reachOf_1 : decode cX0_reachOf 1 = .ok (.iload_n 1, 1) := by decide +kernel
theorem dX0_reachOf_2 : decode cX0_reachOf 2 = .ok (.ishl, 1) := by decide +kernel
theorem dX0_reachOf_3 : decode cX0_reachOf 3 = .ok (.istore_n 3, 1) := by decide +kernel
theorem dX0_reachOf_4 : decode cX0_reachOf 4 = .ok (.iconst 1, 1) := by decide +kernel
theorem dX0_reachOf_5 : decode cX0_reachOf 5 = .ok (.istore 4, 2) := by decide +kernel
theorem dX0_reachOf_7 : decode cX0_reachOf 7 = .ok (.iload 4, 2) := by decide +kernel
theorem dX0_reachOf_9 : decode cX0_reachOf 9 = .ok (.aload_n 0, 1) := by decide +kernel
theorem dX0_reachOf_10 : decode cX0_reachOf 10 = .ok (.getfield 9, 3) := by decide +kernel
theorem dX0_reachOf_13 : decode cX0_reachOf 13 = .ok (.if_icmp .ge 73, 3) := by decide +kernel
theorem dX0_reachOf_16 : decode cX0_reachOf 16 = .ok (.iconst 0, 1) := by decide +kernel
theorem dX0_reachOf_17 : decode cX0_reachOf 17 = .ok (.istore 5, 2) := by decide +kernel
theorem dX0_reachOf_19 : decode cX0_reachOf 19 = .ok (.iload 5, 2) := by decide +kernel
theorem dX0_reachOf_21 : decode cX0_reachOf 21 = .ok (.aload_n 0, 1) := by decide +kernel
theorem dX0_reachOf_22 : decode cX0_reachOf 22 = .ok (.getfield 9, 3) := by decide +kernel
theorem dX0_reachOf_25 : decode cX0_reachOf 25 = .ok (.if_icmp .ge 55, 3) := by decide +kernel
theorem dX0_reachOf_28 : decode cX0_reachOf 28 = .ok (.iconst 0, 1) := by decide +kernel
theorem dX0_reachOf_29 : decode cX0_reachOf 29 = .ok (.istore 6, 2) := by decide +kernel
theorem dX0_reachOf_31 : decode cX0_reachOf 31 = .ok (.iload 6, 2) := by decide +kernel
theorem dX0_reachOf_33 : decode cX0_reachOf 33 = .ok (.aload_n 0, 1) := by decide +kernel
theorem dX0_reachOf_34 : decode cX0_reachOf 34 = .ok (.getfield 9, 3) := by decide +kernel
theorem dX0_reachOf_37 : decode cX0_reachOf 37 = .ok (.if_icmp .ge 37, 3) := by decide +kernel
theorem dX0_reachOf_40 : decode cX0_reachOf 40 = .ok (.iload_n 3, 1) := by decide +kernel
theorem dX0_reachOf_41 : decode cX0_reachOf 41 = .ok (.iload 5, 2) := by decide +kernel
theorem dX0_reachOf_43 : decode cX0_reachOf 43 = .ok (.invokestatic 84, 3) := by decide +kernel
theorem dX0_reachOf_46 : decode cX0_reachOf 46 = .ok (.ifCond .eq 22, 3) := by decide +kernel
theorem dX0_reachOf_49 : decode cX0_reachOf 49 = .ok (.aload_n 0, 1) := by decide +kernel
theorem dX0_reachOf_50 : decode cX0_reachOf 50 = .ok (.iload 5, 2) := by decide +kernel
theorem dX0_reachOf_52 : decode cX0_reachOf 52 = .ok (.iload 6, 2) := by decide +kernel
theorem dX0_reachOf_54 : decode cX0_reachOf 54 = .ok (.iload_n 2, 1) := by decide +kernel
theorem dX0_reachOf_55 : decode cX0_reachOf 55 = .ok (.invokevirtual 81, 3) := by decide +kernel
theorem dX0_reachOf_58 : decode cX0_reachOf 58 = .ok (.ifCond .eq 10, 3) := by decide +kernel
theorem dX0_reachOf_61 : decode cX0_reachOf 61 = .ok (.iload_n 3, 1) := by decide +kernel
theorem dX0_reachOf_62 : decode cX0_reachOf 62 = .ok (.iconst 1, 1) := by decide +kernel
theorem dX0_reachOf_63 : decode cX0_reachOf 63 = .ok (.iload 6, 2) := by decide +kernel
theorem dX0_reachOf_65 : decode cX0_reachOf 65 = .ok (.ishl, 1) := by decide +kernel
theorem dX0_reachOf_66 : decode cX0_reachOf 66 = .ok (.ior, 1) := by decide +kernel
theorem dX0_reachOf_67 : decode cX0_reachOf 67 = .ok (.istore_n 3, 1) := by decide +kernel
theorem dX0_reachOf_68 : decode cX0_reachOf 68 = .ok (.iinc 6 1, 3) := by decide +kernel
theorem dX0_reachOf_71 : decode cX0_reachOf 71 = .ok (.goto (-40), 3) := by decide +kernel
theorem dX0_reachOf_74 : decode cX0_reachOf 74 = .ok (.iinc 5 1, 3) := by decide +kernel
theorem dX0_reachOf_77 : decode cX0_reachOf 77 = .ok (.goto (-58), 3) := by decide +kernel
theorem dX0_reachOf_80 : decode cX0_reachOf 80 = .ok (.iinc 4 1, 3) := by decide +kernel
theorem dX0_reachOf_83 : decode cX0_reachOf 83 = .ok (.goto (-76), 3) := by decide +kernel
theorem dX0_reachOf_86 : decode cX0_reachOf 86 = .ok (.iload_n 3, 1) := by decide +kernel
theorem dX0_reachOf_87 : decode cX0_reachOf 87 = .ok (.ireturn, 1) := by decide +kernel
theorem dX0_comersTo_0 : decode cX0_comersTo 0 = .ok (.iconst 0, 1) := by decide +kernel
theorem dX0_comersTo_1 : decode cX0_comersTo 1 = .ok (.istore_n 2, 1) := by decide +kernel
theorem dX0_comersTo_2 : decode cX0_comersTo 2 = .ok (.iconst 0, 1) := by decide +kernel
theorem dX0_comersTo_3 : decode cX0_comersTo 3 = .ok (.istore_n 3, 1) := by decide +kernel
theorem dX0_comersTo_4 : decode cX0_comersTo 4 = .ok (.iload_n 3, 1) := by decide +kernel
theorem dX0_comersTo_5 : decode cX0_comersTo 5 = .ok (.aload_n 0, 1) := by decide +kernel
theorem dX0_comersTo_6 : decode cX0_comersTo 6 = .ok (.getfield 15, 3) := by decide +kernel
theorem dX0_comersTo_9 : decode cX0_comersTo 9 = .ok (.if_icmp .ge 41, 3) := by decide +kernel
theorem dX0_comersTo_12 : decode cX0_comersTo 12 = .ok (.iload_n 2, 1) := by decide +kernel
theorem dX0_comersTo_13 : decode cX0_comersTo 13 = .ok (.aload_n 0, 1) := by decide +kernel
theorem dX0_comersTo_14 : decode cX0_comersTo 14 = .ok (.aload_n 0, 1) := by decide +kernel
theorem dX0_comersTo_15 : decode cX0_comersTo 15 = .ok (.getfield 31, 3) := by decide +kernel
theorem dX0_comersTo_18 : decode cX0_comersTo 18 = .ok (.iload_n 3, 1) := by decide +kernel
theorem dX0_comersTo_19 : decode cX0_comersTo 19 = .ok (.iaload, 1) := by decide +kernel
theorem dX0_comersTo_20 : decode cX0_comersTo 20 = .ok (.aload_n 0, 1) := by decide +kernel
theorem dX0_comersTo_21 : decode cX0_comersTo 21 = .ok (.iload_n 3, 1) := by decide +kernel
theorem dX0_comersTo_22 : decode cX0_comersTo 22 = .ok (.invokevirtual 78, 3) := by decide +kernel
theorem dX0_comersTo_25 : decode cX0_comersTo 25 = .ok (.invokevirtual 102, 3) := by decide +kernel
theorem dX0_comersTo_28 : decode cX0_comersTo 28 = .ok (.iload_n 1, 1) := by decide +kernel
theorem dX0_comersTo_29 : decode cX0_comersTo 29 = .ok (.invokestatic 84, 3) := by decide +kernel
theorem dX0_comersTo_32 : decode cX0_comersTo 32 = .ok (.ifCond .eq 9, 3) := by decide +kernel
theorem dX0_comersTo_35 : decode cX0_comersTo 35 = .ok (.iconst 1, 1) := by decide +kernel
theorem dX0_comersTo_36 : decode cX0_comersTo 36 = .ok (.iload_n 3, 1) := by decide +kernel
theorem dX0_comersTo_37 : decode cX0_comersTo 37 = .ok (.ishl, 1) := by decide +kernel
theorem dX0_comersTo_38 : decode cX0_comersTo 38 = .ok (.goto 4, 3) := by decide +kernel
theorem dX0_comersTo_41 : decode cX0_comersTo 41 = .ok (.iconst 0, 1) := by decide +kernel
theorem dX0_comersTo_42 : decode cX0_comersTo 42 = .ok (.ior, 1) := by decide +kernel
theorem dX0_comersTo_43 : decode cX0_comersTo 43 = .ok (.istore_n 2, 1) := by decide +kernel
theorem dX0_comersTo_44 : decode cX0_comersTo 44 = .ok (.iinc 3 1, 3) := by decide +kernel
theorem dX0_comersTo_47 : decode cX0_comersTo 47 = .ok (.goto (-43), 3) := by decide +kernel
theorem dX0_comersTo_50 : decode cX0_comersTo 50 = .ok (.iload_n 2, 1) := by decide +kernel
theorem dX0_comersTo_51 : decode cX0_comersTo 51 = .ok (.ireturn, 1) := by decide +kernel
theorem dX0_measureTo_0 : decode cX0_measureTo 0 = .ok (.iconst 0, 1) := by decide +kernel
theorem dX0_measureTo_1 : decode cX0_measureTo 1 = .ok (.istore 5, 2) := by decide +kernel
theorem dX0_measureTo_3 : decode cX0_measureTo 3 = .ok (.iload 5, 2) := by decide +kernel
theorem dX0_measureTo_5 : decode cX0_measureTo 5 = .ok (.aload_n 0, 1) := by decide +kernel
theorem dX0_measureTo_6 : decode cX0_measureTo 6 = .ok (.getfield 9, 3) := by decide +kernel
theorem dX0_measureTo_9 : decode cX0_measureTo 9 = .ok (.if_icmp .ge 29, 3) := by decide +kernel
theorem dX0_measureTo_12 : decode cX0_measureTo 12 = .ok (.aload_n 0, 1) := by decide +kernel
theorem dX0_measureTo_13 : decode cX0_measureTo 13 = .ok (.getfield 34, 3) := by decide +kernel
theorem dX0_measureTo_16 : decode cX0_measureTo 16 = .ok (.iload 5, 2) := by decide +kernel
theorem dX0_measureTo_18 : decode cX0_measureTo 18 = .ok (.iload 5, 2) := by decide +kernel
theorem dX0_measureTo_20 : decode cX0_measureTo 20 = .ok (.iload_n 1, 1) := by decide +kernel
theorem dX0_measureTo_21 : decode cX0_measureTo 21 = .ok (.if_icmp .ne 7, 3) := by decide +kernel
theorem dX0_measureTo_24 : decode cX0_measureTo 24 = .ok (.iconst 0, 1) := by decide +kernel
theorem dX0_measureTo_25 : decode cX0_measureTo 25 = .ok (.goto 6, 3) := by decide +kernel
theorem dX0_measureTo_28 : decode cX0_measureTo 28 = .ok (.sipush 1000, 3) := by decide +kernel
theorem dX0_measureTo_31 : decode cX0_measureTo 31 = .ok (.iastore, 1) := by decide +kernel
theorem dX0_measureTo_32 : decode cX0_measureTo 32 = .ok (.iinc 5 1, 3) := by decide +kernel
theorem dX0_measureTo_35 : decode cX0_measureTo 35 = .ok (.goto (-32), 3) := by decide +kernel
theorem dX0_measureTo_38 : decode cX0_measureTo 38 = .ok (.iconst 1, 1) := by decide +kernel
theorem dX0_measureTo_39 : decode cX0_measureTo 39 = .ok (.istore 5, 2) := by decide +kernel
theorem dX0_measureTo_41 : decode cX0_measureTo 41 = .ok (.iload 5, 2) := by decide +kernel
theorem dX0_measureTo_43 : decode cX0_measureTo 43 = .ok (.aload_n 0, 1) := by decide +kernel
theorem dX0_measureTo_44 : decode cX0_measureTo 44 = .ok (.getfield 9, 3) := by decide +kernel
theorem dX0_measureTo_47 : decode cX0_measureTo 47 = .ok (.if_icmp .ge 115, 3) := by decide +kernel
theorem dX0_measureTo_50 : decode cX0_measureTo 50 = .ok (.iconst 0, 1) := by decide +kernel
theorem dX0_measureTo_51 : decode cX0_measureTo 51 = .ok (.istore 6, 2) := by decide +kernel
theorem dX0_measureTo_53 : decode cX0_measureTo 53 = .ok (.iload 6, 2) := by decide +kernel
theorem dX0_measureTo_55 : decode cX0_measureTo 55 = .ok (.aload_n 0, 1) := by decide +kernel
theorem dX0_measureTo_56 : decode cX0_measureTo 56 = .ok (.getfield 9, 3) := by decide +kernel
theorem dX0_measureTo_59 : decode cX0_measureTo 59 = .ok (.if_icmp .ge 97, 3) := by decide +kernel
theorem dX0_measureTo_62 : decode cX0_measureTo 62 = .ok (.iconst 0, 1) := by decide +kernel
theorem dX0_measureTo_63 : decode cX0_measureTo 63 = .ok (.istore 7, 2) := by decide +kernel
theorem dX0_measureTo_65 : decode cX0_measureTo 65 = .ok (.iload 7, 2) := by decide +kernel
theorem dX0_measureTo_67 : decode cX0_measureTo 67 = .ok (.aload_n 0, 1) := by decide +kernel
theorem dX0_measureTo_68 : decode cX0_measureTo 68 = .ok (.getfield 9, 3) := by decide +kernel
theorem dX0_measureTo_71 : decode cX0_measureTo 71 = .ok (.if_icmp .ge 79, 3) := by decide +kernel
theorem dX0_measureTo_74 : decode cX0_measureTo 74 = .ok (.iload 6, 2) := by decide +kernel
theorem dX0_measureTo_76 : decode cX0_measureTo 76 = .ok (.iload 7, 2) := by decide +kernel
theorem dX0_measureTo_78 : decode cX0_measureTo 78 = .ok (.if_icmp .eq 66, 3) := by decide +kernel
theorem dX0_measureTo_81 : decode cX0_measureTo 81 = .ok (.aload_n 0, 1) := by decide +kernel
theorem dX0_measureTo_82 : decode cX0_measureTo 82 = .ok (.getfield 21, 3) := by decide +kernel
theorem dX0_measureTo_85 : decode cX0_measureTo 85 = .ok (.aload_n 0, 1) := by decide +kernel
theorem dX0_measureTo_86 : decode cX0_measureTo 86 = .ok (.iload 6, 2) := by decide +kernel
theorem dX0_measureTo_88 : decode cX0_measureTo 88 = .ok (.iload 7, 2) := by decide +kernel
theorem dX0_measureTo_90 : decode cX0_measureTo 90 = .ok (.invokevirtual 55, 3) := by decide +kernel
theorem dX0_measureTo_93 : decode cX0_measureTo 93 = .ok (.iaload, 1) := by decide +kernel
theorem dX0_measureTo_94 : decode cX0_measureTo 94 = .ok (.ifCond .le 50, 3) := by decide +kernel
theorem dX0_measureTo_97 : decode cX0_measureTo 97 = .ok (.aload_n 0, 1) := by decide +kernel
theorem dX0_measureTo_98 : decode cX0_measureTo 98 = .ok (.iload 6, 2) := by decide +kernel
theorem dX0_measureTo_100 : decode cX0_measureTo 100 = .ok (.iload 7, 2) := by decide +kernel
theorem dX0_measureTo_102 : decode cX0_measureTo 102 = .ok (.iload_n 2, 1) := by decide +kernel
theorem dX0_measureTo_103 : decode cX0_measureTo 103 = .ok (.invokevirtual 81, 3) := by decide +kernel
theorem dX0_measureTo_106 : decode cX0_measureTo 106 = .ok (.ifCond .eq 7, 3) := by decide +kernel
theorem dX0_measureTo_109 : decode cX0_measureTo 109 = .ok (.iload_n 3, 1) := by decide +kernel
theorem dX0_measureTo_110 : decode cX0_measureTo 110 = .ok (.goto 5, 3) := by decide +kernel
theorem dX0_measureTo_113 : decode cX0_measureTo 113 = .ok (.iload 4, 2) := by decide +kernel
theorem dX0_measureTo_115 : decode cX0_measureTo 115 = .ok (.istore 8, 2) := by decide +kernel
theorem dX0_measureTo_117 : decode cX0_measureTo 117 = .ok (.aload_n 0, 1) := by decide +kernel
theorem dX0_measureTo_118 : decode cX0_measureTo 118 = .ok (.getfield 34, 3) := by decide +kernel
theorem dX0_measureTo_121 : decode cX0_measureTo 121 = .ok (.iload 6, 2) := by decide +kernel
theorem dX0_measureTo_123 : decode cX0_measureTo 123 = .ok (.aload_n 0, 1) := by decide +kernel
theorem dX0_measureTo_124 : decode cX0_measureTo 124 = .ok (.getfield 34, 3) := by decide +kernel
theorem dX0_measureTo_127 : decode cX0_measureTo 127 = .ok (.iload 6, 2) := by decide +kernel
theorem dX0_measureTo_129 : decode cX0_measureTo 129 = .ok (.iaload, 1) := by decide +kernel
theorem dX0_measureTo_130 : decode cX0_measureTo 130 = .ok (.aload_n 0, 1) := by decide +kernel
theorem dX0_measureTo_131 : decode cX0_measureTo 131 = .ok (.getfield 34, 3) := by decide +kernel
theorem dX0_measureTo_134 : decode cX0_measureTo 134 = .ok (.iload 7, 2) := by decide +kernel
theorem dX0_measureTo_136 : decode cX0_measureTo 136 = .ok (.iaload, 1) := by decide +kernel
theorem dX0_measureTo_137 : decode cX0_measureTo 137 = .ok (.iload 8, 2) := by decide +kernel
theorem dX0_measureTo_139 : decode cX0_measureTo 139 = .ok (.iadd, 1) := by decide +kernel
theorem dX0_measureTo_140 : decode cX0_measureTo 140 = .ok (.invokestatic 43, 3) := by decide +kernel
theorem dX0_measureTo_143 : decode cX0_measureTo 143 = .ok (.iastore, 1) := by decide +kernel
theorem dX0_measureTo_144 : decode cX0_measureTo 144 = .ok (.iinc 7 1, 3) := by decide +kernel
theorem dX0_measureTo_147 : decode cX0_measureTo 147 = .ok (.goto (-82), 3) := by decide +kernel
theorem dX0_measureTo_150 : decode cX0_measureTo 150 = .ok (.iinc 6 1, 3) := by decide +kernel
theorem dX0_measureTo_153 : decode cX0_measureTo 153 = .ok (.goto (-100), 3) := by decide +kernel
theorem dX0_measureTo_156 : decode cX0_measureTo 156 = .ok (.iinc 5 1, 3) := by decide +kernel
theorem dX0_measureTo_159 : decode cX0_measureTo 159 = .ok (.goto (-118), 3) := by decide +kernel
theorem dX0_measureTo_162 : decode cX0_measureTo 162 = .ok (.return_, 1) := by decide +kernel
theorem dX0_fieldOnWay_0 : decode cX0_fieldOnWay 0 = .ok (.aload_n 0, 1) := by decide +kernel
theorem dX0_fieldOnWay_1 : decode cX0_fieldOnWay 1 = .ok (.getfield 31, 3) := by decide +kernel
theorem dX0_fieldOnWay_4 : decode cX0_fieldOnWay 4 = .ok (.iload_n 1, 1) := by decide +kernel
theorem dX0_fieldOnWay_5 : decode cX0_fieldOnWay 5 = .ok (.iaload, 1) := by decide +kernel
theorem dX0_fieldOnWay_6 : decode cX0_fieldOnWay 6 = .ok (.istore_n 3, 1) := by decide +kernel
theorem dX0_fieldOnWay_7 : decode cX0_fieldOnWay 7 = .ok (.iconst 0, 1) := by decide +kernel
theorem dX0_fieldOnWay_8 : decode cX0_fieldOnWay 8 = .ok (.istore 4, 2) := by decide +kernel
theorem dX0_fieldOnWay_10 : decode cX0_fieldOnWay 10 = .ok (.iload 4, 2) := by decide +kernel
theorem dX0_fieldOnWay_12 : decode cX0_fieldOnWay 12 = .ok (.iload_n 2, 1) := by decide +kernel
theorem dX0_fieldOnWay_13 : decode cX0_fieldOnWay 13 = .ok (.if_icmp .ge 20, 3) := by decide +kernel
theorem dX0_fieldOnWay_16 : decode cX0_fieldOnWay 16 = .ok (.aload_n 0, 1) := by decide +kernel
theorem dX0_fieldOnWay_17 : decode cX0_fieldOnWay 17 = .ok (.iload_n 3, 1) := by decide +kernel
theorem dX0_fieldOnWay_18 : decode cX0_fieldOnWay 18 = .ok (.aload_n 0, 1) := by decide +kernel
theorem dX0_fieldOnWay_19 : decode cX0_fieldOnWay 19 = .ok (.iload_n 1, 1) := by decide +kernel
theorem dX0_fieldOnWay_20 : decode cX0_fieldOnWay 20 = .ok (.invokevirtual 78, 3) := by decide +kernel
theorem dX0_fieldOnWay_23 : decode cX0_fieldOnWay 23 = .ok (.invokevirtual 105, 3) := by decide +kernel
theorem dX0_fieldOnWay_26 : decode cX0_fieldOnWay 26 = .ok (.istore_n 3, 1) := by decide +kernel
theorem dX0_fieldOnWay_27 : decode cX0_fieldOnWay 27 = .ok (.iinc 4 1, 3) := by decide +kernel
theorem dX0_fieldOnWay_30 : decode cX0_fieldOnWay 30 = .ok (.goto (-20), 3) := by decide +kernel
theorem dX0_fieldOnWay_33 : decode cX0_fieldOnWay 33 = .ok (.iload_n 3, 1) := by decide +kernel
theorem dX0_fieldOnWay_34 : decode cX0_fieldOnWay 34 = .ok (.ireturn, 1) := by decide +kernel
theorem dX0_nearerThan_0 : decode cX0_nearerThan 0 = .ok (.iconst 0, 1) := by decide +kernel
theorem dX0_nearerThan_1 : decode cX0_nearerThan 1 = .ok (.istore_n 3, 1) := by decide +kernel
theorem dX0_nearerThan_2 : decode cX0_nearerThan 2 = .ok (.iload_n 3, 1) := by decide +kernel
theorem dX0_nearerThan_3 : decode cX0_nearerThan 3 = .ok (.aload_n 0, 1) := by decide +kernel
theorem dX0_nearerThan_4 : decode cX0_nearerThan 4 = .ok (.getfield 9, 3) := by decide +kernel
theorem dX0_nearerThan_7 : decode cX0_nearerThan 7 = .ok (.if_icmp .ge 36, 3) := by decide +kernel
theorem dX0_nearerThan_10 : decode cX0_nearerThan 10 = .ok (.aload_n 0, 1) := by decide +kernel
theorem dX0_nearerThan_11 : decode cX0_nearerThan 11 = .ok (.iload_n 1, 1) := by decide +kernel
theorem dX0_nearerThan_12 : decode cX0_nearerThan 12 = .ok (.iload_n 3, 1) := by decide +kernel
theorem dX0_nearerThan_13 : decode cX0_nearerThan 13 = .ok (.iload_n 2, 1) := by decide +kernel
theorem dX0_nearerThan_14 : decode cX0_nearerThan 14 = .ok (.invokevirtual 81, 3) := by decide +kernel
theorem dX0_nearerThan_17 : decode cX0_nearerThan 17 = .ok (.ifCond .eq 20, 3) := by decide +kernel
theorem dX0_nearerThan_20 : decode cX0_nearerThan 20 = .ok (.aload_n 0, 1) := by decide +kernel
theorem dX0_nearerThan_21 : decode cX0_nearerThan 21 = .ok (.getfield 34, 3) := by decide +kernel
theorem dX0_nearerThan_24 : decode cX0_nearerThan 24 = .ok (.iload_n 3, 1) := by decide +kernel
theorem dX0_nearerThan_25 : decode cX0_nearerThan 25 = .ok (.iaload, 1) := by decide +kernel
theorem dX0_nearerThan_26 : decode cX0_nearerThan 26 = .ok (.aload_n 0, 1) := by decide +kernel
theorem dX0_nearerThan_27 : decode cX0_nearerThan 27 = .ok (.getfield 34, 3) := by decide +kernel
theorem dX0_nearerThan_30 : decode cX0_nearerThan 30 = .ok (.iload_n 1, 1) := by decide +kernel
theorem dX0_nearerThan_31 : decode cX0_nearerThan 31 = .ok (.iaload, 1) := by decide +kernel
theorem dX0_nearerThan_32 : decode cX0_nearerThan 32 = .ok (.if_icmp .ge 5, 3) := by decide +kernel
theorem dX0_nearerThan_35 : decode cX0_nearerThan 35 = .ok (.iload_n 3, 1) := by decide +kernel
theorem dX0_nearerThan_36 : decode cX0_nearerThan 36 = .ok (.ireturn, 1) := by decide +kernel
theorem dX0_nearerThan_37 : decode cX0_nearerThan 37 = .ok (.iinc 3 1, 3) := by decide +kernel
theorem dX0_nearerThan_40 : decode cX0_nearerThan 40 = .ok (.goto (-38), 3) := by decide +kernel
theorem dX0_nearerThan_43 : decode cX0_nearerThan 43 = .ok (.iload_n 1, 1) := by decide +kernel
theorem dX0_nearerThan_44 : decode cX0_nearerThan 44 = .ok (.ireturn, 1) := by decide +kernel
theorem dX0_fewestToShut_0 : decode cX0_fewestToShut 0 = .ok (.sipush 1023, 3) := by decide +kernel
theorem dX0_fewestToShut_3 : decode cX0_fewestToShut 3 = .ok (.istore_n 3, 1) := by decide +kernel
theorem dX0_fewestToShut_4 : decode cX0_fewestToShut 4 = .ok (.iconst 0, 1) := by decide +kernel
theorem dX0_fewestToShut_5 : decode cX0_fewestToShut 5 = .ok (.istore 4, 2) := by decide +kernel
theorem dX0_fewestToShut_7 : decode cX0_fewestToShut 7 = .ok (.iload 4, 2) := by decide +kernel
theorem dX0_fewestToShut_9 : decode cX0_fewestToShut 9 = .ok (.iconst 1, 1) := by decide +kernel
theorem dX0_fewestToShut_10 : decode cX0_fewestToShut 10 = .ok (.aload_n 0, 1) := by decide +kernel
theorem dX0_fewestToShut_11 : decode cX0_fewestToShut 11 = .ok (.getfield 9, 3) := by decide +kernel
theorem dX0_fewestToShut_14 : decode cX0_fewestToShut 14 = .ok (.ishl, 1) := by decide +kernel
theorem dX0_fewestToShut_15 : decode cX0_fewestToShut 15 = .ok (.if_icmp .ge 61, 3) := by decide +kernel
theorem dX0_fewestToShut_18 : decode cX0_fewestToShut 18 = .ok (.iload 4, 2) := by decide +kernel
theorem dX0_fewestToShut_20 : decode cX0_fewestToShut 20 = .ok (.aload_n 0, 1) := by decide +kernel
theorem dX0_fewestToShut_21 : decode cX0_fewestToShut 21 = .ok (.getfield 31, 3) := by decide +kernel
theorem dX0_fewestToShut_24 : decode cX0_fewestToShut 24 = .ok (.iload_n 1, 1) := by decide +kernel
theorem dX0_fewestToShut_25 : decode cX0_fewestToShut 25 = .ok (.iaload, 1) := by decide +kernel
theorem dX0_fewestToShut_26 : decode cX0_fewestToShut 26 = .ok (.invokestatic 84, 3) := by decide +kernel
theorem dX0_fewestToShut_29 : decode cX0_fewestToShut 29 = .ok (.ifCond .eq 41, 3) := by decide +kernel
theorem dX0_fewestToShut_32 : decode cX0_fewestToShut 32 = .ok (.iload 4, 2) := by decide +kernel
theorem dX0_fewestToShut_34 : decode cX0_fewestToShut 34 = .ok (.iload_n 2, 1) := by decide +kernel
theorem dX0_fewestToShut_35 : decode cX0_fewestToShut 35 = .ok (.invokestatic 84, 3) := by decide +kernel
theorem dX0_fewestToShut_38 : decode cX0_fewestToShut 38 = .ok (.ifCond .ne 32, 3) := by decide +kernel
theorem dX0_fewestToShut_41 : decode cX0_fewestToShut 41 = .ok (.aload_n 0, 1) := by decide +kernel
theorem dX0_fewestToShut_42 : decode cX0_fewestToShut 42 = .ok (.iload 4, 2) := by decide +kernel
theorem dX0_fewestToShut_44 : decode cX0_fewestToShut 44 = .ok (.aload_n 0, 1) := by decide +kernel
theorem dX0_fewestToShut_45 : decode cX0_fewestToShut 45 = .ok (.iload_n 1, 1) := by decide +kernel
theorem dX0_fewestToShut_46 : decode cX0_fewestToShut 46 = .ok (.invokevirtual 78, 3) := by decide +kernel
theorem dX0_fewestToShut_49 : decode cX0_fewestToShut 49 = .ok (.invokevirtual 108, 3) := by decide +kernel
theorem dX0_fewestToShut_52 : decode cX0_fewestToShut 52 = .ok (.istore 5, 2) := by decide +kernel
theorem dX0_fewestToShut_54 : decode cX0_fewestToShut 54 = .ok (.iload 5, 2) := by decide +kernel
theorem dX0_fewestToShut_56 : decode cX0_fewestToShut 56 = .ok (.iload_n 3, 1) := by decide +kernel
theorem dX0_fewestToShut_57 : decode cX0_fewestToShut 57 = .ok (.invokestatic 111, 3) := by decide +kernel
theorem dX0_fewestToShut_60 : decode cX0_fewestToShut 60 = .ok (.ifCond .eq 8, 3) := by decide +kernel
theorem dX0_fewestToShut_63 : decode cX0_fewestToShut 63 = .ok (.iload 5, 2) := by decide +kernel
theorem dX0_fewestToShut_65 : decode cX0_fewestToShut 65 = .ok (.goto 4, 3) := by decide +kernel
theorem dX0_fewestToShut_68 : decode cX0_fewestToShut 68 = .ok (.iload_n 3, 1) := by decide +kernel
theorem dX0_fewestToShut_69 : decode cX0_fewestToShut 69 = .ok (.istore_n 3, 1) := by decide +kernel
theorem dX0_fewestToShut_70 : decode cX0_fewestToShut 70 = .ok (.iinc 4 1, 3) := by decide +kernel
theorem dX0_fewestToShut_73 : decode cX0_fewestToShut 73 = .ok (.goto (-66), 3) := by decide +kernel
theorem dX0_fewestToShut_76 : decode cX0_fewestToShut 76 = .ok (.iload_n 3, 1) := by decide +kernel
theorem dX0_fewestToShut_77 : decode cX0_fewestToShut 77 = .ok (.ireturn, 1) := by decide +kernel
theorem dX0_fittedAround_0 : decode cX0_fittedAround 0 = .ok (.iconst 0, 1) := by decide +kernel
theorem dX0_fittedAround_1 : decode cX0_fittedAround 1 = .ok (.istore_n 3, 1) := by decide +kernel
theorem dX0_fittedAround_2 : decode cX0_fittedAround 2 = .ok (.iconst 0, 1) := by decide +kernel
theorem dX0_fittedAround_3 : decode cX0_fittedAround 3 = .ok (.istore 4, 2) := by decide +kernel
theorem dX0_fittedAround_5 : decode cX0_fittedAround 5 = .ok (.iload 4, 2) := by decide +kernel
theorem dX0_fittedAround_7 : decode cX0_fittedAround 7 = .ok (.aload_n 0, 1) := by decide +kernel
theorem dX0_fittedAround_8 : decode cX0_fittedAround 8 = .ok (.getfield 9, 3) := by decide +kernel
theorem dX0_fittedAround_11 : decode cX0_fittedAround 11 = .ok (.if_icmp .ge 70, 3) := by decide +kernel
theorem dX0_fittedAround_14 : decode cX0_fittedAround 14 = .ok (.iconst 0, 1) := by decide +kernel
theorem dX0_fittedAround_15 : decode cX0_fittedAround 15 = .ok (.istore 5, 2) := by decide +kernel
theorem dX0_fittedAround_17 : decode cX0_fittedAround 17 = .ok (.iload 5, 2) := by decide +kernel
theorem dX0_fittedAround_19 : decode cX0_fittedAround 19 = .ok (.aload_n 0, 1) := by decide +kernel
theorem dX0_fittedAround_20 : decode cX0_fittedAround 20 = .ok (.getfield 9, 3) := by decide +kernel
theorem dX0_fittedAround_23 : decode cX0_fittedAround 23 = .ok (.if_icmp .ge 52, 3) := by decide +kernel
theorem dX0_fittedAround_26 : decode cX0_fittedAround 26 = .ok (.iload_n 1, 1) := by decide +kernel
theorem dX0_fittedAround_27 : decode cX0_fittedAround 27 = .ok (.iload 4, 2) := by decide +kernel
theorem dX0_fittedAround_29 : decode cX0_fittedAround 29 = .ok (.invokestatic 84, 3) := by decide +kernel
theorem dX0_fittedAround_32 : decode cX0_fittedAround 32 = .ok (.ifCond .eq 37, 3) := by decide +kernel
theorem dX0_fittedAround_35 : decode cX0_fittedAround 35 = .ok (.iload_n 1, 1) := by decide +kernel
theorem dX0_fittedAround_36 : decode cX0_fittedAround 36 = .ok (.iload 5, 2) := by decide +kernel
theorem dX0_fittedAround_38 : decode cX0_fittedAround 38 = .ok (.invokestatic 84, 3) := by decide +kernel
theorem dX0_fittedAround_41 : decode cX0_fittedAround 41 = .ok (.ifCond .ne 28, 3) := by decide +kernel
theorem dX0_fittedAround_44 : decode cX0_fittedAround 44 = .ok (.aload_n 0, 1) := by decide +kernel
theorem dX0_fittedAround_45 : decode cX0_fittedAround 45 = .ok (.iload 4, 2) := by decide +kernel
theorem dX0_fittedAround_47 : decode cX0_fittedAround 47 = .ok (.iload 5, 2) := by decide +kernel
theorem dX0_fittedAround_49 : decode cX0_fittedAround 49 = .ok (.iload_n 2, 1) := by decide +kernel
theorem dX0_fittedAround_50 : decode cX0_fittedAround 50 = .ok (.invokevirtual 81, 3) := by decide +kernel
theorem dX0_fittedAround_53 : decode cX0_fittedAround 53 = .ok (.ifCond .eq 16, 3) := by decide +kernel
theorem dX0_fittedAround_56 : decode cX0_fittedAround 56 = .ok (.iload_n 3, 1) := by decide +kernel
theorem dX0_fittedAround_57 : decode cX0_fittedAround 57 = .ok (.iconst 1, 1) := by decide +kernel
theorem dX0_fittedAround_58 : decode cX0_fittedAround 58 = .ok (.aload_n 0, 1) := by decide +kernel
theorem dX0_fittedAround_59 : decode cX0_fittedAround 59 = .ok (.iload 4, 2) := by decide +kernel
theorem dX0_fittedAround_61 : decode cX0_fittedAround 61 = .ok (.iload 5, 2) := by decide +kernel
theorem dX0_fittedAround_63 : decode cX0_fittedAround 63 = .ok (.invokevirtual 55, 3) := by decide +kernel
theorem dX0_fittedAround_66 : decode cX0_fittedAround 66 = .ok (.ishl, 1) := by decide +kernel
theorem dX0_fittedAround_67 : decode cX0_fittedAround 67 = .ok (.ior, 1) := by decide +kernel
theorem dX0_fittedAround_68 : decode cX0_fittedAround 68 = .ok (.istore_n 3, 1) := by decide +kernel
theorem dX0_fittedAround_69 : decode cX0_fittedAround 69 = .ok (.iinc 5 1, 3) := by decide +kernel
theorem dX0_fittedAround_72 : decode cX0_fittedAround 72 = .ok (.goto (-55), 3) := by decide +kernel
theorem dX0_fittedAround_75 : decode cX0_fittedAround 75 = .ok (.iinc 4 1, 3) := by decide +kernel
theorem dX0_fittedAround_78 : decode cX0_fittedAround 78 = .ok (.goto (-73), 3) := by decide +kernel
theorem dX0_fittedAround_81 : decode cX0_fittedAround 81 = .ok (.iload_n 3, 1) := by decide +kernel
theorem dX0_fittedAround_82 : decode cX0_fittedAround 82 = .ok (.ireturn, 1) := by decide +kernel
theorem dX0_isFewer_0 : decode cX0_isFewer 0 = .ok (.iload_n 0, 1) := by decide +kernel
theorem dX0_isFewer_1 : decode cX0_isFewer 1 = .ok (.invokestatic 114, 3) := by decide +kernel
theorem dX0_isFewer_4 : decode cX0_isFewer 4 = .ok (.iload_n 1, 1) := by decide +kernel
theorem dX0_isFewer_5 : decode cX0_isFewer 5 = .ok (.invokestatic 114, 3) := by decide +kernel
theorem dX0_isFewer_8 : decode cX0_isFewer 8 = .ok (.isub, 1) := by decide +kernel
theorem dX0_isFewer_9 : decode cX0_isFewer 9 = .ok (.istore_n 2, 1) := by decide +kernel
theorem dX0_isFewer_10 : decode cX0_isFewer 10 = .ok (.iload_n 2, 1) := by decide +kernel
theorem dX0_isFewer_11 : decode cX0_isFewer 11 = .ok (.ifCond .lt 12, 3) := by decide +kernel
theorem dX0_isFewer_14 : decode cX0_isFewer 14 = .ok (.iload_n 2, 1) := by decide +kernel
theorem dX0_isFewer_15 : decode cX0_isFewer 15 = .ok (.ifCond .ne 12, 3) := by decide +kernel
theorem dX0_isFewer_18 : decode cX0_isFewer 18 = .ok (.iload_n 0, 1) := by decide +kernel
theorem dX0_isFewer_19 : decode cX0_isFewer 19 = .ok (.iload_n 1, 1) := by decide +kernel
theorem dX0_isFewer_20 : decode cX0_isFewer 20 = .ok (.if_icmp .ge 7, 3) := by decide +kernel
theorem dX0_isFewer_23 : decode cX0_isFewer 23 = .ok (.iconst 1, 1) := by decide +kernel
theorem dX0_isFewer_24 : decode cX0_isFewer 24 = .ok (.goto 4, 3) := by decide +kernel
theorem dX0_isFewer_27 : decode cX0_isFewer 27 = .ok (.iconst 0, 1) := by decide +kernel
theorem dX0_isFewer_28 : decode cX0_isFewer 28 = .ok (.ireturn, 1) := by decide +kernel
theorem dX1_init_0 : decode cX1_init 0 = .ok (.aload_n 0, 1) := by decide +kernel
theorem dX1_init_1 : decode cX1_init 1 = .ok (.invokespecial 3, 3) := by decide +kernel
theorem dX1_init_4 : decode cX1_init 4 = .ok (.aload_n 0, 1) := by decide +kernel
theorem dX1_init_5 : decode cX1_init 5 = .ok (.bipush 8, 2) := by decide +kernel
theorem dX1_init_7 : decode cX1_init 7 = .ok (.newarray .int, 2) := by decide +kernel
theorem dX1_init_9 : decode cX1_init 9 = .ok (.putfield 9, 3) := by decide +kernel
theorem dX1_init_12 : decode cX1_init 12 = .ok (.aload_n 0, 1) := by decide +kernel
theorem dX1_init_13 : decode cX1_init 13 = .ok (.bipush 8, 2) := by decide +kernel
theorem dX1_init_15 : decode cX1_init 15 = .ok (.newarray .int, 2) := by decide +kernel
theorem dX1_init_17 : decode cX1_init 17 = .ok (.putfield 15, 3) := by decide +kernel
theorem dX1_init_20 : decode cX1_init 20 = .ok (.aload_n 0, 1) := by decide +kernel
theorem dX1_init_21 : decode cX1_init 21 = .ok (.bipush 8, 2) := by decide +kernel
theorem dX1_init_23 : decode cX1_init 23 = .ok (.newarray .boolean, 2) := by decide +kernel
theorem dX1_init_25 : decode cX1_init 25 = .ok (.putfield 18, 3) := by decide +kernel
theorem dX1_init_28 : decode cX1_init 28 = .ok (.aload_n 0, 1) := by decide +kernel
theorem dX1_init_29 : decode cX1_init 29 = .ok (.iconst 0, 1) := by decide +kernel
theorem dX1_init_30 : decode cX1_init 30 = .ok (.putfield 22, 3) := by decide +kernel
theorem dX1_init_33 : decode cX1_init 33 = .ok (.return_, 1) := by decide +kernel
theorem dX1_write_0 : decode cX1_write 0 = .ok (.aload_n 0, 1) := by decide +kernel
theorem dX1_write_1 : decode cX1_write 1 = .ok (.getfield 22, 3) := by decide +kernel
theorem dX1_write_4 : decode cX1_write 4 = .ok (.bipush 8, 2) := by decide +kernel
theorem dX1_write_6 : decode cX1_write 6 = .ok (.if_icmp .ge 43, 3) := by decide +kernel
theorem dX1_write_9 : decode cX1_write 9 = .ok (.aload_n 0, 1) := by decide +kernel
theorem dX1_write_10 : decode cX1_write 10 = .ok (.getfield 9, 3) := by decide +kernel
theorem dX1_write_13 : decode cX1_write 13 = .ok (.aload_n 0, 1) := by decide +kernel
theorem dX1_write_14 : decode cX1_write 14 = .ok (.getfield 22, 3) := by decide +kernel
theorem dX1_write_17 : decode cX1_write 17 = .ok (.iload_n 1, 1) := by decide +kernel
theorem dX1_write_18 : decode cX1_write 18 = .ok (.iastore, 1) := by decide +kernel
theorem dX1_write_19 : decode cX1_write 19 = .ok (.aload_n 0, 1) := by decide +kernel
theorem dX1_write_20 : decode cX1_write 20 = .ok (.getfield 15, 3) := by decide +kernel
theorem dX1_write_23 : decode cX1_write 23 = .ok (.aload_n 0, 1) := by decide +kernel
theorem dX1_write_24 : decode cX1_write 24 = .ok (.getfield 22, 3) := by decide +kernel
theorem dX1_write_27 : decode cX1_write 27 = .ok (.iload_n 2, 1) := by decide +kernel
theorem dX1_write_28 : decode cX1_write 28 = .ok (.iastore, 1) := by decide +kernel
theorem dX1_write_29 : decode cX1_write 29 = .ok (.aload_n 0, 1) := by decide +kernel
theorem dX1_write_30 : decode cX1_write 30 = .ok (.getfield 18, 3) := by decide +kernel
theorem dX1_write_33 : decode cX1_write 33 = .ok (.aload_n 0, 1) := by decide +kernel
theorem dX1_write_34 : decode cX1_write 34 = .ok (.getfield 22, 3) := by decide +kernel
theorem dX1_write_37 : decode cX1_write 37 = .ok (.iload_n 3, 1) := by decide +kernel
theorem dX1_write_38 : decode cX1_write 38 = .ok (.bastore, 1) := by decide +kernel
theorem dX1_write_39 : decode cX1_write 39 = .ok (.aload_n 0, 1) := by decide +kernel
theorem dX1_write_40 : decode cX1_write 40 = .ok (.dup, 1) := by decide +kernel
theorem dX1_write_41 : decode cX1_write 41 = .ok (.getfield 22, 3) := by decide +kernel
theorem dX1_write_44 : decode cX1_write 44 = .ok (.iconst 1, 1) := by decide +kernel
theorem dX1_write_45 : decode cX1_write 45 = .ok (.iadd, 1) := by decide +kernel
theorem dX1_write_46 : decode cX1_write 46 = .ok (.putfield 22, 3) := by decide +kernel
theorem dX1_write_49 : decode cX1_write 49 = .ok (.return_, 1) := by decide +kernel
theorem dX1_agrees_0 : decode cX1_agrees 0 = .ok (.iconst 0, 1) := by decide +kernel
theorem dX1_agrees_1 : decode cX1_agrees 1 = .ok (.istore_n 2, 1) := by decide +kernel
theorem dX1_agrees_2 : decode cX1_agrees 2 = .ok (.iload_n 2, 1) := by decide +kernel
theorem dX1_agrees_3 : decode cX1_agrees 3 = .ok (.aload_n 0, 1) := by decide +kernel
theorem dX1_agrees_4 : decode cX1_agrees 4 = .ok (.getfield 22, 3) := by decide +kernel
theorem dX1_agrees_7 : decode cX1_agrees 7 = .ok (.if_icmp .ge 44, 3) := by decide +kernel
theorem dX1_agrees_10 : decode cX1_agrees 10 = .ok (.aload_n 1, 1) := by decide +kernel
theorem dX1_agrees_11 : decode cX1_agrees 11 = .ok (.getfield 26, 3) := by decide +kernel
theorem dX1_agrees_14 : decode cX1_agrees 14 = .ok (.aload_n 0, 1) := by decide +kernel
theorem dX1_agrees_15 : decode cX1_agrees 15 = .ok (.getfield 15, 3) := by decide +kernel
theorem dX1_agrees_18 : decode cX1_agrees 18 = .ok (.iload_n 2, 1) := by decide +kernel
theorem dX1_agrees_19 : decode cX1_agrees 19 = .ok (.iaload, 1) := by decide +kernel
theorem dX1_agrees_20 : decode cX1_agrees 20 = .ok (.iaload, 1) := by decide +kernel
theorem dX1_agrees_21 : decode cX1_agrees 21 = .ok (.aload_n 1, 1) := by decide +kernel
theorem dX1_agrees_22 : decode cX1_agrees 22 = .ok (.aload_n 0, 1) := by decide +kernel
theorem dX1_agrees_23 : decode cX1_agrees 23 = .ok (.getfield 9, 3) := by decide +kernel
theorem dX1_agrees_26 : decode cX1_agrees 26 = .ok (.iload_n 2, 1) := by decide +kernel
theorem dX1_agrees_27 : decode cX1_agrees 27 = .ok (.iaload, 1) := by decide +kernel
theorem dX1_agrees_28 : decode cX1_agrees 28 = .ok (.invokevirtual 31, 3) := by decide +kernel
theorem dX1_agrees_31 : decode cX1_agrees 31 = .ok (.invokestatic 35, 3) := by decide +kernel
theorem dX1_agrees_34 : decode cX1_agrees 34 = .ok (.aload_n 0, 1) := by decide +kernel
theorem dX1_agrees_35 : decode cX1_agrees 35 = .ok (.getfield 18, 3) := by decide +kernel
theorem dX1_agrees_38 : decode cX1_agrees 38 = .ok (.iload_n 2, 1) := by decide +kernel
theorem dX1_agrees_39 : decode cX1_agrees 39 = .ok (.baload, 1) := by decide +kernel
theorem dX1_agrees_40 : decode cX1_agrees 40 = .ok (.if_icmp .eq 5, 3) := by decide +kernel
theorem dX1_agrees_43 : decode cX1_agrees 43 = .ok (.iconst 0, 1) := by decide +kernel
theorem dX1_agrees_44 : decode cX1_agrees 44 = .ok (.ireturn, 1) := by decide +kernel
theorem dX1_agrees_45 : decode cX1_agrees 45 = .ok (.iinc 2 1, 3) := by decide +kernel
theorem dX1_agrees_48 : decode cX1_agrees 48 = .ok (.goto (-46), 3) := by decide +kernel
theorem dX1_agrees_51 : decode cX1_agrees 51 = .ok (.iconst 1, 1) := by decide +kernel
theorem dX1_agrees_52 : decode cX1_agrees 52 = .ok (.ireturn, 1) := by decide +kernel
theorem dX2_init_0 : decode cX2_init 0 = .ok (.aload_n 0, 1) := by decide +kernel
theorem dX2_init_1 : decode cX2_init 1 = .ok (.invokespecial 3, 3) := by decide +kernel
theorem dX2_init_4 : decode cX2_init 4 = .ok (.aload_n 0, 1) := by decide +kernel
theorem dX2_init_5 : decode cX2_init 5 = .ok (.bipush 60, 2) := by decide +kernel
theorem dX2_init_7 : decode cX2_init 7 = .ok (.newarray .int, 2) := by decide +kernel
theorem dX2_init_9 : decode cX2_init 9 = .ok (.putfield 9, 3) := by decide +kernel
theorem dX2_init_12 : decode cX2_init 12 = .ok (.aload_n 0, 1) := by decide +kernel
theorem dX2_init_13 : decode cX2_init 13 = .ok (.iconst 0, 1) := by decide +kernel
theorem dX2_init_14 : decode cX2_init 14 = .ok (.putfield 15, 3) := by decide +kernel
theorem dX2_init_17 : decode cX2_init 17 = .ok (.aload_n 0, 1) := by decide +kernel
theorem dX2_init_18 : decode cX2_init 18 = .ok (.iconst 0, 1) := by decide +kernel
theorem dX2_init_19 : decode cX2_init 19 = .ok (.putfield 19, 3) := by decide +kernel
theorem dX2_init_22 : decode cX2_init 22 = .ok (.aload_n 0, 1) := by decide +kernel
theorem dX2_init_23 : decode cX2_init 23 = .ok (.iconst 0, 1) := by decide +kernel
theorem dX2_init_24 : decode cX2_init 24 = .ok (.putfield 23, 3) := by decide +kernel
theorem dX2_init_27 : decode cX2_init 27 = .ok (.return_, 1) := by decide +kernel
theorem dX2_begin_0 : decode cX2_begin 0 = .ok (.aload_n 0, 1) := by decide +kernel
theorem dX2_begin_1 : decode cX2_begin 1 = .ok (.getfield 9, 3) := by decide +kernel
theorem dX2_begin_4 : decode cX2_begin 4 = .ok (.iconst 0, 1) := by decide +kernel
theorem dX2_begin_5 : decode cX2_begin 5 = .ok (.invokestatic 26, 3) := by decide +kernel
theorem dX2_begin_8 : decode cX2_begin 8 = .ok (.aload_n 0, 1) := by decide +kernel
theorem dX2_begin_9 : decode cX2_begin 9 = .ok (.iconst 1, 1) := by decide +kernel
theorem dX2_begin_10 : decode cX2_begin 10 = .ok (.putfield 15, 3) := by decide +kernel
theorem dX2_begin_13 : decode cX2_begin 13 = .ok (.aload_n 0, 1) := by decide +kernel
theorem dX2_begin_14 : decode cX2_begin 14 = .ok (.iload_n 1, 1) := by decide +kernel
theorem dX2_begin_15 : decode cX2_begin 15 = .ok (.putfield 19, 3) := by decide +kernel
theorem dX2_begin_18 : decode cX2_begin 18 = .ok (.aload_n 0, 1) := by decide +kernel
theorem dX2_begin_19 : decode cX2_begin 19 = .ok (.iload_n 2, 1) := by decide +kernel
theorem dX2_begin_20 : decode cX2_begin 20 = .ok (.putfield 23, 3) := by decide +kernel
theorem dX2_begin_23 : decode cX2_begin 23 = .ok (.return_, 1) := by decide +kernel
theorem dX2_faultAs_0 : decode cX2_faultAs 0 = .ok (.aload_n 0, 1) := by decide +kernel
theorem dX2_faultAs_1 : decode cX2_faultAs 1 = .ok (.getfield 15, 3) := by decide +kernel
theorem dX2_faultAs_4 : decode cX2_faultAs 4 = .ok (.ifCond .ne 5, 3) := by decide +kernel
theorem dX2_faultAs_7 : decode cX2_faultAs 7 = .ok (.iconst 1, 1) := by decide +kernel
theorem dX2_faultAs_8 : decode cX2_faultAs 8 = .ok (.ireturn, 1) := by decide +kernel
theorem dX2_faultAs_9 : decode cX2_faultAs 9 = .ok (.aload_n 0, 1) := by decide +kernel
theorem dX2_faultAs_10 : decode cX2_faultAs 10 = .ok (.getfield 19, 3) := by decide +kernel
theorem dX2_faultAs_13 : decode cX2_faultAs 13 = .ok (.iload_n 1, 1) := by decide +kernel
theorem dX2_faultAs_14 : decode cX2_faultAs 14 = .ok (.if_icmp .ne 7, 3) := by decide +kernel
theorem dX2_faultAs_17 : decode cX2_faultAs 17 = .ok (.iconst 0, 1) := by decide +kernel
theorem dX2_faultAs_18 : decode cX2_faultAs 18 = .ok (.goto 4, 3) := by decide +kernel
theorem dX2_faultAs_21 : decode cX2_faultAs 21 = .ok (.iconst 2, 1) := by decide +kernel
theorem dX2_faultAs_22 : decode cX2_faultAs 22 = .ok (.ireturn, 1) := by decide +kernel
theorem dX2_spans_0 : decode cX2_spans 0 = .ok (.iload_n 1, 1) := by decide +kernel
theorem dX2_spans_1 : decode cX2_spans 1 = .ok (.ifCond .lt 29, 3) := by decide +kernel
theorem dX2_spans_4 : decode cX2_spans 4 = .ok (.iload_n 1, 1) := by decide +kernel
theorem dX2_spans_5 : decode cX2_spans 5 = .ok (.aload_n 0, 1) := by decide +kernel
theorem dX2_spans_6 : decode cX2_spans 6 = .ok (.getfield 23, 3) := by decide +kernel
theorem dX2_spans_9 : decode cX2_spans 9 = .ok (.if_icmp .gt 21, 3) := by decide +kernel
theorem dX2_spans_12 : decode cX2_spans 12 = .ok (.iload_n 2, 1) := by decide +kernel
theorem dX2_spans_13 : decode cX2_spans 13 = .ok (.ifCond .lt 17, 3) := by decide +kernel
theorem dX2_spans_16 : decode cX2_spans 16 = .ok (.iload_n 2, 1) := by decide +kernel
theorem dX2_spans_17 : decode cX2_spans 17 = .ok (.aload_n 0, 1) := by decide +kernel
theorem dX2_spans_18 : decode cX2_spans 18 = .ok (.getfield 23, 3) := by decide +kernel
theorem dX2_spans_21 : decode cX2_spans 21 = .ok (.iload_n 1, 1) := by decide +kernel
theorem dX2_spans_22 : decode cX2_spans 22 = .ok (.isub, 1) := by decide +kernel
theorem dX2_spans_23 : decode cX2_spans 23 = .ok (.if_icmp .gt 7, 3) := by decide +kernel
theorem dX2_spans_26 : decode cX2_spans 26 = .ok (.iconst 1, 1) := by decide +kernel
theorem dX2_spans_27 : decode cX2_spans 27 = .ok (.goto 4, 3) := by decide +kernel
theorem dX2_spans_30 : decode cX2_spans 30 = .ok (.iconst 0, 1) := by decide +kernel
theorem dX2_spans_31 : decode cX2_spans 31 = .ok (.ireturn, 1) := by decide +kernel
theorem dX3_init_0 : decode cX3_init 0 = .ok (.aload_n 0, 1) := by decide +kernel
theorem dX3_init_1 : decode cX3_init 1 = .ok (.invokespecial 3, 3) := by decide +kernel
theorem dX3_init_4 : decode cX3_init 4 = .ok (.aload_n 0, 1) := by decide +kernel
theorem dX3_init_5 : decode cX3_init 5 = .ok (.iconst 4, 1) := by decide +kernel
theorem dX3_init_6 : decode cX3_init 6 = .ok (.anewarray 11, 3) := by decide +kernel
theorem dX3_init_9 : decode cX3_init 9 = .ok (.putfield 13, 3) := by decide +kernel
theorem dX3_init_12 : decode cX3_init 12 = .ok (.aload_n 0, 1) := by decide +kernel
theorem dX3_init_13 : decode cX3_init 13 = .ok (.new 17, 3) := by decide +kernel
theorem dX3_init_16 : decode cX3_init 16 = .ok (.dup, 1) := by decide +kernel
theorem dX3_init_17 : decode cX3_init 17 = .ok (.invokespecial 19, 3) := by decide +kernel
theorem dX3_init_20 : decode cX3_init 20 = .ok (.putfield 20, 3) := by decide +kernel
theorem dX3_init_23 : decode cX3_init 23 = .ok (.aload_n 0, 1) := by decide +kernel
theorem dX3_init_24 : decode cX3_init 24 = .ok (.new 17, 3) := by decide +kernel
theorem dX3_init_27 : decode cX3_init 27 = .ok (.dup, 1) := by decide +kernel
theorem dX3_init_28 : decode cX3_init 28 = .ok (.invokespecial 19, 3) := by decide +kernel
theorem dX3_init_31 : decode cX3_init 31 = .ok (.putfield 24, 3) := by decide +kernel
theorem dX3_init_34 : decode cX3_init 34 = .ok (.aload_n 0, 1) := by decide +kernel
theorem dX3_init_35 : decode cX3_init 35 = .ok (.new 27, 3) := by decide +kernel
theorem dX3_init_38 : decode cX3_init 38 = .ok (.dup, 1) := by decide +kernel
theorem dX3_init_39 : decode cX3_init 39 = .ok (.invokespecial 29, 3) := by decide +kernel
theorem dX3_init_42 : decode cX3_init 42 = .ok (.putfield 30, 3) := by decide +kernel
theorem dX3_init_45 : decode cX3_init 45 = .ok (.aload_n 0, 1) := by decide +kernel
theorem dX3_init_46 : decode cX3_init 46 = .ok (.iconst 0, 1) := by decide +kernel
theorem dX3_init_47 : decode cX3_init 47 = .ok (.putfield 34, 3) := by decide +kernel
theorem dX3_init_50 : decode cX3_init 50 = .ok (.aload_n 0, 1) := by decide +kernel
theorem dX3_init_51 : decode cX3_init 51 = .ok (.iconst 0, 1) := by decide +kernel
theorem dX3_init_52 : decode cX3_init 52 = .ok (.putfield 38, 3) := by decide +kernel
theorem dX3_init_55 : decode cX3_init 55 = .ok (.aload_n 0, 1) := by decide +kernel
theorem dX3_init_56 : decode cX3_init 56 = .ok (.iconst 0, 1) := by decide +kernel
theorem dX3_init_57 : decode cX3_init 57 = .ok (.putfield 41, 3) := by decide +kernel
theorem dX3_init_60 : decode cX3_init 60 = .ok (.aload_n 0, 1) := by decide +kernel
theorem dX3_init_61 : decode cX3_init 61 = .ok (.iconst 0, 1) := by decide +kernel
theorem dX3_init_62 : decode cX3_init 62 = .ok (.putfield 44, 3) := by decide +kernel
theorem dX3_init_65 : decode cX3_init 65 = .ok (.iconst 0, 1) := by decide +kernel
theorem dX3_init_66 : decode cX3_init 66 = .ok (.istore_n 1, 1) := by decide +kernel
theorem dX3_init_67 : decode cX3_init 67 = .ok (.iload_n 1, 1) := by decide +kernel
theorem dX3_init_68 : decode cX3_init 68 = .ok (.iconst 4, 1) := by decide +kernel
theorem dX3_init_69 : decode cX3_init 69 = .ok (.if_icmp .ge 22, 3) := by decide +kernel
theorem dX3_init_72 : decode cX3_init 72 = .ok (.aload_n 0, 1) := by decide +kernel
theorem dX3_init_73 : decode cX3_init 73 = .ok (.getfield 13, 3) := by decide +kernel
theorem dX3_init_76 : decode cX3_init 76 = .ok (.iload_n 1, 1) := by decide +kernel
theorem dX3_init_77 : decode cX3_init 77 = .ok (.new 11, 3) := by decide +kernel
theorem dX3_init_80 : decode cX3_init 80 = .ok (.dup, 1) := by decide +kernel
theorem dX3_init_81 : decode cX3_init 81 = .ok (.invokespecial 47, 3) := by decide +kernel
theorem dX3_init_84 : decode cX3_init 84 = .ok (.aastore, 1) := by decide +kernel
theorem dX3_init_85 : decode cX3_init 85 = .ok (.iinc 1 1, 3) := by decide +kernel
theorem dX3_init_88 : decode cX3_init 88 = .ok (.goto (-21), 3) := by decide +kernel
theorem dX3_init_91 : decode cX3_init 91 = .ok (.return_, 1) := by decide +kernel
theorem dX3_county_0 : decode cX3_county 0 = .ok (.aload_n 0, 1) := by decide +kernel
theorem dX3_county_1 : decode cX3_county 1 = .ok (.iconst 0, 1) := by decide +kernel
theorem dX3_county_2 : decode cX3_county 2 = .ok (.putfield 44, 3) := by decide +kernel
theorem dX3_county_5 : decode cX3_county 5 = .ok (.iload_n 1, 1) := by decide +kernel
theorem dX3_county_6 : decode cX3_county 6 = .ok (.invokestatic 48, 3) := by decide +kernel
theorem dX3_county_9 : decode cX3_county 9 = .ok (.ifCond .ne 5, 3) := by decide +kernel
theorem dX3_county_12 : decode cX3_county 12 = .ok (.iconst (-1), 1) := by decide +kernel
theorem dX3_county_13 : decode cX3_county 13 = .ok (.ireturn, 1) := by decide +kernel
theorem dX3_county_14 : decode cX3_county 14 = .ok (.iload_n 2, 1) := by decide +kernel
theorem dX3_county_15 : decode cX3_county 15 = .ok (.invokestatic 52, 3) := by decide +kernel
theorem dX3_county_18 : decode cX3_county 18 = .ok (.ifCond .ne 6, 3) := by decide +kernel
theorem dX3_county_21 : decode cX3_county 21 = .ok (.bipush (-2), 2) := by decide +kernel
theorem dX3_county_23 : decode cX3_county 23 = .ok (.ireturn, 1) := by decide +kernel
theorem dX3_county_24 : decode cX3_county 24 = .ok (.aload_n 0, 1) := by decide +kernel
theorem dX3_county_25 : decode cX3_county 25 = .ok (.getfield 13, 3) := by decide +kernel
theorem dX3_county_28 : decode cX3_county 28 = .ok (.iload_n 1, 1) := by decide +kernel
theorem dX3_county_29 : decode cX3_county 29 = .ok (.aaload, 1) := by decide +kernel
theorem dX3_county_30 : decode cX3_county 30 = .ok (.iload_n 2, 1) := by decide +kernel
theorem dX3_county_31 : decode cX3_county 31 = .ok (.invokevirtual 55, 3) := by decide +kernel
theorem dX3_county_34 : decode cX3_county 34 = .ok (.istore 5, 2) := by decide +kernel
theorem dX3_county_36 : decode cX3_county 36 = .ok (.iload 5, 2) := by decide +kernel
theorem dX3_county_38 : decode cX3_county 38 = .ok (.ifCond .ne 11, 3) := by decide +kernel
theorem dX3_county_41 : decode cX3_county 41 = .ok (.iload 4, 2) := by decide +kernel
theorem dX3_county_43 : decode cX3_county 43 = .ok (.ifCond .ge 6, 3) := by decide +kernel
theorem dX3_county_46 : decode cX3_county 46 = .ok (.iconst 4, 1) := by decide +kernel
theorem dX3_county_47 : decode cX3_county 47 = .ok (.istore 5, 2) := by decide +kernel
theorem dX3_county_49 : decode cX3_county 49 = .ok (.iload 5, 2) := by decide +kernel
theorem dX3_county_51 : decode cX3_county 51 = .ok (.ifCond .ne 21, 3) := by decide +kernel
theorem dX3_county_54 : decode cX3_county 54 = .ok (.aload_n 0, 1) := by decide +kernel
theorem dX3_county_55 : decode cX3_county 55 = .ok (.getfield 13, 3) := by decide +kernel
theorem dX3_county_58 : decode cX3_county 58 = .ok (.iload_n 1, 1) := by decide +kernel
theorem dX3_county_59 : decode cX3_county 59 = .ok (.aaload, 1) := by decide +kernel
theorem dX3_county_60 : decode cX3_county 60 = .ok (.iload_n 3, 1) := by decide +kernel
theorem dX3_county_61 : decode cX3_county 61 = .ok (.iload 4, 2) := by decide +kernel
theorem dX3_county_63 : decode cX3_county 63 = .ok (.invokevirtual 59, 3) := by decide +kernel
theorem dX3_county_66 : decode cX3_county 66 = .ok (.ifCond .ne 6, 3) := by decide +kernel
theorem dX3_county_69 : decode cX3_county 69 = .ok (.iconst 3, 1) := by decide +kernel
theorem dX3_county_70 : decode cX3_county 70 = .ok (.istore 5, 2) := by decide +kernel
theorem dX3_county_72 : decode cX3_county 72 = .ok (.iload 5, 2) := by decide +kernel
theorem dX3_county_74 : decode cX3_county 74 = .ok (.ifCond .eq 10, 3) := by decide +kernel
theorem dX3_county_77 : decode cX3_county 77 = .ok (.aload_n 0, 1) := by decide +kernel
theorem dX3_county_78 : decode cX3_county 78 = .ok (.iload 5, 2) := by decide +kernel
theorem dX3_county_80 : decode cX3_county 80 = .ok (.invokevirtual 63, 3) := by decide +kernel
theorem dX3_county_83 : decode cX3_county 83 = .ok (.ireturn, 1) := by decide +kernel
theorem dX3_county_84 : decode cX3_county 84 = .ok (.aload_n 0, 1) := by decide +kernel
theorem dX3_county_85 : decode cX3_county 85 = .ok (.aload_n 0, 1) := by decide +kernel
theorem dX3_county_86 : decode cX3_county 86 = .ok (.getfield 13, 3) := by decide +kernel
theorem dX3_county_89 : decode cX3_county 89 = .ok (.iload_n 1, 1) := by decide +kernel
theorem dX3_county_90 : decode cX3_county 90 = .ok (.aaload, 1) := by decide +kernel
theorem dX3_county_91 : decode cX3_county 91 = .ok (.iload_n 3, 1) := by decide +kernel
theorem dX3_county_92 : decode cX3_county 92 = .ok (.iload 4, 2) := by decide +kernel
theorem dX3_county_94 : decode cX3_county 94 = .ok (.invokevirtual 66, 3) := by decide +kernel
theorem dX3_county_97 : decode cX3_county 97 = .ok (.istore 6, 2) := by decide +kernel
theorem dX3_county_99 : decode cX3_county 99 = .ok (.iload 6, 2) := by decide +kernel
theorem dX3_county_101 : decode cX3_county 101 = .ok (.bipush (-9), 2) := by decide +kernel
theorem dX3_county_103 : decode cX3_county 103 = .ok (.if_icmp .eq 9, 3) := by decide +kernel
theorem dX3_county_106 : decode cX3_county 106 = .ok (.bipush (-100), 2) := by decide +kernel
theorem dX3_county_108 : decode cX3_county 108 = .ok (.iload 6, 2) := by decide +kernel
theorem dX3_county_110 : decode cX3_county 110 = .ok (.isub, 1) := by decide +kernel
theorem dX3_county_111 : decode cX3_county 111 = .ok (.ireturn, 1) := by decide +kernel
theorem dX3_county_112 : decode cX3_county 112 = .ok (.aload_n 0, 1) := by decide +kernel
theorem dX3_county_113 : decode cX3_county 113 = .ok (.getfield 20, 3) := by decide +kernel
theorem dX3_county_116 : decode cX3_county 116 = .ok (.aload_n 0, 1) := by decide +kernel
theorem dX3_county_117 : decode cX3_county 117 = .ok (.getfield 24, 3) := by decide +kernel
theorem dX3_county_120 : decode cX3_county 120 = .ok (.invokevirtual 70, 3) := by decide +kernel
theorem dX3_county_123 : decode cX3_county 123 = .ok (.aload_n 0, 1) := by decide +kernel
theorem dX3_county_124 : decode cX3_county 124 = .ok (.getfield 30, 3) := by decide +kernel
theorem dX3_county_127 : decode cX3_county 127 = .ok (.iconst 0, 1) := by decide +kernel
theorem dX3_county_128 : decode cX3_county 128 = .ok (.putfield 74, 3) := by decide +kernel
theorem dX3_county_131 : decode cX3_county 131 = .ok (.aload_n 0, 1) := by decide +kernel
theorem dX3_county_132 : decode cX3_county 132 = .ok (.iconst 0, 1) := by decide +kernel
theorem dX3_county_133 : decode cX3_county 133 = .ok (.putfield 34, 3) := by decide +kernel
theorem dX3_county_136 : decode cX3_county 136 = .ok (.aload_n 0, 1) := by decide +kernel
theorem dX3_county_137 : decode cX3_county 137 = .ok (.iconst 0, 1) := by decide +kernel
theorem dX3_county_138 : decode cX3_county 138 = .ok (.putfield 38, 3) := by decide +kernel
theorem dX3_county_141 : decode cX3_county 141 = .ok (.aload_n 0, 1) := by decide +kernel
theorem dX3_county_142 : decode cX3_county 142 = .ok (.getfield 20, 3) := by decide +kernel
theorem dX3_county_145 : decode cX3_county 145 = .ok (.getfield 77, 3) := by decide +kernel
theorem dX3_county_148 : decode cX3_county 148 = .ok (.ireturn, 1) := by decide +kernel
theorem dX3_ofGoer_0 : decode cX3_ofGoer 0 = .ok (.aload_n 0, 1) := by decide +kernel
theorem dX3_ofGoer_1 : decode cX3_ofGoer 1 = .ok (.iload_n 1, 1) := by decide +kernel
theorem dX3_ofGoer_2 : decode cX3_ofGoer 2 = .ok (.invokevirtual 80, 3) := by decide +kernel
theorem dX3_ofGoer_5 : decode cX3_ofGoer 5 = .ok (.ifCond .ne 5, 3) := by decide +kernel
theorem dX3_ofGoer_8 : decode cX3_ofGoer 8 = .ok (.iconst (-1), 1) := by decide +kernel
theorem dX3_ofGoer_9 : decode cX3_ofGoer 9 = .ok (.ireturn, 1) := by decide +kernel
theorem dX3_ofGoer_10 : decode cX3_ofGoer 10 = .ok (.iload_n 2, 1) := by decide +kernel
theorem dX3_ofGoer_11 : decode cX3_ofGoer 11 = .ok (.tableswitch 68 0 3 #[29, 39, 49, 58], 29) := by decide +kernel
theorem dX3_ofGoer_40 : decode cX3_ofGoer 40 = .ok (.aload_n 0, 1) := by decide +kernel
theorem dX3_ofGoer_41 : decode cX3_ofGoer 41 = .ok (.getfield 20, 3) := by decide +kernel
theorem dX3_ofGoer_44 : decode cX3_ofGoer 44 = .ok (.getfield 83, 3) := by decide +kernel
theorem dX3_ofGoer_47 : decode cX3_ofGoer 47 = .ok (.iload_n 1, 1) := by decide +kernel
theorem dX3_ofGoer_48 : decode cX3_ofGoer 48 = .ok (.iaload, 1) := by decide +kernel
theorem dX3_ofGoer_49 : decode cX3_ofGoer 49 = .ok (.ireturn, 1) := by decide +kernel
theorem dX3_ofGoer_50 : decode cX3_ofGoer 50 = .ok (.aload_n 0, 1) := by decide +kernel
theorem dX3_ofGoer_51 : decode cX3_ofGoer 51 = .ok (.getfield 20, 3) := by decide +kernel
theorem dX3_ofGoer_54 : decode cX3_ofGoer 54 = .ok (.getfield 87, 3) := by decide +kernel
theorem dX3_ofGoer_57 : decode cX3_ofGoer 57 = .ok (.iload_n 1, 1) := by decide +kernel
theorem dX3_ofGoer_58 : decode cX3_ofGoer 58 = .ok (.iaload, 1) := by decide +kernel
theorem dX3_ofGoer_59 : decode cX3_ofGoer 59 = .ok (.ireturn, 1) := by decide +kernel
theorem dX3_ofGoer_60 : decode cX3_ofGoer 60 = .ok (.aload_n 0, 1) := by decide +kernel
theorem dX3_ofGoer_61 : decode cX3_ofGoer 61 = .ok (.getfield 20, 3) := by decide +kernel
theorem dX3_ofGoer_64 : decode cX3_ofGoer 64 = .ok (.iload_n 1, 1) := by decide +kernel
theorem dX3_ofGoer_65 : decode cX3_ofGoer 65 = .ok (.invokevirtual 90, 3) := by decide +kernel
theorem dX3_ofGoer_68 : decode cX3_ofGoer 68 = .ok (.ireturn, 1) := by decide +kernel
theorem dX3_ofGoer_69 : decode cX3_ofGoer 69 = .ok (.aload_n 0, 1) := by decide +kernel
theorem dX3_ofGoer_70 : decode cX3_ofGoer 70 = .ok (.getfield 20, 3) := by decide +kernel
theorem dX3_ofGoer_73 : decode cX3_ofGoer 73 = .ok (.getfield 93, 3) := by decide +kernel
theorem dX3_ofGoer_76 : decode cX3_ofGoer 76 = .ok (.iload_n 1, 1) := by decide +kernel
theorem dX3_ofGoer_77 : decode cX3_ofGoer 77 = .ok (.iaload, 1) := by decide +kernel
theorem dX3_ofGoer_78 : decode cX3_ofGoer 78 = .ok (.ireturn, 1) := by decide +kernel
theorem dX3_ofGoer_79 : decode cX3_ofGoer 79 = .ok (.bipush (-2), 2) := by decide +kernel
theorem dX3_ofGoer_81 : decode cX3_ofGoer 81 = .ok (.ireturn, 1) := by decide +kernel
theorem dX3_hole_0 : decode cX3_hole 0 = .ok (.aload_n 0, 1) := by decide +kernel
theorem dX3_hole_1 : decode cX3_hole 1 = .ok (.iload_n 1, 1) := by decide +kernel
theorem dX3_hole_2 : decode cX3_hole 2 = .ok (.iload_n 2, 1) := by decide +kernel
theorem dX3_hole_3 : decode cX3_hole 3 = .ok (.invokevirtual 96, 3) := by decide +kernel
theorem dX3_hole_6 : decode cX3_hole 6 = .ok (.ifCond .ne 5, 3) := by decide +kernel
theorem dX3_hole_9 : decode cX3_hole 9 = .ok (.iconst (-1), 1) := by decide +kernel
theorem dX3_hole_10 : decode cX3_hole 10 = .ok (.ireturn, 1) := by decide +kernel
theorem dX3_hole_11 : decode cX3_hole 11 = .ok (.aload_n 0, 1) := by decide +kernel
theorem dX3_hole_12 : decode cX3_hole 12 = .ok (.getfield 20, 3) := by decide +kernel
theorem dX3_hole_15 : decode cX3_hole 15 = .ok (.iload_n 1, 1) := by decide +kernel
theorem dX3_hole_16 : decode cX3_hole 16 = .ok (.iload_n 2, 1) := by decide +kernel
theorem dX3_hole_17 : decode cX3_hole 17 = .ok (.invokevirtual 99, 3) := by decide +kernel
theorem dX3_hole_20 : decode cX3_hole 20 = .ok (.istore 4, 2) := by decide +kernel
theorem dX3_hole_22 : decode cX3_hole 22 = .ok (.iload_n 3, 1) := by decide +kernel
theorem dX3_hole_23 : decode cX3_hole 23 = .ok (.tableswitch 60 0 2 #[25, 36, 57], 25) := by decide +kernel
theorem dX3_hole_48 : decode cX3_hole 48 = .ok (.aload_n 0, 1) := by decide +kernel
theorem dX3_hole_49 : decode cX3_hole 49 = .ok (.getfield 20, 3) := by decide +kernel
theorem dX3_hole_52 : decode cX3_hole 52 = .ok (.getfield 103, 3) := by decide +kernel
theorem dX3_hole_55 : decode cX3_hole 55 = .ok (.iload 4, 2) := by decide +kernel
theorem dX3_hole_57 : decode cX3_hole 57 = .ok (.iaload, 1) := by decide +kernel
theorem dX3_hole_58 : decode cX3_hole 58 = .ok (.ireturn, 1) := by decide +kernel
theorem dX3_hole_59 : decode cX3_hole 59 = .ok (.aload_n 0, 1) := by decide +kernel
theorem dX3_hole_60 : decode cX3_hole 60 = .ok (.getfield 20, 3) := by decide +kernel
theorem dX3_hole_63 : decode cX3_hole 63 = .ok (.getfield 106, 3) := by decide +kernel
theorem dX3_hole_66 : decode cX3_hole 66 = .ok (.iload 4, 2) := by decide +kernel
theorem dX3_hole_68 : decode cX3_hole 68 = .ok (.invokestatic 109, 3) := by decide +kernel
theorem dX3_hole_71 : decode cX3_hole 71 = .ok (.ifCond .eq 7, 3) := by decide +kernel
theorem dX3_hole_74 : decode cX3_hole 74 = .ok (.iconst 1, 1) := by decide +kernel
theorem dX3_hole_75 : decode cX3_hole 75 = .ok (.goto 4, 3) := by decide +kernel
theorem dX3_hole_78 : decode cX3_hole 78 = .ok (.iconst 0, 1) := by decide +kernel
theorem dX3_hole_79 : decode cX3_hole 79 = .ok (.ireturn, 1) := by decide +kernel
theorem dX3_hole_80 : decode cX3_hole 80 = .ok (.iload 4, 2) := by decide +kernel
theorem dX3_hole_82 : decode cX3_hole 82 = .ok (.ireturn, 1) := by decide +kernel
theorem dX3_hole_83 : decode cX3_hole 83 = .ok (.bipush (-2), 2) := by decide +kernel
theorem dX3_hole_85 : decode cX3_hole 85 = .ok (.ireturn, 1) := by decide +kernel
theorem dX3_hoop_0 : decode cX3_hoop 0 = .ok (.aload_n 0, 1) := by decide +kernel
theorem dX3_hoop_1 : decode cX3_hoop 1 = .ok (.iload_n 1, 1) := by decide +kernel
theorem dX3_hoop_2 : decode cX3_hoop 2 = .ok (.iload_n 2, 1) := by decide +kernel
theorem dX3_hoop_3 : decode cX3_hoop 3 = .ok (.invokevirtual 96, 3) := by decide +kernel
theorem dX3_hoop_6 : decode cX3_hoop 6 = .ok (.ifCond .ne 5, 3) := by decide +kernel
theorem dX3_hoop_9 : decode cX3_hoop 9 = .ok (.iconst (-1), 1) := by decide +kernel
theorem dX3_hoop_10 : decode cX3_hoop 10 = .ok (.ireturn, 1) := by decide +kernel
theorem dX3_hoop_11 : decode cX3_hoop 11 = .ok (.iload_n 3, 1) := by decide +kernel
theorem dX3_hoop_12 : decode cX3_hoop 12 = .ok (.ifCond .lt 9, 3) := by decide +kernel
theorem dX3_hoop_15 : decode cX3_hoop 15 = .ok (.iload_n 3, 1) := by decide +kernel
theorem dX3_hoop_16 : decode cX3_hoop 16 = .ok (.bipush 9, 2) := by decide +kernel
theorem dX3_hoop_18 : decode cX3_hoop 18 = .ok (.if_icmp .le 6, 3) := by decide +kernel
theorem dX3_hoop_21 : decode cX3_hoop 21 = .ok (.bipush (-2), 2) := by decide +kernel
theorem dX3_hoop_23 : decode cX3_hoop 23 = .ok (.ireturn, 1) := by decide +kernel
theorem dX3_hoop_24 : decode cX3_hoop 24 = .ok (.aload_n 0, 1) := by decide +kernel
theorem dX3_hoop_25 : decode cX3_hoop 25 = .ok (.getfield 20, 3) := by decide +kernel
theorem dX3_hoop_28 : decode cX3_hoop 28 = .ok (.iload_n 1, 1) := by decide +kernel
theorem dX3_hoop_29 : decode cX3_hoop 29 = .ok (.iload_n 2, 1) := by decide +kernel
theorem dX3_hoop_30 : decode cX3_hoop 30 = .ok (.invokevirtual 99, 3) := by decide +kernel
theorem dX3_hoop_33 : decode cX3_hoop 33 = .ok (.istore 4, 2) := by decide +kernel
theorem dX3_hoop_35 : decode cX3_hoop 35 = .ok (.aload_n 0, 1) := by decide +kernel
theorem dX3_hoop_36 : decode cX3_hoop 36 = .ok (.getfield 20, 3) := by decide +kernel
theorem dX3_hoop_39 : decode cX3_hoop 39 = .ok (.getfield 103, 3) := by decide +kernel
theorem dX3_hoop_42 : decode cX3_hoop 42 = .ok (.iload 4, 2) := by decide +kernel
theorem dX3_hoop_44 : decode cX3_hoop 44 = .ok (.iaload, 1) := by decide +kernel
theorem dX3_hoop_45 : decode cX3_hoop 45 = .ok (.istore 5, 2) := by decide +kernel
theorem dX3_hoop_47 : decode cX3_hoop 47 = .ok (.aload_n 0, 1) := by decide +kernel
theorem dX3_hoop_48 : decode cX3_hoop 48 = .ok (.getfield 20, 3) := by decide +kernel
theorem dX3_hoop_51 : decode cX3_hoop 51 = .ok (.getfield 103, 3) := by decide +kernel
theorem dX3_hoop_54 : decode cX3_hoop 54 = .ok (.iload 4, 2) := by decide +kernel
theorem dX3_hoop_56 : decode cX3_hoop 56 = .ok (.iload_n 3, 1) := by decide +kernel
theorem dX3_hoop_57 : decode cX3_hoop 57 = .ok (.iastore, 1) := by decide +kernel
theorem dX3_hoop_58 : decode cX3_hoop 58 = .ok (.aload_n 0, 1) := by decide +kernel
theorem dX3_hoop_59 : decode cX3_hoop 59 = .ok (.getfield 20, 3) := by decide +kernel
theorem dX3_hoop_62 : decode cX3_hoop 62 = .ok (.dup, 1) := by decide +kernel
theorem dX3_hoop_63 : decode cX3_hoop 63 = .ok (.getfield 106, 3) := by decide +kernel
theorem dX3_hoop_66 : decode cX3_hoop 66 = .ok (.iconst 1, 1) := by decide +kernel
theorem dX3_hoop_67 : decode cX3_hoop 67 = .ok (.iload 4, 2) := by decide +kernel
theorem dX3_hoop_69 : decode cX3_hoop 69 = .ok (.ishl, 1) := by decide +kernel
theorem dX3_hoop_70 : decode cX3_hoop 70 = .ok (.iconst (-1), 1) := by decide +kernel
theorem dX3_hoop_71 : decode cX3_hoop 71 = .ok (.ixor, 1) := by decide +kernel
theorem dX3_hoop_72 : decode cX3_hoop 72 = .ok (.iand, 1) := by decide +kernel
theorem dX3_hoop_73 : decode cX3_hoop 73 = .ok (.putfield 106, 3) := by decide +kernel
theorem dX3_hoop_76 : decode cX3_hoop 76 = .ok (.iload 5, 2) := by decide +kernel
theorem dX3_hoop_78 : decode cX3_hoop 78 = .ok (.ireturn, 1) := by decide +kernel
theorem dX3_fatten_0 : decode cX3_fatten 0 = .ok (.aload_n 0, 1) := by decide +kernel
theorem dX3_fatten_1 : decode cX3_fatten 1 = .ok (.iload_n 1, 1) := by decide +kernel
theorem dX3_fatten_2 : decode cX3_fatten 2 = .ok (.invokevirtual 80, 3) := by decide +kernel
theorem dX3_fatten_5 : decode cX3_fatten 5 = .ok (.ifCond .ne 5, 3) := by decide +kernel
theorem dX3_fatten_8 : decode cX3_fatten 8 = .ok (.iconst (-1), 1) := by decide +kernel
theorem dX3_fatten_9 : decode cX3_fatten 9 = .ok (.ireturn, 1) := by decide +kernel
theorem dX3_fatten_10 : decode cX3_fatten 10 = .ok (.iload_n 2, 1) := by decide +kernel
theorem dX3_fatten_11 : decode cX3_fatten 11 = .ok (.iconst 1, 1) := by decide +kernel
theorem dX3_fatten_12 : decode cX3_fatten 12 = .ok (.if_icmp .lt 9, 3) := by decide +kernel
theorem dX3_fatten_15 : decode cX3_fatten 15 = .ok (.iload_n 2, 1) := by decide +kernel
theorem dX3_fatten_16 : decode cX3_fatten 16 = .ok (.bipush 9, 2) := by decide +kernel
theorem dX3_fatten_18 : decode cX3_fatten 18 = .ok (.if_icmp .le 6, 3) := by decide +kernel
theorem dX3_fatten_21 : decode cX3_fatten 21 = .ok (.bipush (-2), 2) := by decide +kernel
theorem dX3_fatten_23 : decode cX3_fatten 23 = .ok (.ireturn, 1) := by decide +kernel
theorem dX3_fatten_24 : decode cX3_fatten 24 = .ok (.aload_n 0, 1) := by decide +kernel
theorem dX3_fatten_25 : decode cX3_fatten 25 = .ok (.getfield 20, 3) := by decide +kernel
theorem dX3_fatten_28 : decode cX3_fatten 28 = .ok (.getfield 87, 3) := by decide +kernel
theorem dX3_fatten_31 : decode cX3_fatten 31 = .ok (.iload_n 1, 1) := by decide +kernel
theorem dX3_fatten_32 : decode cX3_fatten 32 = .ok (.iaload, 1) := by decide +kernel
theorem dX3_fatten_33 : decode cX3_fatten 33 = .ok (.istore_n 3, 1) := by decide +kernel
theorem dX3_fatten_34 : decode cX3_fatten 34 = .ok (.aload_n 0, 1) := by decide +kernel
theorem dX3_fatten_35 : decode cX3_fatten 35 = .ok (.getfield 20, 3) := by decide +kernel
theorem dX3_fatten_38 : decode cX3_fatten 38 = .ok (.getfield 87, 3) := by decide +kernel
theorem dX3_fatten_41 : decode cX3_fatten 41 = .ok (.iload_n 1, 1) := by decide +kernel
theorem dX3_fatten_42 : decode cX3_fatten 42 = .ok (.iload_n 2, 1) := by decide +kernel
theorem dX3_fatten_43 : decode cX3_fatten 43 = .ok (.iastore, 1) := by decide +kernel
theorem dX3_fatten_44 : decode cX3_fatten 44 = .ok (.iload_n 3, 1) := by decide +kernel
theorem dX3_fatten_45 : decode cX3_fatten 45 = .ok (.ireturn, 1) := by decide +kernel
theorem dX3_go_0 : decode cX3_go 0 = .ok (.aload_n 0, 1) := by decide +kernel
theorem dX3_go_1 : decode cX3_go 1 = .ok (.iload_n 1, 1) := by decide +kernel
theorem dX3_go_2 : decode cX3_go 2 = .ok (.invokevirtual 80, 3) := by decide +kernel
theorem dX3_go_5 : decode cX3_go 5 = .ok (.ifCond .eq 11, 3) := by decide +kernel
theorem dX3_go_8 : decode cX3_go 8 = .ok (.aload_n 0, 1) := by decide +kernel
theorem dX3_go_9 : decode cX3_go 9 = .ok (.iload_n 2, 1) := by decide +kernel
theorem dX3_go_10 : decode cX3_go 10 = .ok (.invokevirtual 112, 3) := by decide +kernel
theorem dX3_go_13 : decode cX3_go 13 = .ok (.ifCond .ne 5, 3) := by decide +kernel
theorem dX3_go_16 : decode cX3_go 16 = .ok (.iconst (-1), 1) := by decide +kernel
theorem dX3_go_17 : decode cX3_go 17 = .ok (.ireturn, 1) := by decide +kernel
theorem dX3_go_18 : decode cX3_go 18 = .ok (.aload_n 0, 1) := by decide +kernel
theorem dX3_go_19 : decode cX3_go 19 = .ok (.getfield 20, 3) := by decide +kernel
theorem dX3_go_22 : decode cX3_go 22 = .ok (.iload_n 1, 1) := by decide +kernel
theorem dX3_go_23 : decode cX3_go 23 = .ok (.iload_n 2, 1) := by decide +kernel
theorem dX3_go_24 : decode cX3_go 24 = .ok (.invokevirtual 115, 3) := by decide +kernel
theorem dX3_go_27 : decode cX3_go 27 = .ok (.ifCond .ne 6, 3) := by decide +kernel
theorem dX3_go_30 : decode cX3_go 30 = .ok (.bipush (-3), 2) := by decide +kernel
theorem dX3_go_32 : decode cX3_go 32 = .ok (.ireturn, 1) := by decide +kernel
theorem dX3_go_33 : decode cX3_go 33 = .ok (.aload_n 0, 1) := by decide +kernel
theorem dX3_go_34 : decode cX3_go 34 = .ok (.getfield 20, 3) := by decide +kernel
theorem dX3_go_37 : decode cX3_go 37 = .ok (.getfield 103, 3) := by decide +kernel
theorem dX3_go_40 : decode cX3_go 40 = .ok (.aload_n 0, 1) := by decide +kernel
theorem dX3_go_41 : decode cX3_go 41 = .ok (.getfield 20, 3) := by decide +kernel
theorem dX3_go_44 : decode cX3_go 44 = .ok (.aload_n 0, 1) := by decide +kernel
theorem dX3_go_45 : decode cX3_go 45 = .ok (.getfield 20, 3) := by decide +kernel
theorem dX3_go_48 : decode cX3_go 48 = .ok (.getfield 93, 3) := by decide +kernel
theorem dX3_go_51 : decode cX3_go 51 = .ok (.iload_n 1, 1) := by decide +kernel
theorem dX3_go_52 : decode cX3_go 52 = .ok (.iaload, 1) := by decide +kernel
theorem dX3_go_53 : decode cX3_go 53 = .ok (.iload_n 2, 1) := by decide +kernel
theorem dX3_go_54 : decode cX3_go 54 = .ok (.invokevirtual 99, 3) := by decide +kernel
theorem dX3_go_57 : decode cX3_go 57 = .ok (.iaload, 1) := by decide +kernel
theorem dX3_go_58 : decode cX3_go 58 = .ok (.aload_n 0, 1) := by decide +kernel
theorem dX3_go_59 : decode cX3_go 59 = .ok (.getfield 20, 3) := by decide +kernel
theorem dX3_go_62 : decode cX3_go 62 = .ok (.iload_n 1, 1) := by decide +kernel
theorem dX3_go_63 : decode cX3_go 63 = .ok (.invokevirtual 90, 3) := by decide +kernel
theorem dX3_go_66 : decode cX3_go 66 = .ok (.isub, 1) := by decide +kernel
theorem dX3_go_67 : decode cX3_go 67 = .ok (.istore_n 3, 1) := by decide +kernel
theorem dX3_go_68 : decode cX3_go 68 = .ok (.aload_n 0, 1) := by decide +kernel
theorem dX3_go_69 : decode cX3_go 69 = .ok (.getfield 20, 3) := by decide +kernel
theorem dX3_go_72 : decode cX3_go 72 = .ok (.iload_n 1, 1) := by decide +kernel
theorem dX3_go_73 : decode cX3_go 73 = .ok (.iload_n 2, 1) := by decide +kernel
theorem dX3_go_74 : decode cX3_go 74 = .ok (.invokevirtual 118, 3) := by decide +kernel
theorem dX3_go_77 : decode cX3_go 77 = .ok (.aload_n 0, 1) := by decide +kernel
theorem dX3_go_78 : decode cX3_go 78 = .ok (.dup, 1) := by decide +kernel
theorem dX3_go_79 : decode cX3_go 79 = .ok (.getfield 38, 3) := by decide +kernel
theorem dX3_go_82 : decode cX3_go 82 = .ok (.iconst 1, 1) := by decide +kernel
theorem dX3_go_83 : decode cX3_go 83 = .ok (.iadd, 1) := by decide +kernel
theorem dX3_go_84 : decode cX3_go 84 = .ok (.putfield 38, 3) := by decide +kernel
theorem dX3_go_87 : decode cX3_go 87 = .ok (.iload_n 3, 1) := by decide +kernel
theorem dX3_go_88 : decode cX3_go 88 = .ok (.ireturn, 1) := by decide +kernel
theorem dX3_years_0 : decode cX3_years 0 = .ok (.iload_n 1, 1) := by decide +kernel
theorem dX3_years_1 : decode cX3_years 1 = .ok (.iconst 1, 1) := by decide +kernel
theorem dX3_years_2 : decode cX3_years 2 = .ok (.if_icmp .lt 9, 3) := by decide +kernel
theorem dX3_years_5 : decode cX3_years 5 = .ok (.iload_n 1, 1) := by decide +kernel
theorem dX3_years_6 : decode cX3_years 6 = .ok (.bipush 60, 2) := by decide +kernel
theorem dX3_years_8 : decode cX3_years 8 = .ok (.if_icmp .le 6, 3) := by decide +kernel
theorem dX3_years_11 : decode cX3_years 11 = .ok (.bipush (-2), 2) := by decide +kernel
theorem dX3_years_13 : decode cX3_years 13 = .ok (.ireturn, 1) := by decide +kernel
theorem dX3_years_14 : decode cX3_years 14 = .ok (.aload_n 0, 1) := by decide +kernel
theorem dX3_years_15 : decode cX3_years 15 = .ok (.invokevirtual 122, 3) := by decide +kernel
theorem dX3_years_18 : decode cX3_years 18 = .ok (.ifCond .ne 6, 3) := by decide +kernel
theorem dX3_years_21 : decode cX3_years 21 = .ok (.bipush (-3), 2) := by decide +kernel
theorem dX3_years_23 : decode cX3_years 23 = .ok (.ireturn, 1) := by decide +kernel
theorem dX3_years_24 : decode cX3_years 24 = .ok (.aload_n 0, 1) := by decide +kernel
theorem dX3_years_25 : decode cX3_years 25 = .ok (.getfield 20, 3) := by decide +kernel
theorem dX3_years_28 : decode cX3_years 28 = .ok (.iload_n 1, 1) := by decide +kernel
theorem dX3_years_29 : decode cX3_years 29 = .ok (.invokevirtual 126, 3) := by decide +kernel
theorem dX3_years_32 : decode cX3_years 32 = .ok (.aload_n 0, 1) := by decide +kernel
theorem dX3_years_33 : decode cX3_years 33 = .ok (.dup, 1) := by decide +kernel
theorem dX3_years_34 : decode cX3_years 34 = .ok (.getfield 34, 3) := by decide +kernel
theorem dX3_years_37 : decode cX3_years 37 = .ok (.iload_n 1, 1) := by decide +kernel
theorem dX3_years_38 : decode cX3_years 38 = .ok (.iadd, 1) := by decide +kernel
theorem dX3_years_39 : decode cX3_years 39 = .ok (.putfield 34, 3) := by decide +kernel
theorem dX3_years_42 : decode cX3_years 42 = .ok (.aload_n 0, 1) := by decide +kernel
theorem dX3_years_43 : decode cX3_years 43 = .ok (.getfield 20, 3) := by decide +kernel
theorem dX3_years_46 : decode cX3_years 46 = .ok (.invokevirtual 130, 3) := by decide +kernel
theorem dX3_years_49 : decode cX3_years 49 = .ok (.ireturn, 1) := by decide +kernel
theorem dX3_stop_0 : decode cX3_stop 0 = .ok (.aload_n 0, 1) := by decide +kernel
theorem dX3_stop_1 : decode cX3_stop 1 = .ok (.iload_n 1, 1) := by decide +kernel
theorem dX3_stop_2 : decode cX3_stop 2 = .ok (.iload_n 2, 1) := by decide +kernel
theorem dX3_stop_3 : decode cX3_stop 3 = .ok (.invokevirtual 96, 3) := by decide +kernel
theorem dX3_stop_6 : decode cX3_stop 6 = .ok (.ifCond .ne 5, 3) := by decide +kernel
theorem dX3_stop_9 : decode cX3_stop 9 = .ok (.iconst (-1), 1) := by decide +kernel
theorem dX3_stop_10 : decode cX3_stop 10 = .ok (.ireturn, 1) := by decide +kernel
theorem dX3_stop_11 : decode cX3_stop 11 = .ok (.aload_n 0, 1) := by decide +kernel
theorem dX3_stop_12 : decode cX3_stop 12 = .ok (.getfield 20, 3) := by decide +kernel
theorem dX3_stop_15 : decode cX3_stop 15 = .ok (.iload_n 1, 1) := by decide +kernel
theorem dX3_stop_16 : decode cX3_stop 16 = .ok (.iload_n 2, 1) := by decide +kernel
theorem dX3_stop_17 : decode cX3_stop 17 = .ok (.invokevirtual 99, 3) := by decide +kernel
theorem dX3_stop_20 : decode cX3_stop 20 = .ok (.istore_n 3, 1) := by decide +kernel
theorem dX3_stop_21 : decode cX3_stop 21 = .ok (.aload_n 0, 1) := by decide +kernel
theorem dX3_stop_22 : decode cX3_stop 22 = .ok (.getfield 20, 3) := by decide +kernel
theorem dX3_stop_25 : decode cX3_stop 25 = .ok (.getfield 103, 3) := by decide +kernel
theorem dX3_stop_28 : decode cX3_stop 28 = .ok (.iload_n 3, 1) := by decide +kernel
theorem dX3_stop_29 : decode cX3_stop 29 = .ok (.iaload, 1) := by decide +kernel
theorem dX3_stop_30 : decode cX3_stop 30 = .ok (.istore 4, 2) := by decide +kernel
theorem dX3_stop_32 : decode cX3_stop 32 = .ok (.aload_n 0, 1) := by decide +kernel
theorem dX3_stop_33 : decode cX3_stop 33 = .ok (.getfield 20, 3) := by decide +kernel
theorem dX3_stop_36 : decode cX3_stop 36 = .ok (.iload_n 3, 1) := by decide +kernel
theorem dX3_stop_37 : decode cX3_stop 37 = .ok (.invokevirtual 134, 3) := by decide +kernel
theorem dX3_stop_40 : decode cX3_stop 40 = .ok (.ifCond .eq 8, 3) := by decide +kernel
theorem dX3_stop_43 : decode cX3_stop 43 = .ok (.iload 4, 2) := by decide +kernel
theorem dX3_stop_45 : decode cX3_stop 45 = .ok (.goto 5, 3) := by decide +kernel
theorem dX3_stop_48 : decode cX3_stop 48 = .ok (.bipush (-3), 2) := by decide +kernel
theorem dX3_stop_50 : decode cX3_stop 50 = .ok (.ireturn, 1) := by decide +kernel
theorem dX3_season_0 : decode cX3_season 0 = .ok (.aload_n 0, 1) := by decide +kernel
theorem dX3_season_1 : decode cX3_season 1 = .ok (.iconst 0, 1) := by decide +kernel
theorem dX3_season_2 : decode cX3_season 2 = .ok (.putfield 44, 3) := by decide +kernel
theorem dX3_season_5 : decode cX3_season 5 = .ok (.iload_n 1, 1) := by decide +kernel
theorem dX3_season_6 : decode cX3_season 6 = .ok (.invokestatic 48, 3) := by decide +kernel
theorem dX3_season_9 : decode cX3_season 9 = .ok (.ifCond .ne 5, 3) := by decide +kernel
theorem dX3_season_12 : decode cX3_season 12 = .ok (.iconst (-1), 1) := by decide +kernel
theorem dX3_season_13 : decode cX3_season 13 = .ok (.ireturn, 1) := by decide +kernel
theorem dX3_season_14 : decode cX3_season 14 = .ok (.iload_n 2, 1) := by decide +kernel
theorem dX3_season_15 : decode cX3_season 15 = .ok (.invokestatic 52, 3) := by decide +kernel
theorem dX3_season_18 : decode cX3_season 18 = .ok (.ifCond .eq 23, 3) := by decide +kernel
theorem dX3_season_21 : decode cX3_season 21 = .ok (.iload 4, 2) := by decide +kernel
theorem dX3_season_23 : decode cX3_season 23 = .ok (.ifCond .lt 18, 3) := by decide +kernel
theorem dX3_season_26 : decode cX3_season 26 = .ok (.iload 4, 2) := by decide +kernel
theorem dX3_season_28 : decode cX3_season 28 = .ok (.bipush 20, 2) := by decide +kernel
theorem dX3_season_30 : decode cX3_season 30 = .ok (.if_icmp .gt 11, 3) := by decide +kernel
theorem dX3_season_33 : decode cX3_season 33 = .ok (.iload 5, 2) := by decide +kernel
theorem dX3_season_35 : decode cX3_season 35 = .ok (.invokestatic 137, 3) := by decide +kernel
theorem dX3_season_38 : decode cX3_season 38 = .ok (.ifCond .ne 6, 3) := by decide +kernel
theorem dX3_season_41 : decode cX3_season 41 = .ok (.bipush (-2), 2) := by decide +kernel
theorem dX3_season_43 : decode cX3_season 43 = .ok (.ireturn, 1) := by decide +kernel
theorem dX3_season_44 : decode cX3_season 44 = .ok (.aload_n 0, 1) := by decide +kernel
theorem dX3_season_45 : decode cX3_season 45 = .ok (.getfield 13, 3) := by decide +kernel
theorem dX3_season_48 : decode cX3_season 48 = .ok (.iload_n 1, 1) := by decide +kernel
theorem dX3_season_49 : decode cX3_season 49 = .ok (.aaload, 1) := by decide +kernel
theorem dX3_season_50 : decode cX3_season 50 = .ok (.iload_n 2, 1) := by decide +kernel
theorem dX3_season_51 : decode cX3_season 51 = .ok (.invokevirtual 55, 3) := by decide +kernel
theorem dX3_season_54 : decode cX3_season 54 = .ok (.istore 6, 2) := by decide +kernel
theorem dX3_season_56 : decode cX3_season 56 = .ok (.iload 6, 2) := by decide +kernel
theorem dX3_season_58 : decode cX3_season 58 = .ok (.ifCond .ne 23, 3) := by decide +kernel
theorem dX3_season_61 : decode cX3_season 61 = .ok (.aload_n 0, 1) := by decide +kernel
theorem dX3_season_62 : decode cX3_season 62 = .ok (.getfield 13, 3) := by decide +kernel
theorem dX3_season_65 : decode cX3_season 65 = .ok (.iload_n 1, 1) := by decide +kernel
theorem dX3_season_66 : decode cX3_season 66 = .ok (.aaload, 1) := by decide +kernel
theorem dX3_season_67 : decode cX3_season 67 = .ok (.iload_n 3, 1) := by decide +kernel
theorem dX3_season_68 : decode cX3_season 68 = .ok (.iconst 2, 1) := by decide +kernel
theorem dX3_season_69 : decode cX3_season 69 = .ok (.iload 4, 2) := by decide +kernel
theorem dX3_season_71 : decode cX3_season 71 = .ok (.imul, 1) := by decide +kernel
theorem dX3_season_72 : decode cX3_season 72 = .ok (.invokevirtual 59, 3) := by decide +kernel
theorem dX3_season_75 : decode cX3_season 75 = .ok (.ifCond .ne 6, 3) := by decide +kernel
theorem dX3_season_78 : decode cX3_season 78 = .ok (.iconst 3, 1) := by decide +kernel
theorem dX3_season_79 : decode cX3_season 79 = .ok (.istore 6, 2) := by decide +kernel
theorem dX3_season_81 : decode cX3_season 81 = .ok (.iload 6, 2) := by decide +kernel
theorem dX3_season_83 : decode cX3_season 83 = .ok (.ifCond .eq 10, 3) := by decide +kernel
theorem dX3_season_86 : decode cX3_season 86 = .ok (.aload_n 0, 1) := by decide +kernel
theorem dX3_season_87 : decode cX3_season 87 = .ok (.iload 6, 2) := by decide +kernel
theorem dX3_season_89 : decode cX3_season 89 = .ok (.invokevirtual 63, 3) := by decide +kernel
theorem dX3_season_92 : decode cX3_season 92 = .ok (.ireturn, 1) := by decide +kernel
theorem dX3_season_93 : decode cX3_season 93 = .ok (.aload_n 0, 1) := by decide +kernel
theorem dX3_season_94 : decode cX3_season 94 = .ok (.invokevirtual 122, 3) := by decide +kernel
theorem dX3_season_97 : decode cX3_season 97 = .ok (.ifCond .ne 6, 3) := by decide +kernel
theorem dX3_season_100 : decode cX3_season 100 = .ok (.bipush (-3), 2) := by decide +kernel
theorem dX3_season_102 : decode cX3_season 102 = .ok (.ireturn, 1) := by decide +kernel
theorem dX3_season_103 : decode cX3_season 103 = .ok (.aload_n 0, 1) := by decide +kernel
theorem dX3_season_104 : decode cX3_season 104 = .ok (.aload_n 0, 1) := by decide +kernel
theorem dX3_season_105 : decode cX3_season 105 = .ok (.getfield 13, 3) := by decide +kernel
theorem dX3_season_108 : decode cX3_season 108 = .ok (.iload_n 1, 1) := by decide +kernel
theorem dX3_season_109 : decode cX3_season 109 = .ok (.aaload, 1) := by decide +kernel
theorem dX3_season_110 : decode cX3_season 110 = .ok (.iload_n 3, 1) := by decide +kernel
theorem dX3_season_111 : decode cX3_season 111 = .ok (.iload 4, 2) := by decide +kernel
theorem dX3_season_113 : decode cX3_season 113 = .ok (.invokevirtual 140, 3) := by decide +kernel
theorem dX3_season_116 : decode cX3_season 116 = .ok (.istore 7, 2) := by decide +kernel
theorem dX3_season_118 : decode cX3_season 118 = .ok (.iload 7, 2) := by decide +kernel
theorem dX3_season_120 : decode cX3_season 120 = .ok (.ifCond .eq 6, 3) := by decide +kernel
theorem dX3_season_123 : decode cX3_season 123 = .ok (.iload 7, 2) := by decide +kernel
theorem dX3_season_125 : decode cX3_season 125 = .ok (.ireturn, 1) := by decide +kernel
theorem dX3_season_126 : decode cX3_season 126 = .ok (.aload_n 0, 1) := by decide +kernel
theorem dX3_season_127 : decode cX3_season 127 = .ok (.aload_n 0, 1) := by decide +kernel
theorem dX3_season_128 : decode cX3_season 128 = .ok (.getfield 13, 3) := by decide +kernel
theorem dX3_season_131 : decode cX3_season 131 = .ok (.iload_n 1, 1) := by decide +kernel
theorem dX3_season_132 : decode cX3_season 132 = .ok (.aaload, 1) := by decide +kernel
theorem dX3_season_133 : decode cX3_season 133 = .ok (.iload_n 3, 1) := by decide +kernel
theorem dX3_season_134 : decode cX3_season 134 = .ok (.iload 4, 2) := by decide +kernel
theorem dX3_season_136 : decode cX3_season 136 = .ok (.invokevirtual 143, 3) := by decide +kernel
theorem dX3_season_139 : decode cX3_season 139 = .ok (.istore 8, 2) := by decide +kernel
theorem dX3_season_141 : decode cX3_season 141 = .ok (.iload 5, 2) := by decide +kernel
theorem dX3_season_143 : decode cX3_season 143 = .ok (.iconst 1, 1) := by decide +kernel
theorem dX3_season_144 : decode cX3_season 144 = .ok (.if_icmp .ne 6, 3) := by decide +kernel
theorem dX3_season_147 : decode cX3_season 147 = .ok (.iload 8, 2) := by decide +kernel
theorem dX3_season_149 : decode cX3_season 149 = .ok (.ireturn, 1) := by decide +kernel
theorem dX3_season_150 : decode cX3_season 150 = .ok (.iload 8, 2) := by decide +kernel
theorem dX3_season_152 : decode cX3_season 152 = .ok (.bipush (-9), 2) := by decide +kernel
theorem dX3_season_154 : decode cX3_season 154 = .ok (.if_icmp .eq 9, 3) := by decide +kernel
theorem dX3_season_157 : decode cX3_season 157 = .ok (.bipush (-100), 2) := by decide +kernel
theorem dX3_season_159 : decode cX3_season 159 = .ok (.iload 8, 2) := by decide +kernel
theorem dX3_season_161 : decode cX3_season 161 = .ok (.isub, 1) := by decide +kernel
theorem dX3_season_162 : decode cX3_season 162 = .ok (.ireturn, 1) := by decide +kernel
theorem dX3_season_163 : decode cX3_season 163 = .ok (.iload 5, 2) := by decide +kernel
theorem dX3_season_165 : decode cX3_season 165 = .ok (.iconst 3, 1) := by decide +kernel
theorem dX3_season_166 : decode cX3_season 166 = .ok (.if_icmp .ne 18, 3) := by decide +kernel
theorem dX3_season_169 : decode cX3_season 169 = .ok (.aload_n 0, 1) := by decide +kernel
theorem dX3_season_170 : decode cX3_season 170 = .ok (.getfield 13, 3) := by decide +kernel
theorem dX3_season_173 : decode cX3_season 173 = .ok (.iload_n 1, 1) := by decide +kernel
theorem dX3_season_174 : decode cX3_season 174 = .ok (.aaload, 1) := by decide +kernel
theorem dX3_season_175 : decode cX3_season 175 = .ok (.iload_n 3, 1) := by decide +kernel
theorem dX3_season_176 : decode cX3_season 176 = .ok (.iload 4, 2) := by decide +kernel
theorem dX3_season_178 : decode cX3_season 178 = .ok (.invokestatic 146, 3) := by decide +kernel
theorem dX3_season_181 : decode cX3_season 181 = .ok (.goto 9, 3) := by decide +kernel
theorem dX3_season_184 : decode cX3_season 184 = .ok (.aload_n 0, 1) := by decide +kernel
theorem dX3_season_185 : decode cX3_season 185 = .ok (.iload 5, 2) := by decide +kernel
theorem dX3_season_187 : decode cX3_season 187 = .ok (.invokevirtual 149, 3) := by decide +kernel
theorem dX3_season_190 : decode cX3_season 190 = .ok (.ireturn, 1) := by decide +kernel
theorem dX3_widest_0 : decode cX3_widest 0 = .ok (.aload_n 0, 1) := by decide +kernel
theorem dX3_widest_1 : decode cX3_widest 1 = .ok (.iload_n 1, 1) := by decide +kernel
theorem dX3_widest_2 : decode cX3_widest 2 = .ok (.iload_n 2, 1) := by decide +kernel
theorem dX3_widest_3 : decode cX3_widest 3 = .ok (.invokevirtual 96, 3) := by decide +kernel
theorem dX3_widest_6 : decode cX3_widest 6 = .ok (.ifCond .ne 5, 3) := by decide +kernel
theorem dX3_widest_9 : decode cX3_widest 9 = .ok (.iconst (-1), 1) := by decide +kernel
theorem dX3_widest_10 : decode cX3_widest 10 = .ok (.ireturn, 1) := by decide +kernel
theorem dX3_widest_11 : decode cX3_widest 11 = .ok (.bipush 9, 2) := by decide +kernel
theorem dX3_widest_13 : decode cX3_widest 13 = .ok (.istore_n 3, 1) := by decide +kernel
theorem dX3_widest_14 : decode cX3_widest 14 = .ok (.iload_n 3, 1) := by decide +kernel
theorem dX3_widest_15 : decode cX3_widest 15 = .ok (.ifCond .le 27, 3) := by decide +kernel
theorem dX3_widest_18 : decode cX3_widest 18 = .ok (.aload_n 0, 1) := by decide +kernel
theorem dX3_widest_19 : decode cX3_widest 19 = .ok (.getfield 20, 3) := by decide +kernel
theorem dX3_widest_22 : decode cX3_widest 22 = .ok (.iload_n 1, 1) := by decide +kernel
theorem dX3_widest_23 : decode cX3_widest 23 = .ok (.iload_n 3, 1) := by decide +kernel
theorem dX3_widest_24 : decode cX3_widest 24 = .ok (.invokevirtual 152, 3) := by decide +kernel
theorem dX3_widest_27 : decode cX3_widest 27 = .ok (.iload_n 2, 1) := by decide +kernel
theorem dX3_widest_28 : decode cX3_widest 28 = .ok (.invokestatic 109, 3) := by decide +kernel
theorem dX3_widest_31 : decode cX3_widest 31 = .ok (.ifCond .eq 5, 3) := by decide +kernel
theorem dX3_widest_34 : decode cX3_widest 34 = .ok (.iload_n 3, 1) := by decide +kernel
theorem dX3_widest_35 : decode cX3_widest 35 = .ok (.ireturn, 1) := by decide +kernel
theorem dX3_widest_36 : decode cX3_widest 36 = .ok (.iinc 3 (-1), 3) := by decide +kernel
theorem dX3_widest_39 : decode cX3_widest 39 = .ok (.goto (-25), 3) := by decide +kernel
theorem dX3_widest_42 : decode cX3_widest 42 = .ok (.iconst 0, 1) := by decide +kernel
theorem dX3_widest_43 : decode cX3_widest 43 = .ok (.ireturn, 1) := by decide +kernel
theorem dX3_way_0 : decode cX3_way 0 = .ok (.aload_n 0, 1) := by decide +kernel
theorem dX3_way_1 : decode cX3_way 1 = .ok (.iload_n 1, 1) := by decide +kernel
theorem dX3_way_2 : decode cX3_way 2 = .ok (.invokevirtual 80, 3) := by decide +kernel
theorem dX3_way_5 : decode cX3_way 5 = .ok (.ifCond .eq 11, 3) := by decide +kernel
theorem dX3_way_8 : decode cX3_way 8 = .ok (.aload_n 0, 1) := by decide +kernel
theorem dX3_way_9 : decode cX3_way 9 = .ok (.iload_n 2, 1) := by decide +kernel
theorem dX3_way_10 : decode cX3_way 10 = .ok (.invokevirtual 112, 3) := by decide +kernel
theorem dX3_way_13 : decode cX3_way 13 = .ok (.ifCond .ne 5, 3) := by decide +kernel
theorem dX3_way_16 : decode cX3_way 16 = .ok (.iconst (-1), 1) := by decide +kernel
theorem dX3_way_17 : decode cX3_way 17 = .ok (.ireturn, 1) := by decide +kernel
theorem dX3_way_18 : decode cX3_way 18 = .ok (.iload_n 3, 1) := by decide +kernel
theorem dX3_way_19 : decode cX3_way 19 = .ok (.iconst (-1), 1) := by decide +kernel
theorem dX3_way_20 : decode cX3_way 20 = .ok (.if_icmp .lt 8, 3) := by decide +kernel
theorem dX3_way_23 : decode cX3_way 23 = .ok (.iload_n 3, 1) := by decide +kernel
theorem dX3_way_24 : decode cX3_way 24 = .ok (.iconst 5, 1) := by decide +kernel
theorem dX3_way_25 : decode cX3_way 25 = .ok (.if_icmp .lt 6, 3) := by decide +kernel
theorem dX3_way_28 : decode cX3_way 28 = .ok (.bipush (-2), 2) := by decide +kernel
theorem dX3_way_30 : decode cX3_way 30 = .ok (.ireturn, 1) := by decide +kernel
theorem dX3_way_31 : decode cX3_way 31 = .ok (.aload_n 0, 1) := by decide +kernel
theorem dX3_way_32 : decode cX3_way 32 = .ok (.getfield 20, 3) := by decide +kernel
theorem dX3_way_35 : decode cX3_way 35 = .ok (.iload_n 2, 1) := by decide +kernel
theorem dX3_way_36 : decode cX3_way 36 = .ok (.aload_n 0, 1) := by decide +kernel
theorem dX3_way_37 : decode cX3_way 37 = .ok (.getfield 20, 3) := by decide +kernel
theorem dX3_way_40 : decode cX3_way 40 = .ok (.iload_n 1, 1) := by decide +kernel
theorem dX3_way_41 : decode cX3_way 41 = .ok (.invokevirtual 90, 3) := by decide +kernel
theorem dX3_way_44 : decode cX3_way 44 = .ok (.iconst 1, 1) := by decide +kernel
theorem dX3_way_45 : decode cX3_way 45 = .ok (.sipush 1000, 3) := by decide +kernel
theorem dX3_way_48 : decode cX3_way 48 = .ok (.invokevirtual 155, 3) := by decide +kernel
theorem dX3_way_51 : decode cX3_way 51 = .ok (.aload_n 0, 1) := by decide +kernel
theorem dX3_way_52 : decode cX3_way 52 = .ok (.getfield 20, 3) := by decide +kernel
theorem dX3_way_55 : decode cX3_way 55 = .ok (.getfield 159, 3) := by decide +kernel
theorem dX3_way_58 : decode cX3_way 58 = .ok (.aload_n 0, 1) := by decide +kernel
theorem dX3_way_59 : decode cX3_way 59 = .ok (.getfield 20, 3) := by decide +kernel
theorem dX3_way_62 : decode cX3_way 62 = .ok (.getfield 93, 3) := by decide +kernel
theorem dX3_way_65 : decode cX3_way 65 = .ok (.iload_n 1, 1) := by decide +kernel
theorem dX3_way_66 : decode cX3_way 66 = .ok (.iaload, 1) := by decide +kernel
theorem dX3_way_67 : decode cX3_way 67 = .ok (.iaload, 1) := by decide +kernel
theorem dX3_way_68 : decode cX3_way 68 = .ok (.istore 4, 2) := by decide +kernel
theorem dX3_way_70 : decode cX3_way 70 = .ok (.iload 4, 2) := by decide +kernel
theorem dX3_way_72 : decode cX3_way 72 = .ok (.sipush 1000, 3) := by decide +kernel
theorem dX3_way_75 : decode cX3_way 75 = .ok (.if_icmp .ge 9, 3) := by decide +kernel
theorem dX3_way_78 : decode cX3_way 78 = .ok (.iload_n 3, 1) := by decide +kernel
theorem dX3_way_79 : decode cX3_way 79 = .ok (.iload 4, 2) := by decide +kernel
theorem dX3_way_81 : decode cX3_way 81 = .ok (.if_icmp .le 6, 3) := by decide +kernel
theorem dX3_way_84 : decode cX3_way 84 = .ok (.bipush (-9), 2) := by decide +kernel
theorem dX3_way_86 : decode cX3_way 86 = .ok (.ireturn, 1) := by decide +kernel
theorem dX3_way_87 : decode cX3_way 87 = .ok (.iload_n 3, 1) := by decide +kernel
theorem dX3_way_88 : decode cX3_way 88 = .ok (.iconst (-1), 1) := by decide +kernel
theorem dX3_way_89 : decode cX3_way 89 = .ok (.if_icmp .ne 10, 3) := by decide +kernel
theorem dX3_way_92 : decode cX3_way 92 = .ok (.iload 4, 2) := by decide +kernel
theorem dX3_way_94 : decode cX3_way 94 = .ok (.iconst 1, 1) := by decide +kernel
theorem dX3_way_95 : decode cX3_way 95 = .ok (.iadd, 1) := by decide +kernel
theorem dX3_way_96 : decode cX3_way 96 = .ok (.goto 12, 3) := by decide +kernel
theorem dX3_way_99 : decode cX3_way 99 = .ok (.aload_n 0, 1) := by decide +kernel
theorem dX3_way_100 : decode cX3_way 100 = .ok (.getfield 20, 3) := by decide +kernel
theorem dX3_way_103 : decode cX3_way 103 = .ok (.iload_n 1, 1) := by decide +kernel
theorem dX3_way_104 : decode cX3_way 104 = .ok (.iload_n 3, 1) := by decide +kernel
theorem dX3_way_105 : decode cX3_way 105 = .ok (.invokevirtual 162, 3) := by decide +kernel
theorem dX3_way_108 : decode cX3_way 108 = .ok (.ireturn, 1) := by decide +kernel
theorem dX3_market_0 : decode cX3_market 0 = .ok (.iload_n 1, 1) := by decide +kernel
theorem dX3_market_1 : decode cX3_market 1 = .ok (.ifCond .lt 8, 3) := by decide +kernel
theorem dX3_market_4 : decode cX3_market 4 = .ok (.iload_n 1, 1) := by decide +kernel
theorem dX3_market_5 : decode cX3_market 5 = .ok (.iconst 1, 1) := by decide +kernel
theorem dX3_market_6 : decode cX3_market 6 = .ok (.if_icmp .le 6, 3) := by decide +kernel
theorem dX3_market_9 : decode cX3_market 9 = .ok (.bipush (-2), 2) := by decide +kernel
theorem dX3_market_11 : decode cX3_market 11 = .ok (.ireturn, 1) := by decide +kernel
theorem dX3_market_12 : decode cX3_market 12 = .ok (.aload_n 0, 1) := by decide +kernel
theorem dX3_market_13 : decode cX3_market 13 = .ok (.invokevirtual 122, 3) := by decide +kernel
theorem dX3_market_16 : decode cX3_market 16 = .ok (.ifCond .ne 6, 3) := by decide +kernel
theorem dX3_market_19 : decode cX3_market 19 = .ok (.bipush (-3), 2) := by decide +kernel
theorem dX3_market_21 : decode cX3_market 21 = .ok (.ireturn, 1) := by decide +kernel
theorem dX3_market_22 : decode cX3_market 22 = .ok (.iconst 0, 1) := by decide +kernel
theorem dX3_market_23 : decode cX3_market 23 = .ok (.istore_n 2, 1) := by decide +kernel
theorem dX3_market_24 : decode cX3_market 24 = .ok (.aload_n 0, 1) := by decide +kernel
theorem dX3_market_25 : decode cX3_market 25 = .ok (.getfield 20, 3) := by decide +kernel
theorem dX3_market_28 : decode cX3_market 28 = .ok (.iconst 0, 1) := by decide +kernel
theorem dX3_market_29 : decode cX3_market 29 = .ok (.invokevirtual 165, 3) := by decide +kernel
theorem dX3_market_32 : decode cX3_market 32 = .ok (.istore_n 3, 1) := by decide +kernel
theorem dX3_market_33 : decode cX3_market 33 = .ok (.iconst 1, 1) := by decide +kernel
theorem dX3_market_34 : decode cX3_market 34 = .ok (.istore 4, 2) := by decide +kernel
theorem dX3_market_36 : decode cX3_market 36 = .ok (.iload 4, 2) := by decide +kernel
theorem dX3_market_38 : decode cX3_market 38 = .ok (.aload_n 0, 1) := by decide +kernel
theorem dX3_market_39 : decode cX3_market 39 = .ok (.getfield 20, 3) := by decide +kernel
theorem dX3_market_42 : decode cX3_market 42 = .ok (.getfield 168, 3) := by decide +kernel
theorem dX3_market_45 : decode cX3_market 45 = .ok (.if_icmp .ge 38, 3) := by decide +kernel
theorem dX3_market_48 : decode cX3_market 48 = .ok (.aload_n 0, 1) := by decide +kernel
theorem dX3_market_49 : decode cX3_market 49 = .ok (.getfield 20, 3) := by decide +kernel
theorem dX3_market_52 : decode cX3_market 52 = .ok (.iload 4, 2) := by decide +kernel
theorem dX3_market_54 : decode cX3_market 54 = .ok (.invokevirtual 165, 3) := by decide +kernel
theorem dX3_market_57 : decode cX3_market 57 = .ok (.istore 5, 2) := by decide +kernel
theorem dX3_market_59 : decode cX3_market 59 = .ok (.iload 5, 2) := by decide +kernel
theorem dX3_market_61 : decode cX3_market 61 = .ok (.invokestatic 171, 3) := by decide +kernel
theorem dX3_market_64 : decode cX3_market 64 = .ok (.iload_n 3, 1) := by decide +kernel
theorem dX3_market_65 : decode cX3_market 65 = .ok (.invokestatic 171, 3) := by decide +kernel
theorem dX3_market_68 : decode cX3_market 68 = .ok (.if_icmp .le 9, 3) := by decide +kernel
theorem dX3_market_71 : decode cX3_market 71 = .ok (.iload 4, 2) := by decide +kernel
theorem dX3_market_73 : decode cX3_market 73 = .ok (.istore_n 2, 1) := by decide +kernel
theorem dX3_market_74 : decode cX3_market 74 = .ok (.iload 5, 2) := by decide +kernel
theorem dX3_market_76 : decode cX3_market 76 = .ok (.istore_n 3, 1) := by decide +kernel
theorem dX3_market_77 : decode cX3_market 77 = .ok (.iinc 4 1, 3) := by decide +kernel
theorem dX3_market_80 : decode cX3_market 80 = .ok (.goto (-44), 3) := by decide +kernel
theorem dX3_market_83 : decode cX3_market 83 = .ok (.iload_n 1, 1) := by decide +kernel
theorem dX3_market_84 : decode cX3_market 84 = .ok (.ifCond .ne 7, 3) := by decide +kernel
theorem dX3_market_87 : decode cX3_market 87 = .ok (.iload_n 2, 1) := by decide +kernel
theorem dX3_market_88 : decode cX3_market 88 = .ok (.goto 4, 3) := by decide +kernel
theorem dX3_market_91 : decode cX3_market 91 = .ok (.iload_n 3, 1) := by decide +kernel
theorem dX3_market_92 : decode cX3_market 92 = .ok (.ireturn, 1) := by decide +kernel
theorem dX3_widen_0 : decode cX3_widen 0 = .ok (.aload_n 0, 1) := by decide +kernel
theorem dX3_widen_1 : decode cX3_widen 1 = .ok (.iload_n 1, 1) := by decide +kernel
theorem dX3_widen_2 : decode cX3_widen 2 = .ok (.invokevirtual 80, 3) := by decide +kernel
theorem dX3_widen_5 : decode cX3_widen 5 = .ok (.ifCond .eq 11, 3) := by decide +kernel
theorem dX3_widen_8 : decode cX3_widen 8 = .ok (.aload_n 0, 1) := by decide +kernel
theorem dX3_widen_9 : decode cX3_widen 9 = .ok (.iload_n 2, 1) := by decide +kernel
theorem dX3_widen_10 : decode cX3_widen 10 = .ok (.invokevirtual 112, 3) := by decide +kernel
theorem dX3_widen_13 : decode cX3_widen 13 = .ok (.ifCond .ne 5, 3) := by decide +kernel
theorem dX3_widen_16 : decode cX3_widen 16 = .ok (.iconst (-1), 1) := by decide +kernel
theorem dX3_widen_17 : decode cX3_widen 17 = .ok (.ireturn, 1) := by decide +kernel
theorem dX3_widen_18 : decode cX3_widen 18 = .ok (.aload_n 0, 1) := by decide +kernel
theorem dX3_widen_19 : decode cX3_widen 19 = .ok (.getfield 20, 3) := by decide +kernel
theorem dX3_widen_22 : decode cX3_widen 22 = .ok (.iload_n 2, 1) := by decide +kernel
theorem dX3_widen_23 : decode cX3_widen 23 = .ok (.aload_n 0, 1) := by decide +kernel
theorem dX3_widen_24 : decode cX3_widen 24 = .ok (.getfield 20, 3) := by decide +kernel
theorem dX3_widen_27 : decode cX3_widen 27 = .ok (.iload_n 1, 1) := by decide +kernel
theorem dX3_widen_28 : decode cX3_widen 28 = .ok (.invokevirtual 90, 3) := by decide +kernel
theorem dX3_widen_31 : decode cX3_widen 31 = .ok (.iconst 0, 1) := by decide +kernel
theorem dX3_widen_32 : decode cX3_widen 32 = .ok (.iconst 1, 1) := by decide +kernel
theorem dX3_widen_33 : decode cX3_widen 33 = .ok (.invokevirtual 155, 3) := by decide +kernel
theorem dX3_widen_36 : decode cX3_widen 36 = .ok (.aload_n 0, 1) := by decide +kernel
theorem dX3_widen_37 : decode cX3_widen 37 = .ok (.getfield 20, 3) := by decide +kernel
theorem dX3_widen_40 : decode cX3_widen 40 = .ok (.getfield 159, 3) := by decide +kernel
theorem dX3_widen_43 : decode cX3_widen 43 = .ok (.aload_n 0, 1) := by decide +kernel
theorem dX3_widen_44 : decode cX3_widen 44 = .ok (.getfield 20, 3) := by decide +kernel
theorem dX3_widen_47 : decode cX3_widen 47 = .ok (.getfield 93, 3) := by decide +kernel
theorem dX3_widen_50 : decode cX3_widen 50 = .ok (.iload_n 1, 1) := by decide +kernel
theorem dX3_widen_51 : decode cX3_widen 51 = .ok (.iaload, 1) := by decide +kernel
theorem dX3_widen_52 : decode cX3_widen 52 = .ok (.iaload, 1) := by decide +kernel
theorem dX3_widen_53 : decode cX3_widen 53 = .ok (.istore_n 3, 1) := by decide +kernel
theorem dX3_widen_54 : decode cX3_widen 54 = .ok (.iload_n 3, 1) := by decide +kernel
theorem dX3_widen_55 : decode cX3_widen 55 = .ok (.sipush 1000, 3) := by decide +kernel
theorem dX3_widen_58 : decode cX3_widen 58 = .ok (.if_icmp .lt 8, 3) := by decide +kernel
theorem dX3_widen_61 : decode cX3_widen 61 = .ok (.bipush (-9), 2) := by decide +kernel
theorem dX3_widen_63 : decode cX3_widen 63 = .ok (.goto 4, 3) := by decide +kernel
theorem dX3_widen_66 : decode cX3_widen 66 = .ok (.iload_n 3, 1) := by decide +kernel
theorem dX3_widen_67 : decode cX3_widen 67 = .ok (.ireturn, 1) := by decide +kernel
theorem dX3_keep_0 : decode cX3_keep 0 = .ok (.aload_n 0, 1) := by decide +kernel
theorem dX3_keep_1 : decode cX3_keep 1 = .ok (.iload_n 1, 1) := by decide +kernel
theorem dX3_keep_2 : decode cX3_keep 2 = .ok (.invokevirtual 80, 3) := by decide +kernel
theorem dX3_keep_5 : decode cX3_keep 5 = .ok (.ifCond .eq 11, 3) := by decide +kernel
theorem dX3_keep_8 : decode cX3_keep 8 = .ok (.aload_n 0, 1) := by decide +kernel
theorem dX3_keep_9 : decode cX3_keep 9 = .ok (.iload_n 2, 1) := by decide +kernel
theorem dX3_keep_10 : decode cX3_keep 10 = .ok (.invokevirtual 112, 3) := by decide +kernel
theorem dX3_keep_13 : decode cX3_keep 13 = .ok (.ifCond .ne 5, 3) := by decide +kernel
theorem dX3_keep_16 : decode cX3_keep 16 = .ok (.iconst (-1), 1) := by decide +kernel
theorem dX3_keep_17 : decode cX3_keep 17 = .ok (.ireturn, 1) := by decide +kernel
theorem dX3_keep_18 : decode cX3_keep 18 = .ok (.aload_n 0, 1) := by decide +kernel
theorem dX3_keep_19 : decode cX3_keep 19 = .ok (.getfield 20, 3) := by decide +kernel
theorem dX3_keep_22 : decode cX3_keep 22 = .ok (.getfield 93, 3) := by decide +kernel
theorem dX3_keep_25 : decode cX3_keep 25 = .ok (.iload_n 1, 1) := by decide +kernel
theorem dX3_keep_26 : decode cX3_keep 26 = .ok (.iaload, 1) := by decide +kernel
theorem dX3_keep_27 : decode cX3_keep 27 = .ok (.iload_n 2, 1) := by decide +kernel
theorem dX3_keep_28 : decode cX3_keep 28 = .ok (.if_icmp .ne 8, 3) := by decide +kernel
theorem dX3_keep_31 : decode cX3_keep 31 = .ok (.bipush (-9), 2) := by decide +kernel
theorem dX3_keep_33 : decode cX3_keep 33 = .ok (.goto 12, 3) := by decide +kernel
theorem dX3_keep_36 : decode cX3_keep 36 = .ok (.aload_n 0, 1) := by decide +kernel
theorem dX3_keep_37 : decode cX3_keep 37 = .ok (.getfield 20, 3) := by decide +kernel
theorem dX3_keep_40 : decode cX3_keep 40 = .ok (.iload_n 1, 1) := by decide +kernel
theorem dX3_keep_41 : decode cX3_keep 41 = .ok (.iload_n 2, 1) := by decide +kernel
theorem dX3_keep_42 : decode cX3_keep 42 = .ok (.invokevirtual 176, 3) := by decide +kernel
theorem dX3_keep_45 : decode cX3_keep 45 = .ok (.ireturn, 1) := by decide +kernel
theorem dX3_reading_0 : decode cX3_reading 0 = .ok (.aload_n 0, 1) := by decide +kernel
theorem dX3_reading_1 : decode cX3_reading 1 = .ok (.iload_n 1, 1) := by decide +kernel
theorem dX3_reading_2 : decode cX3_reading 2 = .ok (.invokevirtual 80, 3) := by decide +kernel
theorem dX3_reading_5 : decode cX3_reading 5 = .ok (.ifCond .eq 12, 3) := by decide +kernel
theorem dX3_reading_8 : decode cX3_reading 8 = .ok (.aload_n 0, 1) := by decide +kernel
theorem dX3_reading_9 : decode cX3_reading 9 = .ok (.iload_n 2, 1) := by decide +kernel
theorem dX3_reading_10 : decode cX3_reading 10 = .ok (.iload_n 3, 1) := by decide +kernel
theorem dX3_reading_11 : decode cX3_reading 11 = .ok (.invokevirtual 96, 3) := by decide +kernel
theorem dX3_reading_14 : decode cX3_reading 14 = .ok (.ifCond .ne 5, 3) := by decide +kernel
theorem dX3_reading_17 : decode cX3_reading 17 = .ok (.iconst (-1), 1) := by decide +kernel
theorem dX3_reading_18 : decode cX3_reading 18 = .ok (.ireturn, 1) := by decide +kernel
theorem dX3_reading_19 : decode cX3_reading 19 = .ok (.iload 4, 2) := by decide +kernel
theorem dX3_reading_21 : decode cX3_reading 21 = .ok (.ifCond .lt 9, 3) := by decide +kernel
theorem dX3_reading_24 : decode cX3_reading 24 = .ok (.iload 4, 2) := by decide +kernel
theorem dX3_reading_26 : decode cX3_reading 26 = .ok (.iconst 1, 1) := by decide +kernel
theorem dX3_reading_27 : decode cX3_reading 27 = .ok (.if_icmp .le 6, 3) := by decide +kernel
theorem dX3_reading_30 : decode cX3_reading 30 = .ok (.bipush (-2), 2) := by decide +kernel
theorem dX3_reading_32 : decode cX3_reading 32 = .ok (.ireturn, 1) := by decide +kernel
theorem dX3_reading_33 : decode cX3_reading 33 = .ok (.aload_n 0, 1) := by decide +kernel
theorem dX3_reading_34 : decode cX3_reading 34 = .ok (.getfield 30, 3) := by decide +kernel
theorem dX3_reading_37 : decode cX3_reading 37 = .ok (.getfield 74, 3) := by decide +kernel
theorem dX3_reading_40 : decode cX3_reading 40 = .ok (.bipush 8, 2) := by decide +kernel
theorem dX3_reading_42 : decode cX3_reading 42 = .ok (.if_icmp .lt 6, 3) := by decide +kernel
theorem dX3_reading_45 : decode cX3_reading 45 = .ok (.bipush (-4), 2) := by decide +kernel
theorem dX3_reading_47 : decode cX3_reading 47 = .ok (.ireturn, 1) := by decide +kernel
theorem dX3_reading_48 : decode cX3_reading 48 = .ok (.aload_n 0, 1) := by decide +kernel
theorem dX3_reading_49 : decode cX3_reading 49 = .ok (.getfield 30, 3) := by decide +kernel
theorem dX3_reading_52 : decode cX3_reading 52 = .ok (.iload_n 1, 1) := by decide +kernel
theorem dX3_reading_53 : decode cX3_reading 53 = .ok (.aload_n 0, 1) := by decide +kernel
theorem dX3_reading_54 : decode cX3_reading 54 = .ok (.getfield 20, 3) := by decide +kernel
theorem dX3_reading_57 : decode cX3_reading 57 = .ok (.iload_n 2, 1) := by decide +kernel
theorem dX3_reading_58 : decode cX3_reading 58 = .ok (.iload_n 3, 1) := by decide +kernel
theorem dX3_reading_59 : decode cX3_reading 59 = .ok (.invokevirtual 99, 3) := by decide +kernel
theorem dX3_reading_62 : decode cX3_reading 62 = .ok (.iload 4, 2) := by decide +kernel
theorem dX3_reading_64 : decode cX3_reading 64 = .ok (.iconst 1, 1) := by decide +kernel
theorem dX3_reading_65 : decode cX3_reading 65 = .ok (.if_icmp .ne 7, 3) := by decide +kernel
theorem dX3_reading_68 : decode cX3_reading 68 = .ok (.iconst 1, 1) := by decide +kernel
theorem dX3_reading_69 : decode cX3_reading 69 = .ok (.goto 4, 3) := by decide +kernel
theorem dX3_reading_72 : decode cX3_reading 72 = .ok (.iconst 0, 1) := by decide +kernel
theorem dX3_reading_73 : decode cX3_reading 73 = .ok (.invokevirtual 179, 3) := by decide +kernel
theorem dX3_reading_76 : decode cX3_reading 76 = .ok (.aload_n 0, 1) := by decide +kernel
theorem dX3_reading_77 : decode cX3_reading 77 = .ok (.getfield 30, 3) := by decide +kernel
theorem dX3_reading_80 : decode cX3_reading 80 = .ok (.getfield 74, 3) := by decide +kernel
theorem dX3_reading_83 : decode cX3_reading 83 = .ok (.iconst 1, 1) := by decide +kernel
theorem dX3_reading_84 : decode cX3_reading 84 = .ok (.isub, 1) := by decide +kernel
theorem dX3_reading_85 : decode cX3_reading 85 = .ok (.ireturn, 1) := by decide +kernel
theorem dX3_back_0 : decode cX3_back 0 = .ok (.iload_n 1, 1) := by decide +kernel
theorem dX3_back_1 : decode cX3_back 1 = .ok (.ifCond .lt 14, 3) := by decide +kernel
theorem dX3_back_4 : decode cX3_back 4 = .ok (.iload_n 1, 1) := by decide +kernel
theorem dX3_back_5 : decode cX3_back 5 = .ok (.aload_n 0, 1) := by decide +kernel
theorem dX3_back_6 : decode cX3_back 6 = .ok (.getfield 30, 3) := by decide +kernel
theorem dX3_back_9 : decode cX3_back 9 = .ok (.getfield 74, 3) := by decide +kernel
theorem dX3_back_12 : decode cX3_back 12 = .ok (.if_icmp .le 6, 3) := by decide +kernel
theorem dX3_back_15 : decode cX3_back 15 = .ok (.bipush (-2), 2) := by decide +kernel
theorem dX3_back_17 : decode cX3_back 17 = .ok (.ireturn, 1) := by decide +kernel
theorem dX3_back_18 : decode cX3_back 18 = .ok (.aload_n 0, 1) := by decide +kernel
theorem dX3_back_19 : decode cX3_back 19 = .ok (.getfield 30, 3) := by decide +kernel
theorem dX3_back_22 : decode cX3_back 22 = .ok (.dup, 1) := by decide +kernel
theorem dX3_back_23 : decode cX3_back 23 = .ok (.getfield 74, 3) := by decide +kernel
theorem dX3_back_26 : decode cX3_back 26 = .ok (.iload_n 1, 1) := by decide +kernel
theorem dX3_back_27 : decode cX3_back 27 = .ok (.isub, 1) := by decide +kernel
theorem dX3_back_28 : decode cX3_back 28 = .ok (.putfield 74, 3) := by decide +kernel
theorem dX3_back_31 : decode cX3_back 31 = .ok (.aload_n 0, 1) := by decide +kernel
theorem dX3_back_32 : decode cX3_back 32 = .ok (.getfield 30, 3) := by decide +kernel
theorem dX3_back_35 : decode cX3_back 35 = .ok (.getfield 74, 3) := by decide +kernel
theorem dX3_back_38 : decode cX3_back 38 = .ok (.ireturn, 1) := by decide +kernel
theorem dX3_girths_0 : decode cX3_girths 0 = .ok (.aload_n 0, 1) := by decide +kernel
theorem dX3_girths_1 : decode cX3_girths 1 = .ok (.iload_n 1, 1) := by decide +kernel
theorem dX3_girths_2 : decode cX3_girths 2 = .ok (.invokevirtual 80, 3) := by decide +kernel
theorem dX3_girths_5 : decode cX3_girths 5 = .ok (.ifCond .ne 5, 3) := by decide +kernel
theorem dX3_girths_8 : decode cX3_girths 8 = .ok (.iconst (-1), 1) := by decide +kernel
theorem dX3_girths_9 : decode cX3_girths 9 = .ok (.ireturn, 1) := by decide +kernel
theorem dX3_girths_10 : decode cX3_girths 10 = .ok (.aload_n 0, 1) := by decide +kernel
theorem dX3_girths_11 : decode cX3_girths 11 = .ok (.getfield 24, 3) := by decide +kernel
theorem dX3_girths_14 : decode cX3_girths 14 = .ok (.aload_n 0, 1) := by decide +kernel
theorem dX3_girths_15 : decode cX3_girths 15 = .ok (.getfield 20, 3) := by decide +kernel
theorem dX3_girths_18 : decode cX3_girths 18 = .ok (.invokevirtual 70, 3) := by decide +kernel
theorem dX3_girths_21 : decode cX3_girths 21 = .ok (.iconst 0, 1) := by decide +kernel
theorem dX3_girths_22 : decode cX3_girths 22 = .ok (.istore_n 2, 1) := by decide +kernel
theorem dX3_girths_23 : decode cX3_girths 23 = .ok (.iconst 1, 1) := by decide +kernel
theorem dX3_girths_24 : decode cX3_girths 24 = .ok (.istore_n 3, 1) := by decide +kernel
theorem dX3_girths_25 : decode cX3_girths 25 = .ok (.iload_n 3, 1) := by decide +kernel
theorem dX3_girths_26 : decode cX3_girths 26 = .ok (.bipush 9, 2) := by decide +kernel
theorem dX3_girths_28 : decode cX3_girths 28 = .ok (.if_icmp .gt 43, 3) := by decide +kernel
theorem dX3_girths_31 : decode cX3_girths 31 = .ok (.aload_n 0, 1) := by decide +kernel
theorem dX3_girths_32 : decode cX3_girths 32 = .ok (.getfield 24, 3) := by decide +kernel
theorem dX3_girths_35 : decode cX3_girths 35 = .ok (.getfield 87, 3) := by decide +kernel
theorem dX3_girths_38 : decode cX3_girths 38 = .ok (.iload_n 1, 1) := by decide +kernel
theorem dX3_girths_39 : decode cX3_girths 39 = .ok (.iload_n 3, 1) := by decide +kernel
theorem dX3_girths_40 : decode cX3_girths 40 = .ok (.iastore, 1) := by decide +kernel
theorem dX3_girths_41 : decode cX3_girths 41 = .ok (.iload_n 2, 1) := by decide +kernel
theorem dX3_girths_42 : decode cX3_girths 42 = .ok (.aload_n 0, 1) := by decide +kernel
theorem dX3_girths_43 : decode cX3_girths 43 = .ok (.getfield 30, 3) := by decide +kernel
theorem dX3_girths_46 : decode cX3_girths 46 = .ok (.aload_n 0, 1) := by decide +kernel
theorem dX3_girths_47 : decode cX3_girths 47 = .ok (.getfield 24, 3) := by decide +kernel
theorem dX3_girths_50 : decode cX3_girths 50 = .ok (.invokevirtual 183, 3) := by decide +kernel
theorem dX3_girths_53 : decode cX3_girths 53 = .ok (.ifCond .eq 9, 3) := by decide +kernel
theorem dX3_girths_56 : decode cX3_girths 56 = .ok (.iconst 1, 1) := by decide +kernel
theorem dX3_girths_57 : decode cX3_girths 57 = .ok (.iload_n 3, 1) := by decide +kernel
theorem dX3_girths_58 : decode cX3_girths 58 = .ok (.ishl, 1) := by decide +kernel
theorem dX3_girths_59 : decode cX3_girths 59 = .ok (.goto 4, 3) := by decide +kernel
theorem dX3_girths_62 : decode cX3_girths 62 = .ok (.iconst 0, 1) := by decide +kernel
theorem dX3_girths_63 : decode cX3_girths 63 = .ok (.ior, 1) := by decide +kernel
theorem dX3_girths_64 : decode cX3_girths 64 = .ok (.istore_n 2, 1) := by decide +kernel
theorem dX3_girths_65 : decode cX3_girths 65 = .ok (.iinc 3 1, 3) := by decide +kernel
theorem dX3_girths_68 : decode cX3_girths 68 = .ok (.goto (-43), 3) := by decide +kernel
theorem dX3_girths_71 : decode cX3_girths 71 = .ok (.iload_n 2, 1) := by decide +kernel
theorem dX3_girths_72 : decode cX3_girths 72 = .ok (.ireturn, 1) := by decide +kernel
theorem dX3_kinds_0 : decode cX3_kinds 0 = .ok (.aload_n 0, 1) := by decide +kernel
theorem dX3_kinds_1 : decode cX3_kinds 1 = .ok (.iload_n 1, 1) := by decide +kernel
theorem dX3_kinds_2 : decode cX3_kinds 2 = .ok (.invokevirtual 80, 3) := by decide +kernel
theorem dX3_kinds_5 : decode cX3_kinds 5 = .ok (.ifCond .ne 5, 3) := by decide +kernel
theorem dX3_kinds_8 : decode cX3_kinds 8 = .ok (.iconst (-1), 1) := by decide +kernel
theorem dX3_kinds_9 : decode cX3_kinds 9 = .ok (.ireturn, 1) := by decide +kernel
theorem dX3_kinds_10 : decode cX3_kinds 10 = .ok (.aload_n 0, 1) := by decide +kernel
theorem dX3_kinds_11 : decode cX3_kinds 11 = .ok (.getfield 24, 3) := by decide +kernel
theorem dX3_kinds_14 : decode cX3_kinds 14 = .ok (.aload_n 0, 1) := by decide +kernel
theorem dX3_kinds_15 : decode cX3_kinds 15 = .ok (.getfield 20, 3) := by decide +kernel
theorem dX3_kinds_18 : decode cX3_kinds 18 = .ok (.invokevirtual 70, 3) := by decide +kernel
theorem dX3_kinds_21 : decode cX3_kinds 21 = .ok (.iconst 0, 1) := by decide +kernel
theorem dX3_kinds_22 : decode cX3_kinds 22 = .ok (.istore_n 2, 1) := by decide +kernel
theorem dX3_kinds_23 : decode cX3_kinds 23 = .ok (.iconst 0, 1) := by decide +kernel
theorem dX3_kinds_24 : decode cX3_kinds 24 = .ok (.istore_n 3, 1) := by decide +kernel
theorem dX3_kinds_25 : decode cX3_kinds 25 = .ok (.iload_n 3, 1) := by decide +kernel
theorem dX3_kinds_26 : decode cX3_kinds 26 = .ok (.iconst 2, 1) := by decide +kernel
theorem dX3_kinds_27 : decode cX3_kinds 27 = .ok (.if_icmp .gt 43, 3) := by decide +kernel
theorem dX3_kinds_30 : decode cX3_kinds 30 = .ok (.aload_n 0, 1) := by decide +kernel
theorem dX3_kinds_31 : decode cX3_kinds 31 = .ok (.getfield 24, 3) := by decide +kernel
theorem dX3_kinds_34 : decode cX3_kinds 34 = .ok (.getfield 83, 3) := by decide +kernel
theorem dX3_kinds_37 : decode cX3_kinds 37 = .ok (.iload_n 1, 1) := by decide +kernel
theorem dX3_kinds_38 : decode cX3_kinds 38 = .ok (.iload_n 3, 1) := by decide +kernel
theorem dX3_kinds_39 : decode cX3_kinds 39 = .ok (.iastore, 1) := by decide +kernel
theorem dX3_kinds_40 : decode cX3_kinds 40 = .ok (.iload_n 2, 1) := by decide +kernel
theorem dX3_kinds_41 : decode cX3_kinds 41 = .ok (.aload_n 0, 1) := by decide +kernel
theorem dX3_kinds_42 : decode cX3_kinds 42 = .ok (.getfield 30, 3) := by decide +kernel
theorem dX3_kinds_45 : decode cX3_kinds 45 = .ok (.aload_n 0, 1) := by decide +kernel
theorem dX3_kinds_46 : decode cX3_kinds 46 = .ok (.getfield 24, 3) := by decide +kernel
theorem dX3_kinds_49 : decode cX3_kinds 49 = .ok (.invokevirtual 183, 3) := by decide +kernel
theorem dX3_kinds_52 : decode cX3_kinds 52 = .ok (.ifCond .eq 9, 3) := by decide +kernel
theorem dX3_kinds_55 : decode cX3_kinds 55 = .ok (.iconst 1, 1) := by decide +kernel
theorem dX3_kinds_56 : decode cX3_kinds 56 = .ok (.iload_n 3, 1) := by decide +kernel
theorem dX3_kinds_57 : decode cX3_kinds 57 = .ok (.ishl, 1) := by decide +kernel
theorem dX3_kinds_58 : decode cX3_kinds 58 = .ok (.goto 4, 3) := by decide +kernel
theorem dX3_kinds_61 : decode cX3_kinds 61 = .ok (.iconst 0, 1) := by decide +kernel
theorem dX3_kinds_62 : decode cX3_kinds 62 = .ok (.ior, 1) := by decide +kernel
theorem dX3_kinds_63 : decode cX3_kinds 63 = .ok (.istore_n 2, 1) := by decide +kernel
theorem dX3_kinds_64 : decode cX3_kinds 64 = .ok (.iinc 3 1, 3) := by decide +kernel
theorem dX3_kinds_67 : decode cX3_kinds 67 = .ok (.goto (-42), 3) := by decide +kernel
theorem dX3_kinds_70 : decode cX3_kinds 70 = .ok (.iload_n 2, 1) := by decide +kernel
theorem dX3_kinds_71 : decode cX3_kinds 71 = .ok (.ireturn, 1) := by decide +kernel
theorem dX3_holes_0 : decode cX3_holes 0 = .ok (.aload_n 0, 1) := by decide +kernel
theorem dX3_holes_1 : decode cX3_holes 1 = .ok (.iload_n 1, 1) := by decide +kernel
theorem dX3_holes_2 : decode cX3_holes 2 = .ok (.iload_n 2, 1) := by decide +kernel
theorem dX3_holes_3 : decode cX3_holes 3 = .ok (.invokevirtual 96, 3) := by decide +kernel
theorem dX3_holes_6 : decode cX3_holes 6 = .ok (.ifCond .ne 5, 3) := by decide +kernel
theorem dX3_holes_9 : decode cX3_holes 9 = .ok (.iconst (-1), 1) := by decide +kernel
theorem dX3_holes_10 : decode cX3_holes 10 = .ok (.ireturn, 1) := by decide +kernel
theorem dX3_holes_11 : decode cX3_holes 11 = .ok (.aload_n 0, 1) := by decide +kernel
theorem dX3_holes_12 : decode cX3_holes 12 = .ok (.getfield 24, 3) := by decide +kernel
theorem dX3_holes_15 : decode cX3_holes 15 = .ok (.aload_n 0, 1) := by decide +kernel
theorem dX3_holes_16 : decode cX3_holes 16 = .ok (.getfield 20, 3) := by decide +kernel
theorem dX3_holes_19 : decode cX3_holes 19 = .ok (.invokevirtual 70, 3) := by decide +kernel
theorem dX3_holes_22 : decode cX3_holes 22 = .ok (.aload_n 0, 1) := by decide +kernel
theorem dX3_holes_23 : decode cX3_holes 23 = .ok (.getfield 20, 3) := by decide +kernel
theorem dX3_holes_26 : decode cX3_holes 26 = .ok (.iload_n 1, 1) := by decide +kernel
theorem dX3_holes_27 : decode cX3_holes 27 = .ok (.iload_n 2, 1) := by decide +kernel
theorem dX3_holes_28 : decode cX3_holes 28 = .ok (.invokevirtual 99, 3) := by decide +kernel
theorem dX3_holes_31 : decode cX3_holes 31 = .ok (.istore_n 3, 1) := by decide +kernel
theorem dX3_holes_32 : decode cX3_holes 32 = .ok (.iconst 0, 1) := by decide +kernel
theorem dX3_holes_33 : decode cX3_holes 33 = .ok (.istore 4, 2) := by decide +kernel
theorem dX3_holes_35 : decode cX3_holes 35 = .ok (.iconst 0, 1) := by decide +kernel
theorem dX3_holes_36 : decode cX3_holes 36 = .ok (.istore 5, 2) := by decide +kernel
theorem dX3_holes_38 : decode cX3_holes 38 = .ok (.iload 5, 2) := by decide +kernel
theorem dX3_holes_40 : decode cX3_holes 40 = .ok (.bipush 9, 2) := by decide +kernel
theorem dX3_holes_42 : decode cX3_holes 42 = .ok (.if_icmp .gt 47, 3) := by decide +kernel
theorem dX3_holes_45 : decode cX3_holes 45 = .ok (.aload_n 0, 1) := by decide +kernel
theorem dX3_holes_46 : decode cX3_holes 46 = .ok (.getfield 24, 3) := by decide +kernel
theorem dX3_holes_49 : decode cX3_holes 49 = .ok (.getfield 103, 3) := by decide +kernel
theorem dX3_holes_52 : decode cX3_holes 52 = .ok (.iload_n 3, 1) := by decide +kernel
theorem dX3_holes_53 : decode cX3_holes 53 = .ok (.iload 5, 2) := by decide +kernel
theorem dX3_holes_55 : decode cX3_holes 55 = .ok (.iastore, 1) := by decide +kernel
theorem dX3_holes_56 : decode cX3_holes 56 = .ok (.iload 4, 2) := by decide +kernel
theorem dX3_holes_58 : decode cX3_holes 58 = .ok (.aload_n 0, 1) := by decide +kernel
theorem dX3_holes_59 : decode cX3_holes 59 = .ok (.getfield 30, 3) := by decide +kernel
theorem dX3_holes_62 : decode cX3_holes 62 = .ok (.aload_n 0, 1) := by decide +kernel
theorem dX3_holes_63 : decode cX3_holes 63 = .ok (.getfield 24, 3) := by decide +kernel
theorem dX3_holes_66 : decode cX3_holes 66 = .ok (.invokevirtual 183, 3) := by decide +kernel
theorem dX3_holes_69 : decode cX3_holes 69 = .ok (.ifCond .eq 10, 3) := by decide +kernel
theorem dX3_holes_72 : decode cX3_holes 72 = .ok (.iconst 1, 1) := by decide +kernel
theorem dX3_holes_73 : decode cX3_holes 73 = .ok (.iload 5, 2) := by decide +kernel
theorem dX3_holes_75 : decode cX3_holes 75 = .ok (.ishl, 1) := by decide +kernel
theorem dX3_holes_76 : decode cX3_holes 76 = .ok (.goto 4, 3) := by decide +kernel
theorem dX3_holes_79 : decode cX3_holes 79 = .ok (.iconst 0, 1) := by decide +kernel
theorem dX3_holes_80 : decode cX3_holes 80 = .ok (.ior, 1) := by decide +kernel
theorem dX3_holes_81 : decode cX3_holes 81 = .ok (.istore 4, 2) := by decide +kernel
theorem dX3_holes_83 : decode cX3_holes 83 = .ok (.iinc 5 1, 3) := by decide +kernel
theorem dX3_holes_86 : decode cX3_holes 86 = .ok (.goto (-48), 3) := by decide +kernel
theorem dX3_holes_89 : decode cX3_holes 89 = .ok (.iload 4, 2) := by decide +kernel
theorem dX3_holes_91 : decode cX3_holes 91 = .ok (.ireturn, 1) := by decide +kernel
theorem dX3_odds_0 : decode cX3_odds 0 = .ok (.aload_n 0, 1) := by decide +kernel
theorem dX3_odds_1 : decode cX3_odds 1 = .ok (.iload_n 1, 1) := by decide +kernel
theorem dX3_odds_2 : decode cX3_odds 2 = .ok (.invokevirtual 80, 3) := by decide +kernel
theorem dX3_odds_5 : decode cX3_odds 5 = .ok (.ifCond .eq 20, 3) := by decide +kernel
theorem dX3_odds_8 : decode cX3_odds 8 = .ok (.aload_n 0, 1) := by decide +kernel
theorem dX3_odds_9 : decode cX3_odds 9 = .ok (.iload_n 2, 1) := by decide +kernel
theorem dX3_odds_10 : decode cX3_odds 10 = .ok (.invokevirtual 112, 3) := by decide +kernel
theorem dX3_odds_13 : decode cX3_odds 13 = .ok (.ifCond .eq 12, 3) := by decide +kernel
theorem dX3_odds_16 : decode cX3_odds 16 = .ok (.iload_n 3, 1) := by decide +kernel
theorem dX3_odds_17 : decode cX3_odds 17 = .ok (.ifCond .lt 8, 3) := by decide +kernel
theorem dX3_odds_20 : decode cX3_odds 20 = .ok (.iload_n 3, 1) := by decide +kernel
theorem dX3_odds_21 : decode cX3_odds 21 = .ok (.iconst 1, 1) := by decide +kernel
theorem dX3_odds_22 : decode cX3_odds 22 = .ok (.if_icmp .le 7, 3) := by decide +kernel
theorem dX3_odds_25 : decode cX3_odds 25 = .ok (.ldc2_w 187, 3) := by decide +kernel
theorem dX3_odds_28 : decode cX3_odds 28 = .ok (.lreturn, 1) := by decide +kernel
theorem dX3_odds_29 : decode cX3_odds 29 = .ok (.iconst 0, 1) := by decide +kernel
theorem dX3_odds_30 : decode cX3_odds 30 = .ok (.istore 4, 2) := by decide +kernel
theorem dX3_odds_32 : decode cX3_odds 32 = .ok (.iconst 1, 1) := by decide +kernel
theorem dX3_odds_33 : decode cX3_odds 33 = .ok (.istore 5, 2) := by decide +kernel
theorem dX3_odds_35 : decode cX3_odds 35 = .ok (.iload 5, 2) := by decide +kernel
theorem dX3_odds_37 : decode cX3_odds 37 = .ok (.bipush 9, 2) := by decide +kernel
theorem dX3_odds_39 : decode cX3_odds 39 = .ok (.if_icmp .gt 60, 3) := by decide +kernel
theorem dX3_odds_42 : decode cX3_odds 42 = .ok (.aload_n 0, 1) := by decide +kernel
theorem dX3_odds_43 : decode cX3_odds 43 = .ok (.getfield 20, 3) := by decide +kernel
theorem dX3_odds_46 : decode cX3_odds 46 = .ok (.aload_n 0, 1) := by decide +kernel
theorem dX3_odds_47 : decode cX3_odds 47 = .ok (.getfield 20, 3) := by decide +kernel
theorem dX3_odds_50 : decode cX3_odds 50 = .ok (.getfield 93, 3) := by decide +kernel
theorem dX3_odds_53 : decode cX3_odds 53 = .ok (.iload_n 1, 1) := by decide +kernel
theorem dX3_odds_54 : decode cX3_odds 54 = .ok (.iaload, 1) := by decide +kernel
theorem dX3_odds_55 : decode cX3_odds 55 = .ok (.aload_n 0, 1) := by decide +kernel
theorem dX3_odds_56 : decode cX3_odds 56 = .ok (.getfield 20, 3) := by decide +kernel
theorem dX3_odds_59 : decode cX3_odds 59 = .ok (.getfield 83, 3) := by decide +kernel
theorem dX3_odds_62 : decode cX3_odds 62 = .ok (.iload_n 1, 1) := by decide +kernel
theorem dX3_odds_63 : decode cX3_odds 63 = .ok (.iaload, 1) := by decide +kernel
theorem dX3_odds_64 : decode cX3_odds 64 = .ok (.iload 5, 2) := by decide +kernel
theorem dX3_odds_66 : decode cX3_odds 66 = .ok (.invokestatic 189, 3) := by decide +kernel
theorem dX3_odds_69 : decode cX3_odds 69 = .ok (.invokevirtual 152, 3) := by decide +kernel
theorem dX3_odds_72 : decode cX3_odds 72 = .ok (.istore 6, 2) := by decide +kernel
theorem dX3_odds_74 : decode cX3_odds 74 = .ok (.iload 4, 2) := by decide +kernel
theorem dX3_odds_76 : decode cX3_odds 76 = .ok (.iload 6, 2) := by decide +kernel
theorem dX3_odds_78 : decode cX3_odds 78 = .ok (.iload_n 2, 1) := by decide +kernel
theorem dX3_odds_79 : decode cX3_odds 79 = .ok (.invokestatic 109, 3) := by decide +kernel
theorem dX3_odds_82 : decode cX3_odds 82 = .ok (.ifCond .eq 7, 3) := by decide +kernel
theorem dX3_odds_85 : decode cX3_odds 85 = .ok (.iconst 1, 1) := by decide +kernel
theorem dX3_odds_86 : decode cX3_odds 86 = .ok (.goto 4, 3) := by decide +kernel
theorem dX3_odds_89 : decode cX3_odds 89 = .ok (.iconst 0, 1) := by decide +kernel
theorem dX3_odds_90 : decode cX3_odds 90 = .ok (.iadd, 1) := by decide +kernel
theorem dX3_odds_91 : decode cX3_odds 91 = .ok (.istore 4, 2) := by decide +kernel
theorem dX3_odds_93 : decode cX3_odds 93 = .ok (.iinc 5 1, 3) := by decide +kernel
theorem dX3_odds_96 : decode cX3_odds 96 = .ok (.goto (-61), 3) := by decide +kernel
theorem dX3_odds_99 : decode cX3_odds 99 = .ok (.iload 4, 2) := by decide +kernel
theorem dX3_odds_101 : decode cX3_odds 101 = .ok (.bipush 9, 2) := by decide +kernel
theorem dX3_odds_103 : decode cX3_odds 103 = .ok (.invokestatic 192, 3) := by decide +kernel
theorem dX3_odds_106 : decode cX3_odds 106 = .ok (.istore 5, 2) := by decide +kernel
theorem dX3_odds_108 : decode cX3_odds 108 = .ok (.iload_n 3, 1) := by decide +kernel
theorem dX3_odds_109 : decode cX3_odds 109 = .ok (.ifCond .ne 12, 3) := by decide +kernel
theorem dX3_odds_112 : decode cX3_odds 112 = .ok (.iload 4, 2) := by decide +kernel
theorem dX3_odds_114 : decode cX3_odds 114 = .ok (.iload 5, 2) := by decide +kernel
theorem dX3_odds_116 : decode cX3_odds 116 = .ok (.idiv, 1) := by decide +kernel
theorem dX3_odds_117 : decode cX3_odds 117 = .ok (.i2l, 1) := by decide +kernel
theorem dX3_odds_118 : decode cX3_odds 118 = .ok (.goto 9, 3) := by decide +kernel
theorem dX3_odds_121 : decode cX3_odds 121 = .ok (.bipush 9, 2) := by decide +kernel
theorem dX3_odds_123 : decode cX3_odds 123 = .ok (.iload 5, 2) := by decide +kernel
theorem dX3_odds_125 : decode cX3_odds 125 = .ok (.idiv, 1) := by decide +kernel
theorem dX3_odds_126 : decode cX3_odds 126 = .ok (.i2l, 1) := by decide +kernel
theorem dX3_odds_127 : decode cX3_odds 127 = .ok (.lreturn, 1) := by decide +kernel
theorem dX3_sheet_0 : decode cX3_sheet 0 = .ok (.aload_n 0, 1) := by decide +kernel
theorem dX3_sheet_1 : decode cX3_sheet 1 = .ok (.iconst 0, 1) := by decide +kernel
theorem dX3_sheet_2 : decode cX3_sheet 2 = .ok (.putfield 44, 3) := by decide +kernel
theorem dX3_sheet_5 : decode cX3_sheet 5 = .ok (.iload_n 1, 1) := by decide +kernel
theorem dX3_sheet_6 : decode cX3_sheet 6 = .ok (.invokestatic 48, 3) := by decide +kernel
theorem dX3_sheet_9 : decode cX3_sheet 9 = .ok (.ifCond .ne 5, 3) := by decide +kernel
theorem dX3_sheet_12 : decode cX3_sheet 12 = .ok (.iconst (-1), 1) := by decide +kernel
theorem dX3_sheet_13 : decode cX3_sheet 13 = .ok (.ireturn, 1) := by decide +kernel
theorem dX3_sheet_14 : decode cX3_sheet 14 = .ok (.iload_n 2, 1) := by decide +kernel
theorem dX3_sheet_15 : decode cX3_sheet 15 = .ok (.invokestatic 52, 3) := by decide +kernel
theorem dX3_sheet_18 : decode cX3_sheet 18 = .ok (.ifCond .eq 9, 3) := by decide +kernel
theorem dX3_sheet_21 : decode cX3_sheet 21 = .ok (.iload_n 3, 1) := by decide +kernel
theorem dX3_sheet_22 : decode cX3_sheet 22 = .ok (.bipush 60, 2) := by decide +kernel
theorem dX3_sheet_24 : decode cX3_sheet 24 = .ok (.if_icmp .le 6, 3) := by decide +kernel
theorem dX3_sheet_27 : decode cX3_sheet 27 = .ok (.bipush (-2), 2) := by decide +kernel
theorem dX3_sheet_29 : decode cX3_sheet 29 = .ok (.ireturn, 1) := by decide +kernel
theorem dX3_sheet_30 : decode cX3_sheet 30 = .ok (.iload_n 3, 1) := by decide +kernel
theorem dX3_sheet_31 : decode cX3_sheet 31 = .ok (.ifCond .ge 9, 3) := by decide +kernel
theorem dX3_sheet_34 : decode cX3_sheet 34 = .ok (.aload_n 0, 1) := by decide +kernel
theorem dX3_sheet_35 : decode cX3_sheet 35 = .ok (.iconst 4, 1) := by decide +kernel
theorem dX3_sheet_36 : decode cX3_sheet 36 = .ok (.invokevirtual 63, 3) := by decide +kernel
theorem dX3_sheet_39 : decode cX3_sheet 39 = .ok (.ireturn, 1) := by decide +kernel
theorem dX3_sheet_40 : decode cX3_sheet 40 = .ok (.aload_n 0, 1) := by decide +kernel
theorem dX3_sheet_41 : decode cX3_sheet 41 = .ok (.getfield 13, 3) := by decide +kernel
theorem dX3_sheet_44 : decode cX3_sheet 44 = .ok (.iload_n 1, 1) := by decide +kernel
theorem dX3_sheet_45 : decode cX3_sheet 45 = .ok (.aaload, 1) := by decide +kernel
theorem dX3_sheet_46 : decode cX3_sheet 46 = .ok (.iload_n 2, 1) := by decide +kernel
theorem dX3_sheet_47 : decode cX3_sheet 47 = .ok (.iload_n 3, 1) := by decide +kernel
theorem dX3_sheet_48 : decode cX3_sheet 48 = .ok (.invokevirtual 195, 3) := by decide +kernel
theorem dX3_sheet_51 : decode cX3_sheet 51 = .ok (.iconst 1, 1) := by decide +kernel
theorem dX3_sheet_52 : decode cX3_sheet 52 = .ok (.ireturn, 1) := by decide +kernel
theorem dX3_lose_0 : decode cX3_lose 0 = .ok (.iload_n 1, 1) := by decide +kernel
theorem dX3_lose_1 : decode cX3_lose 1 = .ok (.invokestatic 48, 3) := by decide +kernel
theorem dX3_lose_4 : decode cX3_lose 4 = .ok (.ifCond .ne 5, 3) := by decide +kernel
theorem dX3_lose_7 : decode cX3_lose 7 = .ok (.iconst (-1), 1) := by decide +kernel
theorem dX3_lose_8 : decode cX3_lose 8 = .ok (.ireturn, 1) := by decide +kernel
theorem dX3_lose_9 : decode cX3_lose 9 = .ok (.aload_n 0, 1) := by decide +kernel
theorem dX3_lose_10 : decode cX3_lose 10 = .ok (.getfield 13, 3) := by decide +kernel
theorem dX3_lose_13 : decode cX3_lose 13 = .ok (.iload_n 1, 1) := by decide +kernel
theorem dX3_lose_14 : decode cX3_lose 14 = .ok (.aaload, 1) := by decide +kernel
theorem dX3_lose_15 : decode cX3_lose 15 = .ok (.getfield 198, 3) := by decide +kernel
theorem dX3_lose_18 : decode cX3_lose 18 = .ok (.ifCond .eq 7, 3) := by decide +kernel
theorem dX3_lose_21 : decode cX3_lose 21 = .ok (.iconst 1, 1) := by decide +kernel
theorem dX3_lose_22 : decode cX3_lose 22 = .ok (.goto 4, 3) := by decide +kernel
theorem dX3_lose_25 : decode cX3_lose 25 = .ok (.iconst 0, 1) := by decide +kernel
theorem dX3_lose_26 : decode cX3_lose 26 = .ok (.istore_n 2, 1) := by decide +kernel
theorem dX3_lose_27 : decode cX3_lose 27 = .ok (.aload_n 0, 1) := by decide +kernel
theorem dX3_lose_28 : decode cX3_lose 28 = .ok (.getfield 13, 3) := by decide +kernel
theorem dX3_lose_31 : decode cX3_lose 31 = .ok (.iload_n 1, 1) := by decide +kernel
theorem dX3_lose_32 : decode cX3_lose 32 = .ok (.aaload, 1) := by decide +kernel
theorem dX3_lose_33 : decode cX3_lose 33 = .ok (.iconst 0, 1) := by decide +kernel
theorem dX3_lose_34 : decode cX3_lose 34 = .ok (.putfield 198, 3) := by decide +kernel
theorem dX3_lose_37 : decode cX3_lose 37 = .ok (.iload_n 2, 1) := by decide +kernel
theorem dX3_lose_38 : decode cX3_lose 38 = .ok (.ireturn, 1) := by decide +kernel
theorem dX3_put_0 : decode cX3_put 0 = .ok (.aload_n 0, 1) := by decide +kernel
theorem dX3_put_1 : decode cX3_put 1 = .ok (.iconst 0, 1) := by decide +kernel
theorem dX3_put_2 : decode cX3_put 2 = .ok (.putfield 44, 3) := by decide +kernel
theorem dX3_put_5 : decode cX3_put 5 = .ok (.iload_n 1, 1) := by decide +kernel
theorem dX3_put_6 : decode cX3_put 6 = .ok (.invokestatic 48, 3) := by decide +kernel
theorem dX3_put_9 : decode cX3_put 9 = .ok (.ifCond .ne 5, 3) := by decide +kernel
theorem dX3_put_12 : decode cX3_put 12 = .ok (.iconst (-1), 1) := by decide +kernel
theorem dX3_put_13 : decode cX3_put 13 = .ok (.ireturn, 1) := by decide +kernel
theorem dX3_put_14 : decode cX3_put 14 = .ok (.aload_n 0, 1) := by decide +kernel
theorem dX3_put_15 : decode cX3_put 15 = .ok (.getfield 13, 3) := by decide +kernel
theorem dX3_put_18 : decode cX3_put 18 = .ok (.iload_n 1, 1) := by decide +kernel
theorem dX3_put_19 : decode cX3_put 19 = .ok (.aaload, 1) := by decide +kernel
theorem dX3_put_20 : decode cX3_put 20 = .ok (.getfield 198, 3) := by decide +kernel
theorem dX3_put_23 : decode cX3_put 23 = .ok (.ifCond .ne 9, 3) := by decide +kernel
theorem dX3_put_26 : decode cX3_put 26 = .ok (.aload_n 0, 1) := by decide +kernel
theorem dX3_put_27 : decode cX3_put 27 = .ok (.iconst 1, 1) := by decide +kernel
theorem dX3_put_28 : decode cX3_put 28 = .ok (.invokevirtual 63, 3) := by decide +kernel
theorem dX3_put_31 : decode cX3_put 31 = .ok (.ireturn, 1) := by decide +kernel
theorem dX3_put_32 : decode cX3_put 32 = .ok (.aload_n 0, 1) := by decide +kernel
theorem dX3_put_33 : decode cX3_put 33 = .ok (.getfield 13, 3) := by decide +kernel
theorem dX3_put_36 : decode cX3_put 36 = .ok (.iload_n 1, 1) := by decide +kernel
theorem dX3_put_37 : decode cX3_put 37 = .ok (.aaload, 1) := by decide +kernel
theorem dX3_put_38 : decode cX3_put 38 = .ok (.iload_n 2, 1) := by decide +kernel
theorem dX3_put_39 : decode cX3_put 39 = .ok (.iconst 1, 1) := by decide +kernel
theorem dX3_put_40 : decode cX3_put 40 = .ok (.invokevirtual 59, 3) := by decide +kernel
theorem dX3_put_43 : decode cX3_put 43 = .ok (.ifCond .ne 9, 3) := by decide +kernel
theorem dX3_put_46 : decode cX3_put 46 = .ok (.aload_n 0, 1) := by decide +kernel
theorem dX3_put_47 : decode cX3_put 47 = .ok (.iconst 3, 1) := by decide +kernel
theorem dX3_put_48 : decode cX3_put 48 = .ok (.invokevirtual 63, 3) := by decide +kernel
theorem dX3_put_51 : decode cX3_put 51 = .ok (.ireturn, 1) := by decide +kernel
theorem dX3_put_52 : decode cX3_put 52 = .ok (.aload_n 0, 1) := by decide +kernel
theorem dX3_put_53 : decode cX3_put 53 = .ok (.getfield 13, 3) := by decide +kernel
theorem dX3_put_56 : decode cX3_put 56 = .ok (.iload_n 1, 1) := by decide +kernel
theorem dX3_put_57 : decode cX3_put 57 = .ok (.aaload, 1) := by decide +kernel
theorem dX3_put_58 : decode cX3_put 58 = .ok (.getfield 202, 3) := by decide +kernel
theorem dX3_put_61 : decode cX3_put 61 = .ok (.iload_n 2, 1) := by decide +kernel
theorem dX3_put_62 : decode cX3_put 62 = .ok (.aload_n 0, 1) := by decide +kernel
theorem dX3_put_63 : decode cX3_put 63 = .ok (.getfield 13, 3) := by decide +kernel
theorem dX3_put_66 : decode cX3_put 66 = .ok (.iload_n 1, 1) := by decide +kernel
theorem dX3_put_67 : decode cX3_put 67 = .ok (.aaload, 1) := by decide +kernel
theorem dX3_put_68 : decode cX3_put 68 = .ok (.getfield 205, 3) := by decide +kernel
theorem dX3_put_71 : decode cX3_put 71 = .ok (.iload_n 3, 1) := by decide +kernel
theorem dX3_put_72 : decode cX3_put 72 = .ok (.invokestatic 208, 3) := by decide +kernel
theorem dX3_put_75 : decode cX3_put 75 = .ok (.iastore, 1) := by decide +kernel
theorem dX3_put_76 : decode cX3_put 76 = .ok (.iconst 1, 1) := by decide +kernel
theorem dX3_put_77 : decode cX3_put 77 = .ok (.ireturn, 1) := by decide +kernel
theorem dX3_cell_0 : decode cX3_cell 0 = .ok (.aload_n 0, 1) := by decide +kernel
theorem dX3_cell_1 : decode cX3_cell 1 = .ok (.iconst 0, 1) := by decide +kernel
theorem dX3_cell_2 : decode cX3_cell 2 = .ok (.putfield 44, 3) := by decide +kernel
theorem dX3_cell_5 : decode cX3_cell 5 = .ok (.iload_n 1, 1) := by decide +kernel
theorem dX3_cell_6 : decode cX3_cell 6 = .ok (.invokestatic 48, 3) := by decide +kernel
theorem dX3_cell_9 : decode cX3_cell 9 = .ok (.ifCond .eq 10, 3) := by decide +kernel
theorem dX3_cell_12 : decode cX3_cell 12 = .ok (.iload_n 3, 1) := by decide +kernel
theorem dX3_cell_13 : decode cX3_cell 13 = .ok (.invokestatic 52, 3) := by decide +kernel
theorem dX3_cell_16 : decode cX3_cell 16 = .ok (.ifCond .ne 7, 3) := by decide +kernel
theorem dX3_cell_19 : decode cX3_cell 19 = .ok (.ldc2_w 187, 3) := by decide +kernel
theorem dX3_cell_22 : decode cX3_cell 22 = .ok (.lreturn, 1) := by decide +kernel
theorem dX3_cell_23 : decode cX3_cell 23 = .ok (.aload_n 0, 1) := by decide +kernel
theorem dX3_cell_24 : decode cX3_cell 24 = .ok (.getfield 13, 3) := by decide +kernel
theorem dX3_cell_27 : decode cX3_cell 27 = .ok (.iload_n 1, 1) := by decide +kernel
theorem dX3_cell_28 : decode cX3_cell 28 = .ok (.aaload, 1) := by decide +kernel
theorem dX3_cell_29 : decode cX3_cell 29 = .ok (.iload_n 3, 1) := by decide +kernel
theorem dX3_cell_30 : decode cX3_cell 30 = .ok (.invokevirtual 55, 3) := by decide +kernel
theorem dX3_cell_33 : decode cX3_cell 33 = .ok (.istore 4, 2) := by decide +kernel
theorem dX3_cell_35 : decode cX3_cell 35 = .ok (.iload 4, 2) := by decide +kernel
theorem dX3_cell_37 : decode cX3_cell 37 = .ok (.ifCond .ne 20, 3) := by decide +kernel
theorem dX3_cell_40 : decode cX3_cell 40 = .ok (.aload_n 0, 1) := by decide +kernel
theorem dX3_cell_41 : decode cX3_cell 41 = .ok (.getfield 13, 3) := by decide +kernel
theorem dX3_cell_44 : decode cX3_cell 44 = .ok (.iload_n 1, 1) := by decide +kernel
theorem dX3_cell_45 : decode cX3_cell 45 = .ok (.aaload, 1) := by decide +kernel
theorem dX3_cell_46 : decode cX3_cell 46 = .ok (.iload_n 2, 1) := by decide +kernel
theorem dX3_cell_47 : decode cX3_cell 47 = .ok (.iconst 1, 1) := by decide +kernel
theorem dX3_cell_48 : decode cX3_cell 48 = .ok (.invokevirtual 59, 3) := by decide +kernel
theorem dX3_cell_51 : decode cX3_cell 51 = .ok (.ifCond .ne 6, 3) := by decide +kernel
theorem dX3_cell_54 : decode cX3_cell 54 = .ok (.iconst 3, 1) := by decide +kernel
theorem dX3_cell_55 : decode cX3_cell 55 = .ok (.istore 4, 2) := by decide +kernel
theorem dX3_cell_57 : decode cX3_cell 57 = .ok (.aload_n 0, 1) := by decide +kernel
theorem dX3_cell_58 : decode cX3_cell 58 = .ok (.iload 4, 2) := by decide +kernel
theorem dX3_cell_60 : decode cX3_cell 60 = .ok (.putfield 44, 3) := by decide +kernel
theorem dX3_cell_63 : decode cX3_cell 63 = .ok (.iload 4, 2) := by decide +kernel
theorem dX3_cell_65 : decode cX3_cell 65 = .ok (.ifCond .ne 18, 3) := by decide +kernel
theorem dX3_cell_68 : decode cX3_cell 68 = .ok (.aload_n 0, 1) := by decide +kernel
theorem dX3_cell_69 : decode cX3_cell 69 = .ok (.getfield 13, 3) := by decide +kernel
theorem dX3_cell_72 : decode cX3_cell 72 = .ok (.iload_n 1, 1) := by decide +kernel
theorem dX3_cell_73 : decode cX3_cell 73 = .ok (.aaload, 1) := by decide +kernel
theorem dX3_cell_74 : decode cX3_cell 74 = .ok (.getfield 202, 3) := by decide +kernel
theorem dX3_cell_77 : decode cX3_cell 77 = .ok (.iload_n 2, 1) := by decide +kernel
theorem dX3_cell_78 : decode cX3_cell 78 = .ok (.iaload, 1) := by decide +kernel
theorem dX3_cell_79 : decode cX3_cell 79 = .ok (.i2l, 1) := by decide +kernel
theorem dX3_cell_80 : decode cX3_cell 80 = .ok (.goto 6, 3) := by decide +kernel
theorem dX3_cell_83 : decode cX3_cell 83 = .ok (.ldc2_w 187, 3) := by decide +kernel
theorem dX3_cell_86 : decode cX3_cell 86 = .ok (.lreturn, 1) := by decide +kernel
theorem dX3_copy_0 : decode cX3_copy 0 = .ok (.aload_n 0, 1) := by decide +kernel
theorem dX3_copy_1 : decode cX3_copy 1 = .ok (.iconst 0, 1) := by decide +kernel
theorem dX3_copy_2 : decode cX3_copy 2 = .ok (.putfield 44, 3) := by decide +kernel
theorem dX3_copy_5 : decode cX3_copy 5 = .ok (.iload_n 1, 1) := by decide +kernel
theorem dX3_copy_6 : decode cX3_copy 6 = .ok (.invokestatic 48, 3) := by decide +kernel
theorem dX3_copy_9 : decode cX3_copy 9 = .ok (.ifCond .eq 10, 3) := by decide +kernel
theorem dX3_copy_12 : decode cX3_copy 12 = .ok (.iload_n 3, 1) := by decide +kernel
theorem dX3_copy_13 : decode cX3_copy 13 = .ok (.invokestatic 48, 3) := by decide +kernel
theorem dX3_copy_16 : decode cX3_copy 16 = .ok (.ifCond .ne 5, 3) := by decide +kernel
theorem dX3_copy_19 : decode cX3_copy 19 = .ok (.iconst (-1), 1) := by decide +kernel
theorem dX3_copy_20 : decode cX3_copy 20 = .ok (.ireturn, 1) := by decide +kernel
theorem dX3_copy_21 : decode cX3_copy 21 = .ok (.aload_n 0, 1) := by decide +kernel
theorem dX3_copy_22 : decode cX3_copy 22 = .ok (.getfield 13, 3) := by decide +kernel
theorem dX3_copy_25 : decode cX3_copy 25 = .ok (.iload_n 1, 1) := by decide +kernel
theorem dX3_copy_26 : decode cX3_copy 26 = .ok (.aaload, 1) := by decide +kernel
theorem dX3_copy_27 : decode cX3_copy 27 = .ok (.getfield 198, 3) := by decide +kernel
theorem dX3_copy_30 : decode cX3_copy 30 = .ok (.ifCond .eq 15, 3) := by decide +kernel
theorem dX3_copy_33 : decode cX3_copy 33 = .ok (.aload_n 0, 1) := by decide +kernel
theorem dX3_copy_34 : decode cX3_copy 34 = .ok (.getfield 13, 3) := by decide +kernel
theorem dX3_copy_37 : decode cX3_copy 37 = .ok (.iload_n 3, 1) := by decide +kernel
theorem dX3_copy_38 : decode cX3_copy 38 = .ok (.aaload, 1) := by decide +kernel
theorem dX3_copy_39 : decode cX3_copy 39 = .ok (.getfield 198, 3) := by decide +kernel
theorem dX3_copy_42 : decode cX3_copy 42 = .ok (.ifCond .ne 9, 3) := by decide +kernel
theorem dX3_copy_45 : decode cX3_copy 45 = .ok (.aload_n 0, 1) := by decide +kernel
theorem dX3_copy_46 : decode cX3_copy 46 = .ok (.iconst 1, 1) := by decide +kernel
theorem dX3_copy_47 : decode cX3_copy 47 = .ok (.invokevirtual 63, 3) := by decide +kernel
theorem dX3_copy_50 : decode cX3_copy 50 = .ok (.ireturn, 1) := by decide +kernel
theorem dX3_copy_51 : decode cX3_copy 51 = .ok (.aload_n 0, 1) := by decide +kernel
theorem dX3_copy_52 : decode cX3_copy 52 = .ok (.getfield 13, 3) := by decide +kernel
theorem dX3_copy_55 : decode cX3_copy 55 = .ok (.iload_n 1, 1) := by decide +kernel
theorem dX3_copy_56 : decode cX3_copy 56 = .ok (.aaload, 1) := by decide +kernel
theorem dX3_copy_57 : decode cX3_copy 57 = .ok (.getfield 205, 3) := by decide +kernel
theorem dX3_copy_60 : decode cX3_copy 60 = .ok (.aload_n 0, 1) := by decide +kernel
theorem dX3_copy_61 : decode cX3_copy 61 = .ok (.getfield 13, 3) := by decide +kernel
theorem dX3_copy_64 : decode cX3_copy 64 = .ok (.iload_n 3, 1) := by decide +kernel
theorem dX3_copy_65 : decode cX3_copy 65 = .ok (.aaload, 1) := by decide +kernel
theorem dX3_copy_66 : decode cX3_copy 66 = .ok (.getfield 205, 3) := by decide +kernel
theorem dX3_copy_69 : decode cX3_copy 69 = .ok (.if_icmp .eq 9, 3) := by decide +kernel
theorem dX3_copy_72 : decode cX3_copy 72 = .ok (.aload_n 0, 1) := by decide +kernel
theorem dX3_copy_73 : decode cX3_copy 73 = .ok (.iconst 2, 1) := by decide +kernel
theorem dX3_copy_74 : decode cX3_copy 74 = .ok (.invokevirtual 63, 3) := by decide +kernel
theorem dX3_copy_77 : decode cX3_copy 77 = .ok (.ireturn, 1) := by decide +kernel
theorem dX3_copy_78 : decode cX3_copy 78 = .ok (.aload_n 0, 1) := by decide +kernel
theorem dX3_copy_79 : decode cX3_copy 79 = .ok (.getfield 13, 3) := by decide +kernel
theorem dX3_copy_82 : decode cX3_copy 82 = .ok (.iload_n 1, 1) := by decide +kernel
theorem dX3_copy_83 : decode cX3_copy 83 = .ok (.aaload, 1) := by decide +kernel
theorem dX3_copy_84 : decode cX3_copy 84 = .ok (.iload_n 2, 1) := by decide +kernel
theorem dX3_copy_85 : decode cX3_copy 85 = .ok (.iload 5, 2) := by decide +kernel
theorem dX3_copy_87 : decode cX3_copy 87 = .ok (.invokevirtual 59, 3) := by decide +kernel
theorem dX3_copy_90 : decode cX3_copy 90 = .ok (.ifCond .eq 19, 3) := by decide +kernel
theorem dX3_copy_93 : decode cX3_copy 93 = .ok (.aload_n 0, 1) := by decide +kernel
theorem dX3_copy_94 : decode cX3_copy 94 = .ok (.getfield 13, 3) := by decide +kernel
theorem dX3_copy_97 : decode cX3_copy 97 = .ok (.iload_n 3, 1) := by decide +kernel
theorem dX3_copy_98 : decode cX3_copy 98 = .ok (.aaload, 1) := by decide +kernel
theorem dX3_copy_99 : decode cX3_copy 99 = .ok (.iload 4, 2) := by decide +kernel
theorem dX3_copy_101 : decode cX3_copy 101 = .ok (.iload 5, 2) := by decide +kernel
theorem dX3_copy_103 : decode cX3_copy 103 = .ok (.invokevirtual 59, 3) := by decide +kernel
theorem dX3_copy_106 : decode cX3_copy 106 = .ok (.ifCond .ne 9, 3) := by decide +kernel
theorem dX3_copy_109 : decode cX3_copy 109 = .ok (.aload_n 0, 1) := by decide +kernel
theorem dX3_copy_110 : decode cX3_copy 110 = .ok (.iconst 3, 1) := by decide +kernel
theorem dX3_copy_111 : decode cX3_copy 111 = .ok (.invokevirtual 63, 3) := by decide +kernel
theorem dX3_copy_114 : decode cX3_copy 114 = .ok (.ireturn, 1) := by decide +kernel
theorem dX3_copy_115 : decode cX3_copy 115 = .ok (.aload_n 0, 1) := by decide +kernel
theorem dX3_copy_116 : decode cX3_copy 116 = .ok (.getfield 13, 3) := by decide +kernel
theorem dX3_copy_119 : decode cX3_copy 119 = .ok (.iload_n 1, 1) := by decide +kernel
theorem dX3_copy_120 : decode cX3_copy 120 = .ok (.aaload, 1) := by decide +kernel
theorem dX3_copy_121 : decode cX3_copy 121 = .ok (.getfield 202, 3) := by decide +kernel
theorem dX3_copy_124 : decode cX3_copy 124 = .ok (.iload_n 2, 1) := by decide +kernel
theorem dX3_copy_125 : decode cX3_copy 125 = .ok (.aload_n 0, 1) := by decide +kernel
theorem dX3_copy_126 : decode cX3_copy 126 = .ok (.getfield 13, 3) := by decide +kernel
theorem dX3_copy_129 : decode cX3_copy 129 = .ok (.iload_n 3, 1) := by decide +kernel
theorem dX3_copy_130 : decode cX3_copy 130 = .ok (.aaload, 1) := by decide +kernel
theorem dX3_copy_131 : decode cX3_copy 131 = .ok (.getfield 202, 3) := by decide +kernel
theorem dX3_copy_134 : decode cX3_copy 134 = .ok (.iload 4, 2) := by decide +kernel
theorem dX3_copy_136 : decode cX3_copy 136 = .ok (.iload 5, 2) := by decide +kernel
theorem dX3_copy_138 : decode cX3_copy 138 = .ok (.invokestatic 211, 3) := by decide +kernel
theorem dX3_copy_141 : decode cX3_copy 141 = .ok (.iload 5, 2) := by decide +kernel
theorem dX3_copy_143 : decode cX3_copy 143 = .ok (.ireturn, 1) := by decide +kernel
theorem dX3_tell_0 : decode cX3_tell 0 = .ok (.aload_n 0, 1) := by decide +kernel
theorem dX3_tell_1 : decode cX3_tell 1 = .ok (.iload_n 1, 1) := by decide +kernel
theorem dX3_tell_2 : decode cX3_tell 2 = .ok (.invokevirtual 80, 3) := by decide +kernel
theorem dX3_tell_5 : decode cX3_tell 5 = .ok (.ifCond .ne 5, 3) := by decide +kernel
theorem dX3_tell_8 : decode cX3_tell 8 = .ok (.iconst (-1), 1) := by decide +kernel
theorem dX3_tell_9 : decode cX3_tell 9 = .ok (.ireturn, 1) := by decide +kernel
theorem dX3_tell_10 : decode cX3_tell 10 = .ok (.aload_n 0, 1) := by decide +kernel
theorem dX3_tell_11 : decode cX3_tell 11 = .ok (.getfield 20, 3) := by decide +kernel
theorem dX3_tell_14 : decode cX3_tell 14 = .ok (.getfield 83, 3) := by decide +kernel
theorem dX3_tell_17 : decode cX3_tell 17 = .ok (.iload_n 1, 1) := by decide +kernel
theorem dX3_tell_18 : decode cX3_tell 18 = .ok (.iaload, 1) := by decide +kernel
theorem dX3_tell_19 : decode cX3_tell 19 = .ok (.lookupswitch 37 #[(1, 31), (2, 25)], 25) := by decide +kernel
theorem dX3_tell_44 : decode cX3_tell 44 = .ok (.aload_n 0, 1) := by decide +kernel
theorem dX3_tell_45 : decode cX3_tell 45 = .ok (.iload_n 1, 1) := by decide +kernel
theorem dX3_tell_46 : decode cX3_tell 46 = .ok (.invokevirtual 217, 3) := by decide +kernel
theorem dX3_tell_49 : decode cX3_tell 49 = .ok (.ireturn, 1) := by decide +kernel
theorem dX3_tell_50 : decode cX3_tell 50 = .ok (.aload_n 0, 1) := by decide +kernel
theorem dX3_tell_51 : decode cX3_tell 51 = .ok (.iload_n 1, 1) := by decide +kernel
theorem dX3_tell_52 : decode cX3_tell 52 = .ok (.invokevirtual 220, 3) := by decide +kernel
theorem dX3_tell_55 : decode cX3_tell 55 = .ok (.ireturn, 1) := by decide +kernel
theorem dX3_tell_56 : decode cX3_tell 56 = .ok (.aload_n 0, 1) := by decide +kernel
theorem dX3_tell_57 : decode cX3_tell 57 = .ok (.iload_n 1, 1) := by decide +kernel
theorem dX3_tell_58 : decode cX3_tell 58 = .ok (.invokevirtual 223, 3) := by decide +kernel
theorem dX3_tell_61 : decode cX3_tell 61 = .ok (.ireturn, 1) := by decide +kernel
theorem dX3_hail_0 : decode cX3_hail 0 = .ok (.aload_n 0, 1) := by decide +kernel
theorem dX3_hail_1 : decode cX3_hail 1 = .ok (.iload_n 1, 1) := by decide +kernel
theorem dX3_hail_2 : decode cX3_hail 2 = .ok (.invokevirtual 80, 3) := by decide +kernel
theorem dX3_hail_5 : decode cX3_hail 5 = .ok (.ifCond .ne 5, 3) := by decide +kernel
theorem dX3_hail_8 : decode cX3_hail 8 = .ok (.iconst (-1), 1) := by decide +kernel
theorem dX3_hail_9 : decode cX3_hail 9 = .ok (.ireturn, 1) := by decide +kernel
theorem dX3_hail_10 : decode cX3_hail 10 = .ok (.aload_n 0, 1) := by decide +kernel
theorem dX3_hail_11 : decode cX3_hail 11 = .ok (.getfield 20, 3) := by decide +kernel
theorem dX3_hail_14 : decode cX3_hail 14 = .ok (.getfield 83, 3) := by decide +kernel
theorem dX3_hail_17 : decode cX3_hail 17 = .ok (.iload_n 1, 1) := by decide +kernel
theorem dX3_hail_18 : decode cX3_hail 18 = .ok (.iaload, 1) := by decide +kernel
theorem dX3_hail_19 : decode cX3_hail 19 = .ok (.iconst 2, 1) := by decide +kernel
theorem dX3_hail_20 : decode cX3_hail 20 = .ok (.if_icmp .ne 11, 3) := by decide +kernel
theorem dX3_hail_23 : decode cX3_hail 23 = .ok (.aload_n 0, 1) := by decide +kernel
theorem dX3_hail_24 : decode cX3_hail 24 = .ok (.iconst 5, 1) := by decide +kernel
theorem dX3_hail_25 : decode cX3_hail 25 = .ok (.invokevirtual 226, 3) := by decide +kernel
theorem dX3_hail_28 : decode cX3_hail 28 = .ok (.bipush 90, 2) := by decide +kernel
theorem dX3_hail_30 : decode cX3_hail 30 = .ok (.ireturn, 1) := by decide +kernel
theorem dX3_hail_31 : decode cX3_hail 31 = .ok (.aload_n 0, 1) := by decide +kernel
theorem dX3_hail_32 : decode cX3_hail 32 = .ok (.iconst 4, 1) := by decide +kernel
theorem dX3_hail_33 : decode cX3_hail 33 = .ok (.invokevirtual 226, 3) := by decide +kernel
theorem dX3_hail_36 : decode cX3_hail 36 = .ok (.aload_n 0, 1) := by decide +kernel
theorem dX3_hail_37 : decode cX3_hail 37 = .ok (.getfield 20, 3) := by decide +kernel
theorem dX3_hail_40 : decode cX3_hail 40 = .ok (.getfield 93, 3) := by decide +kernel
theorem dX3_hail_43 : decode cX3_hail 43 = .ok (.iload_n 1, 1) := by decide +kernel
theorem dX3_hail_44 : decode cX3_hail 44 = .ok (.iaload, 1) := by decide +kernel
theorem dX3_hail_45 : decode cX3_hail 45 = .ok (.ireturn, 1) := by decide +kernel
theorem dX3_as_0 : decode cX3_as 0 = .ok (.aload_n 0, 1) := by decide +kernel
theorem dX3_as_1 : decode cX3_as 1 = .ok (.iconst 0, 1) := by decide +kernel
theorem dX3_as_2 : decode cX3_as 2 = .ok (.putfield 44, 3) := by decide +kernel
theorem dX3_as_5 : decode cX3_as 5 = .ok (.aload_n 0, 1) := by decide +kernel
theorem dX3_as_6 : decode cX3_as 6 = .ok (.iload_n 1, 1) := by decide +kernel
theorem dX3_as_7 : decode cX3_as 7 = .ok (.invokevirtual 80, 3) := by decide +kernel
theorem dX3_as_10 : decode cX3_as 10 = .ok (.ifCond .ne 5, 3) := by decide +kernel
theorem dX3_as_13 : decode cX3_as 13 = .ok (.iconst (-1), 1) := by decide +kernel
theorem dX3_as_14 : decode cX3_as 14 = .ok (.ireturn, 1) := by decide +kernel
theorem dX3_as_15 : decode cX3_as 15 = .ok (.iload_n 2, 1) := by decide +kernel
theorem dX3_as_16 : decode cX3_as 16 = .ok (.ifCond .lt 8, 3) := by decide +kernel
theorem dX3_as_19 : decode cX3_as 19 = .ok (.iload_n 2, 1) := by decide +kernel
theorem dX3_as_20 : decode cX3_as 20 = .ok (.iconst 2, 1) := by decide +kernel
theorem dX3_as_21 : decode cX3_as 21 = .ok (.if_icmp .le 6, 3) := by decide +kernel
theorem dX3_as_24 : decode cX3_as 24 = .ok (.bipush (-2), 2) := by decide +kernel
theorem dX3_as_26 : decode cX3_as 26 = .ok (.ireturn, 1) := by decide +kernel
theorem dX3_as_27 : decode cX3_as 27 = .ok (.aload_n 0, 1) := by decide +kernel
theorem dX3_as_28 : decode cX3_as 28 = .ok (.getfield 20, 3) := by decide +kernel
theorem dX3_as_31 : decode cX3_as 31 = .ok (.getfield 83, 3) := by decide +kernel
theorem dX3_as_34 : decode cX3_as 34 = .ok (.iload_n 1, 1) := by decide +kernel
theorem dX3_as_35 : decode cX3_as 35 = .ok (.iaload, 1) := by decide +kernel
theorem dX3_as_36 : decode cX3_as 36 = .ok (.iload_n 2, 1) := by decide +kernel
theorem dX3_as_37 : decode cX3_as 37 = .ok (.if_icmp .lt 7, 3) := by decide +kernel
theorem dX3_as_40 : decode cX3_as 40 = .ok (.iconst 1, 1) := by decide +kernel
theorem dX3_as_41 : decode cX3_as 41 = .ok (.goto 8, 3) := by decide +kernel
theorem dX3_as_44 : decode cX3_as 44 = .ok (.aload_n 0, 1) := by decide +kernel
theorem dX3_as_45 : decode cX3_as 45 = .ok (.iconst 2, 1) := by decide +kernel
theorem dX3_as_46 : decode cX3_as 46 = .ok (.invokevirtual 63, 3) := by decide +kernel
theorem dX3_as_49 : decode cX3_as 49 = .ok (.ireturn, 1) := by decide +kernel
theorem dX3_trace_0 : decode cX3_trace 0 = .ok (.aload_n 0, 1) := by decide +kernel
theorem dX3_trace_1 : decode cX3_trace 1 = .ok (.getfield 41, 3) := by decide +kernel
theorem dX3_trace_4 : decode cX3_trace 4 = .ok (.ireturn, 1) := by decide +kernel
theorem dX3_fault_0 : decode cX3_fault 0 = .ok (.aload_n 0, 1) := by decide +kernel
theorem dX3_fault_1 : decode cX3_fault 1 = .ok (.getfield 44, 3) := by decide +kernel
theorem dX3_fault_4 : decode cX3_fault 4 = .ok (.ireturn, 1) := by decide +kernel
theorem dX3_many_0 : decode cX3_many 0 = .ok (.iload_n 1, 1) := by decide +kernel
theorem dX3_many_1 : decode cX3_many 1 = .ok (.tableswitch 69 0 4 #[35, 43, 51, 56, 61], 35) := by decide +kernel
theorem dX3_many_36 : decode cX3_many 36 = .ok (.aload_n 0, 1) := by decide +kernel
theorem dX3_many_37 : decode cX3_many 37 = .ok (.getfield 20, 3) := by decide +kernel
theorem dX3_many_40 : decode cX3_many 40 = .ok (.getfield 168, 3) := by decide +kernel
theorem dX3_many_43 : decode cX3_many 43 = .ok (.ireturn, 1) := by decide +kernel
theorem dX3_many_44 : decode cX3_many 44 = .ok (.aload_n 0, 1) := by decide +kernel
theorem dX3_many_45 : decode cX3_many 45 = .ok (.getfield 20, 3) := by decide +kernel
theorem dX3_many_48 : decode cX3_many 48 = .ok (.getfield 77, 3) := by decide +kernel
theorem dX3_many_51 : decode cX3_many 51 = .ok (.ireturn, 1) := by decide +kernel
theorem dX3_many_52 : decode cX3_many 52 = .ok (.aload_n 0, 1) := by decide +kernel
theorem dX3_many_53 : decode cX3_many 53 = .ok (.getfield 34, 3) := by decide +kernel
theorem dX3_many_56 : decode cX3_many 56 = .ok (.ireturn, 1) := by decide +kernel
theorem dX3_many_57 : decode cX3_many 57 = .ok (.aload_n 0, 1) := by decide +kernel
theorem dX3_many_58 : decode cX3_many 58 = .ok (.getfield 38, 3) := by decide +kernel
theorem dX3_many_61 : decode cX3_many 61 = .ok (.ireturn, 1) := by decide +kernel
theorem dX3_many_62 : decode cX3_many 62 = .ok (.aload_n 0, 1) := by decide +kernel
theorem dX3_many_63 : decode cX3_many 63 = .ok (.getfield 30, 3) := by decide +kernel
theorem dX3_many_66 : decode cX3_many 66 = .ok (.getfield 74, 3) := by decide +kernel
theorem dX3_many_69 : decode cX3_many 69 = .ok (.ireturn, 1) := by decide +kernel
theorem dX3_many_70 : decode cX3_many 70 = .ok (.bipush (-2), 2) := by decide +kernel
theorem dX3_many_72 : decode cX3_many 72 = .ok (.ireturn, 1) := by decide +kernel
theorem dX3_isSheet_0 : decode cX3_isSheet 0 = .ok (.iload_n 0, 1) := by decide +kernel
theorem dX3_isSheet_1 : decode cX3_isSheet 1 = .ok (.ifCond .lt 12, 3) := by decide +kernel
theorem dX3_isSheet_4 : decode cX3_isSheet 4 = .ok (.iload_n 0, 1) := by decide +kernel
theorem dX3_isSheet_5 : decode cX3_isSheet 5 = .ok (.iconst 4, 1) := by decide +kernel
theorem dX3_isSheet_6 : decode cX3_isSheet 6 = .ok (.if_icmp .ge 7, 3) := by decide +kernel
theorem dX3_isSheet_9 : decode cX3_isSheet 9 = .ok (.iconst 1, 1) := by decide +kernel
theorem dX3_isSheet_10 : decode cX3_isSheet 10 = .ok (.goto 4, 3) := by decide +kernel
theorem dX3_isSheet_13 : decode cX3_isSheet 13 = .ok (.iconst 0, 1) := by decide +kernel
theorem dX3_isSheet_14 : decode cX3_isSheet 14 = .ok (.ireturn, 1) := by decide +kernel
theorem dX3_isLane_0 : decode cX3_isLane 0 = .ok (.iload_n 0, 1) := by decide +kernel
theorem dX3_isLane_1 : decode cX3_isLane 1 = .ok (.ifCond .lt 12, 3) := by decide +kernel
theorem dX3_isLane_4 : decode cX3_isLane 4 = .ok (.iload_n 0, 1) := by decide +kernel
theorem dX3_isLane_5 : decode cX3_isLane 5 = .ok (.iconst 2, 1) := by decide +kernel
theorem dX3_isLane_6 : decode cX3_isLane 6 = .ok (.if_icmp .gt 7, 3) := by decide +kernel
theorem dX3_isLane_9 : decode cX3_isLane 9 = .ok (.iconst 1, 1) := by decide +kernel
theorem dX3_isLane_10 : decode cX3_isLane 10 = .ok (.goto 4, 3) := by decide +kernel
theorem dX3_isLane_13 : decode cX3_isLane 13 = .ok (.iconst 0, 1) := by decide +kernel
theorem dX3_isLane_14 : decode cX3_isLane 14 = .ok (.ireturn, 1) := by decide +kernel
theorem dX3_hasCounty_0 : decode cX3_hasCounty 0 = .ok (.aload_n 0, 1) := by decide +kernel
theorem dX3_hasCounty_1 : decode cX3_hasCounty 1 = .ok (.getfield 20, 3) := by decide +kernel
theorem dX3_hasCounty_4 : decode cX3_hasCounty 4 = .ok (.getfield 168, 3) := by decide +kernel
theorem dX3_hasCounty_7 : decode cX3_hasCounty 7 = .ok (.ifCond .le 7, 3) := by decide +kernel
theorem dX3_hasCounty_10 : decode cX3_hasCounty 10 = .ok (.iconst 1, 1) := by decide +kernel
theorem dX3_hasCounty_11 : decode cX3_hasCounty 11 = .ok (.goto 4, 3) := by decide +kernel
theorem dX3_hasCounty_14 : decode cX3_hasCounty 14 = .ok (.iconst 0, 1) := by decide +kernel
theorem dX3_hasCounty_15 : decode cX3_hasCounty 15 = .ok (.ireturn, 1) := by decide +kernel
theorem dX3_isGoer_0 : decode cX3_isGoer 0 = .ok (.iload_n 1, 1) := by decide +kernel
theorem dX3_isGoer_1 : decode cX3_isGoer 1 = .ok (.ifCond .lt 18, 3) := by decide +kernel
theorem dX3_isGoer_4 : decode cX3_isGoer 4 = .ok (.iload_n 1, 1) := by decide +kernel
theorem dX3_isGoer_5 : decode cX3_isGoer 5 = .ok (.aload_n 0, 1) := by decide +kernel
theorem dX3_isGoer_6 : decode cX3_isGoer 6 = .ok (.getfield 20, 3) := by decide +kernel
theorem dX3_isGoer_9 : decode cX3_isGoer 9 = .ok (.getfield 77, 3) := by decide +kernel
theorem dX3_isGoer_12 : decode cX3_isGoer 12 = .ok (.if_icmp .ge 7, 3) := by decide +kernel
theorem dX3_isGoer_15 : decode cX3_isGoer 15 = .ok (.iconst 1, 1) := by decide +kernel
theorem dX3_isGoer_16 : decode cX3_isGoer 16 = .ok (.goto 4, 3) := by decide +kernel
theorem dX3_isGoer_19 : decode cX3_isGoer 19 = .ok (.iconst 0, 1) := by decide +kernel
theorem dX3_isGoer_20 : decode cX3_isGoer 20 = .ok (.ireturn, 1) := by decide +kernel
theorem dX3_isField_0 : decode cX3_isField 0 = .ok (.iload_n 1, 1) := by decide +kernel
theorem dX3_isField_1 : decode cX3_isField 1 = .ok (.ifCond .lt 18, 3) := by decide +kernel
theorem dX3_isField_4 : decode cX3_isField 4 = .ok (.iload_n 1, 1) := by decide +kernel
theorem dX3_isField_5 : decode cX3_isField 5 = .ok (.aload_n 0, 1) := by decide +kernel
theorem dX3_isField_6 : decode cX3_isField 6 = .ok (.getfield 20, 3) := by decide +kernel
theorem dX3_isField_9 : decode cX3_isField 9 = .ok (.getfield 168, 3) := by decide +kernel
theorem dX3_isField_12 : decode cX3_isField 12 = .ok (.if_icmp .ge 7, 3) := by decide +kernel
theorem dX3_isField_15 : decode cX3_isField 15 = .ok (.iconst 1, 1) := by decide +kernel
theorem dX3_isField_16 : decode cX3_isField 16 = .ok (.goto 4, 3) := by decide +kernel
theorem dX3_isField_19 : decode cX3_isField 19 = .ok (.iconst 0, 1) := by decide +kernel
theorem dX3_isField_20 : decode cX3_isField 20 = .ok (.ireturn, 1) := by decide +kernel
theorem dX3_areTwoFields_0 : decode cX3_areTwoFields 0 = .ok (.aload_n 0, 1) := by decide +kernel
theorem dX3_areTwoFields_1 : decode cX3_areTwoFields 1 = .ok (.iload_n 1, 1) := by decide +kernel
theorem dX3_areTwoFields_2 : decode cX3_areTwoFields 2 = .ok (.invokevirtual 112, 3) := by decide +kernel
theorem dX3_areTwoFields_5 : decode cX3_areTwoFields 5 = .ok (.ifCond .eq 20, 3) := by decide +kernel
theorem dX3_areTwoFields_8 : decode cX3_areTwoFields 8 = .ok (.aload_n 0, 1) := by decide +kernel
theorem dX3_areTwoFields_9 : decode cX3_areTwoFields 9 = .ok (.iload_n 2, 1) := by decide +kernel
theorem dX3_areTwoFields_10 : decode cX3_areTwoFields 10 = .ok (.invokevirtual 112, 3) := by decide +kernel
theorem dX3_areTwoFields_13 : decode cX3_areTwoFields 13 = .ok (.ifCond .eq 12, 3) := by decide +kernel
theorem dX3_areTwoFields_16 : decode cX3_areTwoFields 16 = .ok (.iload_n 1, 1) := by decide +kernel
theorem dX3_areTwoFields_17 : decode cX3_areTwoFields 17 = .ok (.iload_n 2, 1) := by decide +kernel
theorem dX3_areTwoFields_18 : decode cX3_areTwoFields 18 = .ok (.if_icmp .eq 7, 3) := by decide +kernel
theorem dX3_areTwoFields_21 : decode cX3_areTwoFields 21 = .ok (.iconst 1, 1) := by decide +kernel
theorem dX3_areTwoFields_22 : decode cX3_areTwoFields 22 = .ok (.goto 4, 3) := by decide +kernel
theorem dX3_areTwoFields_25 : decode cX3_areTwoFields 25 = .ok (.iconst 0, 1) := by decide +kernel
theorem dX3_areTwoFields_26 : decode cX3_areTwoFields 26 = .ok (.ireturn, 1) := by decide +kernel
theorem dX3_isAskedOfSeason_0 : decode cX3_isAskedOfSeason 0 = .ok (.iload_n 0, 1) := by decide +kernel
theorem dX3_isAskedOfSeason_1 : decode cX3_isAskedOfSeason 1 = .ok (.ifCond .lt 8, 3) := by decide +kernel
theorem dX3_isAskedOfSeason_4 : decode cX3_isAskedOfSeason 4 = .ok (.iload_n 0, 1) := by decide +kernel
theorem dX3_isAskedOfSeason_5 : decode cX3_isAskedOfSeason 5 = .ok (.iconst 4, 1) := by decide +kernel
theorem dX3_isAskedOfSeason_6 : decode cX3_isAskedOfSeason 6 = .ok (.if_icmp .le 15, 3) := by decide +kernel
theorem dX3_isAskedOfSeason_9 : decode cX3_isAskedOfSeason 9 = .ok (.iload_n 0, 1) := by decide +kernel
theorem dX3_isAskedOfSeason_10 : decode cX3_isAskedOfSeason 10 = .ok (.bipush 10, 2) := by decide +kernel
theorem dX3_isAskedOfSeason_12 : decode cX3_isAskedOfSeason 12 = .ok (.if_icmp .lt 13, 3) := by decide +kernel
theorem dX3_isAskedOfSeason_15 : decode cX3_isAskedOfSeason 15 = .ok (.iload_n 0, 1) := by decide +kernel
theorem dX3_isAskedOfSeason_16 : decode cX3_isAskedOfSeason 16 = .ok (.bipush 15, 2) := by decide +kernel
theorem dX3_isAskedOfSeason_18 : decode cX3_isAskedOfSeason 18 = .ok (.if_icmp .ge 7, 3) := by decide +kernel
theorem dX3_isAskedOfSeason_21 : decode cX3_isAskedOfSeason 21 = .ok (.iconst 1, 1) := by decide +kernel
theorem dX3_isAskedOfSeason_22 : decode cX3_isAskedOfSeason 22 = .ok (.goto 4, 3) := by decide +kernel
theorem dX3_isAskedOfSeason_25 : decode cX3_isAskedOfSeason 25 = .ok (.iconst 0, 1) := by decide +kernel
theorem dX3_isAskedOfSeason_26 : decode cX3_isAskedOfSeason 26 = .ok (.ireturn, 1) := by decide +kernel
theorem dX3_isIn_0 : decode cX3_isIn 0 = .ok (.iload_n 0, 1) := by decide +kernel
theorem dX3_isIn_1 : decode cX3_isIn 1 = .ok (.iload_n 1, 1) := by decide +kernel
theorem dX3_isIn_2 : decode cX3_isIn 2 = .ok (.ishr, 1) := by decide +kernel
theorem dX3_isIn_3 : decode cX3_isIn 3 = .ok (.iconst 1, 1) := by decide +kernel
theorem dX3_isIn_4 : decode cX3_isIn 4 = .ok (.iand, 1) := by decide +kernel
theorem dX3_isIn_5 : decode cX3_isIn 5 = .ok (.iconst 1, 1) := by decide +kernel
theorem dX3_isIn_6 : decode cX3_isIn 6 = .ok (.if_icmp .ne 7, 3) := by decide +kernel
theorem dX3_isIn_9 : decode cX3_isIn 9 = .ok (.iconst 1, 1) := by decide +kernel
theorem dX3_isIn_10 : decode cX3_isIn 10 = .ok (.goto 4, 3) := by decide +kernel
theorem dX3_isIn_13 : decode cX3_isIn 13 = .ok (.iconst 0, 1) := by decide +kernel
theorem dX3_isIn_14 : decode cX3_isIn 14 = .ok (.ireturn, 1) := by decide +kernel
theorem dX3_failed_0 : decode cX3_failed 0 = .ok (.aload_n 0, 1) := by decide +kernel
theorem dX3_failed_1 : decode cX3_failed 1 = .ok (.iload_n 1, 1) := by decide +kernel
theorem dX3_failed_2 : decode cX3_failed 2 = .ok (.putfield 44, 3) := by decide +kernel
theorem dX3_failed_5 : decode cX3_failed 5 = .ok (.bipush (-10), 2) := by decide +kernel
theorem dX3_failed_7 : decode cX3_failed 7 = .ok (.iload_n 1, 1) := by decide +kernel
theorem dX3_failed_8 : decode cX3_failed 8 = .ok (.isub, 1) := by decide +kernel
theorem dX3_failed_9 : decode cX3_failed 9 = .ok (.ireturn, 1) := by decide +kernel
theorem dX3_firstFaultOfText_0 : decode cX3_firstFaultOfText 0 = .ok (.aload_n 0, 1) := by decide +kernel
theorem dX3_firstFaultOfText_1 : decode cX3_firstFaultOfText 1 = .ok (.getfield 24, 3) := by decide +kernel
theorem dX3_firstFaultOfText_4 : decode cX3_firstFaultOfText 4 = .ok (.invokevirtual 229, 3) := by decide +kernel
theorem dX3_firstFaultOfText_7 : decode cX3_firstFaultOfText 7 = .ok (.iconst 0, 1) := by decide +kernel
theorem dX3_firstFaultOfText_8 : decode cX3_firstFaultOfText 8 = .ok (.istore 4, 2) := by decide +kernel
theorem dX3_firstFaultOfText_10 : decode cX3_firstFaultOfText 10 = .ok (.iload 4, 2) := by decide +kernel
theorem dX3_firstFaultOfText_12 : decode cX3_firstFaultOfText 12 = .ok (.iload_n 3, 1) := by decide +kernel
theorem dX3_firstFaultOfText_13 : decode cX3_firstFaultOfText 13 = .ok (.if_icmp .ge 33, 3) := by decide +kernel
theorem dX3_firstFaultOfText_16 : decode cX3_firstFaultOfText 16 = .ok (.aload_n 0, 1) := by decide +kernel
theorem dX3_firstFaultOfText_17 : decode cX3_firstFaultOfText 17 = .ok (.getfield 24, 3) := by decide +kernel
theorem dX3_firstFaultOfText_20 : decode cX3_firstFaultOfText 20 = .ok (.iload 4, 2) := by decide +kernel
theorem dX3_firstFaultOfText_22 : decode cX3_firstFaultOfText 22 = .ok (.aload_n 1, 1) := by decide +kernel
theorem dX3_firstFaultOfText_23 : decode cX3_firstFaultOfText 23 = .ok (.getfield 202, 3) := by decide +kernel
theorem dX3_firstFaultOfText_26 : decode cX3_firstFaultOfText 26 = .ok (.iload_n 2, 1) := by decide +kernel
theorem dX3_firstFaultOfText_27 : decode cX3_firstFaultOfText 27 = .ok (.iload 4, 2) := by decide +kernel
theorem dX3_firstFaultOfText_29 : decode cX3_firstFaultOfText 29 = .ok (.iadd, 1) := by decide +kernel
theorem dX3_firstFaultOfText_30 : decode cX3_firstFaultOfText 30 = .ok (.iaload, 1) := by decide +kernel
theorem dX3_firstFaultOfText_31 : decode cX3_firstFaultOfText 31 = .ok (.invokevirtual 232, 3) := by decide +kernel
theorem dX3_firstFaultOfText_34 : decode cX3_firstFaultOfText 34 = .ok (.ifCond .ne 6, 3) := by decide +kernel
theorem dX3_firstFaultOfText_37 : decode cX3_firstFaultOfText 37 = .ok (.iload 4, 2) := by decide +kernel
theorem dX3_firstFaultOfText_39 : decode cX3_firstFaultOfText 39 = .ok (.ireturn, 1) := by decide +kernel
theorem dX3_firstFaultOfText_40 : decode cX3_firstFaultOfText 40 = .ok (.iinc 4 1, 3) := by decide +kernel
theorem dX3_firstFaultOfText_43 : decode cX3_firstFaultOfText 43 = .ok (.goto (-33), 3) := by decide +kernel
theorem dX3_firstFaultOfText_46 : decode cX3_firstFaultOfText 46 = .ok (.aload_n 0, 1) := by decide +kernel
theorem dX3_firstFaultOfText_47 : decode cX3_firstFaultOfText 47 = .ok (.getfield 24, 3) := by decide +kernel
theorem dX3_firstFaultOfText_50 : decode cX3_firstFaultOfText 50 = .ok (.iload_n 3, 1) := by decide +kernel
theorem dX3_firstFaultOfText_51 : decode cX3_firstFaultOfText 51 = .ok (.invokevirtual 235, 3) := by decide +kernel
theorem dX3_firstFaultOfText_54 : decode cX3_firstFaultOfText 54 = .ok (.ifCond .eq 8, 3) := by decide +kernel
theorem dX3_firstFaultOfText_57 : decode cX3_firstFaultOfText 57 = .ok (.bipush (-9), 2) := by decide +kernel
theorem dX3_firstFaultOfText_59 : decode cX3_firstFaultOfText 59 = .ok (.goto 4, 3) := by decide +kernel
theorem dX3_firstFaultOfText_62 : decode cX3_firstFaultOfText 62 = .ok (.iload_n 3, 1) := by decide +kernel
theorem dX3_firstFaultOfText_63 : decode cX3_firstFaultOfText 63 = .ok (.ireturn, 1) := by decide +kernel
theorem dX3_refusalOfPairs_0 : decode cX3_refusalOfPairs 0 = .ok (.iconst 0, 1) := by decide +kernel
theorem dX3_refusalOfPairs_1 : decode cX3_refusalOfPairs 1 = .ok (.istore 4, 2) := by decide +kernel
theorem dX3_refusalOfPairs_3 : decode cX3_refusalOfPairs 3 = .ok (.iload 4, 2) := by decide +kernel
theorem dX3_refusalOfPairs_5 : decode cX3_refusalOfPairs 5 = .ok (.iload_n 3, 1) := by decide +kernel
theorem dX3_refusalOfPairs_6 : decode cX3_refusalOfPairs 6 = .ok (.if_icmp .ge 91, 3) := by decide +kernel
theorem dX3_refusalOfPairs_9 : decode cX3_refusalOfPairs 9 = .ok (.aload_n 1, 1) := by decide +kernel
theorem dX3_refusalOfPairs_10 : decode cX3_refusalOfPairs 10 = .ok (.getfield 202, 3) := by decide +kernel
theorem dX3_refusalOfPairs_13 : decode cX3_refusalOfPairs 13 = .ok (.iload_n 2, 1) := by decide +kernel
theorem dX3_refusalOfPairs_14 : decode cX3_refusalOfPairs 14 = .ok (.iconst 2, 1) := by decide +kernel
theorem dX3_refusalOfPairs_15 : decode cX3_refusalOfPairs 15 = .ok (.iload 4, 2) := by decide +kernel
theorem dX3_refusalOfPairs_17 : decode cX3_refusalOfPairs 17 = .ok (.imul, 1) := by decide +kernel
theorem dX3_refusalOfPairs_18 : decode cX3_refusalOfPairs 18 = .ok (.iadd, 1) := by decide +kernel
theorem dX3_refusalOfPairs_19 : decode cX3_refusalOfPairs 19 = .ok (.iaload, 1) := by decide +kernel
theorem dX3_refusalOfPairs_20 : decode cX3_refusalOfPairs 20 = .ok (.istore 5, 2) := by decide +kernel
theorem dX3_refusalOfPairs_22 : decode cX3_refusalOfPairs 22 = .ok (.aload_n 1, 1) := by decide +kernel
theorem dX3_refusalOfPairs_23 : decode cX3_refusalOfPairs 23 = .ok (.getfield 202, 3) := by decide +kernel
theorem dX3_refusalOfPairs_26 : decode cX3_refusalOfPairs 26 = .ok (.iload_n 2, 1) := by decide +kernel
theorem dX3_refusalOfPairs_27 : decode cX3_refusalOfPairs 27 = .ok (.iconst 2, 1) := by decide +kernel
theorem dX3_refusalOfPairs_28 : decode cX3_refusalOfPairs 28 = .ok (.iload 4, 2) := by decide +kernel
theorem dX3_refusalOfPairs_30 : decode cX3_refusalOfPairs 30 = .ok (.imul, 1) := by decide +kernel
theorem dX3_refusalOfPairs_31 : decode cX3_refusalOfPairs 31 = .ok (.iadd, 1) := by decide +kernel
theorem dX3_refusalOfPairs_32 : decode cX3_refusalOfPairs 32 = .ok (.iconst 1, 1) := by decide +kernel
theorem dX3_refusalOfPairs_33 : decode cX3_refusalOfPairs 33 = .ok (.iadd, 1) := by decide +kernel
theorem dX3_refusalOfPairs_34 : decode cX3_refusalOfPairs 34 = .ok (.iaload, 1) := by decide +kernel
theorem dX3_refusalOfPairs_35 : decode cX3_refusalOfPairs 35 = .ok (.istore 6, 2) := by decide +kernel
theorem dX3_refusalOfPairs_37 : decode cX3_refusalOfPairs 37 = .ok (.iload 6, 2) := by decide +kernel
theorem dX3_refusalOfPairs_39 : decode cX3_refusalOfPairs 39 = .ok (.bipush 10, 2) := by decide +kernel
theorem dX3_refusalOfPairs_41 : decode cX3_refusalOfPairs 41 = .ok (.if_icmp .eq 10, 3) := by decide +kernel
theorem dX3_refusalOfPairs_44 : decode cX3_refusalOfPairs 44 = .ok (.iload 6, 2) := by decide +kernel
theorem dX3_refusalOfPairs_46 : decode cX3_refusalOfPairs 46 = .ok (.bipush 20, 2) := by decide +kernel
theorem dX3_refusalOfPairs_48 : decode cX3_refusalOfPairs 48 = .ok (.if_icmp .ne 18, 3) := by decide +kernel
theorem dX3_refusalOfPairs_51 : decode cX3_refusalOfPairs 51 = .ok (.iload 5, 2) := by decide +kernel
theorem dX3_refusalOfPairs_53 : decode cX3_refusalOfPairs 53 = .ok (.ifCond .lt 10, 3) := by decide +kernel
theorem dX3_refusalOfPairs_56 : decode cX3_refusalOfPairs 56 = .ok (.iload 5, 2) := by decide +kernel
theorem dX3_refusalOfPairs_58 : decode cX3_refusalOfPairs 58 = .ok (.bipush 9, 2) := by decide +kernel
theorem dX3_refusalOfPairs_60 : decode cX3_refusalOfPairs 60 = .ok (.if_icmp .le 31, 3) := by decide +kernel
theorem dX3_refusalOfPairs_63 : decode cX3_refusalOfPairs 63 = .ok (.bipush (-2), 2) := by decide +kernel
theorem dX3_refusalOfPairs_65 : decode cX3_refusalOfPairs 65 = .ok (.ireturn, 1) := by decide +kernel
theorem dX3_refusalOfPairs_66 : decode cX3_refusalOfPairs 66 = .ok (.iload 6, 2) := by decide +kernel
theorem dX3_refusalOfPairs_68 : decode cX3_refusalOfPairs 68 = .ok (.ifCond .lt 9, 3) := by decide +kernel
theorem dX3_refusalOfPairs_71 : decode cX3_refusalOfPairs 71 = .ok (.iload 6, 2) := by decide +kernel
theorem dX3_refusalOfPairs_73 : decode cX3_refusalOfPairs 73 = .ok (.iconst 5, 1) := by decide +kernel
theorem dX3_refusalOfPairs_74 : decode cX3_refusalOfPairs 74 = .ok (.if_icmp .lt 6, 3) := by decide +kernel
theorem dX3_refusalOfPairs_77 : decode cX3_refusalOfPairs 77 = .ok (.bipush (-2), 2) := by decide +kernel
theorem dX3_refusalOfPairs_79 : decode cX3_refusalOfPairs 79 = .ok (.ireturn, 1) := by decide +kernel
theorem dX3_refusalOfPairs_80 : decode cX3_refusalOfPairs 80 = .ok (.aload_n 0, 1) := by decide +kernel
theorem dX3_refusalOfPairs_81 : decode cX3_refusalOfPairs 81 = .ok (.iload 5, 2) := by decide +kernel
theorem dX3_refusalOfPairs_83 : decode cX3_refusalOfPairs 83 = .ok (.invokevirtual 80, 3) := by decide +kernel
theorem dX3_refusalOfPairs_86 : decode cX3_refusalOfPairs 86 = .ok (.ifCond .ne 5, 3) := by decide +kernel
theorem dX3_refusalOfPairs_89 : decode cX3_refusalOfPairs 89 = .ok (.iconst (-1), 1) := by decide +kernel
theorem dX3_refusalOfPairs_90 : decode cX3_refusalOfPairs 90 = .ok (.ireturn, 1) := by decide +kernel
theorem dX3_refusalOfPairs_91 : decode cX3_refusalOfPairs 91 = .ok (.iinc 4 1, 3) := by decide +kernel
theorem dX3_refusalOfPairs_94 : decode cX3_refusalOfPairs 94 = .ok (.goto (-91), 3) := by decide +kernel
theorem dX3_refusalOfPairs_97 : decode cX3_refusalOfPairs 97 = .ok (.iconst 0, 1) := by decide +kernel
theorem dX3_refusalOfPairs_98 : decode cX3_refusalOfPairs 98 = .ok (.ireturn, 1) := by decide +kernel
theorem dX3_firstWrongOfSeason_0 : decode cX3_firstWrongOfSeason 0 = .ok (.aload_n 0, 1) := by decide +kernel
theorem dX3_firstWrongOfSeason_1 : decode cX3_firstWrongOfSeason 1 = .ok (.getfield 24, 3) := by decide +kernel
theorem dX3_firstWrongOfSeason_4 : decode cX3_firstWrongOfSeason 4 = .ok (.aload_n 0, 1) := by decide +kernel
theorem dX3_firstWrongOfSeason_5 : decode cX3_firstWrongOfSeason 5 = .ok (.getfield 20, 3) := by decide +kernel
theorem dX3_firstWrongOfSeason_8 : decode cX3_firstWrongOfSeason 8 = .ok (.invokevirtual 70, 3) := by decide +kernel
theorem dX3_firstWrongOfSeason_11 : decode cX3_firstWrongOfSeason 11 = .ok (.iconst 0, 1) := by decide +kernel
theorem dX3_firstWrongOfSeason_12 : decode cX3_firstWrongOfSeason 12 = .ok (.istore 4, 2) := by decide +kernel
theorem dX3_firstWrongOfSeason_14 : decode cX3_firstWrongOfSeason 14 = .ok (.iload 4, 2) := by decide +kernel
theorem dX3_firstWrongOfSeason_16 : decode cX3_firstWrongOfSeason 16 = .ok (.iload_n 3, 1) := by decide +kernel
theorem dX3_firstWrongOfSeason_17 : decode cX3_firstWrongOfSeason 17 = .ok (.if_icmp .ge 46, 3) := by decide +kernel
theorem dX3_firstWrongOfSeason_20 : decode cX3_firstWrongOfSeason 20 = .ok (.aload_n 0, 1) := by decide +kernel
theorem dX3_firstWrongOfSeason_21 : decode cX3_firstWrongOfSeason 21 = .ok (.getfield 24, 3) := by decide +kernel
theorem dX3_firstWrongOfSeason_24 : decode cX3_firstWrongOfSeason 24 = .ok (.aload_n 1, 1) := by decide +kernel
theorem dX3_firstWrongOfSeason_25 : decode cX3_firstWrongOfSeason 25 = .ok (.getfield 202, 3) := by decide +kernel
theorem dX3_firstWrongOfSeason_28 : decode cX3_firstWrongOfSeason 28 = .ok (.iload_n 2, 1) := by decide +kernel
theorem dX3_firstWrongOfSeason_29 : decode cX3_firstWrongOfSeason 29 = .ok (.iconst 2, 1) := by decide +kernel
theorem dX3_firstWrongOfSeason_30 : decode cX3_firstWrongOfSeason 30 = .ok (.iload 4, 2) := by decide +kernel
theorem dX3_firstWrongOfSeason_32 : decode cX3_firstWrongOfSeason 32 = .ok (.imul, 1) := by decide +kernel
theorem dX3_firstWrongOfSeason_33 : decode cX3_firstWrongOfSeason 33 = .ok (.iadd, 1) := by decide +kernel
theorem dX3_firstWrongOfSeason_34 : decode cX3_firstWrongOfSeason 34 = .ok (.iaload, 1) := by decide +kernel
theorem dX3_firstWrongOfSeason_35 : decode cX3_firstWrongOfSeason 35 = .ok (.aload_n 1, 1) := by decide +kernel
theorem dX3_firstWrongOfSeason_36 : decode cX3_firstWrongOfSeason 36 = .ok (.getfield 202, 3) := by decide +kernel
theorem dX3_firstWrongOfSeason_39 : decode cX3_firstWrongOfSeason 39 = .ok (.iload_n 2, 1) := by decide +kernel
theorem dX3_firstWrongOfSeason_40 : decode cX3_firstWrongOfSeason 40 = .ok (.iconst 2, 1) := by decide +kernel
theorem dX3_firstWrongOfSeason_41 : decode cX3_firstWrongOfSeason 41 = .ok (.iload 4, 2) := by decide +kernel
theorem dX3_firstWrongOfSeason_43 : decode cX3_firstWrongOfSeason 43 = .ok (.imul, 1) := by decide +kernel
theorem dX3_firstWrongOfSeason_44 : decode cX3_firstWrongOfSeason 44 = .ok (.iadd, 1) := by decide +kernel
theorem dX3_firstWrongOfSeason_45 : decode cX3_firstWrongOfSeason 45 = .ok (.iconst 1, 1) := by decide +kernel
theorem dX3_firstWrongOfSeason_46 : decode cX3_firstWrongOfSeason 46 = .ok (.iadd, 1) := by decide +kernel
theorem dX3_firstWrongOfSeason_47 : decode cX3_firstWrongOfSeason 47 = .ok (.iaload, 1) := by decide +kernel
theorem dX3_firstWrongOfSeason_48 : decode cX3_firstWrongOfSeason 48 = .ok (.invokevirtual 238, 3) := by decide +kernel
theorem dX3_firstWrongOfSeason_51 : decode cX3_firstWrongOfSeason 51 = .ok (.ifCond .ne 6, 3) := by decide +kernel
theorem dX3_firstWrongOfSeason_54 : decode cX3_firstWrongOfSeason 54 = .ok (.iload 4, 2) := by decide +kernel
theorem dX3_firstWrongOfSeason_56 : decode cX3_firstWrongOfSeason 56 = .ok (.ireturn, 1) := by decide +kernel
theorem dX3_firstWrongOfSeason_57 : decode cX3_firstWrongOfSeason 57 = .ok (.iinc 4 1, 3) := by decide +kernel
theorem dX3_firstWrongOfSeason_60 : decode cX3_firstWrongOfSeason 60 = .ok (.goto (-46), 3) := by decide +kernel
theorem dX3_firstWrongOfSeason_63 : decode cX3_firstWrongOfSeason 63 = .ok (.bipush (-9), 2) := by decide +kernel
theorem dX3_firstWrongOfSeason_65 : decode cX3_firstWrongOfSeason 65 = .ok (.ireturn, 1) := by decide +kernel
theorem dX3_goingsTold_0 : decode cX3_goingsTold 0 = .ok (.iconst 0, 1) := by decide +kernel
theorem dX3_goingsTold_1 : decode cX3_goingsTold 1 = .ok (.istore_n 3, 1) := by decide +kernel
theorem dX3_goingsTold_2 : decode cX3_goingsTold 2 = .ok (.iconst 0, 1) := by decide +kernel
theorem dX3_goingsTold_3 : decode cX3_goingsTold 3 = .ok (.istore 4, 2) := by decide +kernel
theorem dX3_goingsTold_5 : decode cX3_goingsTold 5 = .ok (.iload 4, 2) := by decide +kernel
theorem dX3_goingsTold_7 : decode cX3_goingsTold 7 = .ok (.iload_n 2, 1) := by decide +kernel
theorem dX3_goingsTold_8 : decode cX3_goingsTold 8 = .ok (.if_icmp .ge 34, 3) := by decide +kernel
theorem dX3_goingsTold_11 : decode cX3_goingsTold 11 = .ok (.iload_n 3, 1) := by decide +kernel
theorem dX3_goingsTold_12 : decode cX3_goingsTold 12 = .ok (.aload_n 0, 1) := by decide +kernel
theorem dX3_goingsTold_13 : decode cX3_goingsTold 13 = .ok (.getfield 202, 3) := by decide +kernel
theorem dX3_goingsTold_16 : decode cX3_goingsTold 16 = .ok (.iload_n 1, 1) := by decide +kernel
theorem dX3_goingsTold_17 : decode cX3_goingsTold 17 = .ok (.iconst 2, 1) := by decide +kernel
theorem dX3_goingsTold_18 : decode cX3_goingsTold 18 = .ok (.iload 4, 2) := by decide +kernel
theorem dX3_goingsTold_20 : decode cX3_goingsTold 20 = .ok (.imul, 1) := by decide +kernel
theorem dX3_goingsTold_21 : decode cX3_goingsTold 21 = .ok (.iadd, 1) := by decide +kernel
theorem dX3_goingsTold_22 : decode cX3_goingsTold 22 = .ok (.iconst 1, 1) := by decide +kernel
theorem dX3_goingsTold_23 : decode cX3_goingsTold 23 = .ok (.iadd, 1) := by decide +kernel
theorem dX3_goingsTold_24 : decode cX3_goingsTold 24 = .ok (.iaload, 1) := by decide +kernel
theorem dX3_goingsTold_25 : decode cX3_goingsTold 25 = .ok (.iconst 5, 1) := by decide +kernel
theorem dX3_goingsTold_26 : decode cX3_goingsTold 26 = .ok (.if_icmp .ge 7, 3) := by decide +kernel
theorem dX3_goingsTold_29 : decode cX3_goingsTold 29 = .ok (.iconst 1, 1) := by decide +kernel
theorem dX3_goingsTold_30 : decode cX3_goingsTold 30 = .ok (.goto 4, 3) := by decide +kernel
theorem dX3_goingsTold_33 : decode cX3_goingsTold 33 = .ok (.iconst 0, 1) := by decide +kernel
theorem dX3_goingsTold_34 : decode cX3_goingsTold 34 = .ok (.iadd, 1) := by decide +kernel
theorem dX3_goingsTold_35 : decode cX3_goingsTold 35 = .ok (.istore_n 3, 1) := by decide +kernel
theorem dX3_goingsTold_36 : decode cX3_goingsTold 36 = .ok (.iinc 4 1, 3) := by decide +kernel
theorem dX3_goingsTold_39 : decode cX3_goingsTold 39 = .ok (.goto (-34), 3) := by decide +kernel
theorem dX3_goingsTold_42 : decode cX3_goingsTold 42 = .ok (.iload_n 3, 1) := by decide +kernel
theorem dX3_goingsTold_43 : decode cX3_goingsTold 43 = .ok (.ireturn, 1) := by decide +kernel
theorem dX3_ofTrial_0 : decode cX3_ofTrial 0 = .ok (.iload_n 1, 1) := by decide +kernel
theorem dX3_ofTrial_1 : decode cX3_ofTrial 1 = .ok (.tableswitch 59 0 4 #[35, 59, 43, 59, 51], 35) := by decide +kernel
theorem dX3_ofTrial_36 : decode cX3_ofTrial 36 = .ok (.aload_n 0, 1) := by decide +kernel
theorem dX3_ofTrial_37 : decode cX3_ofTrial 37 = .ok (.getfield 24, 3) := by decide +kernel
theorem dX3_ofTrial_40 : decode cX3_ofTrial 40 = .ok (.invokevirtual 130, 3) := by decide +kernel
theorem dX3_ofTrial_43 : decode cX3_ofTrial 43 = .ok (.ireturn, 1) := by decide +kernel
theorem dX3_ofTrial_44 : decode cX3_ofTrial 44 = .ok (.aload_n 0, 1) := by decide +kernel
theorem dX3_ofTrial_45 : decode cX3_ofTrial 45 = .ok (.getfield 24, 3) := by decide +kernel
theorem dX3_ofTrial_48 : decode cX3_ofTrial 48 = .ok (.getfield 106, 3) := by decide +kernel
theorem dX3_ofTrial_51 : decode cX3_ofTrial 51 = .ok (.ireturn, 1) := by decide +kernel
theorem dX3_ofTrial_52 : decode cX3_ofTrial 52 = .ok (.aload_n 0, 1) := by decide +kernel
theorem dX3_ofTrial_53 : decode cX3_ofTrial 53 = .ok (.getfield 24, 3) := by decide +kernel
theorem dX3_ofTrial_56 : decode cX3_ofTrial 56 = .ok (.invokevirtual 241, 3) := by decide +kernel
theorem dX3_ofTrial_59 : decode cX3_ofTrial 59 = .ok (.ireturn, 1) := by decide +kernel
theorem dX3_ofTrial_60 : decode cX3_ofTrial 60 = .ok (.aload_n 0, 1) := by decide +kernel
theorem dX3_ofTrial_61 : decode cX3_ofTrial 61 = .ok (.iload_n 1, 1) := by decide +kernel
theorem dX3_ofTrial_62 : decode cX3_ofTrial 62 = .ok (.bipush 10, 2) := by decide +kernel
theorem dX3_ofTrial_64 : decode cX3_ofTrial 64 = .ok (.isub, 1) := by decide +kernel
theorem dX3_ofTrial_65 : decode cX3_ofTrial 65 = .ok (.invokevirtual 80, 3) := by decide +kernel
theorem dX3_ofTrial_68 : decode cX3_ofTrial 68 = .ok (.ifCond .eq 18, 3) := by decide +kernel
theorem dX3_ofTrial_71 : decode cX3_ofTrial 71 = .ok (.aload_n 0, 1) := by decide +kernel
theorem dX3_ofTrial_72 : decode cX3_ofTrial 72 = .ok (.getfield 24, 3) := by decide +kernel
theorem dX3_ofTrial_75 : decode cX3_ofTrial 75 = .ok (.getfield 93, 3) := by decide +kernel
theorem dX3_ofTrial_78 : decode cX3_ofTrial 78 = .ok (.iload_n 1, 1) := by decide +kernel
theorem dX3_ofTrial_79 : decode cX3_ofTrial 79 = .ok (.bipush 10, 2) := by decide +kernel
theorem dX3_ofTrial_81 : decode cX3_ofTrial 81 = .ok (.isub, 1) := by decide +kernel
theorem dX3_ofTrial_82 : decode cX3_ofTrial 82 = .ok (.iaload, 1) := by decide +kernel
theorem dX3_ofTrial_83 : decode cX3_ofTrial 83 = .ok (.goto 5, 3) := by decide +kernel
theorem dX3_ofTrial_86 : decode cX3_ofTrial 86 = .ok (.bipush (-9), 2) := by decide +kernel
theorem dX3_ofTrial_88 : decode cX3_ofTrial 88 = .ok (.ireturn, 1) := by decide +kernel
theorem dX3_plainTells_0 : decode cX3_plainTells 0 = .ok (.aload_n 0, 1) := by decide +kernel
theorem dX3_plainTells_1 : decode cX3_plainTells 1 = .ok (.iconst 1, 1) := by decide +kernel
theorem dX3_plainTells_2 : decode cX3_plainTells 2 = .ok (.invokevirtual 226, 3) := by decide +kernel
theorem dX3_plainTells_5 : decode cX3_plainTells 5 = .ok (.aload_n 0, 1) := by decide +kernel
theorem dX3_plainTells_6 : decode cX3_plainTells 6 = .ok (.getfield 20, 3) := by decide +kernel
theorem dX3_plainTells_9 : decode cX3_plainTells 9 = .ok (.getfield 87, 3) := by decide +kernel
theorem dX3_plainTells_12 : decode cX3_plainTells 12 = .ok (.iload_n 1, 1) := by decide +kernel
theorem dX3_plainTells_13 : decode cX3_plainTells 13 = .ok (.iaload, 1) := by decide +kernel
theorem dX3_plainTells_14 : decode cX3_plainTells 14 = .ok (.ireturn, 1) := by decide +kernel
theorem dX3_thiefTells_0 : decode cX3_thiefTells 0 = .ok (.aload_n 0, 1) := by decide +kernel
theorem dX3_thiefTells_1 : decode cX3_thiefTells 1 = .ok (.iconst 2, 1) := by decide +kernel
theorem dX3_thiefTells_2 : decode cX3_thiefTells 2 = .ok (.invokevirtual 226, 3) := by decide +kernel
theorem dX3_thiefTells_5 : decode cX3_thiefTells 5 = .ok (.aload_n 0, 1) := by decide +kernel
theorem dX3_thiefTells_6 : decode cX3_thiefTells 6 = .ok (.iload_n 1, 1) := by decide +kernel
theorem dX3_thiefTells_7 : decode cX3_thiefTells 7 = .ok (.invokevirtual 223, 3) := by decide +kernel
theorem dX3_thiefTells_10 : decode cX3_thiefTells 10 = .ok (.bipush 100, 2) := by decide +kernel
theorem dX3_thiefTells_12 : decode cX3_thiefTells 12 = .ok (.iadd, 1) := by decide +kernel
theorem dX3_thiefTells_13 : decode cX3_thiefTells 13 = .ok (.ireturn, 1) := by decide +kernel
theorem dX3_childTells_0 : decode cX3_childTells 0 = .ok (.aload_n 0, 1) := by decide +kernel
theorem dX3_childTells_1 : decode cX3_childTells 1 = .ok (.iconst 3, 1) := by decide +kernel
theorem dX3_childTells_2 : decode cX3_childTells 2 = .ok (.invokevirtual 226, 3) := by decide +kernel
theorem dX3_childTells_5 : decode cX3_childTells 5 = .ok (.aload_n 0, 1) := by decide +kernel
theorem dX3_childTells_6 : decode cX3_childTells 6 = .ok (.iload_n 1, 1) := by decide +kernel
theorem dX3_childTells_7 : decode cX3_childTells 7 = .ok (.invokevirtual 220, 3) := by decide +kernel
theorem dX3_childTells_10 : decode cX3_childTells 10 = .ok (.istore_n 2, 1) := by decide +kernel
theorem dX3_childTells_11 : decode cX3_childTells 11 = .ok (.iload_n 2, 1) := by decide +kernel
theorem dX3_childTells_12 : decode cX3_childTells 12 = .ok (.aload_n 0, 1) := by decide +kernel
theorem dX3_childTells_13 : decode cX3_childTells 13 = .ok (.iload_n 1, 1) := by decide +kernel
theorem dX3_childTells_14 : decode cX3_childTells 14 = .ok (.invokevirtual 223, 3) := by decide +kernel
theorem dX3_childTells_17 : decode cX3_childTells 17 = .ok (.iadd, 1) := by decide +kernel
theorem dX3_childTells_18 : decode cX3_childTells 18 = .ok (.ireturn, 1) := by decide +kernel
theorem dX3_leaveTrace_0 : decode cX3_leaveTrace 0 = .ok (.aload_n 0, 1) := by decide +kernel
theorem dX3_leaveTrace_1 : decode cX3_leaveTrace 1 = .ok (.bipush 31, 2) := by decide +kernel
theorem dX3_leaveTrace_3 : decode cX3_leaveTrace 3 = .ok (.aload_n 0, 1) := by decide +kernel
theorem dX3_leaveTrace_4 : decode cX3_leaveTrace 4 = .ok (.getfield 41, 3) := by decide +kernel
theorem dX3_leaveTrace_7 : decode cX3_leaveTrace 7 = .ok (.imul, 1) := by decide +kernel
theorem dX3_leaveTrace_8 : decode cX3_leaveTrace 8 = .ok (.iload_n 1, 1) := by decide +kernel
theorem dX3_leaveTrace_9 : decode cX3_leaveTrace 9 = .ok (.iadd, 1) := by decide +kernel
theorem dX3_leaveTrace_10 : decode cX3_leaveTrace 10 = .ok (.putfield 41, 3) := by decide +kernel
theorem dX3_leaveTrace_13 : decode cX3_leaveTrace 13 = .ok (.return_, 1) := by decide +kernel
theorem dX3_thickness_0 : decode cX3_thickness 0 = .ok (.iload_n 0, 1) := by decide +kernel
theorem dX3_thickness_1 : decode cX3_thickness 1 = .ok (.lookupswitch 35 #[(1, 27), (2, 31)], 27) := by decide +kernel
theorem dX3_thickness_28 : decode cX3_thickness 28 = .ok (.iload_n 1, 1) := by decide +kernel
theorem dX3_thickness_29 : decode cX3_thickness 29 = .ok (.iconst 1, 1) := by decide +kernel
theorem dX3_thickness_30 : decode cX3_thickness 30 = .ok (.isub, 1) := by decide +kernel
theorem dX3_thickness_31 : decode cX3_thickness 31 = .ok (.ireturn, 1) := by decide +kernel
theorem dX3_thickness_32 : decode cX3_thickness 32 = .ok (.iload_n 1, 1) := by decide +kernel
theorem dX3_thickness_33 : decode cX3_thickness 33 = .ok (.iconst 2, 1) := by decide +kernel
theorem dX3_thickness_34 : decode cX3_thickness 34 = .ok (.idiv, 1) := by decide +kernel
theorem dX3_thickness_35 : decode cX3_thickness 35 = .ok (.ireturn, 1) := by decide +kernel
theorem dX3_thickness_36 : decode cX3_thickness 36 = .ok (.iload_n 1, 1) := by decide +kernel
theorem dX3_thickness_37 : decode cX3_thickness 37 = .ok (.ireturn, 1) := by decide +kernel
theorem dX3_lets_0 : decode cX3_lets 0 = .ok (.iload_n 0, 1) := by decide +kernel
theorem dX3_lets_1 : decode cX3_lets 1 = .ok (.ifCond .le 12, 3) := by decide +kernel
theorem dX3_lets_4 : decode cX3_lets 4 = .ok (.iload_n 0, 1) := by decide +kernel
theorem dX3_lets_5 : decode cX3_lets 5 = .ok (.iload_n 1, 1) := by decide +kernel
theorem dX3_lets_6 : decode cX3_lets 6 = .ok (.if_icmp .lt 7, 3) := by decide +kernel
theorem dX3_lets_9 : decode cX3_lets 9 = .ok (.iconst 1, 1) := by decide +kernel
theorem dX3_lets_10 : decode cX3_lets 10 = .ok (.goto 4, 3) := by decide +kernel
theorem dX3_lets_13 : decode cX3_lets 13 = .ok (.iconst 0, 1) := by decide +kernel
theorem dX3_lets_14 : decode cX3_lets 14 = .ok (.ireturn, 1) := by decide +kernel
theorem dX3_cutTo_0 : decode cX3_cutTo 0 = .ok (.iload_n 0, 1) := by decide +kernel
theorem dX3_cutTo_1 : decode cX3_cutTo 1 = .ok (.lookupswitch 33 #[(0, 27), (1, 30)], 27) := by decide +kernel
theorem dX3_cutTo_28 : decode cX3_cutTo 28 = .ok (.iload_n 1, 1) := by decide +kernel
theorem dX3_cutTo_29 : decode cX3_cutTo 29 = .ok (.i2b, 1) := by decide +kernel
theorem dX3_cutTo_30 : decode cX3_cutTo 30 = .ok (.ireturn, 1) := by decide +kernel
theorem dX3_cutTo_31 : decode cX3_cutTo 31 = .ok (.iload_n 1, 1) := by decide +kernel
theorem dX3_cutTo_32 : decode cX3_cutTo 32 = .ok (.i2s, 1) := by decide +kernel
theorem dX3_cutTo_33 : decode cX3_cutTo 33 = .ok (.ireturn, 1) := by decide +kernel
theorem dX3_cutTo_34 : decode cX3_cutTo 34 = .ok (.iload_n 1, 1) := by decide +kernel
theorem dX3_cutTo_35 : decode cX3_cutTo 35 = .ok (.ireturn, 1) := by decide +kernel
theorem dX3_commonDivisor_0 : decode cX3_commonDivisor 0 = .ok (.iload_n 1, 1) := by decide +kernel
theorem dX3_commonDivisor_1 : decode cX3_commonDivisor 1 = .ok (.istore_n 2, 1) := by decide +kernel
theorem dX3_commonDivisor_2 : decode cX3_commonDivisor 2 = .ok (.iload_n 2, 1) := by decide +kernel
theorem dX3_commonDivisor_3 : decode cX3_commonDivisor 3 = .ok (.iconst 1, 1) := by decide +kernel
theorem dX3_commonDivisor_4 : decode cX3_commonDivisor 4 = .ok (.if_icmp .le 23, 3) := by decide +kernel
theorem dX3_commonDivisor_7 : decode cX3_commonDivisor 7 = .ok (.iload_n 0, 1) := by decide +kernel
theorem dX3_commonDivisor_8 : decode cX3_commonDivisor 8 = .ok (.iload_n 2, 1) := by decide +kernel
theorem dX3_commonDivisor_9 : decode cX3_commonDivisor 9 = .ok (.irem, 1) := by decide +kernel
theorem dX3_commonDivisor_10 : decode cX3_commonDivisor 10 = .ok (.ifCond .ne 11, 3) := by decide +kernel
theorem dX3_commonDivisor_13 : decode cX3_commonDivisor 13 = .ok (.iload_n 1, 1) := by decide +kernel
theorem dX3_commonDivisor_14 : decode cX3_commonDivisor 14 = .ok (.iload_n 2, 1) := by decide +kernel
theorem dX3_commonDivisor_15 : decode cX3_commonDivisor 15 = .ok (.irem, 1) := by decide +kernel
theorem dX3_commonDivisor_16 : decode cX3_commonDivisor 16 = .ok (.ifCond .ne 5, 3) := by decide +kernel
theorem dX3_commonDivisor_19 : decode cX3_commonDivisor 19 = .ok (.iload_n 2, 1) := by decide +kernel
theorem dX3_commonDivisor_20 : decode cX3_commonDivisor 20 = .ok (.ireturn, 1) := by decide +kernel
theorem dX3_commonDivisor_21 : decode cX3_commonDivisor 21 = .ok (.iinc 2 (-1), 3) := by decide +kernel
theorem dX3_commonDivisor_24 : decode cX3_commonDivisor 24 = .ok (.goto (-22), 3) := by decide +kernel
theorem dX3_commonDivisor_27 : decode cX3_commonDivisor 27 = .ok (.iconst 1, 1) := by decide +kernel
theorem dX3_commonDivisor_28 : decode cX3_commonDivisor 28 = .ok (.ireturn, 1) := by decide +kernel
theorem dX3_digit_0 : decode cX3_digit 0 = .ok (.iload_n 0, 1) := by decide +kernel
theorem dX3_digit_1 : decode cX3_digit 1 = .ok (.bipush 48, 2) := by decide +kernel
theorem dX3_digit_3 : decode cX3_digit 3 = .ok (.iload_n 1, 1) := by decide +kernel
theorem dX3_digit_4 : decode cX3_digit 4 = .ok (.iadd, 1) := by decide +kernel
theorem dX3_digit_5 : decode cX3_digit 5 = .ok (.if_icmp .lt 18, 3) := by decide +kernel
theorem dX3_digit_8 : decode cX3_digit 8 = .ok (.iload_n 0, 1) := by decide +kernel
theorem dX3_digit_9 : decode cX3_digit 9 = .ok (.bipush 48, 2) := by decide +kernel
theorem dX3_digit_11 : decode cX3_digit 11 = .ok (.iload_n 2, 1) := by decide +kernel
theorem dX3_digit_12 : decode cX3_digit 12 = .ok (.iadd, 1) := by decide +kernel
theorem dX3_digit_13 : decode cX3_digit 13 = .ok (.if_icmp .gt 10, 3) := by decide +kernel
theorem dX3_digit_16 : decode cX3_digit 16 = .ok (.iload_n 0, 1) := by decide +kernel
theorem dX3_digit_17 : decode cX3_digit 17 = .ok (.bipush 48, 2) := by decide +kernel
theorem dX3_digit_19 : decode cX3_digit 19 = .ok (.isub, 1) := by decide +kernel
theorem dX3_digit_20 : decode cX3_digit 20 = .ok (.goto 5, 3) := by decide +kernel
theorem dX3_digit_23 : decode cX3_digit 23 = .ok (.bipush (-9), 2) := by decide +kernel
theorem dX3_digit_25 : decode cX3_digit 25 = .ok (.ireturn, 1) := by decide +kernel
theorem dJ6_bitCount_0f7a4_0 : decode cJ6_bitCount_0f7a4 0 = .ok (.iload_n 0, 1) := by decide +kernel
theorem dJ6_bitCount_0f7a4_1 : decode cJ6_bitCount_0f7a4 1 = .ok (.iload_n 0, 1) := by decide +kernel
theorem dJ6_bitCount_0f7a4_2 : decode cJ6_bitCount_0f7a4 2 = .ok (.iconst 1, 1) := by decide +kernel
theorem dJ6_bitCount_0f7a4_3 : decode cJ6_bitCount_0f7a4 3 = .ok (.iushr, 1) := by decide +kernel
theorem dJ6_bitCount_0f7a4_4 : decode cJ6_bitCount_0f7a4 4 = .ok (.ldc_w 265, 3) := by decide +kernel
theorem dJ6_bitCount_0f7a4_7 : decode cJ6_bitCount_0f7a4 7 = .ok (.iand, 1) := by decide +kernel
theorem dJ6_bitCount_0f7a4_8 : decode cJ6_bitCount_0f7a4 8 = .ok (.isub, 1) := by decide +kernel
theorem dJ6_bitCount_0f7a4_9 : decode cJ6_bitCount_0f7a4 9 = .ok (.istore_n 0, 1) := by decide +kernel
theorem dJ6_bitCount_0f7a4_10 : decode cJ6_bitCount_0f7a4 10 = .ok (.iload_n 0, 1) := by decide +kernel
theorem dJ6_bitCount_0f7a4_11 : decode cJ6_bitCount_0f7a4 11 = .ok (.ldc_w 266, 3) := by decide +kernel
theorem dJ6_bitCount_0f7a4_14 : decode cJ6_bitCount_0f7a4 14 = .ok (.iand, 1) := by decide +kernel
theorem dJ6_bitCount_0f7a4_15 : decode cJ6_bitCount_0f7a4 15 = .ok (.iload_n 0, 1) := by decide +kernel
theorem dJ6_bitCount_0f7a4_16 : decode cJ6_bitCount_0f7a4 16 = .ok (.iconst 2, 1) := by decide +kernel
theorem dJ6_bitCount_0f7a4_17 : decode cJ6_bitCount_0f7a4 17 = .ok (.iushr, 1) := by decide +kernel
theorem dJ6_bitCount_0f7a4_18 : decode cJ6_bitCount_0f7a4 18 = .ok (.ldc_w 266, 3) := by decide +kernel
theorem dJ6_bitCount_0f7a4_21 : decode cJ6_bitCount_0f7a4 21 = .ok (.iand, 1) := by decide +kernel
theorem dJ6_bitCount_0f7a4_22 : decode cJ6_bitCount_0f7a4 22 = .ok (.iadd, 1) := by decide +kernel
theorem dJ6_bitCount_0f7a4_23 : decode cJ6_bitCount_0f7a4 23 = .ok (.istore_n 0, 1) := by decide +kernel
theorem dJ6_bitCount_0f7a4_24 : decode cJ6_bitCount_0f7a4 24 = .ok (.iload_n 0, 1) := by decide +kernel
theorem dJ6_bitCount_0f7a4_25 : decode cJ6_bitCount_0f7a4 25 = .ok (.iload_n 0, 1) := by decide +kernel
theorem dJ6_bitCount_0f7a4_26 : decode cJ6_bitCount_0f7a4 26 = .ok (.iconst 4, 1) := by decide +kernel
theorem dJ6_bitCount_0f7a4_27 : decode cJ6_bitCount_0f7a4 27 = .ok (.iushr, 1) := by decide +kernel
theorem dJ6_bitCount_0f7a4_28 : decode cJ6_bitCount_0f7a4 28 = .ok (.iadd, 1) := by decide +kernel
theorem dJ6_bitCount_0f7a4_29 : decode cJ6_bitCount_0f7a4 29 = .ok (.ldc_w 267, 3) := by decide +kernel
theorem dJ6_bitCount_0f7a4_32 : decode cJ6_bitCount_0f7a4 32 = .ok (.iand, 1) := by decide +kernel
theorem dJ6_bitCount_0f7a4_33 : decode cJ6_bitCount_0f7a4 33 = .ok (.istore_n 0, 1) := by decide +kernel
theorem dJ6_bitCount_0f7a4_34 : decode cJ6_bitCount_0f7a4 34 = .ok (.iload_n 0, 1) := by decide +kernel
theorem dJ6_bitCount_0f7a4_35 : decode cJ6_bitCount_0f7a4 35 = .ok (.iload_n 0, 1) := by decide +kernel
theorem dJ6_bitCount_0f7a4_36 : decode cJ6_bitCount_0f7a4 36 = .ok (.bipush 8, 2) := by decide +kernel
theorem dJ6_bitCount_0f7a4_38 : decode cJ6_bitCount_0f7a4 38 = .ok (.iushr, 1) := by decide +kernel
theorem dJ6_bitCount_0f7a4_39 : decode cJ6_bitCount_0f7a4 39 = .ok (.iadd, 1) := by decide +kernel
theorem dJ6_bitCount_0f7a4_40 : decode cJ6_bitCount_0f7a4 40 = .ok (.istore_n 0, 1) := by decide +kernel
theorem dJ6_bitCount_0f7a4_41 : decode cJ6_bitCount_0f7a4 41 = .ok (.iload_n 0, 1) := by decide +kernel
theorem dJ6_bitCount_0f7a4_42 : decode cJ6_bitCount_0f7a4 42 = .ok (.iload_n 0, 1) := by decide +kernel
theorem dJ6_bitCount_0f7a4_43 : decode cJ6_bitCount_0f7a4 43 = .ok (.bipush 16, 2) := by decide +kernel
theorem dJ6_bitCount_0f7a4_45 : decode cJ6_bitCount_0f7a4 45 = .ok (.iushr, 1) := by decide +kernel
theorem dJ6_bitCount_0f7a4_46 : decode cJ6_bitCount_0f7a4 46 = .ok (.iadd, 1) := by decide +kernel
theorem dJ6_bitCount_0f7a4_47 : decode cJ6_bitCount_0f7a4 47 = .ok (.istore_n 0, 1) := by decide +kernel
theorem dJ6_bitCount_0f7a4_48 : decode cJ6_bitCount_0f7a4 48 = .ok (.iload_n 0, 1) := by decide +kernel
theorem dJ6_bitCount_0f7a4_49 : decode cJ6_bitCount_0f7a4 49 = .ok (.bipush 63, 2) := by decide +kernel
theorem dJ6_bitCount_0f7a4_51 : decode cJ6_bitCount_0f7a4 51 = .ok (.iand, 1) := by decide +kernel
theorem dJ6_bitCount_0f7a4_52 : decode cJ6_bitCount_0f7a4 52 = .ok (.ireturn, 1) := by decide +kernel
theorem dJ9_max_7cf53_0 : decode cJ9_max_7cf53 0 = .ok (.iload_n 0, 1) := by decide +kernel
theorem dJ9_max_7cf53_1 : decode cJ9_max_7cf53 1 = .ok (.iload_n 1, 1) := by decide +kernel
theorem dJ9_max_7cf53_2 : decode cJ9_max_7cf53 2 = .ok (.if_icmp .lt 7, 3) := by decide +kernel
theorem dJ9_max_7cf53_5 : decode cJ9_max_7cf53 5 = .ok (.iload_n 0, 1) := by decide +kernel
theorem dJ9_max_7cf53_6 : decode cJ9_max_7cf53 6 = .ok (.goto 4, 3) := by decide +kernel
theorem dJ9_max_7cf53_9 : decode cJ9_max_7cf53 9 = .ok (.iload_n 1, 1) := by decide +kernel
theorem dJ9_max_7cf53_10 : decode cJ9_max_7cf53 10 = .ok (.ireturn, 1) := by decide +kernel
theorem dJ9_min_7cf53_0 : decode cJ9_min_7cf53 0 = .ok (.iload_n 0, 1) := by decide +kernel
theorem dJ9_min_7cf53_1 : decode cJ9_min_7cf53 1 = .ok (.iload_n 1, 1) := by decide +kernel
theorem dJ9_min_7cf53_2 : decode cJ9_min_7cf53 2 = .ok (.if_icmp .gt 7, 3) := by decide +kernel
theorem dJ9_min_7cf53_5 : decode cJ9_min_7cf53 5 = .ok (.iload_n 0, 1) := by decide +kernel
theorem dJ9_min_7cf53_6 : decode cJ9_min_7cf53 6 = .ok (.goto 4, 3) := by decide +kernel
theorem dJ9_min_7cf53_9 : decode cJ9_min_7cf53 9 = .ok (.iload_n 1, 1) := by decide +kernel
theorem dJ9_min_7cf53_10 : decode cJ9_min_7cf53 10 = .ok (.ireturn, 1) := by decide +kernel
theorem dJ7_fill_53178_0 : decode cJ7_fill_53178 0 = .ok (.iconst 0, 1) := by decide +kernel
theorem dJ7_fill_53178_1 : decode cJ7_fill_53178 1 = .ok (.istore_n 2, 1) := by decide +kernel
theorem dJ7_fill_53178_2 : decode cJ7_fill_53178 2 = .ok (.aload_n 0, 1) := by decide +kernel
theorem dJ7_fill_53178_3 : decode cJ7_fill_53178 3 = .ok (.arraylength, 1) := by decide +kernel
theorem dJ7_fill_53178_4 : decode cJ7_fill_53178 4 = .ok (.istore_n 3, 1) := by decide +kernel
theorem dJ7_fill_53178_5 : decode cJ7_fill_53178 5 = .ok (.iload_n 2, 1) := by decide +kernel
theorem dJ7_fill_53178_6 : decode cJ7_fill_53178 6 = .ok (.iload_n 3, 1) := by decide +kernel
theorem dJ7_fill_53178_7 : decode cJ7_fill_53178 7 = .ok (.if_icmp .ge 13, 3) := by decide +kernel
theorem dJ7_fill_53178_10 : decode cJ7_fill_53178 10 = .ok (.aload_n 0, 1) := by decide +kernel
theorem dJ7_fill_53178_11 : decode cJ7_fill_53178 11 = .ok (.iload_n 2, 1) := by decide +kernel
theorem dJ7_fill_53178_12 : decode cJ7_fill_53178 12 = .ok (.iload_n 1, 1) := by decide +kernel
theorem dJ7_fill_53178_13 : decode cJ7_fill_53178 13 = .ok (.iastore, 1) := by decide +kernel
theorem dJ7_fill_53178_14 : decode cJ7_fill_53178 14 = .ok (.iinc 2 1, 3) := by decide +kernel
theorem dJ7_fill_53178_17 : decode cJ7_fill_53178 17 = .ok (.goto (-12), 3) := by decide +kernel
theorem dJ7_fill_53178_20 : decode cJ7_fill_53178 20 = .ok (.return_, 1) := by decide +kernel
end
section
theorem dX4_init_0 : decode cX4_init 0 = .ok (.aload_n 0, 1) := by decide +kernel
theorem dX4_init_1 : decode cX4_init 1 = .ok (.invokespecial 1, 3) := by decide +kernel
theorem dX4_init_4 : decode cX4_init 4 = .ok (.aload_n 0, 1) := by decide +kernel
theorem dX4_init_5 : decode cX4_init 5 = .ok (.iconst 4, 1) := by decide +kernel
theorem dX4_init_6 : decode cX4_init 6 = .ok (.newarray .int, 2) := by decide +kernel
theorem dX4_init_8 : decode cX4_init 8 = .ok (.dup, 1) := by decide +kernel
theorem dX4_init_9 : decode cX4_init 9 = .ok (.iconst 0, 1) := by decide +kernel
theorem dX4_init_10 : decode cX4_init 10 = .ok (.bipush (-9), 2) := by decide +kernel
theorem dX4_init_12 : decode cX4_init 12 = .ok (.iastore, 1) := by decide +kernel
theorem dX4_init_13 : decode cX4_init 13 = .ok (.dup, 1) := by decide +kernel
theorem dX4_init_14 : decode cX4_init 14 = .ok (.iconst 1, 1) := by decide +kernel
theorem dX4_init_15 : decode cX4_init 15 = .ok (.bipush (-9), 2) := by decide +kernel
theorem dX4_init_17 : decode cX4_init 17 = .ok (.iastore, 1) := by decide +kernel
theorem dX4_init_18 : decode cX4_init 18 = .ok (.dup, 1) := by decide +kernel
theorem dX4_init_19 : decode cX4_init 19 = .ok (.iconst 2, 1) := by decide +kernel
theorem dX4_init_20 : decode cX4_init 20 = .ok (.bipush (-9), 2) := by decide +kernel
theorem dX4_init_22 : decode cX4_init 22 = .ok (.iastore, 1) := by decide +kernel
theorem dX4_init_23 : decode cX4_init 23 = .ok (.dup, 1) := by decide +kernel
theorem dX4_init_24 : decode cX4_init 24 = .ok (.iconst 3, 1) := by decide +kernel
theorem dX4_init_25 : decode cX4_init 25 = .ok (.bipush (-9), 2) := by decide +kernel
theorem dX4_init_27 : decode cX4_init 27 = .ok (.iastore, 1) := by decide +kernel
theorem dX4_init_28 : decode cX4_init 28 = .ok (.putfield 9, 3) := by decide +kernel
theorem dX4_init_31 : decode cX4_init 31 = .ok (.aload_n 0, 1) := by decide +kernel
theorem dX4_init_32 : decode cX4_init 32 = .ok (.iconst 4, 1) := by decide +kernel
theorem dX4_init_33 : decode cX4_init 33 = .ok (.newarray .int, 2) := by decide +kernel
theorem dX4_init_35 : decode cX4_init 35 = .ok (.putfield 13, 3) := by decide +kernel
theorem dX4_init_38 : decode cX4_init 38 = .ok (.aload_n 0, 1) := by decide +kernel
theorem dX4_init_39 : decode cX4_init 39 = .ok (.sipush 240, 3) := by decide +kernel
theorem dX4_init_42 : decode cX4_init 42 = .ok (.newarray .int, 2) := by decide +kernel
theorem dX4_init_44 : decode cX4_init 44 = .ok (.putfield 16, 3) := by decide +kernel
theorem dX4_init_47 : decode cX4_init 47 = .ok (.aload_n 0, 1) := by decide +kernel
theorem dX4_init_48 : decode cX4_init 48 = .ok (.bipush 10, 2) := by decide +kernel
theorem dX4_init_50 : decode cX4_init 50 = .ok (.newarray .int, 2) := by decide +kernel
theorem dX4_init_52 : decode cX4_init 52 = .ok (.putfield 19, 3) := by decide +kernel
theorem dX4_init_55 : decode cX4_init 55 = .ok (.aload_n 0, 1) := by decide +kernel
theorem dX4_init_56 : decode cX4_init 56 = .ok (.iconst 5, 1) := by decide +kernel
theorem dX4_init_57 : decode cX4_init 57 = .ok (.newarray .int, 2) := by decide +kernel
theorem dX4_init_59 : decode cX4_init 59 = .ok (.putfield 22, 3) := by decide +kernel
theorem dX4_init_62 : decode cX4_init 62 = .ok (.aload_n 0, 1) := by decide +kernel
theorem dX4_init_63 : decode cX4_init 63 = .ok (.iconst 5, 1) := by decide +kernel
theorem dX4_init_64 : decode cX4_init 64 = .ok (.newarray .int, 2) := by decide +kernel
theorem dX4_init_66 : decode cX4_init 66 = .ok (.putfield 25, 3) := by decide +kernel
theorem dX4_init_69 : decode cX4_init 69 = .ok (.aload_n 0, 1) := by decide +kernel
theorem dX4_init_70 : decode cX4_init 70 = .ok (.iconst 5, 1) := by decide +kernel
theorem dX4_init_71 : decode cX4_init 71 = .ok (.newarray .int, 2) := by decide +kernel
theorem dX4_init_73 : decode cX4_init 73 = .ok (.putfield 28, 3) := by decide +kernel
theorem dX4_init_76 : decode cX4_init 76 = .ok (.aload_n 0, 1) := by decide +kernel
theorem dX4_init_77 : decode cX4_init 77 = .ok (.bipush 10, 2) := by decide +kernel
theorem dX4_init_79 : decode cX4_init 79 = .ok (.newarray .int, 2) := by decide +kernel
theorem dX4_init_81 : decode cX4_init 81 = .ok (.putfield 31, 3) := by decide +kernel
theorem dX4_init_84 : decode cX4_init 84 = .ok (.aload_n 0, 1) := by decide +kernel
theorem dX4_init_85 : decode cX4_init 85 = .ok (.bipush 15, 2) := by decide +kernel
theorem dX4_init_87 : decode cX4_init 87 = .ok (.newarray .int, 2) := by decide +kernel
theorem dX4_init_89 : decode cX4_init 89 = .ok (.putfield 34, 3) := by decide +kernel
theorem dX4_init_92 : decode cX4_init 92 = .ok (.aload_n 0, 1) := by decide +kernel
theorem dX4_init_93 : decode cX4_init 93 = .ok (.bipush 10, 2) := by decide +kernel
theorem dX4_init_95 : decode cX4_init 95 = .ok (.newarray .int, 2) := by decide +kernel
theorem dX4_init_97 : decode cX4_init 97 = .ok (.putfield 37, 3) := by decide +kernel
theorem dX4_init_100 : decode cX4_init 100 = .ok (.aload_n 0, 1) := by decide +kernel
theorem dX4_init_101 : decode cX4_init 101 = .ok (.iconst 5, 1) := by decide +kernel
theorem dX4_init_102 : decode cX4_init 102 = .ok (.newarray .int, 2) := by decide +kernel
theorem dX4_init_104 : decode cX4_init 104 = .ok (.putfield 40, 3) := by decide +kernel
theorem dX4_init_107 : decode cX4_init 107 = .ok (.aload_n 0, 1) := by decide +kernel
theorem dX4_init_108 : decode cX4_init 108 = .ok (.iconst 5, 1) := by decide +kernel
theorem dX4_init_109 : decode cX4_init 109 = .ok (.newarray .int, 2) := by decide +kernel
theorem dX4_init_111 : decode cX4_init 111 = .ok (.putfield 43, 3) := by decide +kernel
theorem dX4_init_114 : decode cX4_init 114 = .ok (.aload_n 0, 1) := by decide +kernel
theorem dX4_init_115 : decode cX4_init 115 = .ok (.iconst 5, 1) := by decide +kernel
theorem dX4_init_116 : decode cX4_init 116 = .ok (.newarray .int, 2) := by decide +kernel
theorem dX4_init_118 : decode cX4_init 118 = .ok (.putfield 46, 3) := by decide +kernel
theorem dX4_init_121 : decode cX4_init 121 = .ok (.aload_n 0, 1) := by decide +kernel
theorem dX4_init_122 : decode cX4_init 122 = .ok (.bipush 8, 2) := by decide +kernel
theorem dX4_init_124 : decode cX4_init 124 = .ok (.newarray .int, 2) := by decide +kernel
theorem dX4_init_126 : decode cX4_init 126 = .ok (.putfield 49, 3) := by decide +kernel
theorem dX4_init_129 : decode cX4_init 129 = .ok (.aload_n 0, 1) := by decide +kernel
theorem dX4_init_130 : decode cX4_init 130 = .ok (.bipush 8, 2) := by decide +kernel
theorem dX4_init_132 : decode cX4_init 132 = .ok (.newarray .int, 2) := by decide +kernel
theorem dX4_init_134 : decode cX4_init 134 = .ok (.putfield 52, 3) := by decide +kernel
theorem dX4_init_137 : decode cX4_init 137 = .ok (.aload_n 0, 1) := by decide +kernel
theorem dX4_init_138 : decode cX4_init 138 = .ok (.bipush 8, 2) := by decide +kernel
theorem dX4_init_140 : decode cX4_init 140 = .ok (.newarray .int, 2) := by decide +kernel
theorem dX4_init_142 : decode cX4_init 142 = .ok (.putfield 55, 3) := by decide +kernel
theorem dX4_init_145 : decode cX4_init 145 = .ok (.return_, 1) := by decide +kernel
theorem dX4_fails_0 : decode cX4_fails 0 = .ok (.aload_n 0, 1) := by decide +kernel
theorem dX4_fails_1 : decode cX4_fails 1 = .ok (.iload_n 1, 1) := by decide +kernel
theorem dX4_fails_2 : decode cX4_fails 2 = .ok (.putfield 58, 3) := by decide +kernel
theorem dX4_fails_5 : decode cX4_fails 5 = .ok (.bipush (-10), 2) := by decide +kernel
theorem dX4_fails_7 : decode cX4_fails 7 = .ok (.iload_n 1, 1) := by decide +kernel
theorem dX4_fails_8 : decode cX4_fails 8 = .ok (.isub, 1) := by decide +kernel
theorem dX4_fails_9 : decode cX4_fails 9 = .ok (.ireturn, 1) := by decide +kernel
theorem dX4_lost_0 : decode cX4_lost 0 = .ok (.aload_n 0, 1) := by decide +kernel
theorem dX4_lost_1 : decode cX4_lost 1 = .ok (.iload_n 1, 1) := by decide +kernel
theorem dX4_lost_2 : decode cX4_lost 2 = .ok (.putfield 58, 3) := by decide +kernel
theorem dX4_lost_5 : decode cX4_lost 5 = .ok (.ldc2_w 62, 3) := by decide +kernel
theorem dX4_lost_8 : decode cX4_lost 8 = .ok (.lreturn, 1) := by decide +kernel
theorem dX4_within_0 : decode cX4_within 0 = .ok (.iload_n 0, 1) := by decide +kernel
theorem dX4_within_1 : decode cX4_within 1 = .ok (.iload_n 1, 1) := by decide +kernel
theorem dX4_within_2 : decode cX4_within 2 = .ok (.if_icmp .lt 12, 3) := by decide +kernel
theorem dX4_within_5 : decode cX4_within 5 = .ok (.iload_n 0, 1) := by decide +kernel
theorem dX4_within_6 : decode cX4_within 6 = .ok (.iload_n 2, 1) := by decide +kernel
theorem dX4_within_7 : decode cX4_within 7 = .ok (.if_icmp .gt 7, 3) := by decide +kernel
theorem dX4_within_10 : decode cX4_within 10 = .ok (.iconst 1, 1) := by decide +kernel
theorem dX4_within_11 : decode cX4_within 11 = .ok (.goto 4, 3) := by decide +kernel
theorem dX4_within_14 : decode cX4_within 14 = .ok (.iconst 0, 1) := by decide +kernel
theorem dX4_within_15 : decode cX4_within 15 = .ok (.ireturn, 1) := by decide +kernel
theorem dX4_isSheet_0 : decode cX4_isSheet 0 = .ok (.iload_n 0, 1) := by decide +kernel
theorem dX4_isSheet_1 : decode cX4_isSheet 1 = .ok (.iconst 0, 1) := by decide +kernel
theorem dX4_isSheet_2 : decode cX4_isSheet 2 = .ok (.iconst 3, 1) := by decide +kernel
theorem dX4_isSheet_3 : decode cX4_isSheet 3 = .ok (.invokestatic 64, 3) := by decide +kernel
theorem dX4_isSheet_6 : decode cX4_isSheet 6 = .ok (.ireturn, 1) := by decide +kernel
theorem dX4_isSort_0 : decode cX4_isSort 0 = .ok (.iload_n 0, 1) := by decide +kernel
theorem dX4_isSort_1 : decode cX4_isSort 1 = .ok (.iconst 0, 1) := by decide +kernel
theorem dX4_isSort_2 : decode cX4_isSort 2 = .ok (.iconst 2, 1) := by decide +kernel
theorem dX4_isSort_3 : decode cX4_isSort 3 = .ok (.invokestatic 64, 3) := by decide +kernel
theorem dX4_isSort_6 : decode cX4_isSort 6 = .ok (.ireturn, 1) := by decide +kernel
theorem dX4_against_0 : decode cX4_against 0 = .ok (.aload_n 0, 1) := by decide +kernel
theorem dX4_against_1 : decode cX4_against 1 = .ok (.getfield 9, 3) := by decide +kernel
theorem dX4_against_4 : decode cX4_against 4 = .ok (.iload_n 1, 1) := by decide +kernel
theorem dX4_against_5 : decode cX4_against 5 = .ok (.iaload, 1) := by decide +kernel
theorem dX4_against_6 : decode cX4_against 6 = .ok (.bipush (-9), 2) := by decide +kernel
theorem dX4_against_8 : decode cX4_against 8 = .ok (.if_icmp .eq 15, 3) := by decide +kernel
theorem dX4_against_11 : decode cX4_against 11 = .ok (.aload_n 0, 1) := by decide +kernel
theorem dX4_against_12 : decode cX4_against 12 = .ok (.getfield 9, 3) := by decide +kernel
theorem dX4_against_15 : decode cX4_against 15 = .ok (.iload_n 1, 1) := by decide +kernel
theorem dX4_against_16 : decode cX4_against 16 = .ok (.iaload, 1) := by decide +kernel
theorem dX4_against_17 : decode cX4_against 17 = .ok (.iload_n 2, 1) := by decide +kernel
theorem dX4_against_18 : decode cX4_against 18 = .ok (.if_icmp .eq 5, 3) := by decide +kernel
theorem dX4_against_21 : decode cX4_against 21 = .ok (.iconst 2, 1) := by decide +kernel
theorem dX4_against_22 : decode cX4_against 22 = .ok (.ireturn, 1) := by decide +kernel
theorem dX4_against_23 : decode cX4_against 23 = .ok (.aload_n 0, 1) := by decide +kernel
theorem dX4_against_24 : decode cX4_against 24 = .ok (.getfield 9, 3) := by decide +kernel
theorem dX4_against_27 : decode cX4_against 27 = .ok (.iload_n 1, 1) := by decide +kernel
theorem dX4_against_28 : decode cX4_against 28 = .ok (.iaload, 1) := by decide +kernel
theorem dX4_against_29 : decode cX4_against 29 = .ok (.bipush (-9), 2) := by decide +kernel
theorem dX4_against_31 : decode cX4_against 31 = .ok (.if_icmp .ne 5, 3) := by decide +kernel
theorem dX4_against_34 : decode cX4_against 34 = .ok (.iconst 1, 1) := by decide +kernel
theorem dX4_against_35 : decode cX4_against 35 = .ok (.ireturn, 1) := by decide +kernel
theorem dX4_against_36 : decode cX4_against 36 = .ok (.iload 4, 2) := by decide +kernel
theorem dX4_against_38 : decode cX4_against 38 = .ok (.ifCond .ge 5, 3) := by decide +kernel
theorem dX4_against_41 : decode cX4_against 41 = .ok (.iconst 4, 1) := by decide +kernel
theorem dX4_against_42 : decode cX4_against 42 = .ok (.ireturn, 1) := by decide +kernel
theorem dX4_against_43 : decode cX4_against 43 = .ok (.iload_n 3, 1) := by decide +kernel
theorem dX4_against_44 : decode cX4_against 44 = .ok (.ifCond .lt 26, 3) := by decide +kernel
theorem dX4_against_47 : decode cX4_against 47 = .ok (.iload_n 3, 1) := by decide +kernel
theorem dX4_against_48 : decode cX4_against 48 = .ok (.aload_n 0, 1) := by decide +kernel
theorem dX4_against_49 : decode cX4_against 49 = .ok (.getfield 13, 3) := by decide +kernel
theorem dX4_against_52 : decode cX4_against 52 = .ok (.iload_n 1, 1) := by decide +kernel
theorem dX4_against_53 : decode cX4_against 53 = .ok (.iaload, 1) := by decide +kernel
theorem dX4_against_54 : decode cX4_against 54 = .ok (.if_icmp .gt 16, 3) := by decide +kernel
theorem dX4_against_57 : decode cX4_against 57 = .ok (.iload 4, 2) := by decide +kernel
theorem dX4_against_59 : decode cX4_against 59 = .ok (.aload_n 0, 1) := by decide +kernel
theorem dX4_against_60 : decode cX4_against 60 = .ok (.getfield 13, 3) := by decide +kernel
theorem dX4_against_63 : decode cX4_against 63 = .ok (.iload_n 1, 1) := by decide +kernel
theorem dX4_against_64 : decode cX4_against 64 = .ok (.iaload, 1) := by decide +kernel
theorem dX4_against_65 : decode cX4_against 65 = .ok (.iload_n 3, 1) := by decide +kernel
theorem dX4_against_66 : decode cX4_against 66 = .ok (.isub, 1) := by decide +kernel
theorem dX4_against_67 : decode cX4_against 67 = .ok (.if_icmp .le 7, 3) := by decide +kernel
theorem dX4_against_70 : decode cX4_against 70 = .ok (.iconst 3, 1) := by decide +kernel
theorem dX4_against_71 : decode cX4_against 71 = .ok (.goto 4, 3) := by decide +kernel
theorem dX4_against_74 : decode cX4_against 74 = .ok (.iconst 0, 1) := by decide +kernel
theorem dX4_against_75 : decode cX4_against 75 = .ok (.ireturn, 1) := by decide +kernel
theorem dX4_isField_0 : decode cX4_isField 0 = .ok (.iload_n 1, 1) := by decide +kernel
theorem dX4_isField_1 : decode cX4_isField 1 = .ok (.ifCond .lt 15, 3) := by decide +kernel
theorem dX4_isField_4 : decode cX4_isField 4 = .ok (.iload_n 1, 1) := by decide +kernel
theorem dX4_isField_5 : decode cX4_isField 5 = .ok (.aload_n 0, 1) := by decide +kernel
theorem dX4_isField_6 : decode cX4_isField 6 = .ok (.getfield 68, 3) := by decide +kernel
theorem dX4_isField_9 : decode cX4_isField 9 = .ok (.if_icmp .ge 7, 3) := by decide +kernel
theorem dX4_isField_12 : decode cX4_isField 12 = .ok (.iconst 1, 1) := by decide +kernel
theorem dX4_isField_13 : decode cX4_isField 13 = .ok (.goto 4, 3) := by decide +kernel
theorem dX4_isField_16 : decode cX4_isField 16 = .ok (.iconst 0, 1) := by decide +kernel
theorem dX4_isField_17 : decode cX4_isField 17 = .ok (.ireturn, 1) := by decide +kernel
theorem dX4_areTwo_0 : decode cX4_areTwo 0 = .ok (.aload_n 0, 1) := by decide +kernel
theorem dX4_areTwo_1 : decode cX4_areTwo 1 = .ok (.iload_n 1, 1) := by decide +kernel
theorem dX4_areTwo_2 : decode cX4_areTwo 2 = .ok (.invokevirtual 71, 3) := by decide +kernel
theorem dX4_areTwo_5 : decode cX4_areTwo 5 = .ok (.ifCond .eq 20, 3) := by decide +kernel
theorem dX4_areTwo_8 : decode cX4_areTwo 8 = .ok (.aload_n 0, 1) := by decide +kernel
theorem dX4_areTwo_9 : decode cX4_areTwo 9 = .ok (.iload_n 2, 1) := by decide +kernel
theorem dX4_areTwo_10 : decode cX4_areTwo 10 = .ok (.invokevirtual 71, 3) := by decide +kernel
theorem dX4_areTwo_13 : decode cX4_areTwo 13 = .ok (.ifCond .eq 12, 3) := by decide +kernel
theorem dX4_areTwo_16 : decode cX4_areTwo 16 = .ok (.iload_n 1, 1) := by decide +kernel
theorem dX4_areTwo_17 : decode cX4_areTwo 17 = .ok (.iload_n 2, 1) := by decide +kernel
theorem dX4_areTwo_18 : decode cX4_areTwo 18 = .ok (.if_icmp .eq 7, 3) := by decide +kernel
theorem dX4_areTwo_21 : decode cX4_areTwo 21 = .ok (.iconst 1, 1) := by decide +kernel
theorem dX4_areTwo_22 : decode cX4_areTwo 22 = .ok (.goto 4, 3) := by decide +kernel
theorem dX4_areTwo_25 : decode cX4_areTwo 25 = .ok (.iconst 0, 1) := by decide +kernel
theorem dX4_areTwo_26 : decode cX4_areTwo 26 = .ok (.ireturn, 1) := by decide +kernel
theorem dX4_isGoer_0 : decode cX4_isGoer 0 = .ok (.iload_n 1, 1) := by decide +kernel
theorem dX4_isGoer_1 : decode cX4_isGoer 1 = .ok (.ifCond .lt 15, 3) := by decide +kernel
theorem dX4_isGoer_4 : decode cX4_isGoer 4 = .ok (.iload_n 1, 1) := by decide +kernel
theorem dX4_isGoer_5 : decode cX4_isGoer 5 = .ok (.aload_n 0, 1) := by decide +kernel
theorem dX4_isGoer_6 : decode cX4_isGoer 6 = .ok (.getfield 75, 3) := by decide +kernel
theorem dX4_isGoer_9 : decode cX4_isGoer 9 = .ok (.if_icmp .ge 7, 3) := by decide +kernel
theorem dX4_isGoer_12 : decode cX4_isGoer 12 = .ok (.iconst 1, 1) := by decide +kernel
theorem dX4_isGoer_13 : decode cX4_isGoer 13 = .ok (.goto 4, 3) := by decide +kernel
theorem dX4_isGoer_16 : decode cX4_isGoer 16 = .ok (.iconst 0, 1) := by decide +kernel
theorem dX4_isGoer_17 : decode cX4_isGoer 17 = .ok (.ireturn, 1) := by decide +kernel
theorem dX4_isOf_0 : decode cX4_isOf 0 = .ok (.iload_n 0, 1) := by decide +kernel
theorem dX4_isOf_1 : decode cX4_isOf 1 = .ok (.iload_n 1, 1) := by decide +kernel
theorem dX4_isOf_2 : decode cX4_isOf 2 = .ok (.ishr, 1) := by decide +kernel
theorem dX4_isOf_3 : decode cX4_isOf 3 = .ok (.iconst 1, 1) := by decide +kernel
theorem dX4_isOf_4 : decode cX4_isOf 4 = .ok (.iand, 1) := by decide +kernel
theorem dX4_isOf_5 : decode cX4_isOf 5 = .ok (.iconst 1, 1) := by decide +kernel
theorem dX4_isOf_6 : decode cX4_isOf 6 = .ok (.if_icmp .ne 7, 3) := by decide +kernel
theorem dX4_isOf_9 : decode cX4_isOf 9 = .ok (.iconst 1, 1) := by decide +kernel
theorem dX4_isOf_10 : decode cX4_isOf 10 = .ok (.goto 4, 3) := by decide +kernel
theorem dX4_isOf_13 : decode cX4_isOf 13 = .ok (.iconst 0, 1) := by decide +kernel
theorem dX4_isOf_14 : decode cX4_isOf 14 = .ok (.ireturn, 1) := by decide +kernel
theorem dX4_size_0 : decode cX4_size 0 = .ok (.iconst 0, 1) := by decide +kernel
theorem dX4_size_1 : decode cX4_size 1 = .ok (.istore_n 1, 1) := by decide +kernel
theorem dX4_size_2 : decode cX4_size 2 = .ok (.iload_n 0, 1) := by decide +kernel
theorem dX4_size_3 : decode cX4_size 3 = .ok (.istore_n 2, 1) := by decide +kernel
theorem dX4_size_4 : decode cX4_size 4 = .ok (.iload_n 2, 1) := by decide +kernel
theorem dX4_size_5 : decode cX4_size 5 = .ok (.ifCond .le 16, 3) := by decide +kernel
theorem dX4_size_8 : decode cX4_size 8 = .ok (.iload_n 1, 1) := by decide +kernel
theorem dX4_size_9 : decode cX4_size 9 = .ok (.iload_n 2, 1) := by decide +kernel
theorem dX4_size_10 : decode cX4_size 10 = .ok (.iconst 1, 1) := by decide +kernel
theorem dX4_size_11 : decode cX4_size 11 = .ok (.iand, 1) := by decide +kernel
theorem dX4_size_12 : decode cX4_size 12 = .ok (.iadd, 1) := by decide +kernel
theorem dX4_size_13 : decode cX4_size 13 = .ok (.istore_n 1, 1) := by decide +kernel
theorem dX4_size_14 : decode cX4_size 14 = .ok (.iload_n 2, 1) := by decide +kernel
theorem dX4_size_15 : decode cX4_size 15 = .ok (.iconst 1, 1) := by decide +kernel
theorem dX4_size_16 : decode cX4_size 16 = .ok (.ishr, 1) := by decide +kernel
theorem dX4_size_17 : decode cX4_size 17 = .ok (.istore_n 2, 1) := by decide +kernel
theorem dX4_size_18 : decode cX4_size 18 = .ok (.goto (-14), 3) := by decide +kernel
theorem dX4_size_21 : decode cX4_size 21 = .ok (.iload_n 1, 1) := by decide +kernel
theorem dX4_size_22 : decode cX4_size 22 = .ok (.ireturn, 1) := by decide +kernel
theorem dX4_hedgesOf_0 : decode cX4_hedgesOf 0 = .ok (.iload_n 0, 1) := by decide +kernel
theorem dX4_hedgesOf_1 : decode cX4_hedgesOf 1 = .ok (.iload_n 0, 1) := by decide +kernel
theorem dX4_hedgesOf_2 : decode cX4_hedgesOf 2 = .ok (.iconst 1, 1) := by decide +kernel
theorem dX4_hedgesOf_3 : decode cX4_hedgesOf 3 = .ok (.isub, 1) := by decide +kernel
theorem dX4_hedgesOf_4 : decode cX4_hedgesOf 4 = .ok (.imul, 1) := by decide +kernel
theorem dX4_hedgesOf_5 : decode cX4_hedgesOf 5 = .ok (.iconst 2, 1) := by decide +kernel
theorem dX4_hedgesOf_6 : decode cX4_hedgesOf 6 = .ok (.idiv, 1) := by decide +kernel
theorem dX4_hedgesOf_7 : decode cX4_hedgesOf 7 = .ok (.ireturn, 1) := by decide +kernel
theorem dX4_hedges_0 : decode cX4_hedges 0 = .ok (.aload_n 0, 1) := by decide +kernel
theorem dX4_hedges_1 : decode cX4_hedges 1 = .ok (.getfield 68, 3) := by decide +kernel
theorem dX4_hedges_4 : decode cX4_hedges 4 = .ok (.invokestatic 78, 3) := by decide +kernel
theorem dX4_hedges_7 : decode cX4_hedges 7 = .ok (.ireturn, 1) := by decide +kernel
theorem dX4_hedge_0 : decode cX4_hedge 0 = .ok (.iload_n 1, 1) := by decide +kernel
theorem dX4_hedge_1 : decode cX4_hedge 1 = .ok (.iload_n 2, 1) := by decide +kernel
theorem dX4_hedge_2 : decode cX4_hedge 2 = .ok (.if_icmp .ge 7, 3) := by decide +kernel
theorem dX4_hedge_5 : decode cX4_hedge 5 = .ok (.iload_n 1, 1) := by decide +kernel
theorem dX4_hedge_6 : decode cX4_hedge 6 = .ok (.goto 4, 3) := by decide +kernel
theorem dX4_hedge_9 : decode cX4_hedge 9 = .ok (.iload_n 2, 1) := by decide +kernel
theorem dX4_hedge_10 : decode cX4_hedge 10 = .ok (.istore_n 3, 1) := by decide +kernel
theorem dX4_hedge_11 : decode cX4_hedge 11 = .ok (.iload_n 1, 1) := by decide +kernel
theorem dX4_hedge_12 : decode cX4_hedge 12 = .ok (.iload_n 2, 1) := by decide +kernel
theorem dX4_hedge_13 : decode cX4_hedge 13 = .ok (.if_icmp .ge 7, 3) := by decide +kernel
theorem dX4_hedge_16 : decode cX4_hedge 16 = .ok (.iload_n 2, 1) := by decide +kernel
theorem dX4_hedge_17 : decode cX4_hedge 17 = .ok (.goto 4, 3) := by decide +kernel
theorem dX4_hedge_20 : decode cX4_hedge 20 = .ok (.iload_n 1, 1) := by decide +kernel
theorem dX4_hedge_21 : decode cX4_hedge 21 = .ok (.istore 4, 2) := by decide +kernel
theorem dX4_hedge_23 : decode cX4_hedge 23 = .ok (.iconst 0, 1) := by decide +kernel
theorem dX4_hedge_24 : decode cX4_hedge 24 = .ok (.istore 5, 2) := by decide +kernel
theorem dX4_hedge_26 : decode cX4_hedge 26 = .ok (.iconst 0, 1) := by decide +kernel
theorem dX4_hedge_27 : decode cX4_hedge 27 = .ok (.istore 6, 2) := by decide +kernel
theorem dX4_hedge_29 : decode cX4_hedge 29 = .ok (.iload 6, 2) := by decide +kernel
theorem dX4_hedge_31 : decode cX4_hedge 31 = .ok (.iload_n 3, 1) := by decide +kernel
theorem dX4_hedge_32 : decode cX4_hedge 32 = .ok (.if_icmp .ge 23, 3) := by decide +kernel
theorem dX4_hedge_35 : decode cX4_hedge 35 = .ok (.iload 5, 2) := by decide +kernel
theorem dX4_hedge_37 : decode cX4_hedge 37 = .ok (.aload_n 0, 1) := by decide +kernel
theorem dX4_hedge_38 : decode cX4_hedge 38 = .ok (.getfield 68, 3) := by decide +kernel
theorem dX4_hedge_41 : decode cX4_hedge 41 = .ok (.iconst 1, 1) := by decide +kernel
theorem dX4_hedge_42 : decode cX4_hedge 42 = .ok (.isub, 1) := by decide +kernel
theorem dX4_hedge_43 : decode cX4_hedge 43 = .ok (.iload 6, 2) := by decide +kernel
theorem dX4_hedge_45 : decode cX4_hedge 45 = .ok (.isub, 1) := by decide +kernel
theorem dX4_hedge_46 : decode cX4_hedge 46 = .ok (.iadd, 1) := by decide +kernel
theorem dX4_hedge_47 : decode cX4_hedge 47 = .ok (.istore 5, 2) := by decide +kernel
theorem dX4_hedge_49 : decode cX4_hedge 49 = .ok (.iinc 6 1, 3) := by decide +kernel
theorem dX4_hedge_52 : decode cX4_hedge 52 = .ok (.goto (-23), 3) := by decide +kernel
theorem dX4_hedge_55 : decode cX4_hedge 55 = .ok (.iload 5, 2) := by decide +kernel
theorem dX4_hedge_57 : decode cX4_hedge 57 = .ok (.iload 4, 2) := by decide +kernel
theorem dX4_hedge_59 : decode cX4_hedge 59 = .ok (.iadd, 1) := by decide +kernel
theorem dX4_hedge_60 : decode cX4_hedge 60 = .ok (.iload_n 3, 1) := by decide +kernel
theorem dX4_hedge_61 : decode cX4_hedge 61 = .ok (.isub, 1) := by decide +kernel
theorem dX4_hedge_62 : decode cX4_hedge 62 = .ok (.iconst 1, 1) := by decide +kernel
theorem dX4_hedge_63 : decode cX4_hedge 63 = .ok (.isub, 1) := by decide +kernel
theorem dX4_hedge_64 : decode cX4_hedge 64 = .ok (.ireturn, 1) := by decide +kernel
theorem dX4_digit_0 : decode cX4_digit 0 = .ok (.aload_n 0, 1) := by decide +kernel
theorem dX4_digit_1 : decode cX4_digit 1 = .ok (.getfield 82, 3) := by decide +kernel
theorem dX4_digit_4 : decode cX4_digit 4 = .ok (.iload_n 1, 1) := by decide +kernel
theorem dX4_digit_5 : decode cX4_digit 5 = .ok (.if_icmp .ge 26, 3) := by decide +kernel
theorem dX4_digit_8 : decode cX4_digit 8 = .ok (.aload_n 0, 1) := by decide +kernel
theorem dX4_digit_9 : decode cX4_digit 9 = .ok (.getfield 16, 3) := by decide +kernel
theorem dX4_digit_12 : decode cX4_digit 12 = .ok (.aload_n 0, 1) := by decide +kernel
theorem dX4_digit_13 : decode cX4_digit 13 = .ok (.getfield 82, 3) := by decide +kernel
theorem dX4_digit_16 : decode cX4_digit 16 = .ok (.iaload, 1) := by decide +kernel
theorem dX4_digit_17 : decode cX4_digit 17 = .ok (.bipush 48, 2) := by decide +kernel
theorem dX4_digit_19 : decode cX4_digit 19 = .ok (.iload_n 2, 1) := by decide +kernel
theorem dX4_digit_20 : decode cX4_digit 20 = .ok (.iadd, 1) := by decide +kernel
theorem dX4_digit_21 : decode cX4_digit 21 = .ok (.bipush 48, 2) := by decide +kernel
theorem dX4_digit_23 : decode cX4_digit 23 = .ok (.iload_n 3, 1) := by decide +kernel
theorem dX4_digit_24 : decode cX4_digit 24 = .ok (.iadd, 1) := by decide +kernel
theorem dX4_digit_25 : decode cX4_digit 25 = .ok (.invokestatic 64, 3) := by decide +kernel
theorem dX4_digit_28 : decode cX4_digit 28 = .ok (.ifCond .ne 6, 3) := by decide +kernel
theorem dX4_digit_31 : decode cX4_digit 31 = .ok (.bipush (-9), 2) := by decide +kernel
theorem dX4_digit_33 : decode cX4_digit 33 = .ok (.ireturn, 1) := by decide +kernel
theorem dX4_digit_34 : decode cX4_digit 34 = .ok (.aload_n 0, 1) := by decide +kernel
theorem dX4_digit_35 : decode cX4_digit 35 = .ok (.dup, 1) := by decide +kernel
theorem dX4_digit_36 : decode cX4_digit 36 = .ok (.getfield 82, 3) := by decide +kernel
theorem dX4_digit_39 : decode cX4_digit 39 = .ok (.iconst 1, 1) := by decide +kernel
theorem dX4_digit_40 : decode cX4_digit 40 = .ok (.iadd, 1) := by decide +kernel
theorem dX4_digit_41 : decode cX4_digit 41 = .ok (.putfield 82, 3) := by decide +kernel
theorem dX4_digit_44 : decode cX4_digit 44 = .ok (.aload_n 0, 1) := by decide +kernel
theorem dX4_digit_45 : decode cX4_digit 45 = .ok (.getfield 16, 3) := by decide +kernel
theorem dX4_digit_48 : decode cX4_digit 48 = .ok (.aload_n 0, 1) := by decide +kernel
theorem dX4_digit_49 : decode cX4_digit 49 = .ok (.getfield 82, 3) := by decide +kernel
theorem dX4_digit_52 : decode cX4_digit 52 = .ok (.iconst 1, 1) := by decide +kernel
theorem dX4_digit_53 : decode cX4_digit 53 = .ok (.isub, 1) := by decide +kernel
theorem dX4_digit_54 : decode cX4_digit 54 = .ok (.iaload, 1) := by decide +kernel
theorem dX4_digit_55 : decode cX4_digit 55 = .ok (.bipush 48, 2) := by decide +kernel
theorem dX4_digit_57 : decode cX4_digit 57 = .ok (.isub, 1) := by decide +kernel
theorem dX4_digit_58 : decode cX4_digit 58 = .ok (.ireturn, 1) := by decide +kernel
theorem dX4_isSign_0 : decode cX4_isSign 0 = .ok (.aload_n 0, 1) := by decide +kernel
theorem dX4_isSign_1 : decode cX4_isSign 1 = .ok (.getfield 82, 3) := by decide +kernel
theorem dX4_isSign_4 : decode cX4_isSign 4 = .ok (.iload_n 1, 1) := by decide +kernel
theorem dX4_isSign_5 : decode cX4_isSign 5 = .ok (.if_icmp .ge 16, 3) := by decide +kernel
theorem dX4_isSign_8 : decode cX4_isSign 8 = .ok (.aload_n 0, 1) := by decide +kernel
theorem dX4_isSign_9 : decode cX4_isSign 9 = .ok (.getfield 16, 3) := by decide +kernel
theorem dX4_isSign_12 : decode cX4_isSign 12 = .ok (.aload_n 0, 1) := by decide +kernel
theorem dX4_isSign_13 : decode cX4_isSign 13 = .ok (.getfield 82, 3) := by decide +kernel
theorem dX4_isSign_16 : decode cX4_isSign 16 = .ok (.iaload, 1) := by decide +kernel
theorem dX4_isSign_17 : decode cX4_isSign 17 = .ok (.iload_n 2, 1) := by decide +kernel
theorem dX4_isSign_18 : decode cX4_isSign 18 = .ok (.if_icmp .eq 5, 3) := by decide +kernel
theorem dX4_isSign_21 : decode cX4_isSign 21 = .ok (.iconst 0, 1) := by decide +kernel
theorem dX4_isSign_22 : decode cX4_isSign 22 = .ok (.ireturn, 1) := by decide +kernel
theorem dX4_isSign_23 : decode cX4_isSign 23 = .ok (.aload_n 0, 1) := by decide +kernel
theorem dX4_isSign_24 : decode cX4_isSign 24 = .ok (.dup, 1) := by decide +kernel
theorem dX4_isSign_25 : decode cX4_isSign 25 = .ok (.getfield 82, 3) := by decide +kernel
theorem dX4_isSign_28 : decode cX4_isSign 28 = .ok (.iconst 1, 1) := by decide +kernel
theorem dX4_isSign_29 : decode cX4_isSign 29 = .ok (.iadd, 1) := by decide +kernel
theorem dX4_isSign_30 : decode cX4_isSign 30 = .ok (.putfield 82, 3) := by decide +kernel
theorem dX4_isSign_33 : decode cX4_isSign 33 = .ok (.iconst 1, 1) := by decide +kernel
theorem dX4_isSign_34 : decode cX4_isSign 34 = .ok (.ireturn, 1) := by decide +kernel
theorem dX4_county_0 : decode cX4_county 0 = .ok (.aload_n 0, 1) := by decide +kernel
theorem dX4_county_1 : decode cX4_county 1 = .ok (.iconst 0, 1) := by decide +kernel
theorem dX4_county_2 : decode cX4_county 2 = .ok (.putfield 58, 3) := by decide +kernel
theorem dX4_county_5 : decode cX4_county 5 = .ok (.iload_n 1, 1) := by decide +kernel
theorem dX4_county_6 : decode cX4_county 6 = .ok (.invokestatic 85, 3) := by decide +kernel
theorem dX4_county_9 : decode cX4_county 9 = .ok (.ifCond .ne 5, 3) := by decide +kernel
theorem dX4_county_12 : decode cX4_county 12 = .ok (.iconst (-1), 1) := by decide +kernel
theorem dX4_county_13 : decode cX4_county 13 = .ok (.ireturn, 1) := by decide +kernel
theorem dX4_county_14 : decode cX4_county 14 = .ok (.iload_n 2, 1) := by decide +kernel
theorem dX4_county_15 : decode cX4_county 15 = .ok (.invokestatic 88, 3) := by decide +kernel
theorem dX4_county_18 : decode cX4_county 18 = .ok (.ifCond .ne 6, 3) := by decide +kernel
theorem dX4_county_21 : decode cX4_county 21 = .ok (.bipush (-2), 2) := by decide +kernel
theorem dX4_county_23 : decode cX4_county 23 = .ok (.ireturn, 1) := by decide +kernel
theorem dX4_county_24 : decode cX4_county 24 = .ok (.aload_n 0, 1) := by decide +kernel
theorem dX4_county_25 : decode cX4_county 25 = .ok (.iload_n 1, 1) := by decide +kernel
theorem dX4_county_26 : decode cX4_county 26 = .ok (.iload_n 2, 1) := by decide +kernel
theorem dX4_county_27 : decode cX4_county 27 = .ok (.iload_n 3, 1) := by decide +kernel
theorem dX4_county_28 : decode cX4_county 28 = .ok (.iload 4, 2) := by decide +kernel
theorem dX4_county_30 : decode cX4_county 30 = .ok (.invokevirtual 91, 3) := by decide +kernel
theorem dX4_county_33 : decode cX4_county 33 = .ok (.istore 5, 2) := by decide +kernel
theorem dX4_county_35 : decode cX4_county 35 = .ok (.iload 5, 2) := by decide +kernel
theorem dX4_county_37 : decode cX4_county 37 = .ok (.ifCond .eq 10, 3) := by decide +kernel
theorem dX4_county_40 : decode cX4_county 40 = .ok (.aload_n 0, 1) := by decide +kernel
theorem dX4_county_41 : decode cX4_county 41 = .ok (.iload 5, 2) := by decide +kernel
theorem dX4_county_43 : decode cX4_county 43 = .ok (.invokevirtual 95, 3) := by decide +kernel
theorem dX4_county_46 : decode cX4_county 46 = .ok (.ireturn, 1) := by decide +kernel
theorem dX4_county_47 : decode cX4_county 47 = .ok (.bipush 60, 2) := by decide +kernel
theorem dX4_county_49 : decode cX4_county 49 = .ok (.iload_n 1, 1) := by decide +kernel
theorem dX4_county_50 : decode cX4_county 50 = .ok (.imul, 1) := by decide +kernel
theorem dX4_county_51 : decode cX4_county 51 = .ok (.iload_n 3, 1) := by decide +kernel
theorem dX4_county_52 : decode cX4_county 52 = .ok (.iadd, 1) := by decide +kernel
theorem dX4_county_53 : decode cX4_county 53 = .ok (.istore 6, 2) := by decide +kernel
theorem dX4_county_55 : decode cX4_county 55 = .ok (.aload_n 0, 1) := by decide +kernel
theorem dX4_county_56 : decode cX4_county 56 = .ok (.iload 6, 2) := by decide +kernel
theorem dX4_county_58 : decode cX4_county 58 = .ok (.putfield 82, 3) := by decide +kernel
theorem dX4_county_61 : decode cX4_county 61 = .ok (.aload_n 0, 1) := by decide +kernel
theorem dX4_county_62 : decode cX4_county 62 = .ok (.iload 6, 2) := by decide +kernel
theorem dX4_county_64 : decode cX4_county 64 = .ok (.iload 4, 2) := by decide +kernel
theorem dX4_county_66 : decode cX4_county 66 = .ok (.iadd, 1) := by decide +kernel
theorem dX4_county_67 : decode cX4_county 67 = .ok (.invokevirtual 98, 3) := by decide +kernel
theorem dX4_county_70 : decode cX4_county 70 = .ok (.ifCond .ne 14, 3) := by decide +kernel
theorem dX4_county_73 : decode cX4_county 73 = .ok (.bipush (-100), 2) := by decide +kernel
theorem dX4_county_75 : decode cX4_county 75 = .ok (.aload_n 0, 1) := by decide +kernel
theorem dX4_county_76 : decode cX4_county 76 = .ok (.getfield 82, 3) := by decide +kernel
theorem dX4_county_79 : decode cX4_county 79 = .ok (.iload 6, 2) := by decide +kernel
theorem dX4_county_81 : decode cX4_county 81 = .ok (.isub, 1) := by decide +kernel
theorem dX4_county_82 : decode cX4_county 82 = .ok (.isub, 1) := by decide +kernel
theorem dX4_county_83 : decode cX4_county 83 = .ok (.ireturn, 1) := by decide +kernel
theorem dX4_county_84 : decode cX4_county 84 = .ok (.aload_n 0, 1) := by decide +kernel
theorem dX4_county_85 : decode cX4_county 85 = .ok (.invokevirtual 101, 3) := by decide +kernel
theorem dX4_county_88 : decode cX4_county 88 = .ok (.aload_n 0, 1) := by decide +kernel
theorem dX4_county_89 : decode cX4_county 89 = .ok (.getfield 75, 3) := by decide +kernel
theorem dX4_county_92 : decode cX4_county 92 = .ok (.ireturn, 1) := by decide +kernel
theorem dX4_takeCounty_0 : decode cX4_takeCounty 0 = .ok (.aload_n 0, 1) := by decide +kernel
theorem dX4_takeCounty_1 : decode cX4_takeCounty 1 = .ok (.aload_n 0, 1) := by decide +kernel
theorem dX4_takeCounty_2 : decode cX4_takeCounty 2 = .ok (.getfield 104, 3) := by decide +kernel
theorem dX4_takeCounty_5 : decode cX4_takeCounty 5 = .ok (.putfield 68, 3) := by decide +kernel
theorem dX4_takeCounty_8 : decode cX4_takeCounty 8 = .ok (.iconst 0, 1) := by decide +kernel
theorem dX4_takeCounty_9 : decode cX4_takeCounty 9 = .ok (.istore_n 1, 1) := by decide +kernel
theorem dX4_takeCounty_10 : decode cX4_takeCounty 10 = .ok (.iload_n 1, 1) := by decide +kernel
theorem dX4_takeCounty_11 : decode cX4_takeCounty 11 = .ok (.aload_n 0, 1) := by decide +kernel
theorem dX4_takeCounty_12 : decode cX4_takeCounty 12 = .ok (.invokevirtual 107, 3) := by decide +kernel
theorem dX4_takeCounty_15 : decode cX4_takeCounty 15 = .ok (.if_icmp .ge 21, 3) := by decide +kernel
theorem dX4_takeCounty_18 : decode cX4_takeCounty 18 = .ok (.aload_n 0, 1) := by decide +kernel
theorem dX4_takeCounty_19 : decode cX4_takeCounty 19 = .ok (.getfield 19, 3) := by decide +kernel
theorem dX4_takeCounty_22 : decode cX4_takeCounty 22 = .ok (.iload_n 1, 1) := by decide +kernel
theorem dX4_takeCounty_23 : decode cX4_takeCounty 23 = .ok (.aload_n 0, 1) := by decide +kernel
theorem dX4_takeCounty_24 : decode cX4_takeCounty 24 = .ok (.getfield 31, 3) := by decide +kernel
theorem dX4_takeCounty_27 : decode cX4_takeCounty 27 = .ok (.iload_n 1, 1) := by decide +kernel
theorem dX4_takeCounty_28 : decode cX4_takeCounty 28 = .ok (.iaload, 1) := by decide +kernel
theorem dX4_takeCounty_29 : decode cX4_takeCounty 29 = .ok (.iastore, 1) := by decide +kernel
theorem dX4_takeCounty_30 : decode cX4_takeCounty 30 = .ok (.iinc 1 1, 3) := by decide +kernel
theorem dX4_takeCounty_33 : decode cX4_takeCounty 33 = .ok (.goto (-23), 3) := by decide +kernel
theorem dX4_takeCounty_36 : decode cX4_takeCounty 36 = .ok (.aload_n 0, 1) := by decide +kernel
theorem dX4_takeCounty_37 : decode cX4_takeCounty 37 = .ok (.aload_n 0, 1) := by decide +kernel
theorem dX4_takeCounty_38 : decode cX4_takeCounty 38 = .ok (.getfield 111, 3) := by decide +kernel
theorem dX4_takeCounty_41 : decode cX4_takeCounty 41 = .ok (.putfield 75, 3) := by decide +kernel
theorem dX4_takeCounty_44 : decode cX4_takeCounty 44 = .ok (.iconst 0, 1) := by decide +kernel
theorem dX4_takeCounty_45 : decode cX4_takeCounty 45 = .ok (.istore_n 1, 1) := by decide +kernel
theorem dX4_takeCounty_46 : decode cX4_takeCounty 46 = .ok (.iload_n 1, 1) := by decide +kernel
theorem dX4_takeCounty_47 : decode cX4_takeCounty 47 = .ok (.aload_n 0, 1) := by decide +kernel
theorem dX4_takeCounty_48 : decode cX4_takeCounty 48 = .ok (.getfield 75, 3) := by decide +kernel
theorem dX4_takeCounty_51 : decode cX4_takeCounty 51 = .ok (.if_icmp .ge 55, 3) := by decide +kernel
theorem dX4_takeCounty_54 : decode cX4_takeCounty 54 = .ok (.aload_n 0, 1) := by decide +kernel
theorem dX4_takeCounty_55 : decode cX4_takeCounty 55 = .ok (.getfield 22, 3) := by decide +kernel
theorem dX4_takeCounty_58 : decode cX4_takeCounty 58 = .ok (.iload_n 1, 1) := by decide +kernel
theorem dX4_takeCounty_59 : decode cX4_takeCounty 59 = .ok (.aload_n 0, 1) := by decide +kernel
theorem dX4_takeCounty_60 : decode cX4_takeCounty 60 = .ok (.getfield 34, 3) := by decide +kernel
theorem dX4_takeCounty_63 : decode cX4_takeCounty 63 = .ok (.iconst 3, 1) := by decide +kernel
theorem dX4_takeCounty_64 : decode cX4_takeCounty 64 = .ok (.iload_n 1, 1) := by decide +kernel
theorem dX4_takeCounty_65 : decode cX4_takeCounty 65 = .ok (.imul, 1) := by decide +kernel
theorem dX4_takeCounty_66 : decode cX4_takeCounty 66 = .ok (.iaload, 1) := by decide +kernel
theorem dX4_takeCounty_67 : decode cX4_takeCounty 67 = .ok (.iastore, 1) := by decide +kernel
theorem dX4_takeCounty_68 : decode cX4_takeCounty 68 = .ok (.aload_n 0, 1) := by decide +kernel
theorem dX4_takeCounty_69 : decode cX4_takeCounty 69 = .ok (.getfield 25, 3) := by decide +kernel
theorem dX4_takeCounty_72 : decode cX4_takeCounty 72 = .ok (.iload_n 1, 1) := by decide +kernel
theorem dX4_takeCounty_73 : decode cX4_takeCounty 73 = .ok (.aload_n 0, 1) := by decide +kernel
theorem dX4_takeCounty_74 : decode cX4_takeCounty 74 = .ok (.getfield 34, 3) := by decide +kernel
theorem dX4_takeCounty_77 : decode cX4_takeCounty 77 = .ok (.iconst 3, 1) := by decide +kernel
theorem dX4_takeCounty_78 : decode cX4_takeCounty 78 = .ok (.iload_n 1, 1) := by decide +kernel
theorem dX4_takeCounty_79 : decode cX4_takeCounty 79 = .ok (.imul, 1) := by decide +kernel
theorem dX4_takeCounty_80 : decode cX4_takeCounty 80 = .ok (.iconst 1, 1) := by decide +kernel
theorem dX4_takeCounty_81 : decode cX4_takeCounty 81 = .ok (.iadd, 1) := by decide +kernel
theorem dX4_takeCounty_82 : decode cX4_takeCounty 82 = .ok (.iaload, 1) := by decide +kernel
theorem dX4_takeCounty_83 : decode cX4_takeCounty 83 = .ok (.iastore, 1) := by decide +kernel
theorem dX4_takeCounty_84 : decode cX4_takeCounty 84 = .ok (.aload_n 0, 1) := by decide +kernel
theorem dX4_takeCounty_85 : decode cX4_takeCounty 85 = .ok (.getfield 28, 3) := by decide +kernel
theorem dX4_takeCounty_88 : decode cX4_takeCounty 88 = .ok (.iload_n 1, 1) := by decide +kernel
theorem dX4_takeCounty_89 : decode cX4_takeCounty 89 = .ok (.aload_n 0, 1) := by decide +kernel
theorem dX4_takeCounty_90 : decode cX4_takeCounty 90 = .ok (.getfield 34, 3) := by decide +kernel
theorem dX4_takeCounty_93 : decode cX4_takeCounty 93 = .ok (.iconst 3, 1) := by decide +kernel
theorem dX4_takeCounty_94 : decode cX4_takeCounty 94 = .ok (.iload_n 1, 1) := by decide +kernel
theorem dX4_takeCounty_95 : decode cX4_takeCounty 95 = .ok (.imul, 1) := by decide +kernel
theorem dX4_takeCounty_96 : decode cX4_takeCounty 96 = .ok (.iconst 2, 1) := by decide +kernel
theorem dX4_takeCounty_97 : decode cX4_takeCounty 97 = .ok (.iadd, 1) := by decide +kernel
theorem dX4_takeCounty_98 : decode cX4_takeCounty 98 = .ok (.iaload, 1) := by decide +kernel
theorem dX4_takeCounty_99 : decode cX4_takeCounty 99 = .ok (.iastore, 1) := by decide +kernel
theorem dX4_takeCounty_100 : decode cX4_takeCounty 100 = .ok (.iinc 1 1, 3) := by decide +kernel
theorem dX4_takeCounty_103 : decode cX4_takeCounty 103 = .ok (.goto (-57), 3) := by decide +kernel
theorem dX4_takeCounty_106 : decode cX4_takeCounty 106 = .ok (.aload_n 0, 1) := by decide +kernel
theorem dX4_takeCounty_107 : decode cX4_takeCounty 107 = .ok (.iconst 0, 1) := by decide +kernel
theorem dX4_takeCounty_108 : decode cX4_takeCounty 108 = .ok (.putfield 114, 3) := by decide +kernel
theorem dX4_takeCounty_111 : decode cX4_takeCounty 111 = .ok (.aload_n 0, 1) := by decide +kernel
theorem dX4_takeCounty_112 : decode cX4_takeCounty 112 = .ok (.iconst 0, 1) := by decide +kernel
theorem dX4_takeCounty_113 : decode cX4_takeCounty 113 = .ok (.putfield 117, 3) := by decide +kernel
theorem dX4_takeCounty_116 : decode cX4_takeCounty 116 = .ok (.aload_n 0, 1) := by decide +kernel
theorem dX4_takeCounty_117 : decode cX4_takeCounty 117 = .ok (.iconst 0, 1) := by decide +kernel
theorem dX4_takeCounty_118 : decode cX4_takeCounty 118 = .ok (.putfield 120, 3) := by decide +kernel
theorem dX4_takeCounty_121 : decode cX4_takeCounty 121 = .ok (.aload_n 0, 1) := by decide +kernel
theorem dX4_takeCounty_122 : decode cX4_takeCounty 122 = .ok (.iconst 0, 1) := by decide +kernel
theorem dX4_takeCounty_123 : decode cX4_takeCounty 123 = .ok (.putfield 123, 3) := by decide +kernel
theorem dX4_takeCounty_126 : decode cX4_takeCounty 126 = .ok (.return_, 1) := by decide +kernel
theorem dX4_readCounty_0 : decode cX4_readCounty 0 = .ok (.aload_n 0, 1) := by decide +kernel
theorem dX4_readCounty_1 : decode cX4_readCounty 1 = .ok (.iconst 0, 1) := by decide +kernel
theorem dX4_readCounty_2 : decode cX4_readCounty 2 = .ok (.putfield 111, 3) := by decide +kernel
theorem dX4_readCounty_5 : decode cX4_readCounty 5 = .ok (.aload_n 0, 1) := by decide +kernel
theorem dX4_readCounty_6 : decode cX4_readCounty 6 = .ok (.iload_n 1, 1) := by decide +kernel
theorem dX4_readCounty_7 : decode cX4_readCounty 7 = .ok (.bipush 104, 2) := by decide +kernel
theorem dX4_readCounty_9 : decode cX4_readCounty 9 = .ok (.invokevirtual 126, 3) := by decide +kernel
theorem dX4_readCounty_12 : decode cX4_readCounty 12 = .ok (.ifCond .ne 5, 3) := by decide +kernel
theorem dX4_readCounty_15 : decode cX4_readCounty 15 = .ok (.iconst 0, 1) := by decide +kernel
theorem dX4_readCounty_16 : decode cX4_readCounty 16 = .ok (.ireturn, 1) := by decide +kernel
theorem dX4_readCounty_17 : decode cX4_readCounty 17 = .ok (.aload_n 0, 1) := by decide +kernel
theorem dX4_readCounty_18 : decode cX4_readCounty 18 = .ok (.aload_n 0, 1) := by decide +kernel
theorem dX4_readCounty_19 : decode cX4_readCounty 19 = .ok (.iload_n 1, 1) := by decide +kernel
theorem dX4_readCounty_20 : decode cX4_readCounty 20 = .ok (.iconst 2, 1) := by decide +kernel
theorem dX4_readCounty_21 : decode cX4_readCounty 21 = .ok (.iconst 5, 1) := by decide +kernel
theorem dX4_readCounty_22 : decode cX4_readCounty 22 = .ok (.invokevirtual 130, 3) := by decide +kernel
theorem dX4_readCounty_25 : decode cX4_readCounty 25 = .ok (.putfield 104, 3) := by decide +kernel
theorem dX4_readCounty_28 : decode cX4_readCounty 28 = .ok (.aload_n 0, 1) := by decide +kernel
theorem dX4_readCounty_29 : decode cX4_readCounty 29 = .ok (.getfield 104, 3) := by decide +kernel
theorem dX4_readCounty_32 : decode cX4_readCounty 32 = .ok (.bipush (-9), 2) := by decide +kernel
theorem dX4_readCounty_34 : decode cX4_readCounty 34 = .ok (.if_icmp .ne 5, 3) := by decide +kernel
theorem dX4_readCounty_37 : decode cX4_readCounty 37 = .ok (.iconst 0, 1) := by decide +kernel
theorem dX4_readCounty_38 : decode cX4_readCounty 38 = .ok (.ireturn, 1) := by decide +kernel
theorem dX4_readCounty_39 : decode cX4_readCounty 39 = .ok (.iconst 0, 1) := by decide +kernel
theorem dX4_readCounty_40 : decode cX4_readCounty 40 = .ok (.istore_n 2, 1) := by decide +kernel
theorem dX4_readCounty_41 : decode cX4_readCounty 41 = .ok (.iload_n 2, 1) := by decide +kernel
theorem dX4_readCounty_42 : decode cX4_readCounty 42 = .ok (.aload_n 0, 1) := by decide +kernel
theorem dX4_readCounty_43 : decode cX4_readCounty 43 = .ok (.getfield 104, 3) := by decide +kernel
theorem dX4_readCounty_46 : decode cX4_readCounty 46 = .ok (.invokestatic 78, 3) := by decide +kernel
theorem dX4_readCounty_49 : decode cX4_readCounty 49 = .ok (.if_icmp .ge 36, 3) := by decide +kernel
theorem dX4_readCounty_52 : decode cX4_readCounty 52 = .ok (.aload_n 0, 1) := by decide +kernel
theorem dX4_readCounty_53 : decode cX4_readCounty 53 = .ok (.getfield 31, 3) := by decide +kernel
theorem dX4_readCounty_56 : decode cX4_readCounty 56 = .ok (.iload_n 2, 1) := by decide +kernel
theorem dX4_readCounty_57 : decode cX4_readCounty 57 = .ok (.aload_n 0, 1) := by decide +kernel
theorem dX4_readCounty_58 : decode cX4_readCounty 58 = .ok (.iload_n 1, 1) := by decide +kernel
theorem dX4_readCounty_59 : decode cX4_readCounty 59 = .ok (.iconst 0, 1) := by decide +kernel
theorem dX4_readCounty_60 : decode cX4_readCounty 60 = .ok (.bipush 9, 2) := by decide +kernel
theorem dX4_readCounty_62 : decode cX4_readCounty 62 = .ok (.invokevirtual 130, 3) := by decide +kernel
theorem dX4_readCounty_65 : decode cX4_readCounty 65 = .ok (.iastore, 1) := by decide +kernel
theorem dX4_readCounty_66 : decode cX4_readCounty 66 = .ok (.aload_n 0, 1) := by decide +kernel
theorem dX4_readCounty_67 : decode cX4_readCounty 67 = .ok (.getfield 31, 3) := by decide +kernel
theorem dX4_readCounty_70 : decode cX4_readCounty 70 = .ok (.iload_n 2, 1) := by decide +kernel
theorem dX4_readCounty_71 : decode cX4_readCounty 71 = .ok (.iaload, 1) := by decide +kernel
theorem dX4_readCounty_72 : decode cX4_readCounty 72 = .ok (.bipush (-9), 2) := by decide +kernel
theorem dX4_readCounty_74 : decode cX4_readCounty 74 = .ok (.if_icmp .ne 5, 3) := by decide +kernel
theorem dX4_readCounty_77 : decode cX4_readCounty 77 = .ok (.iconst 0, 1) := by decide +kernel
theorem dX4_readCounty_78 : decode cX4_readCounty 78 = .ok (.ireturn, 1) := by decide +kernel
theorem dX4_readCounty_79 : decode cX4_readCounty 79 = .ok (.iinc 2 1, 3) := by decide +kernel
theorem dX4_readCounty_82 : decode cX4_readCounty 82 = .ok (.goto (-41), 3) := by decide +kernel
theorem dX4_readCounty_85 : decode cX4_readCounty 85 = .ok (.aload_n 0, 1) := by decide +kernel
theorem dX4_readCounty_86 : decode cX4_readCounty 86 = .ok (.getfield 111, 3) := by decide +kernel
theorem dX4_readCounty_89 : decode cX4_readCounty 89 = .ok (.ifCond .eq 19, 3) := by decide +kernel
theorem dX4_readCounty_92 : decode cX4_readCounty 92 = .ok (.aload_n 0, 1) := by decide +kernel
theorem dX4_readCounty_93 : decode cX4_readCounty 93 = .ok (.getfield 111, 3) := by decide +kernel
theorem dX4_readCounty_96 : decode cX4_readCounty 96 = .ok (.iconst 5, 1) := by decide +kernel
theorem dX4_readCounty_97 : decode cX4_readCounty 97 = .ok (.if_icmp .ge 31, 3) := by decide +kernel
theorem dX4_readCounty_100 : decode cX4_readCounty 100 = .ok (.aload_n 0, 1) := by decide +kernel
theorem dX4_readCounty_101 : decode cX4_readCounty 101 = .ok (.getfield 82, 3) := by decide +kernel
theorem dX4_readCounty_104 : decode cX4_readCounty 104 = .ok (.iload_n 1, 1) := by decide +kernel
theorem dX4_readCounty_105 : decode cX4_readCounty 105 = .ok (.if_icmp .ge 23, 3) := by decide +kernel
theorem dX4_readCounty_108 : decode cX4_readCounty 108 = .ok (.aload_n 0, 1) := by decide +kernel
theorem dX4_readCounty_109 : decode cX4_readCounty 109 = .ok (.iload_n 1, 1) := by decide +kernel
theorem dX4_readCounty_110 : decode cX4_readCounty 110 = .ok (.bipush 59, 2) := by decide +kernel
theorem dX4_readCounty_112 : decode cX4_readCounty 112 = .ok (.invokevirtual 126, 3) := by decide +kernel
theorem dX4_readCounty_115 : decode cX4_readCounty 115 = .ok (.ifCond .eq 11, 3) := by decide +kernel
theorem dX4_readCounty_118 : decode cX4_readCounty 118 = .ok (.aload_n 0, 1) := by decide +kernel
theorem dX4_readCounty_119 : decode cX4_readCounty 119 = .ok (.iload_n 1, 1) := by decide +kernel
theorem dX4_readCounty_120 : decode cX4_readCounty 120 = .ok (.invokevirtual 134, 3) := by decide +kernel
theorem dX4_readCounty_123 : decode cX4_readCounty 123 = .ok (.ifCond .ne (-38), 3) := by decide +kernel
theorem dX4_readCounty_126 : decode cX4_readCounty 126 = .ok (.iconst 0, 1) := by decide +kernel
theorem dX4_readCounty_127 : decode cX4_readCounty 127 = .ok (.ireturn, 1) := by decide +kernel
theorem dX4_readCounty_128 : decode cX4_readCounty 128 = .ok (.aload_n 0, 1) := by decide +kernel
theorem dX4_readCounty_129 : decode cX4_readCounty 129 = .ok (.getfield 82, 3) := by decide +kernel
theorem dX4_readCounty_132 : decode cX4_readCounty 132 = .ok (.iload_n 1, 1) := by decide +kernel
theorem dX4_readCounty_133 : decode cX4_readCounty 133 = .ok (.if_icmp .ne 7, 3) := by decide +kernel
theorem dX4_readCounty_136 : decode cX4_readCounty 136 = .ok (.iconst 1, 1) := by decide +kernel
theorem dX4_readCounty_137 : decode cX4_readCounty 137 = .ok (.goto 4, 3) := by decide +kernel
theorem dX4_readCounty_140 : decode cX4_readCounty 140 = .ok (.iconst 0, 1) := by decide +kernel
theorem dX4_readCounty_141 : decode cX4_readCounty 141 = .ok (.ireturn, 1) := by decide +kernel
theorem dX4_readGoer_0 : decode cX4_readGoer 0 = .ok (.aload_n 0, 1) := by decide +kernel
theorem dX4_readGoer_1 : decode cX4_readGoer 1 = .ok (.getfield 82, 3) := by decide +kernel
theorem dX4_readGoer_4 : decode cX4_readGoer 4 = .ok (.iload_n 1, 1) := by decide +kernel
theorem dX4_readGoer_5 : decode cX4_readGoer 5 = .ok (.if_icmp .ge 15, 3) := by decide +kernel
theorem dX4_readGoer_8 : decode cX4_readGoer 8 = .ok (.aload_n 0, 1) := by decide +kernel
theorem dX4_readGoer_9 : decode cX4_readGoer 9 = .ok (.getfield 16, 3) := by decide +kernel
theorem dX4_readGoer_12 : decode cX4_readGoer 12 = .ok (.aload_n 0, 1) := by decide +kernel
theorem dX4_readGoer_13 : decode cX4_readGoer 13 = .ok (.getfield 82, 3) := by decide +kernel
theorem dX4_readGoer_16 : decode cX4_readGoer 16 = .ok (.iaload, 1) := by decide +kernel
theorem dX4_readGoer_17 : decode cX4_readGoer 17 = .ok (.goto 4, 3) := by decide +kernel
theorem dX4_readGoer_20 : decode cX4_readGoer 20 = .ok (.iconst 0, 1) := by decide +kernel
theorem dX4_readGoer_21 : decode cX4_readGoer 21 = .ok (.istore_n 2, 1) := by decide +kernel
theorem dX4_readGoer_22 : decode cX4_readGoer 22 = .ok (.iconst 3, 1) := by decide +kernel
theorem dX4_readGoer_23 : decode cX4_readGoer 23 = .ok (.aload_n 0, 1) := by decide +kernel
theorem dX4_readGoer_24 : decode cX4_readGoer 24 = .ok (.getfield 111, 3) := by decide +kernel
theorem dX4_readGoer_27 : decode cX4_readGoer 27 = .ok (.imul, 1) := by decide +kernel
theorem dX4_readGoer_28 : decode cX4_readGoer 28 = .ok (.istore_n 3, 1) := by decide +kernel
theorem dX4_readGoer_29 : decode cX4_readGoer 29 = .ok (.aload_n 0, 1) := by decide +kernel
theorem dX4_readGoer_30 : decode cX4_readGoer 30 = .ok (.getfield 34, 3) := by decide +kernel
theorem dX4_readGoer_33 : decode cX4_readGoer 33 = .ok (.iload_n 3, 1) := by decide +kernel
theorem dX4_readGoer_34 : decode cX4_readGoer 34 = .ok (.iload_n 2, 1) := by decide +kernel
theorem dX4_readGoer_35 : decode cX4_readGoer 35 = .ok (.bipush 103, 2) := by decide +kernel
theorem dX4_readGoer_37 : decode cX4_readGoer 37 = .ok (.if_icmp .ne 7, 3) := by decide +kernel
theorem dX4_readGoer_40 : decode cX4_readGoer 40 = .ok (.iconst 0, 1) := by decide +kernel
theorem dX4_readGoer_41 : decode cX4_readGoer 41 = .ok (.goto 25, 3) := by decide +kernel
theorem dX4_readGoer_44 : decode cX4_readGoer 44 = .ok (.iload_n 2, 1) := by decide +kernel
theorem dX4_readGoer_45 : decode cX4_readGoer 45 = .ok (.bipush 116, 2) := by decide +kernel
theorem dX4_readGoer_47 : decode cX4_readGoer 47 = .ok (.if_icmp .ne 7, 3) := by decide +kernel
theorem dX4_readGoer_50 : decode cX4_readGoer 50 = .ok (.iconst 1, 1) := by decide +kernel
theorem dX4_readGoer_51 : decode cX4_readGoer 51 = .ok (.goto 15, 3) := by decide +kernel
theorem dX4_readGoer_54 : decode cX4_readGoer 54 = .ok (.iload_n 2, 1) := by decide +kernel
theorem dX4_readGoer_55 : decode cX4_readGoer 55 = .ok (.bipush 99, 2) := by decide +kernel
theorem dX4_readGoer_57 : decode cX4_readGoer 57 = .ok (.if_icmp .ne 7, 3) := by decide +kernel
theorem dX4_readGoer_60 : decode cX4_readGoer 60 = .ok (.iconst 2, 1) := by decide +kernel
theorem dX4_readGoer_61 : decode cX4_readGoer 61 = .ok (.goto 5, 3) := by decide +kernel
theorem dX4_readGoer_64 : decode cX4_readGoer 64 = .ok (.bipush (-9), 2) := by decide +kernel
theorem dX4_readGoer_66 : decode cX4_readGoer 66 = .ok (.iastore, 1) := by decide +kernel
theorem dX4_readGoer_67 : decode cX4_readGoer 67 = .ok (.aload_n 0, 1) := by decide +kernel
theorem dX4_readGoer_68 : decode cX4_readGoer 68 = .ok (.getfield 34, 3) := by decide +kernel
theorem dX4_readGoer_71 : decode cX4_readGoer 71 = .ok (.iload_n 3, 1) := by decide +kernel
theorem dX4_readGoer_72 : decode cX4_readGoer 72 = .ok (.iaload, 1) := by decide +kernel
theorem dX4_readGoer_73 : decode cX4_readGoer 73 = .ok (.bipush (-9), 2) := by decide +kernel
theorem dX4_readGoer_75 : decode cX4_readGoer 75 = .ok (.if_icmp .ne 5, 3) := by decide +kernel
theorem dX4_readGoer_78 : decode cX4_readGoer 78 = .ok (.iconst 0, 1) := by decide +kernel
theorem dX4_readGoer_79 : decode cX4_readGoer 79 = .ok (.ireturn, 1) := by decide +kernel
theorem dX4_readGoer_80 : decode cX4_readGoer 80 = .ok (.aload_n 0, 1) := by decide +kernel
theorem dX4_readGoer_81 : decode cX4_readGoer 81 = .ok (.dup, 1) := by decide +kernel
theorem dX4_readGoer_82 : decode cX4_readGoer 82 = .ok (.getfield 82, 3) := by decide +kernel
theorem dX4_readGoer_85 : decode cX4_readGoer 85 = .ok (.iconst 1, 1) := by decide +kernel
theorem dX4_readGoer_86 : decode cX4_readGoer 86 = .ok (.iadd, 1) := by decide +kernel
theorem dX4_readGoer_87 : decode cX4_readGoer 87 = .ok (.putfield 82, 3) := by decide +kernel
theorem dX4_readGoer_90 : decode cX4_readGoer 90 = .ok (.aload_n 0, 1) := by decide +kernel
theorem dX4_readGoer_91 : decode cX4_readGoer 91 = .ok (.getfield 34, 3) := by decide +kernel
theorem dX4_readGoer_94 : decode cX4_readGoer 94 = .ok (.iload_n 3, 1) := by decide +kernel
theorem dX4_readGoer_95 : decode cX4_readGoer 95 = .ok (.iconst 1, 1) := by decide +kernel
theorem dX4_readGoer_96 : decode cX4_readGoer 96 = .ok (.iadd, 1) := by decide +kernel
theorem dX4_readGoer_97 : decode cX4_readGoer 97 = .ok (.aload_n 0, 1) := by decide +kernel
theorem dX4_readGoer_98 : decode cX4_readGoer 98 = .ok (.iload_n 1, 1) := by decide +kernel
theorem dX4_readGoer_99 : decode cX4_readGoer 99 = .ok (.iconst 1, 1) := by decide +kernel
theorem dX4_readGoer_100 : decode cX4_readGoer 100 = .ok (.bipush 9, 2) := by decide +kernel
theorem dX4_readGoer_102 : decode cX4_readGoer 102 = .ok (.invokevirtual 130, 3) := by decide +kernel
theorem dX4_readGoer_105 : decode cX4_readGoer 105 = .ok (.iastore, 1) := by decide +kernel
theorem dX4_readGoer_106 : decode cX4_readGoer 106 = .ok (.aload_n 0, 1) := by decide +kernel
theorem dX4_readGoer_107 : decode cX4_readGoer 107 = .ok (.getfield 34, 3) := by decide +kernel
theorem dX4_readGoer_110 : decode cX4_readGoer 110 = .ok (.iload_n 3, 1) := by decide +kernel
theorem dX4_readGoer_111 : decode cX4_readGoer 111 = .ok (.iconst 1, 1) := by decide +kernel
theorem dX4_readGoer_112 : decode cX4_readGoer 112 = .ok (.iadd, 1) := by decide +kernel
theorem dX4_readGoer_113 : decode cX4_readGoer 113 = .ok (.iaload, 1) := by decide +kernel
theorem dX4_readGoer_114 : decode cX4_readGoer 114 = .ok (.bipush (-9), 2) := by decide +kernel
theorem dX4_readGoer_116 : decode cX4_readGoer 116 = .ok (.if_icmp .ne 5, 3) := by decide +kernel
theorem dX4_readGoer_119 : decode cX4_readGoer 119 = .ok (.iconst 0, 1) := by decide +kernel
theorem dX4_readGoer_120 : decode cX4_readGoer 120 = .ok (.ireturn, 1) := by decide +kernel
theorem dX4_readGoer_121 : decode cX4_readGoer 121 = .ok (.aload_n 0, 1) := by decide +kernel
theorem dX4_readGoer_122 : decode cX4_readGoer 122 = .ok (.getfield 34, 3) := by decide +kernel
theorem dX4_readGoer_125 : decode cX4_readGoer 125 = .ok (.iload_n 3, 1) := by decide +kernel
theorem dX4_readGoer_126 : decode cX4_readGoer 126 = .ok (.iconst 2, 1) := by decide +kernel
theorem dX4_readGoer_127 : decode cX4_readGoer 127 = .ok (.iadd, 1) := by decide +kernel
theorem dX4_readGoer_128 : decode cX4_readGoer 128 = .ok (.aload_n 0, 1) := by decide +kernel
theorem dX4_readGoer_129 : decode cX4_readGoer 129 = .ok (.iload_n 1, 1) := by decide +kernel
theorem dX4_readGoer_130 : decode cX4_readGoer 130 = .ok (.iconst 0, 1) := by decide +kernel
theorem dX4_readGoer_131 : decode cX4_readGoer 131 = .ok (.aload_n 0, 1) := by decide +kernel
theorem dX4_readGoer_132 : decode cX4_readGoer 132 = .ok (.getfield 104, 3) := by decide +kernel
theorem dX4_readGoer_135 : decode cX4_readGoer 135 = .ok (.iconst 1, 1) := by decide +kernel
theorem dX4_readGoer_136 : decode cX4_readGoer 136 = .ok (.isub, 1) := by decide +kernel
theorem dX4_readGoer_137 : decode cX4_readGoer 137 = .ok (.invokevirtual 130, 3) := by decide +kernel
theorem dX4_readGoer_140 : decode cX4_readGoer 140 = .ok (.iastore, 1) := by decide +kernel
theorem dX4_readGoer_141 : decode cX4_readGoer 141 = .ok (.aload_n 0, 1) := by decide +kernel
theorem dX4_readGoer_142 : decode cX4_readGoer 142 = .ok (.dup, 1) := by decide +kernel
theorem dX4_readGoer_143 : decode cX4_readGoer 143 = .ok (.getfield 111, 3) := by decide +kernel
theorem dX4_readGoer_146 : decode cX4_readGoer 146 = .ok (.iconst 1, 1) := by decide +kernel
theorem dX4_readGoer_147 : decode cX4_readGoer 147 = .ok (.iadd, 1) := by decide +kernel
theorem dX4_readGoer_148 : decode cX4_readGoer 148 = .ok (.putfield 111, 3) := by decide +kernel
theorem dX4_readGoer_151 : decode cX4_readGoer 151 = .ok (.aload_n 0, 1) := by decide +kernel
theorem dX4_readGoer_152 : decode cX4_readGoer 152 = .ok (.getfield 34, 3) := by decide +kernel
theorem dX4_readGoer_155 : decode cX4_readGoer 155 = .ok (.iload_n 3, 1) := by decide +kernel
theorem dX4_readGoer_156 : decode cX4_readGoer 156 = .ok (.iconst 2, 1) := by decide +kernel
theorem dX4_readGoer_157 : decode cX4_readGoer 157 = .ok (.iadd, 1) := by decide +kernel
theorem dX4_readGoer_158 : decode cX4_readGoer 158 = .ok (.iaload, 1) := by decide +kernel
theorem dX4_readGoer_159 : decode cX4_readGoer 159 = .ok (.bipush (-9), 2) := by decide +kernel
theorem dX4_readGoer_161 : decode cX4_readGoer 161 = .ok (.if_icmp .eq 7, 3) := by decide +kernel
theorem dX4_readGoer_164 : decode cX4_readGoer 164 = .ok (.iconst 1, 1) := by decide +kernel
theorem dX4_readGoer_165 : decode cX4_readGoer 165 = .ok (.goto 4, 3) := by decide +kernel
theorem dX4_readGoer_168 : decode cX4_readGoer 168 = .ok (.iconst 0, 1) := by decide +kernel
theorem dX4_readGoer_169 : decode cX4_readGoer 169 = .ok (.ireturn, 1) := by decide +kernel
theorem dX4_thickOf_0 : decode cX4_thickOf 0 = .ok (.aload_n 0, 1) := by decide +kernel
theorem dX4_thickOf_1 : decode cX4_thickOf 1 = .ok (.getfield 22, 3) := by decide +kernel
theorem dX4_thickOf_4 : decode cX4_thickOf 4 = .ok (.iload_n 1, 1) := by decide +kernel
theorem dX4_thickOf_5 : decode cX4_thickOf 5 = .ok (.iaload, 1) := by decide +kernel
theorem dX4_thickOf_6 : decode cX4_thickOf 6 = .ok (.ifCond .ne 12, 3) := by decide +kernel
theorem dX4_thickOf_9 : decode cX4_thickOf 9 = .ok (.aload_n 0, 1) := by decide +kernel
theorem dX4_thickOf_10 : decode cX4_thickOf 10 = .ok (.getfield 25, 3) := by decide +kernel
theorem dX4_thickOf_13 : decode cX4_thickOf 13 = .ok (.iload_n 1, 1) := by decide +kernel
theorem dX4_thickOf_14 : decode cX4_thickOf 14 = .ok (.iaload, 1) := by decide +kernel
theorem dX4_thickOf_15 : decode cX4_thickOf 15 = .ok (.goto 32, 3) := by decide +kernel
theorem dX4_thickOf_18 : decode cX4_thickOf 18 = .ok (.aload_n 0, 1) := by decide +kernel
theorem dX4_thickOf_19 : decode cX4_thickOf 19 = .ok (.getfield 22, 3) := by decide +kernel
theorem dX4_thickOf_22 : decode cX4_thickOf 22 = .ok (.iload_n 1, 1) := by decide +kernel
theorem dX4_thickOf_23 : decode cX4_thickOf 23 = .ok (.iaload, 1) := by decide +kernel
theorem dX4_thickOf_24 : decode cX4_thickOf 24 = .ok (.iconst 1, 1) := by decide +kernel
theorem dX4_thickOf_25 : decode cX4_thickOf 25 = .ok (.if_icmp .ne 14, 3) := by decide +kernel
theorem dX4_thickOf_28 : decode cX4_thickOf 28 = .ok (.aload_n 0, 1) := by decide +kernel
theorem dX4_thickOf_29 : decode cX4_thickOf 29 = .ok (.getfield 25, 3) := by decide +kernel
theorem dX4_thickOf_32 : decode cX4_thickOf 32 = .ok (.iload_n 1, 1) := by decide +kernel
theorem dX4_thickOf_33 : decode cX4_thickOf 33 = .ok (.iaload, 1) := by decide +kernel
theorem dX4_thickOf_34 : decode cX4_thickOf 34 = .ok (.iconst 1, 1) := by decide +kernel
theorem dX4_thickOf_35 : decode cX4_thickOf 35 = .ok (.isub, 1) := by decide +kernel
theorem dX4_thickOf_36 : decode cX4_thickOf 36 = .ok (.goto 11, 3) := by decide +kernel
theorem dX4_thickOf_39 : decode cX4_thickOf 39 = .ok (.aload_n 0, 1) := by decide +kernel
theorem dX4_thickOf_40 : decode cX4_thickOf 40 = .ok (.getfield 25, 3) := by decide +kernel
theorem dX4_thickOf_43 : decode cX4_thickOf 43 = .ok (.iload_n 1, 1) := by decide +kernel
theorem dX4_thickOf_44 : decode cX4_thickOf 44 = .ok (.iaload, 1) := by decide +kernel
theorem dX4_thickOf_45 : decode cX4_thickOf 45 = .ok (.iconst 2, 1) := by decide +kernel
theorem dX4_thickOf_46 : decode cX4_thickOf 46 = .ok (.idiv, 1) := by decide +kernel
theorem dX4_thickOf_47 : decode cX4_thickOf 47 = .ok (.ireturn, 1) := by decide +kernel
theorem dX4_fitsHole_0 : decode cX4_fitsHole 0 = .ok (.aload_n 0, 1) := by decide +kernel
theorem dX4_fitsHole_1 : decode cX4_fitsHole 1 = .ok (.getfield 19, 3) := by decide +kernel
theorem dX4_fitsHole_4 : decode cX4_fitsHole 4 = .ok (.iload_n 2, 1) := by decide +kernel
theorem dX4_fitsHole_5 : decode cX4_fitsHole 5 = .ok (.iaload, 1) := by decide +kernel
theorem dX4_fitsHole_6 : decode cX4_fitsHole 6 = .ok (.ifCond .le 21, 3) := by decide +kernel
theorem dX4_fitsHole_9 : decode cX4_fitsHole 9 = .ok (.aload_n 0, 1) := by decide +kernel
theorem dX4_fitsHole_10 : decode cX4_fitsHole 10 = .ok (.getfield 19, 3) := by decide +kernel
theorem dX4_fitsHole_13 : decode cX4_fitsHole 13 = .ok (.iload_n 2, 1) := by decide +kernel
theorem dX4_fitsHole_14 : decode cX4_fitsHole 14 = .ok (.iaload, 1) := by decide +kernel
theorem dX4_fitsHole_15 : decode cX4_fitsHole 15 = .ok (.aload_n 0, 1) := by decide +kernel
theorem dX4_fitsHole_16 : decode cX4_fitsHole 16 = .ok (.iload_n 1, 1) := by decide +kernel
theorem dX4_fitsHole_17 : decode cX4_fitsHole 17 = .ok (.invokevirtual 137, 3) := by decide +kernel
theorem dX4_fitsHole_20 : decode cX4_fitsHole 20 = .ok (.if_icmp .lt 7, 3) := by decide +kernel
theorem dX4_fitsHole_23 : decode cX4_fitsHole 23 = .ok (.iconst 1, 1) := by decide +kernel
theorem dX4_fitsHole_24 : decode cX4_fitsHole 24 = .ok (.goto 4, 3) := by decide +kernel
theorem dX4_fitsHole_27 : decode cX4_fitsHole 27 = .ok (.iconst 0, 1) := by decide +kernel
theorem dX4_fitsHole_28 : decode cX4_fitsHole 28 = .ok (.ireturn, 1) := by decide +kernel
theorem dX4_ofGoer_0 : decode cX4_ofGoer 0 = .ok (.aload_n 0, 1) := by decide +kernel
theorem dX4_ofGoer_1 : decode cX4_ofGoer 1 = .ok (.iload_n 1, 1) := by decide +kernel
theorem dX4_ofGoer_2 : decode cX4_ofGoer 2 = .ok (.invokevirtual 140, 3) := by decide +kernel
theorem dX4_ofGoer_5 : decode cX4_ofGoer 5 = .ok (.ifCond .ne 5, 3) := by decide +kernel
theorem dX4_ofGoer_8 : decode cX4_ofGoer 8 = .ok (.iconst (-1), 1) := by decide +kernel
theorem dX4_ofGoer_9 : decode cX4_ofGoer 9 = .ok (.ireturn, 1) := by decide +kernel
theorem dX4_ofGoer_10 : decode cX4_ofGoer 10 = .ok (.iload_n 2, 1) := by decide +kernel
theorem dX4_ofGoer_11 : decode cX4_ofGoer 11 = .ok (.tableswitch 56 0 3 #[29, 36, 43, 49], 29) := by decide +kernel
theorem dX4_ofGoer_40 : decode cX4_ofGoer 40 = .ok (.aload_n 0, 1) := by decide +kernel
theorem dX4_ofGoer_41 : decode cX4_ofGoer 41 = .ok (.getfield 22, 3) := by decide +kernel
theorem dX4_ofGoer_44 : decode cX4_ofGoer 44 = .ok (.iload_n 1, 1) := by decide +kernel
theorem dX4_ofGoer_45 : decode cX4_ofGoer 45 = .ok (.iaload, 1) := by decide +kernel
theorem dX4_ofGoer_46 : decode cX4_ofGoer 46 = .ok (.ireturn, 1) := by decide +kernel
theorem dX4_ofGoer_47 : decode cX4_ofGoer 47 = .ok (.aload_n 0, 1) := by decide +kernel
theorem dX4_ofGoer_48 : decode cX4_ofGoer 48 = .ok (.getfield 25, 3) := by decide +kernel
theorem dX4_ofGoer_51 : decode cX4_ofGoer 51 = .ok (.iload_n 1, 1) := by decide +kernel
theorem dX4_ofGoer_52 : decode cX4_ofGoer 52 = .ok (.iaload, 1) := by decide +kernel
theorem dX4_ofGoer_53 : decode cX4_ofGoer 53 = .ok (.ireturn, 1) := by decide +kernel
theorem dX4_ofGoer_54 : decode cX4_ofGoer 54 = .ok (.aload_n 0, 1) := by decide +kernel
theorem dX4_ofGoer_55 : decode cX4_ofGoer 55 = .ok (.iload_n 1, 1) := by decide +kernel
theorem dX4_ofGoer_56 : decode cX4_ofGoer 56 = .ok (.invokevirtual 137, 3) := by decide +kernel
theorem dX4_ofGoer_59 : decode cX4_ofGoer 59 = .ok (.ireturn, 1) := by decide +kernel
theorem dX4_ofGoer_60 : decode cX4_ofGoer 60 = .ok (.aload_n 0, 1) := by decide +kernel
theorem dX4_ofGoer_61 : decode cX4_ofGoer 61 = .ok (.getfield 28, 3) := by decide +kernel
theorem dX4_ofGoer_64 : decode cX4_ofGoer 64 = .ok (.iload_n 1, 1) := by decide +kernel
theorem dX4_ofGoer_65 : decode cX4_ofGoer 65 = .ok (.iaload, 1) := by decide +kernel
theorem dX4_ofGoer_66 : decode cX4_ofGoer 66 = .ok (.ireturn, 1) := by decide +kernel
theorem dX4_ofGoer_67 : decode cX4_ofGoer 67 = .ok (.bipush (-2), 2) := by decide +kernel
theorem dX4_ofGoer_69 : decode cX4_ofGoer 69 = .ok (.ireturn, 1) := by decide +kernel
theorem dX4_hole_0 : decode cX4_hole 0 = .ok (.aload_n 0, 1) := by decide +kernel
theorem dX4_hole_1 : decode cX4_hole 1 = .ok (.iload_n 1, 1) := by decide +kernel
theorem dX4_hole_2 : decode cX4_hole 2 = .ok (.iload_n 2, 1) := by decide +kernel
theorem dX4_hole_3 : decode cX4_hole 3 = .ok (.invokevirtual 143, 3) := by decide +kernel
theorem dX4_hole_6 : decode cX4_hole 6 = .ok (.ifCond .ne 5, 3) := by decide +kernel
theorem dX4_hole_9 : decode cX4_hole 9 = .ok (.iconst (-1), 1) := by decide +kernel
theorem dX4_hole_10 : decode cX4_hole 10 = .ok (.ireturn, 1) := by decide +kernel
theorem dX4_hole_11 : decode cX4_hole 11 = .ok (.aload_n 0, 1) := by decide +kernel
theorem dX4_hole_12 : decode cX4_hole 12 = .ok (.iload_n 1, 1) := by decide +kernel
theorem dX4_hole_13 : decode cX4_hole 13 = .ok (.iload_n 2, 1) := by decide +kernel
theorem dX4_hole_14 : decode cX4_hole 14 = .ok (.invokevirtual 146, 3) := by decide +kernel
theorem dX4_hole_17 : decode cX4_hole 17 = .ok (.istore 4, 2) := by decide +kernel
theorem dX4_hole_19 : decode cX4_hole 19 = .ok (.iload_n 3, 1) := by decide +kernel
theorem dX4_hole_20 : decode cX4_hole 20 = .ok (.ifCond .ne 13, 3) := by decide +kernel
theorem dX4_hole_23 : decode cX4_hole 23 = .ok (.aload_n 0, 1) := by decide +kernel
theorem dX4_hole_24 : decode cX4_hole 24 = .ok (.getfield 19, 3) := by decide +kernel
theorem dX4_hole_27 : decode cX4_hole 27 = .ok (.iload 4, 2) := by decide +kernel
theorem dX4_hole_29 : decode cX4_hole 29 = .ok (.iaload, 1) := by decide +kernel
theorem dX4_hole_30 : decode cX4_hole 30 = .ok (.goto 32, 3) := by decide +kernel
theorem dX4_hole_33 : decode cX4_hole 33 = .ok (.iload_n 3, 1) := by decide +kernel
theorem dX4_hole_34 : decode cX4_hole 34 = .ok (.iconst 1, 1) := by decide +kernel
theorem dX4_hole_35 : decode cX4_hole 35 = .ok (.if_icmp .ne 15, 3) := by decide +kernel
theorem dX4_hole_38 : decode cX4_hole 38 = .ok (.aload_n 0, 1) := by decide +kernel
theorem dX4_hole_39 : decode cX4_hole 39 = .ok (.getfield 114, 3) := by decide +kernel
theorem dX4_hole_42 : decode cX4_hole 42 = .ok (.iload 4, 2) := by decide +kernel
theorem dX4_hole_44 : decode cX4_hole 44 = .ok (.ishr, 1) := by decide +kernel
theorem dX4_hole_45 : decode cX4_hole 45 = .ok (.iconst 1, 1) := by decide +kernel
theorem dX4_hole_46 : decode cX4_hole 46 = .ok (.iand, 1) := by decide +kernel
theorem dX4_hole_47 : decode cX4_hole 47 = .ok (.goto 15, 3) := by decide +kernel
theorem dX4_hole_50 : decode cX4_hole 50 = .ok (.iload_n 3, 1) := by decide +kernel
theorem dX4_hole_51 : decode cX4_hole 51 = .ok (.iconst 2, 1) := by decide +kernel
theorem dX4_hole_52 : decode cX4_hole 52 = .ok (.if_icmp .ne 8, 3) := by decide +kernel
theorem dX4_hole_55 : decode cX4_hole 55 = .ok (.iload 4, 2) := by decide +kernel
theorem dX4_hole_57 : decode cX4_hole 57 = .ok (.goto 5, 3) := by decide +kernel
theorem dX4_hole_60 : decode cX4_hole 60 = .ok (.bipush (-2), 2) := by decide +kernel
theorem dX4_hole_62 : decode cX4_hole 62 = .ok (.ireturn, 1) := by decide +kernel
theorem dX4_hoop_0 : decode cX4_hoop 0 = .ok (.aload_n 0, 1) := by decide +kernel
theorem dX4_hoop_1 : decode cX4_hoop 1 = .ok (.iload_n 1, 1) := by decide +kernel
theorem dX4_hoop_2 : decode cX4_hoop 2 = .ok (.iload_n 2, 1) := by decide +kernel
theorem dX4_hoop_3 : decode cX4_hoop 3 = .ok (.invokevirtual 143, 3) := by decide +kernel
theorem dX4_hoop_6 : decode cX4_hoop 6 = .ok (.ifCond .ne 5, 3) := by decide +kernel
theorem dX4_hoop_9 : decode cX4_hoop 9 = .ok (.iconst (-1), 1) := by decide +kernel
theorem dX4_hoop_10 : decode cX4_hoop 10 = .ok (.ireturn, 1) := by decide +kernel
theorem dX4_hoop_11 : decode cX4_hoop 11 = .ok (.iload_n 3, 1) := by decide +kernel
theorem dX4_hoop_12 : decode cX4_hoop 12 = .ok (.iconst 0, 1) := by decide +kernel
theorem dX4_hoop_13 : decode cX4_hoop 13 = .ok (.bipush 9, 2) := by decide +kernel
theorem dX4_hoop_15 : decode cX4_hoop 15 = .ok (.invokestatic 64, 3) := by decide +kernel
theorem dX4_hoop_18 : decode cX4_hoop 18 = .ok (.ifCond .ne 6, 3) := by decide +kernel
theorem dX4_hoop_21 : decode cX4_hoop 21 = .ok (.bipush (-2), 2) := by decide +kernel
theorem dX4_hoop_23 : decode cX4_hoop 23 = .ok (.ireturn, 1) := by decide +kernel
theorem dX4_hoop_24 : decode cX4_hoop 24 = .ok (.aload_n 0, 1) := by decide +kernel
theorem dX4_hoop_25 : decode cX4_hoop 25 = .ok (.iload_n 1, 1) := by decide +kernel
theorem dX4_hoop_26 : decode cX4_hoop 26 = .ok (.iload_n 2, 1) := by decide +kernel
theorem dX4_hoop_27 : decode cX4_hoop 27 = .ok (.invokevirtual 146, 3) := by decide +kernel
theorem dX4_hoop_30 : decode cX4_hoop 30 = .ok (.istore 4, 2) := by decide +kernel
theorem dX4_hoop_32 : decode cX4_hoop 32 = .ok (.aload_n 0, 1) := by decide +kernel
theorem dX4_hoop_33 : decode cX4_hoop 33 = .ok (.getfield 19, 3) := by decide +kernel
theorem dX4_hoop_36 : decode cX4_hoop 36 = .ok (.iload 4, 2) := by decide +kernel
theorem dX4_hoop_38 : decode cX4_hoop 38 = .ok (.iaload, 1) := by decide +kernel
theorem dX4_hoop_39 : decode cX4_hoop 39 = .ok (.istore 5, 2) := by decide +kernel
theorem dX4_hoop_41 : decode cX4_hoop 41 = .ok (.aload_n 0, 1) := by decide +kernel
theorem dX4_hoop_42 : decode cX4_hoop 42 = .ok (.getfield 19, 3) := by decide +kernel
theorem dX4_hoop_45 : decode cX4_hoop 45 = .ok (.iload 4, 2) := by decide +kernel
theorem dX4_hoop_47 : decode cX4_hoop 47 = .ok (.iload_n 3, 1) := by decide +kernel
theorem dX4_hoop_48 : decode cX4_hoop 48 = .ok (.iastore, 1) := by decide +kernel
theorem dX4_hoop_49 : decode cX4_hoop 49 = .ok (.aload_n 0, 1) := by decide +kernel
theorem dX4_hoop_50 : decode cX4_hoop 50 = .ok (.dup, 1) := by decide +kernel
theorem dX4_hoop_51 : decode cX4_hoop 51 = .ok (.getfield 114, 3) := by decide +kernel
theorem dX4_hoop_54 : decode cX4_hoop 54 = .ok (.iconst 1, 1) := by decide +kernel
theorem dX4_hoop_55 : decode cX4_hoop 55 = .ok (.iload 4, 2) := by decide +kernel
theorem dX4_hoop_57 : decode cX4_hoop 57 = .ok (.ishl, 1) := by decide +kernel
theorem dX4_hoop_58 : decode cX4_hoop 58 = .ok (.iconst (-1), 1) := by decide +kernel
theorem dX4_hoop_59 : decode cX4_hoop 59 = .ok (.ixor, 1) := by decide +kernel
theorem dX4_hoop_60 : decode cX4_hoop 60 = .ok (.iand, 1) := by decide +kernel
theorem dX4_hoop_61 : decode cX4_hoop 61 = .ok (.putfield 114, 3) := by decide +kernel
theorem dX4_hoop_64 : decode cX4_hoop 64 = .ok (.iload 5, 2) := by decide +kernel
theorem dX4_hoop_66 : decode cX4_hoop 66 = .ok (.ireturn, 1) := by decide +kernel
theorem dX4_fatten_0 : decode cX4_fatten 0 = .ok (.aload_n 0, 1) := by decide +kernel
theorem dX4_fatten_1 : decode cX4_fatten 1 = .ok (.iload_n 1, 1) := by decide +kernel
theorem dX4_fatten_2 : decode cX4_fatten 2 = .ok (.invokevirtual 140, 3) := by decide +kernel
theorem dX4_fatten_5 : decode cX4_fatten 5 = .ok (.ifCond .ne 5, 3) := by decide +kernel
theorem dX4_fatten_8 : decode cX4_fatten 8 = .ok (.iconst (-1), 1) := by decide +kernel
theorem dX4_fatten_9 : decode cX4_fatten 9 = .ok (.ireturn, 1) := by decide +kernel
theorem dX4_fatten_10 : decode cX4_fatten 10 = .ok (.iload_n 2, 1) := by decide +kernel
theorem dX4_fatten_11 : decode cX4_fatten 11 = .ok (.iconst 1, 1) := by decide +kernel
theorem dX4_fatten_12 : decode cX4_fatten 12 = .ok (.bipush 9, 2) := by decide +kernel
theorem dX4_fatten_14 : decode cX4_fatten 14 = .ok (.invokestatic 64, 3) := by decide +kernel
theorem dX4_fatten_17 : decode cX4_fatten 17 = .ok (.ifCond .ne 6, 3) := by decide +kernel
theorem dX4_fatten_20 : decode cX4_fatten 20 = .ok (.bipush (-2), 2) := by decide +kernel
theorem dX4_fatten_22 : decode cX4_fatten 22 = .ok (.ireturn, 1) := by decide +kernel
theorem dX4_fatten_23 : decode cX4_fatten 23 = .ok (.aload_n 0, 1) := by decide +kernel
theorem dX4_fatten_24 : decode cX4_fatten 24 = .ok (.getfield 25, 3) := by decide +kernel
theorem dX4_fatten_27 : decode cX4_fatten 27 = .ok (.iload_n 1, 1) := by decide +kernel
theorem dX4_fatten_28 : decode cX4_fatten 28 = .ok (.iaload, 1) := by decide +kernel
theorem dX4_fatten_29 : decode cX4_fatten 29 = .ok (.istore_n 3, 1) := by decide +kernel
theorem dX4_fatten_30 : decode cX4_fatten 30 = .ok (.aload_n 0, 1) := by decide +kernel
theorem dX4_fatten_31 : decode cX4_fatten 31 = .ok (.getfield 25, 3) := by decide +kernel
theorem dX4_fatten_34 : decode cX4_fatten 34 = .ok (.iload_n 1, 1) := by decide +kernel
theorem dX4_fatten_35 : decode cX4_fatten 35 = .ok (.iload_n 2, 1) := by decide +kernel
theorem dX4_fatten_36 : decode cX4_fatten 36 = .ok (.iastore, 1) := by decide +kernel
theorem dX4_fatten_37 : decode cX4_fatten 37 = .ok (.iload_n 3, 1) := by decide +kernel
theorem dX4_fatten_38 : decode cX4_fatten 38 = .ok (.ireturn, 1) := by decide +kernel
theorem dX4_goesTo_0 : decode cX4_goesTo 0 = .ok (.aload_n 0, 1) := by decide +kernel
theorem dX4_goesTo_1 : decode cX4_goesTo 1 = .ok (.aload_n 0, 1) := by decide +kernel
theorem dX4_goesTo_2 : decode cX4_goesTo 2 = .ok (.getfield 28, 3) := by decide +kernel
theorem dX4_goesTo_5 : decode cX4_goesTo 5 = .ok (.iload_n 1, 1) := by decide +kernel
theorem dX4_goesTo_6 : decode cX4_goesTo 6 = .ok (.iaload, 1) := by decide +kernel
theorem dX4_goesTo_7 : decode cX4_goesTo 7 = .ok (.iload_n 2, 1) := by decide +kernel
theorem dX4_goesTo_8 : decode cX4_goesTo 8 = .ok (.invokevirtual 143, 3) := by decide +kernel
theorem dX4_goesTo_11 : decode cX4_goesTo 11 = .ok (.ifCond .eq 22, 3) := by decide +kernel
theorem dX4_goesTo_14 : decode cX4_goesTo 14 = .ok (.aload_n 0, 1) := by decide +kernel
theorem dX4_goesTo_15 : decode cX4_goesTo 15 = .ok (.iload_n 1, 1) := by decide +kernel
theorem dX4_goesTo_16 : decode cX4_goesTo 16 = .ok (.aload_n 0, 1) := by decide +kernel
theorem dX4_goesTo_17 : decode cX4_goesTo 17 = .ok (.aload_n 0, 1) := by decide +kernel
theorem dX4_goesTo_18 : decode cX4_goesTo 18 = .ok (.getfield 28, 3) := by decide +kernel
theorem dX4_goesTo_21 : decode cX4_goesTo 21 = .ok (.iload_n 1, 1) := by decide +kernel
theorem dX4_goesTo_22 : decode cX4_goesTo 22 = .ok (.iaload, 1) := by decide +kernel
theorem dX4_goesTo_23 : decode cX4_goesTo 23 = .ok (.iload_n 2, 1) := by decide +kernel
theorem dX4_goesTo_24 : decode cX4_goesTo 24 = .ok (.invokevirtual 146, 3) := by decide +kernel
theorem dX4_goesTo_27 : decode cX4_goesTo 27 = .ok (.invokevirtual 150, 3) := by decide +kernel
theorem dX4_goesTo_30 : decode cX4_goesTo 30 = .ok (.ifCond .ne 5, 3) := by decide +kernel
theorem dX4_goesTo_33 : decode cX4_goesTo 33 = .ok (.iconst 0, 1) := by decide +kernel
theorem dX4_goesTo_34 : decode cX4_goesTo 34 = .ok (.ireturn, 1) := by decide +kernel
theorem dX4_goesTo_35 : decode cX4_goesTo 35 = .ok (.aload_n 0, 1) := by decide +kernel
theorem dX4_goesTo_36 : decode cX4_goesTo 36 = .ok (.dup, 1) := by decide +kernel
theorem dX4_goesTo_37 : decode cX4_goesTo 37 = .ok (.getfield 114, 3) := by decide +kernel
theorem dX4_goesTo_40 : decode cX4_goesTo 40 = .ok (.iconst 1, 1) := by decide +kernel
theorem dX4_goesTo_41 : decode cX4_goesTo 41 = .ok (.aload_n 0, 1) := by decide +kernel
theorem dX4_goesTo_42 : decode cX4_goesTo 42 = .ok (.aload_n 0, 1) := by decide +kernel
theorem dX4_goesTo_43 : decode cX4_goesTo 43 = .ok (.getfield 28, 3) := by decide +kernel
theorem dX4_goesTo_46 : decode cX4_goesTo 46 = .ok (.iload_n 1, 1) := by decide +kernel
theorem dX4_goesTo_47 : decode cX4_goesTo 47 = .ok (.iaload, 1) := by decide +kernel
theorem dX4_goesTo_48 : decode cX4_goesTo 48 = .ok (.iload_n 2, 1) := by decide +kernel
theorem dX4_goesTo_49 : decode cX4_goesTo 49 = .ok (.invokevirtual 146, 3) := by decide +kernel
theorem dX4_goesTo_52 : decode cX4_goesTo 52 = .ok (.ishl, 1) := by decide +kernel
theorem dX4_goesTo_53 : decode cX4_goesTo 53 = .ok (.ior, 1) := by decide +kernel
theorem dX4_goesTo_54 : decode cX4_goesTo 54 = .ok (.putfield 114, 3) := by decide +kernel
theorem dX4_goesTo_57 : decode cX4_goesTo 57 = .ok (.aload_n 0, 1) := by decide +kernel
theorem dX4_goesTo_58 : decode cX4_goesTo 58 = .ok (.getfield 28, 3) := by decide +kernel
theorem dX4_goesTo_61 : decode cX4_goesTo 61 = .ok (.iload_n 1, 1) := by decide +kernel
theorem dX4_goesTo_62 : decode cX4_goesTo 62 = .ok (.iload_n 2, 1) := by decide +kernel
theorem dX4_goesTo_63 : decode cX4_goesTo 63 = .ok (.iastore, 1) := by decide +kernel
theorem dX4_goesTo_64 : decode cX4_goesTo 64 = .ok (.iconst 1, 1) := by decide +kernel
theorem dX4_goesTo_65 : decode cX4_goesTo 65 = .ok (.ireturn, 1) := by decide +kernel
theorem dX4_go_0 : decode cX4_go 0 = .ok (.aload_n 0, 1) := by decide +kernel
theorem dX4_go_1 : decode cX4_go 1 = .ok (.iload_n 1, 1) := by decide +kernel
theorem dX4_go_2 : decode cX4_go 2 = .ok (.invokevirtual 140, 3) := by decide +kernel
theorem dX4_go_5 : decode cX4_go 5 = .ok (.ifCond .eq 11, 3) := by decide +kernel
theorem dX4_go_8 : decode cX4_go 8 = .ok (.aload_n 0, 1) := by decide +kernel
theorem dX4_go_9 : decode cX4_go 9 = .ok (.iload_n 2, 1) := by decide +kernel
theorem dX4_go_10 : decode cX4_go 10 = .ok (.invokevirtual 71, 3) := by decide +kernel
theorem dX4_go_13 : decode cX4_go 13 = .ok (.ifCond .ne 5, 3) := by decide +kernel
theorem dX4_go_16 : decode cX4_go 16 = .ok (.iconst (-1), 1) := by decide +kernel
theorem dX4_go_17 : decode cX4_go 17 = .ok (.ireturn, 1) := by decide +kernel
theorem dX4_go_18 : decode cX4_go 18 = .ok (.aload_n 0, 1) := by decide +kernel
theorem dX4_go_19 : decode cX4_go 19 = .ok (.getfield 28, 3) := by decide +kernel
theorem dX4_go_22 : decode cX4_go 22 = .ok (.iload_n 1, 1) := by decide +kernel
theorem dX4_go_23 : decode cX4_go 23 = .ok (.iaload, 1) := by decide +kernel
theorem dX4_go_24 : decode cX4_go 24 = .ok (.istore_n 3, 1) := by decide +kernel
theorem dX4_go_25 : decode cX4_go 25 = .ok (.aload_n 0, 1) := by decide +kernel
theorem dX4_go_26 : decode cX4_go 26 = .ok (.iload_n 1, 1) := by decide +kernel
theorem dX4_go_27 : decode cX4_go 27 = .ok (.iload_n 2, 1) := by decide +kernel
theorem dX4_go_28 : decode cX4_go 28 = .ok (.invokevirtual 153, 3) := by decide +kernel
theorem dX4_go_31 : decode cX4_go 31 = .ok (.ifCond .ne 6, 3) := by decide +kernel
theorem dX4_go_34 : decode cX4_go 34 = .ok (.bipush (-3), 2) := by decide +kernel
theorem dX4_go_36 : decode cX4_go 36 = .ok (.ireturn, 1) := by decide +kernel
theorem dX4_go_37 : decode cX4_go 37 = .ok (.aload_n 0, 1) := by decide +kernel
theorem dX4_go_38 : decode cX4_go 38 = .ok (.dup, 1) := by decide +kernel
theorem dX4_go_39 : decode cX4_go 39 = .ok (.getfield 120, 3) := by decide +kernel
theorem dX4_go_42 : decode cX4_go 42 = .ok (.iconst 1, 1) := by decide +kernel
theorem dX4_go_43 : decode cX4_go 43 = .ok (.iadd, 1) := by decide +kernel
theorem dX4_go_44 : decode cX4_go 44 = .ok (.putfield 120, 3) := by decide +kernel
theorem dX4_go_47 : decode cX4_go 47 = .ok (.aload_n 0, 1) := by decide +kernel
theorem dX4_go_48 : decode cX4_go 48 = .ok (.getfield 19, 3) := by decide +kernel
theorem dX4_go_51 : decode cX4_go 51 = .ok (.aload_n 0, 1) := by decide +kernel
theorem dX4_go_52 : decode cX4_go 52 = .ok (.iload_n 3, 1) := by decide +kernel
theorem dX4_go_53 : decode cX4_go 53 = .ok (.iload_n 2, 1) := by decide +kernel
theorem dX4_go_54 : decode cX4_go 54 = .ok (.invokevirtual 146, 3) := by decide +kernel
theorem dX4_go_57 : decode cX4_go 57 = .ok (.iaload, 1) := by decide +kernel
theorem dX4_go_58 : decode cX4_go 58 = .ok (.aload_n 0, 1) := by decide +kernel
theorem dX4_go_59 : decode cX4_go 59 = .ok (.iload_n 1, 1) := by decide +kernel
theorem dX4_go_60 : decode cX4_go 60 = .ok (.invokevirtual 137, 3) := by decide +kernel
theorem dX4_go_63 : decode cX4_go 63 = .ok (.isub, 1) := by decide +kernel
theorem dX4_go_64 : decode cX4_go 64 = .ok (.ireturn, 1) := by decide +kernel
theorem dX4_oneYear_0 : decode cX4_oneYear 0 = .ok (.iconst 0, 1) := by decide +kernel
theorem dX4_oneYear_1 : decode cX4_oneYear 1 = .ok (.istore_n 1, 1) := by decide +kernel
theorem dX4_oneYear_2 : decode cX4_oneYear 2 = .ok (.iload_n 1, 1) := by decide +kernel
theorem dX4_oneYear_3 : decode cX4_oneYear 3 = .ok (.aload_n 0, 1) := by decide +kernel
theorem dX4_oneYear_4 : decode cX4_oneYear 4 = .ok (.invokevirtual 107, 3) := by decide +kernel
theorem dX4_oneYear_7 : decode cX4_oneYear 7 = .ok (.if_icmp .ge 66, 3) := by decide +kernel
theorem dX4_oneYear_10 : decode cX4_oneYear 10 = .ok (.aload_n 0, 1) := by decide +kernel
theorem dX4_oneYear_11 : decode cX4_oneYear 11 = .ok (.getfield 114, 3) := by decide +kernel
theorem dX4_oneYear_14 : decode cX4_oneYear 14 = .ok (.iload_n 1, 1) := by decide +kernel
theorem dX4_oneYear_15 : decode cX4_oneYear 15 = .ok (.invokestatic 156, 3) := by decide +kernel
theorem dX4_oneYear_18 : decode cX4_oneYear 18 = .ok (.ifCond .eq 14, 3) := by decide +kernel
theorem dX4_oneYear_21 : decode cX4_oneYear 21 = .ok (.aload_n 0, 1) := by decide +kernel
theorem dX4_oneYear_22 : decode cX4_oneYear 22 = .ok (.getfield 19, 3) := by decide +kernel
theorem dX4_oneYear_25 : decode cX4_oneYear 25 = .ok (.iload_n 1, 1) := by decide +kernel
theorem dX4_oneYear_26 : decode cX4_oneYear 26 = .ok (.iaload, 1) := by decide +kernel
theorem dX4_oneYear_27 : decode cX4_oneYear 27 = .ok (.iconst 1, 1) := by decide +kernel
theorem dX4_oneYear_28 : decode cX4_oneYear 28 = .ok (.iadd, 1) := by decide +kernel
theorem dX4_oneYear_29 : decode cX4_oneYear 29 = .ok (.goto 11, 3) := by decide +kernel
theorem dX4_oneYear_32 : decode cX4_oneYear 32 = .ok (.aload_n 0, 1) := by decide +kernel
theorem dX4_oneYear_33 : decode cX4_oneYear 33 = .ok (.getfield 19, 3) := by decide +kernel
theorem dX4_oneYear_36 : decode cX4_oneYear 36 = .ok (.iload_n 1, 1) := by decide +kernel
theorem dX4_oneYear_37 : decode cX4_oneYear 37 = .ok (.iaload, 1) := by decide +kernel
theorem dX4_oneYear_38 : decode cX4_oneYear 38 = .ok (.iconst 1, 1) := by decide +kernel
theorem dX4_oneYear_39 : decode cX4_oneYear 39 = .ok (.isub, 1) := by decide +kernel
theorem dX4_oneYear_40 : decode cX4_oneYear 40 = .ok (.istore_n 2, 1) := by decide +kernel
theorem dX4_oneYear_41 : decode cX4_oneYear 41 = .ok (.aload_n 0, 1) := by decide +kernel
theorem dX4_oneYear_42 : decode cX4_oneYear 42 = .ok (.getfield 19, 3) := by decide +kernel
theorem dX4_oneYear_45 : decode cX4_oneYear 45 = .ok (.iload_n 1, 1) := by decide +kernel
theorem dX4_oneYear_46 : decode cX4_oneYear 46 = .ok (.iload_n 2, 1) := by decide +kernel
theorem dX4_oneYear_47 : decode cX4_oneYear 47 = .ok (.bipush 9, 2) := by decide +kernel
theorem dX4_oneYear_49 : decode cX4_oneYear 49 = .ok (.if_icmp .le 8, 3) := by decide +kernel
theorem dX4_oneYear_52 : decode cX4_oneYear 52 = .ok (.bipush 9, 2) := by decide +kernel
theorem dX4_oneYear_54 : decode cX4_oneYear 54 = .ok (.goto 12, 3) := by decide +kernel
theorem dX4_oneYear_57 : decode cX4_oneYear 57 = .ok (.iload_n 2, 1) := by decide +kernel
theorem dX4_oneYear_58 : decode cX4_oneYear 58 = .ok (.ifCond .ge 7, 3) := by decide +kernel
theorem dX4_oneYear_61 : decode cX4_oneYear 61 = .ok (.iconst 0, 1) := by decide +kernel
theorem dX4_oneYear_62 : decode cX4_oneYear 62 = .ok (.goto 4, 3) := by decide +kernel
theorem dX4_oneYear_65 : decode cX4_oneYear 65 = .ok (.iload_n 2, 1) := by decide +kernel
theorem dX4_oneYear_66 : decode cX4_oneYear 66 = .ok (.iastore, 1) := by decide +kernel
theorem dX4_oneYear_67 : decode cX4_oneYear 67 = .ok (.iinc 1 1, 3) := by decide +kernel
theorem dX4_oneYear_70 : decode cX4_oneYear 70 = .ok (.goto (-68), 3) := by decide +kernel
theorem dX4_oneYear_73 : decode cX4_oneYear 73 = .ok (.aload_n 0, 1) := by decide +kernel
theorem dX4_oneYear_74 : decode cX4_oneYear 74 = .ok (.iconst 0, 1) := by decide +kernel
theorem dX4_oneYear_75 : decode cX4_oneYear 75 = .ok (.putfield 114, 3) := by decide +kernel
theorem dX4_oneYear_78 : decode cX4_oneYear 78 = .ok (.return_, 1) := by decide +kernel
theorem dX4_holesNow_0 : decode cX4_holesNow 0 = .ok (.iconst 0, 1) := by decide +kernel
theorem dX4_holesNow_1 : decode cX4_holesNow 1 = .ok (.istore_n 1, 1) := by decide +kernel
theorem dX4_holesNow_2 : decode cX4_holesNow 2 = .ok (.iconst 0, 1) := by decide +kernel
theorem dX4_holesNow_3 : decode cX4_holesNow 3 = .ok (.istore_n 2, 1) := by decide +kernel
theorem dX4_holesNow_4 : decode cX4_holesNow 4 = .ok (.iload_n 2, 1) := by decide +kernel
theorem dX4_holesNow_5 : decode cX4_holesNow 5 = .ok (.aload_n 0, 1) := by decide +kernel
theorem dX4_holesNow_6 : decode cX4_holesNow 6 = .ok (.invokevirtual 107, 3) := by decide +kernel
theorem dX4_holesNow_9 : decode cX4_holesNow 9 = .ok (.if_icmp .ge 26, 3) := by decide +kernel
theorem dX4_holesNow_12 : decode cX4_holesNow 12 = .ok (.iload_n 1, 1) := by decide +kernel
theorem dX4_holesNow_13 : decode cX4_holesNow 13 = .ok (.aload_n 0, 1) := by decide +kernel
theorem dX4_holesNow_14 : decode cX4_holesNow 14 = .ok (.getfield 19, 3) := by decide +kernel
theorem dX4_holesNow_17 : decode cX4_holesNow 17 = .ok (.iload_n 2, 1) := by decide +kernel
theorem dX4_holesNow_18 : decode cX4_holesNow 18 = .ok (.iaload, 1) := by decide +kernel
theorem dX4_holesNow_19 : decode cX4_holesNow 19 = .ok (.ifCond .le 7, 3) := by decide +kernel
theorem dX4_holesNow_22 : decode cX4_holesNow 22 = .ok (.iconst 1, 1) := by decide +kernel
theorem dX4_holesNow_23 : decode cX4_holesNow 23 = .ok (.goto 4, 3) := by decide +kernel
theorem dX4_holesNow_26 : decode cX4_holesNow 26 = .ok (.iconst 0, 1) := by decide +kernel
theorem dX4_holesNow_27 : decode cX4_holesNow 27 = .ok (.iadd, 1) := by decide +kernel
theorem dX4_holesNow_28 : decode cX4_holesNow 28 = .ok (.istore_n 1, 1) := by decide +kernel
theorem dX4_holesNow_29 : decode cX4_holesNow 29 = .ok (.iinc 2 1, 3) := by decide +kernel
theorem dX4_holesNow_32 : decode cX4_holesNow 32 = .ok (.goto (-28), 3) := by decide +kernel
theorem dX4_holesNow_35 : decode cX4_holesNow 35 = .ok (.iload_n 1, 1) := by decide +kernel
theorem dX4_holesNow_36 : decode cX4_holesNow 36 = .ok (.ireturn, 1) := by decide +kernel
theorem dX4_years_0 : decode cX4_years 0 = .ok (.iload_n 1, 1) := by decide +kernel
theorem dX4_years_1 : decode cX4_years 1 = .ok (.iconst 1, 1) := by decide +kernel
theorem dX4_years_2 : decode cX4_years 2 = .ok (.bipush 60, 2) := by decide +kernel
theorem dX4_years_4 : decode cX4_years 4 = .ok (.invokestatic 64, 3) := by decide +kernel
theorem dX4_years_7 : decode cX4_years 7 = .ok (.ifCond .ne 6, 3) := by decide +kernel
theorem dX4_years_10 : decode cX4_years 10 = .ok (.bipush (-2), 2) := by decide +kernel
theorem dX4_years_12 : decode cX4_years 12 = .ok (.ireturn, 1) := by decide +kernel
theorem dX4_years_13 : decode cX4_years 13 = .ok (.aload_n 0, 1) := by decide +kernel
theorem dX4_years_14 : decode cX4_years 14 = .ok (.getfield 68, 3) := by decide +kernel
theorem dX4_years_17 : decode cX4_years 17 = .ok (.ifCond .ne 6, 3) := by decide +kernel
theorem dX4_years_20 : decode cX4_years 20 = .ok (.bipush (-3), 2) := by decide +kernel
theorem dX4_years_22 : decode cX4_years 22 = .ok (.ireturn, 1) := by decide +kernel
theorem dX4_years_23 : decode cX4_years 23 = .ok (.iconst 0, 1) := by decide +kernel
theorem dX4_years_24 : decode cX4_years 24 = .ok (.istore_n 2, 1) := by decide +kernel
theorem dX4_years_25 : decode cX4_years 25 = .ok (.iload_n 2, 1) := by decide +kernel
theorem dX4_years_26 : decode cX4_years 26 = .ok (.iload_n 1, 1) := by decide +kernel
theorem dX4_years_27 : decode cX4_years 27 = .ok (.if_icmp .ge 13, 3) := by decide +kernel
theorem dX4_years_30 : decode cX4_years 30 = .ok (.aload_n 0, 1) := by decide +kernel
theorem dX4_years_31 : decode cX4_years 31 = .ok (.invokevirtual 159, 3) := by decide +kernel
theorem dX4_years_34 : decode cX4_years 34 = .ok (.iinc 2 1, 3) := by decide +kernel
theorem dX4_years_37 : decode cX4_years 37 = .ok (.goto (-12), 3) := by decide +kernel
theorem dX4_years_40 : decode cX4_years 40 = .ok (.aload_n 0, 1) := by decide +kernel
theorem dX4_years_41 : decode cX4_years 41 = .ok (.dup, 1) := by decide +kernel
theorem dX4_years_42 : decode cX4_years 42 = .ok (.getfield 117, 3) := by decide +kernel
theorem dX4_years_45 : decode cX4_years 45 = .ok (.iload_n 1, 1) := by decide +kernel
theorem dX4_years_46 : decode cX4_years 46 = .ok (.iadd, 1) := by decide +kernel
theorem dX4_years_47 : decode cX4_years 47 = .ok (.putfield 117, 3) := by decide +kernel
theorem dX4_years_50 : decode cX4_years 50 = .ok (.aload_n 0, 1) := by decide +kernel
theorem dX4_years_51 : decode cX4_years 51 = .ok (.invokevirtual 162, 3) := by decide +kernel
theorem dX4_years_54 : decode cX4_years 54 = .ok (.ireturn, 1) := by decide +kernel
theorem dX4_stop_0 : decode cX4_stop 0 = .ok (.aload_n 0, 1) := by decide +kernel
theorem dX4_stop_1 : decode cX4_stop 1 = .ok (.iload_n 1, 1) := by decide +kernel
theorem dX4_stop_2 : decode cX4_stop 2 = .ok (.iload_n 2, 1) := by decide +kernel
theorem dX4_stop_3 : decode cX4_stop 3 = .ok (.invokevirtual 143, 3) := by decide +kernel
theorem dX4_stop_6 : decode cX4_stop 6 = .ok (.ifCond .ne 5, 3) := by decide +kernel
theorem dX4_stop_9 : decode cX4_stop 9 = .ok (.iconst (-1), 1) := by decide +kernel
theorem dX4_stop_10 : decode cX4_stop 10 = .ok (.ireturn, 1) := by decide +kernel
theorem dX4_stop_11 : decode cX4_stop 11 = .ok (.aload_n 0, 1) := by decide +kernel
theorem dX4_stop_12 : decode cX4_stop 12 = .ok (.iload_n 1, 1) := by decide +kernel
theorem dX4_stop_13 : decode cX4_stop 13 = .ok (.iload_n 2, 1) := by decide +kernel
theorem dX4_stop_14 : decode cX4_stop 14 = .ok (.invokevirtual 146, 3) := by decide +kernel
theorem dX4_stop_17 : decode cX4_stop 17 = .ok (.istore_n 3, 1) := by decide +kernel
theorem dX4_stop_18 : decode cX4_stop 18 = .ok (.aload_n 0, 1) := by decide +kernel
theorem dX4_stop_19 : decode cX4_stop 19 = .ok (.getfield 19, 3) := by decide +kernel
theorem dX4_stop_22 : decode cX4_stop 22 = .ok (.iload_n 3, 1) := by decide +kernel
theorem dX4_stop_23 : decode cX4_stop 23 = .ok (.iaload, 1) := by decide +kernel
theorem dX4_stop_24 : decode cX4_stop 24 = .ok (.ifCond .ne 6, 3) := by decide +kernel
theorem dX4_stop_27 : decode cX4_stop 27 = .ok (.bipush (-3), 2) := by decide +kernel
theorem dX4_stop_29 : decode cX4_stop 29 = .ok (.ireturn, 1) := by decide +kernel
theorem dX4_stop_30 : decode cX4_stop 30 = .ok (.aload_n 0, 1) := by decide +kernel
theorem dX4_stop_31 : decode cX4_stop 31 = .ok (.getfield 19, 3) := by decide +kernel
theorem dX4_stop_34 : decode cX4_stop 34 = .ok (.iload_n 3, 1) := by decide +kernel
theorem dX4_stop_35 : decode cX4_stop 35 = .ok (.iaload, 1) := by decide +kernel
theorem dX4_stop_36 : decode cX4_stop 36 = .ok (.istore 4, 2) := by decide +kernel
theorem dX4_stop_38 : decode cX4_stop 38 = .ok (.aload_n 0, 1) := by decide +kernel
theorem dX4_stop_39 : decode cX4_stop 39 = .ok (.getfield 19, 3) := by decide +kernel
theorem dX4_stop_42 : decode cX4_stop 42 = .ok (.iload_n 3, 1) := by decide +kernel
theorem dX4_stop_43 : decode cX4_stop 43 = .ok (.bipush 9, 2) := by decide +kernel
theorem dX4_stop_45 : decode cX4_stop 45 = .ok (.iastore, 1) := by decide +kernel
theorem dX4_stop_46 : decode cX4_stop 46 = .ok (.iload 4, 2) := by decide +kernel
theorem dX4_stop_48 : decode cX4_stop 48 = .ok (.ireturn, 1) := by decide +kernel
theorem dX4_keepAll_0 : decode cX4_keepAll 0 = .ok (.aload_n 0, 1) := by decide +kernel
theorem dX4_keepAll_1 : decode cX4_keepAll 1 = .ok (.aload_n 0, 1) := by decide +kernel
theorem dX4_keepAll_2 : decode cX4_keepAll 2 = .ok (.getfield 114, 3) := by decide +kernel
theorem dX4_keepAll_5 : decode cX4_keepAll 5 = .ok (.putfield 165, 3) := by decide +kernel
theorem dX4_keepAll_8 : decode cX4_keepAll 8 = .ok (.iconst 0, 1) := by decide +kernel
theorem dX4_keepAll_9 : decode cX4_keepAll 9 = .ok (.istore_n 1, 1) := by decide +kernel
theorem dX4_keepAll_10 : decode cX4_keepAll 10 = .ok (.iload_n 1, 1) := by decide +kernel
theorem dX4_keepAll_11 : decode cX4_keepAll 11 = .ok (.aload_n 0, 1) := by decide +kernel
theorem dX4_keepAll_12 : decode cX4_keepAll 12 = .ok (.invokevirtual 107, 3) := by decide +kernel
theorem dX4_keepAll_15 : decode cX4_keepAll 15 = .ok (.if_icmp .ge 21, 3) := by decide +kernel
theorem dX4_keepAll_18 : decode cX4_keepAll 18 = .ok (.aload_n 0, 1) := by decide +kernel
theorem dX4_keepAll_19 : decode cX4_keepAll 19 = .ok (.getfield 37, 3) := by decide +kernel
theorem dX4_keepAll_22 : decode cX4_keepAll 22 = .ok (.iload_n 1, 1) := by decide +kernel
theorem dX4_keepAll_23 : decode cX4_keepAll 23 = .ok (.aload_n 0, 1) := by decide +kernel
theorem dX4_keepAll_24 : decode cX4_keepAll 24 = .ok (.getfield 19, 3) := by decide +kernel
theorem dX4_keepAll_27 : decode cX4_keepAll 27 = .ok (.iload_n 1, 1) := by decide +kernel
theorem dX4_keepAll_28 : decode cX4_keepAll 28 = .ok (.iaload, 1) := by decide +kernel
theorem dX4_keepAll_29 : decode cX4_keepAll 29 = .ok (.iastore, 1) := by decide +kernel
theorem dX4_keepAll_30 : decode cX4_keepAll 30 = .ok (.iinc 1 1, 3) := by decide +kernel
theorem dX4_keepAll_33 : decode cX4_keepAll 33 = .ok (.goto (-23), 3) := by decide +kernel
theorem dX4_keepAll_36 : decode cX4_keepAll 36 = .ok (.iconst 0, 1) := by decide +kernel
theorem dX4_keepAll_37 : decode cX4_keepAll 37 = .ok (.istore_n 1, 1) := by decide +kernel
theorem dX4_keepAll_38 : decode cX4_keepAll 38 = .ok (.iload_n 1, 1) := by decide +kernel
theorem dX4_keepAll_39 : decode cX4_keepAll 39 = .ok (.aload_n 0, 1) := by decide +kernel
theorem dX4_keepAll_40 : decode cX4_keepAll 40 = .ok (.getfield 75, 3) := by decide +kernel
theorem dX4_keepAll_43 : decode cX4_keepAll 43 = .ok (.if_icmp .ge 21, 3) := by decide +kernel
theorem dX4_keepAll_46 : decode cX4_keepAll 46 = .ok (.aload_n 0, 1) := by decide +kernel
theorem dX4_keepAll_47 : decode cX4_keepAll 47 = .ok (.getfield 40, 3) := by decide +kernel
theorem dX4_keepAll_50 : decode cX4_keepAll 50 = .ok (.iload_n 1, 1) := by decide +kernel
theorem dX4_keepAll_51 : decode cX4_keepAll 51 = .ok (.aload_n 0, 1) := by decide +kernel
theorem dX4_keepAll_52 : decode cX4_keepAll 52 = .ok (.getfield 28, 3) := by decide +kernel
theorem dX4_keepAll_55 : decode cX4_keepAll 55 = .ok (.iload_n 1, 1) := by decide +kernel
theorem dX4_keepAll_56 : decode cX4_keepAll 56 = .ok (.iaload, 1) := by decide +kernel
theorem dX4_keepAll_57 : decode cX4_keepAll 57 = .ok (.iastore, 1) := by decide +kernel
theorem dX4_keepAll_58 : decode cX4_keepAll 58 = .ok (.iinc 1 1, 3) := by decide +kernel
theorem dX4_keepAll_61 : decode cX4_keepAll 61 = .ok (.goto (-23), 3) := by decide +kernel
theorem dX4_keepAll_64 : decode cX4_keepAll 64 = .ok (.return_, 1) := by decide +kernel
theorem dX4_putBack_0 : decode cX4_putBack 0 = .ok (.aload_n 0, 1) := by decide +kernel
theorem dX4_putBack_1 : decode cX4_putBack 1 = .ok (.aload_n 0, 1) := by decide +kernel
theorem dX4_putBack_2 : decode cX4_putBack 2 = .ok (.getfield 165, 3) := by decide +kernel
theorem dX4_putBack_5 : decode cX4_putBack 5 = .ok (.putfield 114, 3) := by decide +kernel
theorem dX4_putBack_8 : decode cX4_putBack 8 = .ok (.iconst 0, 1) := by decide +kernel
theorem dX4_putBack_9 : decode cX4_putBack 9 = .ok (.istore_n 1, 1) := by decide +kernel
theorem dX4_putBack_10 : decode cX4_putBack 10 = .ok (.iload_n 1, 1) := by decide +kernel
theorem dX4_putBack_11 : decode cX4_putBack 11 = .ok (.aload_n 0, 1) := by decide +kernel
theorem dX4_putBack_12 : decode cX4_putBack 12 = .ok (.invokevirtual 107, 3) := by decide +kernel
theorem dX4_putBack_15 : decode cX4_putBack 15 = .ok (.if_icmp .ge 21, 3) := by decide +kernel
theorem dX4_putBack_18 : decode cX4_putBack 18 = .ok (.aload_n 0, 1) := by decide +kernel
theorem dX4_putBack_19 : decode cX4_putBack 19 = .ok (.getfield 19, 3) := by decide +kernel
theorem dX4_putBack_22 : decode cX4_putBack 22 = .ok (.iload_n 1, 1) := by decide +kernel
theorem dX4_putBack_23 : decode cX4_putBack 23 = .ok (.aload_n 0, 1) := by decide +kernel
theorem dX4_putBack_24 : decode cX4_putBack 24 = .ok (.getfield 37, 3) := by decide +kernel
theorem dX4_putBack_27 : decode cX4_putBack 27 = .ok (.iload_n 1, 1) := by decide +kernel
theorem dX4_putBack_28 : decode cX4_putBack 28 = .ok (.iaload, 1) := by decide +kernel
theorem dX4_putBack_29 : decode cX4_putBack 29 = .ok (.iastore, 1) := by decide +kernel
theorem dX4_putBack_30 : decode cX4_putBack 30 = .ok (.iinc 1 1, 3) := by decide +kernel
theorem dX4_putBack_33 : decode cX4_putBack 33 = .ok (.goto (-23), 3) := by decide +kernel
theorem dX4_putBack_36 : decode cX4_putBack 36 = .ok (.iconst 0, 1) := by decide +kernel
theorem dX4_putBack_37 : decode cX4_putBack 37 = .ok (.istore_n 1, 1) := by decide +kernel
theorem dX4_putBack_38 : decode cX4_putBack 38 = .ok (.iload_n 1, 1) := by decide +kernel
theorem dX4_putBack_39 : decode cX4_putBack 39 = .ok (.aload_n 0, 1) := by decide +kernel
theorem dX4_putBack_40 : decode cX4_putBack 40 = .ok (.getfield 75, 3) := by decide +kernel
theorem dX4_putBack_43 : decode cX4_putBack 43 = .ok (.if_icmp .ge 21, 3) := by decide +kernel
theorem dX4_putBack_46 : decode cX4_putBack 46 = .ok (.aload_n 0, 1) := by decide +kernel
theorem dX4_putBack_47 : decode cX4_putBack 47 = .ok (.getfield 28, 3) := by decide +kernel
theorem dX4_putBack_50 : decode cX4_putBack 50 = .ok (.iload_n 1, 1) := by decide +kernel
theorem dX4_putBack_51 : decode cX4_putBack 51 = .ok (.aload_n 0, 1) := by decide +kernel
theorem dX4_putBack_52 : decode cX4_putBack 52 = .ok (.getfield 40, 3) := by decide +kernel
theorem dX4_putBack_55 : decode cX4_putBack 55 = .ok (.iload_n 1, 1) := by decide +kernel
theorem dX4_putBack_56 : decode cX4_putBack 56 = .ok (.iaload, 1) := by decide +kernel
theorem dX4_putBack_57 : decode cX4_putBack 57 = .ok (.iastore, 1) := by decide +kernel
theorem dX4_putBack_58 : decode cX4_putBack 58 = .ok (.iinc 1 1, 3) := by decide +kernel
theorem dX4_putBack_61 : decode cX4_putBack 61 = .ok (.goto (-23), 3) := by decide +kernel
theorem dX4_putBack_64 : decode cX4_putBack 64 = .ok (.return_, 1) := by decide +kernel
theorem dX4_does_0 : decode cX4_does 0 = .ok (.iload_n 2, 1) := by decide +kernel
theorem dX4_does_1 : decode cX4_does 1 = .ok (.bipush 10, 2) := by decide +kernel
theorem dX4_does_3 : decode cX4_does 3 = .ok (.if_icmp .ne 22, 3) := by decide +kernel
theorem dX4_does_6 : decode cX4_does 6 = .ok (.iconst 0, 1) := by decide +kernel
theorem dX4_does_7 : decode cX4_does 7 = .ok (.istore_n 3, 1) := by decide +kernel
theorem dX4_does_8 : decode cX4_does 8 = .ok (.iload_n 3, 1) := by decide +kernel
theorem dX4_does_9 : decode cX4_does 9 = .ok (.iload_n 1, 1) := by decide +kernel
theorem dX4_does_10 : decode cX4_does 10 = .ok (.if_icmp .ge 13, 3) := by decide +kernel
theorem dX4_does_13 : decode cX4_does 13 = .ok (.aload_n 0, 1) := by decide +kernel
theorem dX4_does_14 : decode cX4_does 14 = .ok (.invokevirtual 159, 3) := by decide +kernel
theorem dX4_does_17 : decode cX4_does 17 = .ok (.iinc 3 1, 3) := by decide +kernel
theorem dX4_does_20 : decode cX4_does 20 = .ok (.goto (-12), 3) := by decide +kernel
theorem dX4_does_23 : decode cX4_does 23 = .ok (.iconst 1, 1) := by decide +kernel
theorem dX4_does_24 : decode cX4_does 24 = .ok (.ireturn, 1) := by decide +kernel
theorem dX4_does_25 : decode cX4_does 25 = .ok (.iload_n 2, 1) := by decide +kernel
theorem dX4_does_26 : decode cX4_does 26 = .ok (.bipush 20, 2) := by decide +kernel
theorem dX4_does_28 : decode cX4_does 28 = .ok (.if_icmp .ne 32, 3) := by decide +kernel
theorem dX4_does_31 : decode cX4_does 31 = .ok (.iload_n 1, 1) := by decide +kernel
theorem dX4_does_32 : decode cX4_does 32 = .ok (.aload_n 0, 1) := by decide +kernel
theorem dX4_does_33 : decode cX4_does 33 = .ok (.invokevirtual 107, 3) := by decide +kernel
theorem dX4_does_36 : decode cX4_does 36 = .ok (.if_icmp .ge 12, 3) := by decide +kernel
theorem dX4_does_39 : decode cX4_does 39 = .ok (.aload_n 0, 1) := by decide +kernel
theorem dX4_does_40 : decode cX4_does 40 = .ok (.getfield 19, 3) := by decide +kernel
theorem dX4_does_43 : decode cX4_does 43 = .ok (.iload_n 1, 1) := by decide +kernel
theorem dX4_does_44 : decode cX4_does 44 = .ok (.iaload, 1) := by decide +kernel
theorem dX4_does_45 : decode cX4_does 45 = .ok (.ifCond .ne 5, 3) := by decide +kernel
theorem dX4_does_48 : decode cX4_does 48 = .ok (.iconst 0, 1) := by decide +kernel
theorem dX4_does_49 : decode cX4_does 49 = .ok (.ireturn, 1) := by decide +kernel
theorem dX4_does_50 : decode cX4_does 50 = .ok (.aload_n 0, 1) := by decide +kernel
theorem dX4_does_51 : decode cX4_does 51 = .ok (.getfield 19, 3) := by decide +kernel
theorem dX4_does_54 : decode cX4_does 54 = .ok (.iload_n 1, 1) := by decide +kernel
theorem dX4_does_55 : decode cX4_does 55 = .ok (.bipush 9, 2) := by decide +kernel
theorem dX4_does_57 : decode cX4_does 57 = .ok (.iastore, 1) := by decide +kernel
theorem dX4_does_58 : decode cX4_does 58 = .ok (.iconst 1, 1) := by decide +kernel
theorem dX4_does_59 : decode cX4_does 59 = .ok (.ireturn, 1) := by decide +kernel
theorem dX4_does_60 : decode cX4_does 60 = .ok (.aload_n 0, 1) := by decide +kernel
theorem dX4_does_61 : decode cX4_does 61 = .ok (.dup, 1) := by decide +kernel
theorem dX4_does_62 : decode cX4_does 62 = .ok (.getfield 168, 3) := by decide +kernel
theorem dX4_does_65 : decode cX4_does 65 = .ok (.iconst 1, 1) := by decide +kernel
theorem dX4_does_66 : decode cX4_does 66 = .ok (.iadd, 1) := by decide +kernel
theorem dX4_does_67 : decode cX4_does 67 = .ok (.putfield 168, 3) := by decide +kernel
theorem dX4_does_70 : decode cX4_does 70 = .ok (.aload_n 0, 1) := by decide +kernel
theorem dX4_does_71 : decode cX4_does 71 = .ok (.iload_n 1, 1) := by decide +kernel
theorem dX4_does_72 : decode cX4_does 72 = .ok (.iload_n 2, 1) := by decide +kernel
theorem dX4_does_73 : decode cX4_does 73 = .ok (.invokevirtual 153, 3) := by decide +kernel
theorem dX4_does_76 : decode cX4_does 76 = .ok (.ireturn, 1) := by decide +kernel
theorem dX4_goSeason_0 : decode cX4_goSeason 0 = .ok (.aload_n 0, 1) := by decide +kernel
theorem dX4_goSeason_1 : decode cX4_goSeason 1 = .ok (.iconst 0, 1) := by decide +kernel
theorem dX4_goSeason_2 : decode cX4_goSeason 2 = .ok (.putfield 168, 3) := by decide +kernel
theorem dX4_goSeason_5 : decode cX4_goSeason 5 = .ok (.iconst 0, 1) := by decide +kernel
theorem dX4_goSeason_6 : decode cX4_goSeason 6 = .ok (.istore_n 3, 1) := by decide +kernel
theorem dX4_goSeason_7 : decode cX4_goSeason 7 = .ok (.iload_n 3, 1) := by decide +kernel
theorem dX4_goSeason_8 : decode cX4_goSeason 8 = .ok (.iload_n 2, 1) := by decide +kernel
theorem dX4_goSeason_9 : decode cX4_goSeason 9 = .ok (.if_icmp .ge 40, 3) := by decide +kernel
theorem dX4_goSeason_12 : decode cX4_goSeason 12 = .ok (.aload_n 0, 1) := by decide +kernel
theorem dX4_goSeason_13 : decode cX4_goSeason 13 = .ok (.aload_n 0, 1) := by decide +kernel
theorem dX4_goSeason_14 : decode cX4_goSeason 14 = .ok (.getfield 16, 3) := by decide +kernel
theorem dX4_goSeason_17 : decode cX4_goSeason 17 = .ok (.iload_n 1, 1) := by decide +kernel
theorem dX4_goSeason_18 : decode cX4_goSeason 18 = .ok (.iconst 2, 1) := by decide +kernel
theorem dX4_goSeason_19 : decode cX4_goSeason 19 = .ok (.iload_n 3, 1) := by decide +kernel
theorem dX4_goSeason_20 : decode cX4_goSeason 20 = .ok (.imul, 1) := by decide +kernel
theorem dX4_goSeason_21 : decode cX4_goSeason 21 = .ok (.iadd, 1) := by decide +kernel
theorem dX4_goSeason_22 : decode cX4_goSeason 22 = .ok (.iaload, 1) := by decide +kernel
theorem dX4_goSeason_23 : decode cX4_goSeason 23 = .ok (.aload_n 0, 1) := by decide +kernel
theorem dX4_goSeason_24 : decode cX4_goSeason 24 = .ok (.getfield 16, 3) := by decide +kernel
theorem dX4_goSeason_27 : decode cX4_goSeason 27 = .ok (.iload_n 1, 1) := by decide +kernel
theorem dX4_goSeason_28 : decode cX4_goSeason 28 = .ok (.iconst 2, 1) := by decide +kernel
theorem dX4_goSeason_29 : decode cX4_goSeason 29 = .ok (.iload_n 3, 1) := by decide +kernel
theorem dX4_goSeason_30 : decode cX4_goSeason 30 = .ok (.imul, 1) := by decide +kernel
theorem dX4_goSeason_31 : decode cX4_goSeason 31 = .ok (.iadd, 1) := by decide +kernel
theorem dX4_goSeason_32 : decode cX4_goSeason 32 = .ok (.iconst 1, 1) := by decide +kernel
theorem dX4_goSeason_33 : decode cX4_goSeason 33 = .ok (.iadd, 1) := by decide +kernel
theorem dX4_goSeason_34 : decode cX4_goSeason 34 = .ok (.iaload, 1) := by decide +kernel
theorem dX4_goSeason_35 : decode cX4_goSeason 35 = .ok (.invokevirtual 171, 3) := by decide +kernel
theorem dX4_goSeason_38 : decode cX4_goSeason 38 = .ok (.ifCond .ne 5, 3) := by decide +kernel
theorem dX4_goSeason_41 : decode cX4_goSeason 41 = .ok (.iload_n 3, 1) := by decide +kernel
theorem dX4_goSeason_42 : decode cX4_goSeason 42 = .ok (.ireturn, 1) := by decide +kernel
theorem dX4_goSeason_43 : decode cX4_goSeason 43 = .ok (.iinc 3 1, 3) := by decide +kernel
theorem dX4_goSeason_46 : decode cX4_goSeason 46 = .ok (.goto (-39), 3) := by decide +kernel
theorem dX4_goSeason_49 : decode cX4_goSeason 49 = .ok (.bipush (-9), 2) := by decide +kernel
theorem dX4_goSeason_51 : decode cX4_goSeason 51 = .ok (.ireturn, 1) := by decide +kernel
theorem dX4_refusesPair_0 : decode cX4_refusesPair 0 = .ok (.iload_n 2, 1) := by decide +kernel
theorem dX4_refusesPair_1 : decode cX4_refusesPair 1 = .ok (.iconst 0, 1) := by decide +kernel
theorem dX4_refusesPair_2 : decode cX4_refusesPair 2 = .ok (.iconst 4, 1) := by decide +kernel
theorem dX4_refusesPair_3 : decode cX4_refusesPair 3 = .ok (.invokestatic 64, 3) := by decide +kernel
theorem dX4_refusesPair_6 : decode cX4_refusesPair 6 = .ok (.istore_n 3, 1) := by decide +kernel
theorem dX4_refusesPair_7 : decode cX4_refusesPair 7 = .ok (.iload_n 3, 1) := by decide +kernel
theorem dX4_refusesPair_8 : decode cX4_refusesPair 8 = .ok (.ifCond .ne 15, 3) := by decide +kernel
theorem dX4_refusesPair_11 : decode cX4_refusesPair 11 = .ok (.iload_n 2, 1) := by decide +kernel
theorem dX4_refusesPair_12 : decode cX4_refusesPair 12 = .ok (.bipush 10, 2) := by decide +kernel
theorem dX4_refusesPair_14 : decode cX4_refusesPair 14 = .ok (.if_icmp .eq 9, 3) := by decide +kernel
theorem dX4_refusesPair_17 : decode cX4_refusesPair 17 = .ok (.iload_n 2, 1) := by decide +kernel
theorem dX4_refusesPair_18 : decode cX4_refusesPair 18 = .ok (.bipush 20, 2) := by decide +kernel
theorem dX4_refusesPair_20 : decode cX4_refusesPair 20 = .ok (.if_icmp .ne 17, 3) := by decide +kernel
theorem dX4_refusesPair_23 : decode cX4_refusesPair 23 = .ok (.iload_n 3, 1) := by decide +kernel
theorem dX4_refusesPair_24 : decode cX4_refusesPair 24 = .ok (.ifCond .ne 16, 3) := by decide +kernel
theorem dX4_refusesPair_27 : decode cX4_refusesPair 27 = .ok (.iload_n 1, 1) := by decide +kernel
theorem dX4_refusesPair_28 : decode cX4_refusesPair 28 = .ok (.iconst 0, 1) := by decide +kernel
theorem dX4_refusesPair_29 : decode cX4_refusesPair 29 = .ok (.bipush 9, 2) := by decide +kernel
theorem dX4_refusesPair_31 : decode cX4_refusesPair 31 = .ok (.invokestatic 64, 3) := by decide +kernel
theorem dX4_refusesPair_34 : decode cX4_refusesPair 34 = .ok (.ifCond .ne 6, 3) := by decide +kernel
theorem dX4_refusesPair_37 : decode cX4_refusesPair 37 = .ok (.bipush (-2), 2) := by decide +kernel
theorem dX4_refusesPair_39 : decode cX4_refusesPair 39 = .ok (.ireturn, 1) := by decide +kernel
theorem dX4_refusesPair_40 : decode cX4_refusesPair 40 = .ok (.iload_n 3, 1) := by decide +kernel
theorem dX4_refusesPair_41 : decode cX4_refusesPair 41 = .ok (.ifCond .eq 15, 3) := by decide +kernel
theorem dX4_refusesPair_44 : decode cX4_refusesPair 44 = .ok (.aload_n 0, 1) := by decide +kernel
theorem dX4_refusesPair_45 : decode cX4_refusesPair 45 = .ok (.iload_n 1, 1) := by decide +kernel
theorem dX4_refusesPair_46 : decode cX4_refusesPair 46 = .ok (.invokevirtual 140, 3) := by decide +kernel
theorem dX4_refusesPair_49 : decode cX4_refusesPair 49 = .ok (.ifCond .ne 7, 3) := by decide +kernel
theorem dX4_refusesPair_52 : decode cX4_refusesPair 52 = .ok (.iconst (-1), 1) := by decide +kernel
theorem dX4_refusesPair_53 : decode cX4_refusesPair 53 = .ok (.goto 4, 3) := by decide +kernel
theorem dX4_refusesPair_56 : decode cX4_refusesPair 56 = .ok (.iconst 0, 1) := by decide +kernel
theorem dX4_refusesPair_57 : decode cX4_refusesPair 57 = .ok (.ireturn, 1) := by decide +kernel
theorem dX4_season_0 : decode cX4_season 0 = .ok (.aload_n 0, 1) := by decide +kernel
theorem dX4_season_1 : decode cX4_season 1 = .ok (.iconst 0, 1) := by decide +kernel
theorem dX4_season_2 : decode cX4_season 2 = .ok (.putfield 58, 3) := by decide +kernel
theorem dX4_season_5 : decode cX4_season 5 = .ok (.iload_n 1, 1) := by decide +kernel
theorem dX4_season_6 : decode cX4_season 6 = .ok (.invokestatic 85, 3) := by decide +kernel
theorem dX4_season_9 : decode cX4_season 9 = .ok (.ifCond .ne 5, 3) := by decide +kernel
theorem dX4_season_12 : decode cX4_season 12 = .ok (.iconst (-1), 1) := by decide +kernel
theorem dX4_season_13 : decode cX4_season 13 = .ok (.ireturn, 1) := by decide +kernel
theorem dX4_season_14 : decode cX4_season 14 = .ok (.iload_n 2, 1) := by decide +kernel
theorem dX4_season_15 : decode cX4_season 15 = .ok (.invokestatic 88, 3) := by decide +kernel
theorem dX4_season_18 : decode cX4_season 18 = .ok (.ifCond .eq 36, 3) := by decide +kernel
theorem dX4_season_21 : decode cX4_season 21 = .ok (.iload 4, 2) := by decide +kernel
theorem dX4_season_23 : decode cX4_season 23 = .ok (.iconst 0, 1) := by decide +kernel
theorem dX4_season_24 : decode cX4_season 24 = .ok (.bipush 20, 2) := by decide +kernel
theorem dX4_season_26 : decode cX4_season 26 = .ok (.invokestatic 64, 3) := by decide +kernel
theorem dX4_season_29 : decode cX4_season 29 = .ok (.ifCond .eq 25, 3) := by decide +kernel
theorem dX4_season_32 : decode cX4_season 32 = .ok (.iload 5, 2) := by decide +kernel
theorem dX4_season_34 : decode cX4_season 34 = .ok (.iconst 0, 1) := by decide +kernel
theorem dX4_season_35 : decode cX4_season 35 = .ok (.iconst 4, 1) := by decide +kernel
theorem dX4_season_36 : decode cX4_season 36 = .ok (.invokestatic 64, 3) := by decide +kernel
theorem dX4_season_39 : decode cX4_season 39 = .ok (.ifCond .ne 18, 3) := by decide +kernel
theorem dX4_season_42 : decode cX4_season 42 = .ok (.iload 5, 2) := by decide +kernel
theorem dX4_season_44 : decode cX4_season 44 = .ok (.bipush 10, 2) := by decide +kernel
theorem dX4_season_46 : decode cX4_season 46 = .ok (.bipush 14, 2) := by decide +kernel
theorem dX4_season_48 : decode cX4_season 48 = .ok (.invokestatic 64, 3) := by decide +kernel
theorem dX4_season_51 : decode cX4_season 51 = .ok (.ifCond .ne 6, 3) := by decide +kernel
theorem dX4_season_54 : decode cX4_season 54 = .ok (.bipush (-2), 2) := by decide +kernel
theorem dX4_season_56 : decode cX4_season 56 = .ok (.ireturn, 1) := by decide +kernel
theorem dX4_season_57 : decode cX4_season 57 = .ok (.aload_n 0, 1) := by decide +kernel
theorem dX4_season_58 : decode cX4_season 58 = .ok (.iload_n 1, 1) := by decide +kernel
theorem dX4_season_59 : decode cX4_season 59 = .ok (.iload_n 2, 1) := by decide +kernel
theorem dX4_season_60 : decode cX4_season 60 = .ok (.iload_n 3, 1) := by decide +kernel
theorem dX4_season_61 : decode cX4_season 61 = .ok (.iconst 2, 1) := by decide +kernel
theorem dX4_season_62 : decode cX4_season 62 = .ok (.iload 4, 2) := by decide +kernel
theorem dX4_season_64 : decode cX4_season 64 = .ok (.imul, 1) := by decide +kernel
theorem dX4_season_65 : decode cX4_season 65 = .ok (.invokevirtual 91, 3) := by decide +kernel
theorem dX4_season_68 : decode cX4_season 68 = .ok (.istore 6, 2) := by decide +kernel
theorem dX4_season_70 : decode cX4_season 70 = .ok (.iload 6, 2) := by decide +kernel
theorem dX4_season_72 : decode cX4_season 72 = .ok (.ifCond .eq 10, 3) := by decide +kernel
theorem dX4_season_75 : decode cX4_season 75 = .ok (.aload_n 0, 1) := by decide +kernel
theorem dX4_season_76 : decode cX4_season 76 = .ok (.iload 6, 2) := by decide +kernel
theorem dX4_season_78 : decode cX4_season 78 = .ok (.invokevirtual 95, 3) := by decide +kernel
theorem dX4_season_81 : decode cX4_season 81 = .ok (.ireturn, 1) := by decide +kernel
theorem dX4_season_82 : decode cX4_season 82 = .ok (.aload_n 0, 1) := by decide +kernel
theorem dX4_season_83 : decode cX4_season 83 = .ok (.getfield 68, 3) := by decide +kernel
theorem dX4_season_86 : decode cX4_season 86 = .ok (.ifCond .ne 6, 3) := by decide +kernel
theorem dX4_season_89 : decode cX4_season 89 = .ok (.bipush (-3), 2) := by decide +kernel
theorem dX4_season_91 : decode cX4_season 91 = .ok (.ireturn, 1) := by decide +kernel
theorem dX4_season_92 : decode cX4_season 92 = .ok (.bipush 60, 2) := by decide +kernel
theorem dX4_season_94 : decode cX4_season 94 = .ok (.iload_n 1, 1) := by decide +kernel
theorem dX4_season_95 : decode cX4_season 95 = .ok (.imul, 1) := by decide +kernel
theorem dX4_season_96 : decode cX4_season 96 = .ok (.iload_n 3, 1) := by decide +kernel
theorem dX4_season_97 : decode cX4_season 97 = .ok (.iadd, 1) := by decide +kernel
theorem dX4_season_98 : decode cX4_season 98 = .ok (.istore 7, 2) := by decide +kernel
theorem dX4_season_100 : decode cX4_season 100 = .ok (.iconst 0, 1) := by decide +kernel
theorem dX4_season_101 : decode cX4_season 101 = .ok (.istore 8, 2) := by decide +kernel
theorem dX4_season_103 : decode cX4_season 103 = .ok (.iload 8, 2) := by decide +kernel
theorem dX4_season_105 : decode cX4_season 105 = .ok (.iload 4, 2) := by decide +kernel
theorem dX4_season_107 : decode cX4_season 107 = .ok (.if_icmp .ge 49, 3) := by decide +kernel
theorem dX4_season_110 : decode cX4_season 110 = .ok (.aload_n 0, 1) := by decide +kernel
theorem dX4_season_111 : decode cX4_season 111 = .ok (.aload_n 0, 1) := by decide +kernel
theorem dX4_season_112 : decode cX4_season 112 = .ok (.getfield 16, 3) := by decide +kernel
theorem dX4_season_115 : decode cX4_season 115 = .ok (.iload 7, 2) := by decide +kernel
theorem dX4_season_117 : decode cX4_season 117 = .ok (.iconst 2, 1) := by decide +kernel
theorem dX4_season_118 : decode cX4_season 118 = .ok (.iload 8, 2) := by decide +kernel
theorem dX4_season_120 : decode cX4_season 120 = .ok (.imul, 1) := by decide +kernel
theorem dX4_season_121 : decode cX4_season 121 = .ok (.iadd, 1) := by decide +kernel
theorem dX4_season_122 : decode cX4_season 122 = .ok (.iaload, 1) := by decide +kernel
theorem dX4_season_123 : decode cX4_season 123 = .ok (.aload_n 0, 1) := by decide +kernel
theorem dX4_season_124 : decode cX4_season 124 = .ok (.getfield 16, 3) := by decide +kernel
theorem dX4_season_127 : decode cX4_season 127 = .ok (.iload 7, 2) := by decide +kernel
theorem dX4_season_129 : decode cX4_season 129 = .ok (.iconst 2, 1) := by decide +kernel
theorem dX4_season_130 : decode cX4_season 130 = .ok (.iload 8, 2) := by decide +kernel
theorem dX4_season_132 : decode cX4_season 132 = .ok (.imul, 1) := by decide +kernel
theorem dX4_season_133 : decode cX4_season 133 = .ok (.iadd, 1) := by decide +kernel
theorem dX4_season_134 : decode cX4_season 134 = .ok (.iconst 1, 1) := by decide +kernel
theorem dX4_season_135 : decode cX4_season 135 = .ok (.iadd, 1) := by decide +kernel
theorem dX4_season_136 : decode cX4_season 136 = .ok (.iaload, 1) := by decide +kernel
theorem dX4_season_137 : decode cX4_season 137 = .ok (.invokevirtual 174, 3) := by decide +kernel
theorem dX4_season_140 : decode cX4_season 140 = .ok (.istore 9, 2) := by decide +kernel
theorem dX4_season_142 : decode cX4_season 142 = .ok (.iload 9, 2) := by decide +kernel
theorem dX4_season_144 : decode cX4_season 144 = .ok (.ifCond .eq 6, 3) := by decide +kernel
theorem dX4_season_147 : decode cX4_season 147 = .ok (.iload 9, 2) := by decide +kernel
theorem dX4_season_149 : decode cX4_season 149 = .ok (.ireturn, 1) := by decide +kernel
theorem dX4_season_150 : decode cX4_season 150 = .ok (.iinc 8 1, 3) := by decide +kernel
theorem dX4_season_153 : decode cX4_season 153 = .ok (.goto (-50), 3) := by decide +kernel
theorem dX4_season_156 : decode cX4_season 156 = .ok (.aload_n 0, 1) := by decide +kernel
theorem dX4_season_157 : decode cX4_season 157 = .ok (.invokevirtual 177, 3) := by decide +kernel
theorem dX4_season_160 : decode cX4_season 160 = .ok (.aload_n 0, 1) := by decide +kernel
theorem dX4_season_161 : decode cX4_season 161 = .ok (.iload 7, 2) := by decide +kernel
theorem dX4_season_163 : decode cX4_season 163 = .ok (.iload 4, 2) := by decide +kernel
theorem dX4_season_165 : decode cX4_season 165 = .ok (.invokevirtual 180, 3) := by decide +kernel
theorem dX4_season_168 : decode cX4_season 168 = .ok (.istore 8, 2) := by decide +kernel
theorem dX4_season_170 : decode cX4_season 170 = .ok (.aload_n 0, 1) := by decide +kernel
theorem dX4_season_171 : decode cX4_season 171 = .ok (.iload 5, 2) := by decide +kernel
theorem dX4_season_173 : decode cX4_season 173 = .ok (.invokevirtual 183, 3) := by decide +kernel
theorem dX4_season_176 : decode cX4_season 176 = .ok (.istore 9, 2) := by decide +kernel
theorem dX4_season_178 : decode cX4_season 178 = .ok (.aload_n 0, 1) := by decide +kernel
theorem dX4_season_179 : decode cX4_season 179 = .ok (.invokevirtual 186, 3) := by decide +kernel
theorem dX4_season_182 : decode cX4_season 182 = .ok (.iload 5, 2) := by decide +kernel
theorem dX4_season_184 : decode cX4_season 184 = .ok (.iconst 1, 1) := by decide +kernel
theorem dX4_season_185 : decode cX4_season 185 = .ok (.if_icmp .ne 8, 3) := by decide +kernel
theorem dX4_season_188 : decode cX4_season 188 = .ok (.iload 8, 2) := by decide +kernel
theorem dX4_season_190 : decode cX4_season 190 = .ok (.goto 20, 3) := by decide +kernel
theorem dX4_season_193 : decode cX4_season 193 = .ok (.iload 8, 2) := by decide +kernel
theorem dX4_season_195 : decode cX4_season 195 = .ok (.bipush (-9), 2) := by decide +kernel
theorem dX4_season_197 : decode cX4_season 197 = .ok (.if_icmp .ne 8, 3) := by decide +kernel
theorem dX4_season_200 : decode cX4_season 200 = .ok (.iload 9, 2) := by decide +kernel
theorem dX4_season_202 : decode cX4_season 202 = .ok (.goto 8, 3) := by decide +kernel
theorem dX4_season_205 : decode cX4_season 205 = .ok (.bipush (-100), 2) := by decide +kernel
theorem dX4_season_207 : decode cX4_season 207 = .ok (.iload 8, 2) := by decide +kernel
theorem dX4_season_209 : decode cX4_season 209 = .ok (.isub, 1) := by decide +kernel
theorem dX4_season_210 : decode cX4_season 210 = .ok (.ireturn, 1) := by decide +kernel
theorem dX4_tellSeason_0 : decode cX4_tellSeason 0 = .ok (.iload_n 1, 1) := by decide +kernel
theorem dX4_tellSeason_1 : decode cX4_tellSeason 1 = .ok (.bipush 10, 2) := by decide +kernel
theorem dX4_tellSeason_3 : decode cX4_tellSeason 3 = .ok (.if_icmp .lt 29, 3) := by decide +kernel
theorem dX4_tellSeason_6 : decode cX4_tellSeason 6 = .ok (.aload_n 0, 1) := by decide +kernel
theorem dX4_tellSeason_7 : decode cX4_tellSeason 7 = .ok (.iload_n 1, 1) := by decide +kernel
theorem dX4_tellSeason_8 : decode cX4_tellSeason 8 = .ok (.bipush 10, 2) := by decide +kernel
theorem dX4_tellSeason_10 : decode cX4_tellSeason 10 = .ok (.isub, 1) := by decide +kernel
theorem dX4_tellSeason_11 : decode cX4_tellSeason 11 = .ok (.invokevirtual 140, 3) := by decide +kernel
theorem dX4_tellSeason_14 : decode cX4_tellSeason 14 = .ok (.ifCond .eq 15, 3) := by decide +kernel
theorem dX4_tellSeason_17 : decode cX4_tellSeason 17 = .ok (.aload_n 0, 1) := by decide +kernel
theorem dX4_tellSeason_18 : decode cX4_tellSeason 18 = .ok (.getfield 28, 3) := by decide +kernel
theorem dX4_tellSeason_21 : decode cX4_tellSeason 21 = .ok (.iload_n 1, 1) := by decide +kernel
theorem dX4_tellSeason_22 : decode cX4_tellSeason 22 = .ok (.bipush 10, 2) := by decide +kernel
theorem dX4_tellSeason_24 : decode cX4_tellSeason 24 = .ok (.isub, 1) := by decide +kernel
theorem dX4_tellSeason_25 : decode cX4_tellSeason 25 = .ok (.iaload, 1) := by decide +kernel
theorem dX4_tellSeason_26 : decode cX4_tellSeason 26 = .ok (.goto 5, 3) := by decide +kernel
theorem dX4_tellSeason_29 : decode cX4_tellSeason 29 = .ok (.bipush (-9), 2) := by decide +kernel
theorem dX4_tellSeason_31 : decode cX4_tellSeason 31 = .ok (.ireturn, 1) := by decide +kernel
theorem dX4_tellSeason_32 : decode cX4_tellSeason 32 = .ok (.iload_n 1, 1) := by decide +kernel
theorem dX4_tellSeason_33 : decode cX4_tellSeason 33 = .ok (.iconst 4, 1) := by decide +kernel
theorem dX4_tellSeason_34 : decode cX4_tellSeason 34 = .ok (.if_icmp .ge 31, 3) := by decide +kernel
theorem dX4_tellSeason_37 : decode cX4_tellSeason 37 = .ok (.iload_n 1, 1) := by decide +kernel
theorem dX4_tellSeason_38 : decode cX4_tellSeason 38 = .ok (.ifCond .ne 10, 3) := by decide +kernel
theorem dX4_tellSeason_41 : decode cX4_tellSeason 41 = .ok (.aload_n 0, 1) := by decide +kernel
theorem dX4_tellSeason_42 : decode cX4_tellSeason 42 = .ok (.invokevirtual 162, 3) := by decide +kernel
theorem dX4_tellSeason_45 : decode cX4_tellSeason 45 = .ok (.goto 19, 3) := by decide +kernel
theorem dX4_tellSeason_48 : decode cX4_tellSeason 48 = .ok (.iload_n 1, 1) := by decide +kernel
theorem dX4_tellSeason_49 : decode cX4_tellSeason 49 = .ok (.iconst 2, 1) := by decide +kernel
theorem dX4_tellSeason_50 : decode cX4_tellSeason 50 = .ok (.if_icmp .ne 10, 3) := by decide +kernel
theorem dX4_tellSeason_53 : decode cX4_tellSeason 53 = .ok (.aload_n 0, 1) := by decide +kernel
theorem dX4_tellSeason_54 : decode cX4_tellSeason 54 = .ok (.getfield 114, 3) := by decide +kernel
theorem dX4_tellSeason_57 : decode cX4_tellSeason 57 = .ok (.goto 7, 3) := by decide +kernel
theorem dX4_tellSeason_60 : decode cX4_tellSeason 60 = .ok (.aload_n 0, 1) := by decide +kernel
theorem dX4_tellSeason_61 : decode cX4_tellSeason 61 = .ok (.getfield 168, 3) := by decide +kernel
theorem dX4_tellSeason_64 : decode cX4_tellSeason 64 = .ok (.ireturn, 1) := by decide +kernel
theorem dX4_tellSeason_65 : decode cX4_tellSeason 65 = .ok (.iconst 0, 1) := by decide +kernel
theorem dX4_tellSeason_66 : decode cX4_tellSeason 66 = .ok (.istore_n 2, 1) := by decide +kernel
theorem dX4_tellSeason_67 : decode cX4_tellSeason 67 = .ok (.iconst 0, 1) := by decide +kernel
theorem dX4_tellSeason_68 : decode cX4_tellSeason 68 = .ok (.istore_n 3, 1) := by decide +kernel
theorem dX4_tellSeason_69 : decode cX4_tellSeason 69 = .ok (.iload_n 3, 1) := by decide +kernel
theorem dX4_tellSeason_70 : decode cX4_tellSeason 70 = .ok (.aload_n 0, 1) := by decide +kernel
theorem dX4_tellSeason_71 : decode cX4_tellSeason 71 = .ok (.getfield 75, 3) := by decide +kernel
theorem dX4_tellSeason_74 : decode cX4_tellSeason 74 = .ok (.if_icmp .ge 20, 3) := by decide +kernel
theorem dX4_tellSeason_77 : decode cX4_tellSeason 77 = .ok (.iload_n 2, 1) := by decide +kernel
theorem dX4_tellSeason_78 : decode cX4_tellSeason 78 = .ok (.iconst 1, 1) := by decide +kernel
theorem dX4_tellSeason_79 : decode cX4_tellSeason 79 = .ok (.aload_n 0, 1) := by decide +kernel
theorem dX4_tellSeason_80 : decode cX4_tellSeason 80 = .ok (.getfield 28, 3) := by decide +kernel
theorem dX4_tellSeason_83 : decode cX4_tellSeason 83 = .ok (.iload_n 3, 1) := by decide +kernel
theorem dX4_tellSeason_84 : decode cX4_tellSeason 84 = .ok (.iaload, 1) := by decide +kernel
theorem dX4_tellSeason_85 : decode cX4_tellSeason 85 = .ok (.ishl, 1) := by decide +kernel
theorem dX4_tellSeason_86 : decode cX4_tellSeason 86 = .ok (.ior, 1) := by decide +kernel
theorem dX4_tellSeason_87 : decode cX4_tellSeason 87 = .ok (.istore_n 2, 1) := by decide +kernel
theorem dX4_tellSeason_88 : decode cX4_tellSeason 88 = .ok (.iinc 3 1, 3) := by decide +kernel
theorem dX4_tellSeason_91 : decode cX4_tellSeason 91 = .ok (.goto (-22), 3) := by decide +kernel
theorem dX4_tellSeason_94 : decode cX4_tellSeason 94 = .ok (.iload_n 2, 1) := by decide +kernel
theorem dX4_tellSeason_95 : decode cX4_tellSeason 95 = .ok (.ireturn, 1) := by decide +kernel
theorem dX4_reached_0 : decode cX4_reached 0 = .ok (.iconst 1, 1) := by decide +kernel
theorem dX4_reached_1 : decode cX4_reached 1 = .ok (.iload_n 1, 1) := by decide +kernel
theorem dX4_reached_2 : decode cX4_reached 2 = .ok (.ishl, 1) := by decide +kernel
theorem dX4_reached_3 : decode cX4_reached 3 = .ok (.istore 4, 2) := by decide +kernel
theorem dX4_reached_5 : decode cX4_reached 5 = .ok (.iconst 0, 1) := by decide +kernel
theorem dX4_reached_6 : decode cX4_reached 6 = .ok (.istore 5, 2) := by decide +kernel
theorem dX4_reached_8 : decode cX4_reached 8 = .ok (.iload 4, 2) := by decide +kernel
theorem dX4_reached_10 : decode cX4_reached 10 = .ok (.iload 5, 2) := by decide +kernel
theorem dX4_reached_12 : decode cX4_reached 12 = .ok (.if_icmp .eq 120, 3) := by decide +kernel
theorem dX4_reached_15 : decode cX4_reached 15 = .ok (.iload 4, 2) := by decide +kernel
theorem dX4_reached_17 : decode cX4_reached 17 = .ok (.istore 5, 2) := by decide +kernel
theorem dX4_reached_19 : decode cX4_reached 19 = .ok (.iconst 0, 1) := by decide +kernel
theorem dX4_reached_20 : decode cX4_reached 20 = .ok (.istore 6, 2) := by decide +kernel
theorem dX4_reached_22 : decode cX4_reached 22 = .ok (.iload 6, 2) := by decide +kernel
theorem dX4_reached_24 : decode cX4_reached 24 = .ok (.aload_n 0, 1) := by decide +kernel
theorem dX4_reached_25 : decode cX4_reached 25 = .ok (.getfield 68, 3) := by decide +kernel
theorem dX4_reached_28 : decode cX4_reached 28 = .ok (.if_icmp .ge 101, 3) := by decide +kernel
theorem dX4_reached_31 : decode cX4_reached 31 = .ok (.iconst 0, 1) := by decide +kernel
theorem dX4_reached_32 : decode cX4_reached 32 = .ok (.istore 7, 2) := by decide +kernel
theorem dX4_reached_34 : decode cX4_reached 34 = .ok (.iload 7, 2) := by decide +kernel
theorem dX4_reached_36 : decode cX4_reached 36 = .ok (.aload_n 0, 1) := by decide +kernel
theorem dX4_reached_37 : decode cX4_reached 37 = .ok (.getfield 68, 3) := by decide +kernel
theorem dX4_reached_40 : decode cX4_reached 40 = .ok (.if_icmp .ge 83, 3) := by decide +kernel
theorem dX4_reached_43 : decode cX4_reached 43 = .ok (.iload 6, 2) := by decide +kernel
theorem dX4_reached_45 : decode cX4_reached 45 = .ok (.iload 7, 2) := by decide +kernel
theorem dX4_reached_47 : decode cX4_reached 47 = .ok (.if_icmp .eq 49, 3) := by decide +kernel
theorem dX4_reached_50 : decode cX4_reached 50 = .ok (.iload 4, 2) := by decide +kernel
theorem dX4_reached_52 : decode cX4_reached 52 = .ok (.iload 6, 2) := by decide +kernel
theorem dX4_reached_54 : decode cX4_reached 54 = .ok (.invokestatic 156, 3) := by decide +kernel
theorem dX4_reached_57 : decode cX4_reached 57 = .ok (.ifCond .eq 39, 3) := by decide +kernel
theorem dX4_reached_60 : decode cX4_reached 60 = .ok (.iload_n 3, 1) := by decide +kernel
theorem dX4_reached_61 : decode cX4_reached 61 = .ok (.aload_n 0, 1) := by decide +kernel
theorem dX4_reached_62 : decode cX4_reached 62 = .ok (.iload 6, 2) := by decide +kernel
theorem dX4_reached_64 : decode cX4_reached 64 = .ok (.iload 7, 2) := by decide +kernel
theorem dX4_reached_66 : decode cX4_reached 66 = .ok (.invokevirtual 146, 3) := by decide +kernel
theorem dX4_reached_69 : decode cX4_reached 69 = .ok (.invokestatic 156, 3) := by decide +kernel
theorem dX4_reached_72 : decode cX4_reached 72 = .ok (.ifCond .ne 24, 3) := by decide +kernel
theorem dX4_reached_75 : decode cX4_reached 75 = .ok (.aload_n 0, 1) := by decide +kernel
theorem dX4_reached_76 : decode cX4_reached 76 = .ok (.getfield 19, 3) := by decide +kernel
theorem dX4_reached_79 : decode cX4_reached 79 = .ok (.aload_n 0, 1) := by decide +kernel
theorem dX4_reached_80 : decode cX4_reached 80 = .ok (.iload 6, 2) := by decide +kernel
theorem dX4_reached_82 : decode cX4_reached 82 = .ok (.iload 7, 2) := by decide +kernel
theorem dX4_reached_84 : decode cX4_reached 84 = .ok (.invokevirtual 146, 3) := by decide +kernel
theorem dX4_reached_87 : decode cX4_reached 87 = .ok (.iaload, 1) := by decide +kernel
theorem dX4_reached_88 : decode cX4_reached 88 = .ok (.iload_n 2, 1) := by decide +kernel
theorem dX4_reached_89 : decode cX4_reached 89 = .ok (.if_icmp .lt 7, 3) := by decide +kernel
theorem dX4_reached_92 : decode cX4_reached 92 = .ok (.iconst 1, 1) := by decide +kernel
theorem dX4_reached_93 : decode cX4_reached 93 = .ok (.goto 4, 3) := by decide +kernel
theorem dX4_reached_96 : decode cX4_reached 96 = .ok (.iconst 0, 1) := by decide +kernel
theorem dX4_reached_97 : decode cX4_reached 97 = .ok (.istore 8, 2) := by decide +kernel
theorem dX4_reached_99 : decode cX4_reached 99 = .ok (.iload 4, 2) := by decide +kernel
theorem dX4_reached_101 : decode cX4_reached 101 = .ok (.iload 8, 2) := by decide +kernel
theorem dX4_reached_103 : decode cX4_reached 103 = .ok (.ifCond .eq 10, 3) := by decide +kernel
theorem dX4_reached_106 : decode cX4_reached 106 = .ok (.iconst 1, 1) := by decide +kernel
theorem dX4_reached_107 : decode cX4_reached 107 = .ok (.iload 7, 2) := by decide +kernel
theorem dX4_reached_109 : decode cX4_reached 109 = .ok (.ishl, 1) := by decide +kernel
theorem dX4_reached_110 : decode cX4_reached 110 = .ok (.goto 4, 3) := by decide +kernel
theorem dX4_reached_113 : decode cX4_reached 113 = .ok (.iconst 0, 1) := by decide +kernel
theorem dX4_reached_114 : decode cX4_reached 114 = .ok (.ior, 1) := by decide +kernel
theorem dX4_reached_115 : decode cX4_reached 115 = .ok (.istore 4, 2) := by decide +kernel
theorem dX4_reached_117 : decode cX4_reached 117 = .ok (.iinc 7 1, 3) := by decide +kernel
theorem dX4_reached_120 : decode cX4_reached 120 = .ok (.goto (-86), 3) := by decide +kernel
theorem dX4_reached_123 : decode cX4_reached 123 = .ok (.iinc 6 1, 3) := by decide +kernel
theorem dX4_reached_126 : decode cX4_reached 126 = .ok (.goto (-104), 3) := by decide +kernel
theorem dX4_reached_129 : decode cX4_reached 129 = .ok (.goto (-121), 3) := by decide +kernel
theorem dX4_reached_132 : decode cX4_reached 132 = .ok (.iload 4, 2) := by decide +kernel
theorem dX4_reached_134 : decode cX4_reached 134 = .ok (.ireturn, 1) := by decide +kernel
theorem dX4_wantsOf_0 : decode cX4_wantsOf 0 = .ok (.aload_n 0, 1) := by decide +kernel
theorem dX4_wantsOf_1 : decode cX4_wantsOf 1 = .ok (.iload_n 1, 1) := by decide +kernel
theorem dX4_wantsOf_2 : decode cX4_wantsOf 2 = .ok (.invokevirtual 137, 3) := by decide +kernel
theorem dX4_wantsOf_5 : decode cX4_wantsOf 5 = .ok (.iconst 1, 1) := by decide +kernel
theorem dX4_wantsOf_6 : decode cX4_wantsOf 6 = .ok (.if_icmp .ge 7, 3) := by decide +kernel
theorem dX4_wantsOf_9 : decode cX4_wantsOf 9 = .ok (.iconst 1, 1) := by decide +kernel
theorem dX4_wantsOf_10 : decode cX4_wantsOf 10 = .ok (.goto 8, 3) := by decide +kernel
theorem dX4_wantsOf_13 : decode cX4_wantsOf 13 = .ok (.aload_n 0, 1) := by decide +kernel
theorem dX4_wantsOf_14 : decode cX4_wantsOf 14 = .ok (.iload_n 1, 1) := by decide +kernel
theorem dX4_wantsOf_15 : decode cX4_wantsOf 15 = .ok (.invokevirtual 137, 3) := by decide +kernel
theorem dX4_wantsOf_18 : decode cX4_wantsOf 18 = .ok (.ireturn, 1) := by decide +kernel
theorem dX4_reachedBy_0 : decode cX4_reachedBy 0 = .ok (.aload_n 0, 1) := by decide +kernel
theorem dX4_reachedBy_1 : decode cX4_reachedBy 1 = .ok (.aload_n 0, 1) := by decide +kernel
theorem dX4_reachedBy_2 : decode cX4_reachedBy 2 = .ok (.getfield 28, 3) := by decide +kernel
theorem dX4_reachedBy_5 : decode cX4_reachedBy 5 = .ok (.iload_n 1, 1) := by decide +kernel
theorem dX4_reachedBy_6 : decode cX4_reachedBy 6 = .ok (.iaload, 1) := by decide +kernel
theorem dX4_reachedBy_7 : decode cX4_reachedBy 7 = .ok (.aload_n 0, 1) := by decide +kernel
theorem dX4_reachedBy_8 : decode cX4_reachedBy 8 = .ok (.iload_n 1, 1) := by decide +kernel
theorem dX4_reachedBy_9 : decode cX4_reachedBy 9 = .ok (.invokevirtual 189, 3) := by decide +kernel
theorem dX4_reachedBy_12 : decode cX4_reachedBy 12 = .ok (.iconst 0, 1) := by decide +kernel
theorem dX4_reachedBy_13 : decode cX4_reachedBy 13 = .ok (.invokevirtual 192, 3) := by decide +kernel
theorem dX4_reachedBy_16 : decode cX4_reachedBy 16 = .ok (.ireturn, 1) := by decide +kernel
theorem dX4_widest_0 : decode cX4_widest 0 = .ok (.aload_n 0, 1) := by decide +kernel
theorem dX4_widest_1 : decode cX4_widest 1 = .ok (.iload_n 1, 1) := by decide +kernel
theorem dX4_widest_2 : decode cX4_widest 2 = .ok (.iload_n 2, 1) := by decide +kernel
theorem dX4_widest_3 : decode cX4_widest 3 = .ok (.invokevirtual 143, 3) := by decide +kernel
theorem dX4_widest_6 : decode cX4_widest 6 = .ok (.ifCond .ne 5, 3) := by decide +kernel
theorem dX4_widest_9 : decode cX4_widest 9 = .ok (.iconst (-1), 1) := by decide +kernel
theorem dX4_widest_10 : decode cX4_widest 10 = .ok (.ireturn, 1) := by decide +kernel
theorem dX4_widest_11 : decode cX4_widest 11 = .ok (.bipush 9, 2) := by decide +kernel
theorem dX4_widest_13 : decode cX4_widest 13 = .ok (.istore_n 3, 1) := by decide +kernel
theorem dX4_widest_14 : decode cX4_widest 14 = .ok (.iload_n 3, 1) := by decide +kernel
theorem dX4_widest_15 : decode cX4_widest 15 = .ok (.ifCond .le 23, 3) := by decide +kernel
theorem dX4_widest_18 : decode cX4_widest 18 = .ok (.aload_n 0, 1) := by decide +kernel
theorem dX4_widest_19 : decode cX4_widest 19 = .ok (.iload_n 1, 1) := by decide +kernel
theorem dX4_widest_20 : decode cX4_widest 20 = .ok (.iload_n 3, 1) := by decide +kernel
theorem dX4_widest_21 : decode cX4_widest 21 = .ok (.iconst 0, 1) := by decide +kernel
theorem dX4_widest_22 : decode cX4_widest 22 = .ok (.invokevirtual 192, 3) := by decide +kernel
theorem dX4_widest_25 : decode cX4_widest 25 = .ok (.iload_n 2, 1) := by decide +kernel
theorem dX4_widest_26 : decode cX4_widest 26 = .ok (.invokestatic 156, 3) := by decide +kernel
theorem dX4_widest_29 : decode cX4_widest 29 = .ok (.ifCond .ne 9, 3) := by decide +kernel
theorem dX4_widest_32 : decode cX4_widest 32 = .ok (.iinc 3 (-1), 3) := by decide +kernel
theorem dX4_widest_35 : decode cX4_widest 35 = .ok (.goto (-21), 3) := by decide +kernel
theorem dX4_widest_38 : decode cX4_widest 38 = .ok (.iload_n 3, 1) := by decide +kernel
theorem dX4_widest_39 : decode cX4_widest 39 = .ok (.ireturn, 1) := by decide +kernel
theorem dX4_findFar_0 : decode cX4_findFar 0 = .ok (.iconst 0, 1) := by decide +kernel
theorem dX4_findFar_1 : decode cX4_findFar 1 = .ok (.istore_n 3, 1) := by decide +kernel
theorem dX4_findFar_2 : decode cX4_findFar 2 = .ok (.iload_n 3, 1) := by decide +kernel
theorem dX4_findFar_3 : decode cX4_findFar 3 = .ok (.aload_n 0, 1) := by decide +kernel
theorem dX4_findFar_4 : decode cX4_findFar 4 = .ok (.getfield 68, 3) := by decide +kernel
theorem dX4_findFar_7 : decode cX4_findFar 7 = .ok (.if_icmp .ge 26, 3) := by decide +kernel
theorem dX4_findFar_10 : decode cX4_findFar 10 = .ok (.aload_n 0, 1) := by decide +kernel
theorem dX4_findFar_11 : decode cX4_findFar 11 = .ok (.getfield 43, 3) := by decide +kernel
theorem dX4_findFar_14 : decode cX4_findFar 14 = .ok (.iload_n 3, 1) := by decide +kernel
theorem dX4_findFar_15 : decode cX4_findFar 15 = .ok (.iload_n 3, 1) := by decide +kernel
theorem dX4_findFar_16 : decode cX4_findFar 16 = .ok (.iload_n 2, 1) := by decide +kernel
theorem dX4_findFar_17 : decode cX4_findFar 17 = .ok (.if_icmp .ne 7, 3) := by decide +kernel
theorem dX4_findFar_20 : decode cX4_findFar 20 = .ok (.iconst 0, 1) := by decide +kernel
theorem dX4_findFar_21 : decode cX4_findFar 21 = .ok (.goto 5, 3) := by decide +kernel
theorem dX4_findFar_24 : decode cX4_findFar 24 = .ok (.bipush (-9), 2) := by decide +kernel
theorem dX4_findFar_26 : decode cX4_findFar 26 = .ok (.iastore, 1) := by decide +kernel
theorem dX4_findFar_27 : decode cX4_findFar 27 = .ok (.iinc 3 1, 3) := by decide +kernel
theorem dX4_findFar_30 : decode cX4_findFar 30 = .ok (.goto (-28), 3) := by decide +kernel
theorem dX4_findFar_33 : decode cX4_findFar 33 = .ok (.iconst 0, 1) := by decide +kernel
theorem dX4_findFar_34 : decode cX4_findFar 34 = .ok (.istore_n 3, 1) := by decide +kernel
theorem dX4_findFar_35 : decode cX4_findFar 35 = .ok (.iload_n 3, 1) := by decide +kernel
theorem dX4_findFar_36 : decode cX4_findFar 36 = .ok (.aload_n 0, 1) := by decide +kernel
theorem dX4_findFar_37 : decode cX4_findFar 37 = .ok (.getfield 68, 3) := by decide +kernel
theorem dX4_findFar_40 : decode cX4_findFar 40 = .ok (.if_icmp .ge 123, 3) := by decide +kernel
theorem dX4_findFar_43 : decode cX4_findFar 43 = .ok (.iconst 0, 1) := by decide +kernel
theorem dX4_findFar_44 : decode cX4_findFar 44 = .ok (.istore 4, 2) := by decide +kernel
theorem dX4_findFar_46 : decode cX4_findFar 46 = .ok (.iload 4, 2) := by decide +kernel
theorem dX4_findFar_48 : decode cX4_findFar 48 = .ok (.aload_n 0, 1) := by decide +kernel
theorem dX4_findFar_49 : decode cX4_findFar 49 = .ok (.getfield 68, 3) := by decide +kernel
theorem dX4_findFar_52 : decode cX4_findFar 52 = .ok (.if_icmp .ge 105, 3) := by decide +kernel
theorem dX4_findFar_55 : decode cX4_findFar 55 = .ok (.iconst 0, 1) := by decide +kernel
theorem dX4_findFar_56 : decode cX4_findFar 56 = .ok (.istore 5, 2) := by decide +kernel
theorem dX4_findFar_58 : decode cX4_findFar 58 = .ok (.iload 5, 2) := by decide +kernel
theorem dX4_findFar_60 : decode cX4_findFar 60 = .ok (.aload_n 0, 1) := by decide +kernel
theorem dX4_findFar_61 : decode cX4_findFar 61 = .ok (.getfield 68, 3) := by decide +kernel
theorem dX4_findFar_64 : decode cX4_findFar 64 = .ok (.if_icmp .ge 87, 3) := by decide +kernel
theorem dX4_findFar_67 : decode cX4_findFar 67 = .ok (.iload 4, 2) := by decide +kernel
theorem dX4_findFar_69 : decode cX4_findFar 69 = .ok (.iload 5, 2) := by decide +kernel
theorem dX4_findFar_71 : decode cX4_findFar 71 = .ok (.if_icmp .eq 46, 3) := by decide +kernel
theorem dX4_findFar_74 : decode cX4_findFar 74 = .ok (.aload_n 0, 1) := by decide +kernel
theorem dX4_findFar_75 : decode cX4_findFar 75 = .ok (.getfield 43, 3) := by decide +kernel
theorem dX4_findFar_78 : decode cX4_findFar 78 = .ok (.iload 4, 2) := by decide +kernel
theorem dX4_findFar_80 : decode cX4_findFar 80 = .ok (.iaload, 1) := by decide +kernel
theorem dX4_findFar_81 : decode cX4_findFar 81 = .ok (.iload_n 3, 1) := by decide +kernel
theorem dX4_findFar_82 : decode cX4_findFar 82 = .ok (.if_icmp .ne 35, 3) := by decide +kernel
theorem dX4_findFar_85 : decode cX4_findFar 85 = .ok (.aload_n 0, 1) := by decide +kernel
theorem dX4_findFar_86 : decode cX4_findFar 86 = .ok (.getfield 43, 3) := by decide +kernel
theorem dX4_findFar_89 : decode cX4_findFar 89 = .ok (.iload 5, 2) := by decide +kernel
theorem dX4_findFar_91 : decode cX4_findFar 91 = .ok (.iaload, 1) := by decide +kernel
theorem dX4_findFar_92 : decode cX4_findFar 92 = .ok (.bipush (-9), 2) := by decide +kernel
theorem dX4_findFar_94 : decode cX4_findFar 94 = .ok (.if_icmp .ne 23, 3) := by decide +kernel
theorem dX4_findFar_97 : decode cX4_findFar 97 = .ok (.aload_n 0, 1) := by decide +kernel
theorem dX4_findFar_98 : decode cX4_findFar 98 = .ok (.iload_n 1, 1) := by decide +kernel
theorem dX4_findFar_99 : decode cX4_findFar 99 = .ok (.aload_n 0, 1) := by decide +kernel
theorem dX4_findFar_100 : decode cX4_findFar 100 = .ok (.iload 4, 2) := by decide +kernel
theorem dX4_findFar_102 : decode cX4_findFar 102 = .ok (.iload 5, 2) := by decide +kernel
theorem dX4_findFar_104 : decode cX4_findFar 104 = .ok (.invokevirtual 146, 3) := by decide +kernel
theorem dX4_findFar_107 : decode cX4_findFar 107 = .ok (.invokevirtual 150, 3) := by decide +kernel
theorem dX4_findFar_110 : decode cX4_findFar 110 = .ok (.ifCond .eq 7, 3) := by decide +kernel
theorem dX4_findFar_113 : decode cX4_findFar 113 = .ok (.iconst 1, 1) := by decide +kernel
theorem dX4_findFar_114 : decode cX4_findFar 114 = .ok (.goto 4, 3) := by decide +kernel
theorem dX4_findFar_117 : decode cX4_findFar 117 = .ok (.iconst 0, 1) := by decide +kernel
theorem dX4_findFar_118 : decode cX4_findFar 118 = .ok (.istore 6, 2) := by decide +kernel
theorem dX4_findFar_120 : decode cX4_findFar 120 = .ok (.aload_n 0, 1) := by decide +kernel
theorem dX4_findFar_121 : decode cX4_findFar 121 = .ok (.getfield 43, 3) := by decide +kernel
theorem dX4_findFar_124 : decode cX4_findFar 124 = .ok (.iload 5, 2) := by decide +kernel
theorem dX4_findFar_126 : decode cX4_findFar 126 = .ok (.iload 6, 2) := by decide +kernel
theorem dX4_findFar_128 : decode cX4_findFar 128 = .ok (.ifCond .eq 9, 3) := by decide +kernel
theorem dX4_findFar_131 : decode cX4_findFar 131 = .ok (.iload_n 3, 1) := by decide +kernel
theorem dX4_findFar_132 : decode cX4_findFar 132 = .ok (.iconst 1, 1) := by decide +kernel
theorem dX4_findFar_133 : decode cX4_findFar 133 = .ok (.iadd, 1) := by decide +kernel
theorem dX4_findFar_134 : decode cX4_findFar 134 = .ok (.goto 10, 3) := by decide +kernel
theorem dX4_findFar_137 : decode cX4_findFar 137 = .ok (.aload_n 0, 1) := by decide +kernel
theorem dX4_findFar_138 : decode cX4_findFar 138 = .ok (.getfield 43, 3) := by decide +kernel
theorem dX4_findFar_141 : decode cX4_findFar 141 = .ok (.iload 5, 2) := by decide +kernel
theorem dX4_findFar_143 : decode cX4_findFar 143 = .ok (.iaload, 1) := by decide +kernel
theorem dX4_findFar_144 : decode cX4_findFar 144 = .ok (.iastore, 1) := by decide +kernel
theorem dX4_findFar_145 : decode cX4_findFar 145 = .ok (.iinc 5 1, 3) := by decide +kernel
theorem dX4_findFar_148 : decode cX4_findFar 148 = .ok (.goto (-90), 3) := by decide +kernel
theorem dX4_findFar_151 : decode cX4_findFar 151 = .ok (.iinc 4 1, 3) := by decide +kernel
theorem dX4_findFar_154 : decode cX4_findFar 154 = .ok (.goto (-108), 3) := by decide +kernel
theorem dX4_findFar_157 : decode cX4_findFar 157 = .ok (.iinc 3 1, 3) := by decide +kernel
theorem dX4_findFar_160 : decode cX4_findFar 160 = .ok (.goto (-125), 3) := by decide +kernel
theorem dX4_findFar_163 : decode cX4_findFar 163 = .ok (.return_, 1) := by decide +kernel
theorem dX4_way_0 : decode cX4_way 0 = .ok (.aload_n 0, 1) := by decide +kernel
theorem dX4_way_1 : decode cX4_way 1 = .ok (.iload_n 1, 1) := by decide +kernel
theorem dX4_way_2 : decode cX4_way 2 = .ok (.invokevirtual 140, 3) := by decide +kernel
theorem dX4_way_5 : decode cX4_way 5 = .ok (.ifCond .eq 11, 3) := by decide +kernel
theorem dX4_way_8 : decode cX4_way 8 = .ok (.aload_n 0, 1) := by decide +kernel
theorem dX4_way_9 : decode cX4_way 9 = .ok (.iload_n 2, 1) := by decide +kernel
theorem dX4_way_10 : decode cX4_way 10 = .ok (.invokevirtual 71, 3) := by decide +kernel
theorem dX4_way_13 : decode cX4_way 13 = .ok (.ifCond .ne 5, 3) := by decide +kernel
theorem dX4_way_16 : decode cX4_way 16 = .ok (.iconst (-1), 1) := by decide +kernel
theorem dX4_way_17 : decode cX4_way 17 = .ok (.ireturn, 1) := by decide +kernel
theorem dX4_way_18 : decode cX4_way 18 = .ok (.iload_n 3, 1) := by decide +kernel
theorem dX4_way_19 : decode cX4_way 19 = .ok (.iconst (-1), 1) := by decide +kernel
theorem dX4_way_20 : decode cX4_way 20 = .ok (.iconst 4, 1) := by decide +kernel
theorem dX4_way_21 : decode cX4_way 21 = .ok (.invokestatic 64, 3) := by decide +kernel
theorem dX4_way_24 : decode cX4_way 24 = .ok (.ifCond .ne 6, 3) := by decide +kernel
theorem dX4_way_27 : decode cX4_way 27 = .ok (.bipush (-2), 2) := by decide +kernel
theorem dX4_way_29 : decode cX4_way 29 = .ok (.ireturn, 1) := by decide +kernel
theorem dX4_way_30 : decode cX4_way 30 = .ok (.aload_n 0, 1) := by decide +kernel
theorem dX4_way_31 : decode cX4_way 31 = .ok (.iload_n 1, 1) := by decide +kernel
theorem dX4_way_32 : decode cX4_way 32 = .ok (.iload_n 2, 1) := by decide +kernel
theorem dX4_way_33 : decode cX4_way 33 = .ok (.invokevirtual 195, 3) := by decide +kernel
theorem dX4_way_36 : decode cX4_way 36 = .ok (.aload_n 0, 1) := by decide +kernel
theorem dX4_way_37 : decode cX4_way 37 = .ok (.getfield 28, 3) := by decide +kernel
theorem dX4_way_40 : decode cX4_way 40 = .ok (.iload_n 1, 1) := by decide +kernel
theorem dX4_way_41 : decode cX4_way 41 = .ok (.iaload, 1) := by decide +kernel
theorem dX4_way_42 : decode cX4_way 42 = .ok (.istore 4, 2) := by decide +kernel
theorem dX4_way_44 : decode cX4_way 44 = .ok (.aload_n 0, 1) := by decide +kernel
theorem dX4_way_45 : decode cX4_way 45 = .ok (.getfield 43, 3) := by decide +kernel
theorem dX4_way_48 : decode cX4_way 48 = .ok (.iload 4, 2) := by decide +kernel
theorem dX4_way_50 : decode cX4_way 50 = .ok (.iaload, 1) := by decide +kernel
theorem dX4_way_51 : decode cX4_way 51 = .ok (.bipush (-9), 2) := by decide +kernel
theorem dX4_way_53 : decode cX4_way 53 = .ok (.if_icmp .eq 14, 3) := by decide +kernel
theorem dX4_way_56 : decode cX4_way 56 = .ok (.iload_n 3, 1) := by decide +kernel
theorem dX4_way_57 : decode cX4_way 57 = .ok (.aload_n 0, 1) := by decide +kernel
theorem dX4_way_58 : decode cX4_way 58 = .ok (.getfield 43, 3) := by decide +kernel
theorem dX4_way_61 : decode cX4_way 61 = .ok (.iload 4, 2) := by decide +kernel
theorem dX4_way_63 : decode cX4_way 63 = .ok (.iaload, 1) := by decide +kernel
theorem dX4_way_64 : decode cX4_way 64 = .ok (.if_icmp .le 6, 3) := by decide +kernel
theorem dX4_way_67 : decode cX4_way 67 = .ok (.bipush (-9), 2) := by decide +kernel
theorem dX4_way_69 : decode cX4_way 69 = .ok (.ireturn, 1) := by decide +kernel
theorem dX4_way_70 : decode cX4_way 70 = .ok (.iload_n 3, 1) := by decide +kernel
theorem dX4_way_71 : decode cX4_way 71 = .ok (.iconst (-1), 1) := by decide +kernel
theorem dX4_way_72 : decode cX4_way 72 = .ok (.if_icmp .ne 13, 3) := by decide +kernel
theorem dX4_way_75 : decode cX4_way 75 = .ok (.aload_n 0, 1) := by decide +kernel
theorem dX4_way_76 : decode cX4_way 76 = .ok (.getfield 43, 3) := by decide +kernel
theorem dX4_way_79 : decode cX4_way 79 = .ok (.iload 4, 2) := by decide +kernel
theorem dX4_way_81 : decode cX4_way 81 = .ok (.iaload, 1) := by decide +kernel
theorem dX4_way_82 : decode cX4_way 82 = .ok (.iconst 1, 1) := by decide +kernel
theorem dX4_way_83 : decode cX4_way 83 = .ok (.iadd, 1) := by decide +kernel
theorem dX4_way_84 : decode cX4_way 84 = .ok (.ireturn, 1) := by decide +kernel
theorem dX4_way_85 : decode cX4_way 85 = .ok (.iconst 0, 1) := by decide +kernel
theorem dX4_way_86 : decode cX4_way 86 = .ok (.istore 5, 2) := by decide +kernel
theorem dX4_way_88 : decode cX4_way 88 = .ok (.iload 5, 2) := by decide +kernel
theorem dX4_way_90 : decode cX4_way 90 = .ok (.iload_n 3, 1) := by decide +kernel
theorem dX4_way_91 : decode cX4_way 91 = .ok (.if_icmp .ge 64, 3) := by decide +kernel
theorem dX4_way_94 : decode cX4_way 94 = .ok (.iconst 0, 1) := by decide +kernel
theorem dX4_way_95 : decode cX4_way 95 = .ok (.istore 6, 2) := by decide +kernel
theorem dX4_way_97 : decode cX4_way 97 = .ok (.iload 6, 2) := by decide +kernel
theorem dX4_way_99 : decode cX4_way 99 = .ok (.iload 4, 2) := by decide +kernel
theorem dX4_way_101 : decode cX4_way 101 = .ok (.if_icmp .eq 38, 3) := by decide +kernel
theorem dX4_way_104 : decode cX4_way 104 = .ok (.aload_n 0, 1) := by decide +kernel
theorem dX4_way_105 : decode cX4_way 105 = .ok (.getfield 43, 3) := by decide +kernel
theorem dX4_way_108 : decode cX4_way 108 = .ok (.iload 6, 2) := by decide +kernel
theorem dX4_way_110 : decode cX4_way 110 = .ok (.iaload, 1) := by decide +kernel
theorem dX4_way_111 : decode cX4_way 111 = .ok (.aload_n 0, 1) := by decide +kernel
theorem dX4_way_112 : decode cX4_way 112 = .ok (.getfield 43, 3) := by decide +kernel
theorem dX4_way_115 : decode cX4_way 115 = .ok (.iload 4, 2) := by decide +kernel
theorem dX4_way_117 : decode cX4_way 117 = .ok (.iaload, 1) := by decide +kernel
theorem dX4_way_118 : decode cX4_way 118 = .ok (.iconst 1, 1) := by decide +kernel
theorem dX4_way_119 : decode cX4_way 119 = .ok (.isub, 1) := by decide +kernel
theorem dX4_way_120 : decode cX4_way 120 = .ok (.if_icmp .ne 19, 3) := by decide +kernel
theorem dX4_way_123 : decode cX4_way 123 = .ok (.aload_n 0, 1) := by decide +kernel
theorem dX4_way_124 : decode cX4_way 124 = .ok (.iload_n 1, 1) := by decide +kernel
theorem dX4_way_125 : decode cX4_way 125 = .ok (.aload_n 0, 1) := by decide +kernel
theorem dX4_way_126 : decode cX4_way 126 = .ok (.iload 4, 2) := by decide +kernel
theorem dX4_way_128 : decode cX4_way 128 = .ok (.iload 6, 2) := by decide +kernel
theorem dX4_way_130 : decode cX4_way 130 = .ok (.invokevirtual 146, 3) := by decide +kernel
theorem dX4_way_133 : decode cX4_way 133 = .ok (.invokevirtual 150, 3) := by decide +kernel
theorem dX4_way_136 : decode cX4_way 136 = .ok (.ifCond .ne 9, 3) := by decide +kernel
theorem dX4_way_139 : decode cX4_way 139 = .ok (.iinc 6 1, 3) := by decide +kernel
theorem dX4_way_142 : decode cX4_way 142 = .ok (.goto (-45), 3) := by decide +kernel
theorem dX4_way_145 : decode cX4_way 145 = .ok (.iload 6, 2) := by decide +kernel
theorem dX4_way_147 : decode cX4_way 147 = .ok (.istore 4, 2) := by decide +kernel
theorem dX4_way_149 : decode cX4_way 149 = .ok (.iinc 5 1, 3) := by decide +kernel
theorem dX4_way_152 : decode cX4_way 152 = .ok (.goto (-64), 3) := by decide +kernel
theorem dX4_way_155 : decode cX4_way 155 = .ok (.iload 4, 2) := by decide +kernel
theorem dX4_way_157 : decode cX4_way 157 = .ok (.ireturn, 1) := by decide +kernel
theorem dX4_market_0 : decode cX4_market 0 = .ok (.iload_n 1, 1) := by decide +kernel
theorem dX4_market_1 : decode cX4_market 1 = .ok (.iconst 0, 1) := by decide +kernel
theorem dX4_market_2 : decode cX4_market 2 = .ok (.iconst 1, 1) := by decide +kernel
theorem dX4_market_3 : decode cX4_market 3 = .ok (.invokestatic 64, 3) := by decide +kernel
theorem dX4_market_6 : decode cX4_market 6 = .ok (.ifCond .ne 6, 3) := by decide +kernel
theorem dX4_market_9 : decode cX4_market 9 = .ok (.bipush (-2), 2) := by decide +kernel
theorem dX4_market_11 : decode cX4_market 11 = .ok (.ireturn, 1) := by decide +kernel
theorem dX4_market_12 : decode cX4_market 12 = .ok (.aload_n 0, 1) := by decide +kernel
theorem dX4_market_13 : decode cX4_market 13 = .ok (.getfield 68, 3) := by decide +kernel
theorem dX4_market_16 : decode cX4_market 16 = .ok (.ifCond .ne 6, 3) := by decide +kernel
theorem dX4_market_19 : decode cX4_market 19 = .ok (.bipush (-3), 2) := by decide +kernel
theorem dX4_market_21 : decode cX4_market 21 = .ok (.ireturn, 1) := by decide +kernel
theorem dX4_market_22 : decode cX4_market 22 = .ok (.iconst 0, 1) := by decide +kernel
theorem dX4_market_23 : decode cX4_market 23 = .ok (.istore_n 2, 1) := by decide +kernel
theorem dX4_market_24 : decode cX4_market 24 = .ok (.iconst 0, 1) := by decide +kernel
theorem dX4_market_25 : decode cX4_market 25 = .ok (.istore_n 3, 1) := by decide +kernel
theorem dX4_market_26 : decode cX4_market 26 = .ok (.iconst 0, 1) := by decide +kernel
theorem dX4_market_27 : decode cX4_market 27 = .ok (.istore 4, 2) := by decide +kernel
theorem dX4_market_29 : decode cX4_market 29 = .ok (.iload 4, 2) := by decide +kernel
theorem dX4_market_31 : decode cX4_market 31 = .ok (.aload_n 0, 1) := by decide +kernel
theorem dX4_market_32 : decode cX4_market 32 = .ok (.getfield 68, 3) := by decide +kernel
theorem dX4_market_35 : decode cX4_market 35 = .ok (.if_icmp .ge 80, 3) := by decide +kernel
theorem dX4_market_38 : decode cX4_market 38 = .ok (.iconst 0, 1) := by decide +kernel
theorem dX4_market_39 : decode cX4_market 39 = .ok (.istore 5, 2) := by decide +kernel
theorem dX4_market_41 : decode cX4_market 41 = .ok (.iconst 0, 1) := by decide +kernel
theorem dX4_market_42 : decode cX4_market 42 = .ok (.istore 6, 2) := by decide +kernel
theorem dX4_market_44 : decode cX4_market 44 = .ok (.iload 6, 2) := by decide +kernel
theorem dX4_market_46 : decode cX4_market 46 = .ok (.aload_n 0, 1) := by decide +kernel
theorem dX4_market_47 : decode cX4_market 47 = .ok (.getfield 75, 3) := by decide +kernel
theorem dX4_market_50 : decode cX4_market 50 = .ok (.if_icmp .ge 36, 3) := by decide +kernel
theorem dX4_market_53 : decode cX4_market 53 = .ok (.iload 5, 2) := by decide +kernel
theorem dX4_market_55 : decode cX4_market 55 = .ok (.aload_n 0, 1) := by decide +kernel
theorem dX4_market_56 : decode cX4_market 56 = .ok (.iload 6, 2) := by decide +kernel
theorem dX4_market_58 : decode cX4_market 58 = .ok (.invokevirtual 199, 3) := by decide +kernel
theorem dX4_market_61 : decode cX4_market 61 = .ok (.iload 4, 2) := by decide +kernel
theorem dX4_market_63 : decode cX4_market 63 = .ok (.invokestatic 156, 3) := by decide +kernel
theorem dX4_market_66 : decode cX4_market 66 = .ok (.ifCond .eq 10, 3) := by decide +kernel
theorem dX4_market_69 : decode cX4_market 69 = .ok (.iconst 1, 1) := by decide +kernel
theorem dX4_market_70 : decode cX4_market 70 = .ok (.iload 6, 2) := by decide +kernel
theorem dX4_market_72 : decode cX4_market 72 = .ok (.ishl, 1) := by decide +kernel
theorem dX4_market_73 : decode cX4_market 73 = .ok (.goto 4, 3) := by decide +kernel
theorem dX4_market_76 : decode cX4_market 76 = .ok (.iconst 0, 1) := by decide +kernel
theorem dX4_market_77 : decode cX4_market 77 = .ok (.ior, 1) := by decide +kernel
theorem dX4_market_78 : decode cX4_market 78 = .ok (.istore 5, 2) := by decide +kernel
theorem dX4_market_80 : decode cX4_market 80 = .ok (.iinc 6 1, 3) := by decide +kernel
theorem dX4_market_83 : decode cX4_market 83 = .ok (.goto (-39), 3) := by decide +kernel
theorem dX4_market_86 : decode cX4_market 86 = .ok (.iload 4, 2) := by decide +kernel
theorem dX4_market_88 : decode cX4_market 88 = .ok (.ifCond .eq 15, 3) := by decide +kernel
theorem dX4_market_91 : decode cX4_market 91 = .ok (.iload 5, 2) := by decide +kernel
theorem dX4_market_93 : decode cX4_market 93 = .ok (.invokestatic 202, 3) := by decide +kernel
theorem dX4_market_96 : decode cX4_market 96 = .ok (.iload_n 3, 1) := by decide +kernel
theorem dX4_market_97 : decode cX4_market 97 = .ok (.invokestatic 202, 3) := by decide +kernel
theorem dX4_market_100 : decode cX4_market 100 = .ok (.if_icmp .le 9, 3) := by decide +kernel
theorem dX4_market_103 : decode cX4_market 103 = .ok (.iload 4, 2) := by decide +kernel
theorem dX4_market_105 : decode cX4_market 105 = .ok (.istore_n 2, 1) := by decide +kernel
theorem dX4_market_106 : decode cX4_market 106 = .ok (.iload 5, 2) := by decide +kernel
theorem dX4_market_108 : decode cX4_market 108 = .ok (.istore_n 3, 1) := by decide +kernel
theorem dX4_market_109 : decode cX4_market 109 = .ok (.iinc 4 1, 3) := by decide +kernel
theorem dX4_market_112 : decode cX4_market 112 = .ok (.goto (-83), 3) := by decide +kernel
theorem dX4_market_115 : decode cX4_market 115 = .ok (.iload_n 1, 1) := by decide +kernel
theorem dX4_market_116 : decode cX4_market 116 = .ok (.ifCond .ne 7, 3) := by decide +kernel
theorem dX4_market_119 : decode cX4_market 119 = .ok (.iload_n 2, 1) := by decide +kernel
theorem dX4_market_120 : decode cX4_market 120 = .ok (.goto 4, 3) := by decide +kernel
theorem dX4_market_123 : decode cX4_market 123 = .ok (.iload_n 3, 1) := by decide +kernel
theorem dX4_market_124 : decode cX4_market 124 = .ok (.ireturn, 1) := by decide +kernel
theorem dX4_widen_0 : decode cX4_widen 0 = .ok (.aload_n 0, 1) := by decide +kernel
theorem dX4_widen_1 : decode cX4_widen 1 = .ok (.iload_n 1, 1) := by decide +kernel
theorem dX4_widen_2 : decode cX4_widen 2 = .ok (.invokevirtual 140, 3) := by decide +kernel
theorem dX4_widen_5 : decode cX4_widen 5 = .ok (.ifCond .eq 11, 3) := by decide +kernel
theorem dX4_widen_8 : decode cX4_widen 8 = .ok (.aload_n 0, 1) := by decide +kernel
theorem dX4_widen_9 : decode cX4_widen 9 = .ok (.iload_n 2, 1) := by decide +kernel
theorem dX4_widen_10 : decode cX4_widen 10 = .ok (.invokevirtual 71, 3) := by decide +kernel
theorem dX4_widen_13 : decode cX4_widen 13 = .ok (.ifCond .ne 5, 3) := by decide +kernel
theorem dX4_widen_16 : decode cX4_widen 16 = .ok (.iconst (-1), 1) := by decide +kernel
theorem dX4_widen_17 : decode cX4_widen 17 = .ok (.ireturn, 1) := by decide +kernel
theorem dX4_widen_18 : decode cX4_widen 18 = .ok (.iconst 0, 1) := by decide +kernel
theorem dX4_widen_19 : decode cX4_widen 19 = .ok (.istore_n 3, 1) := by decide +kernel
theorem dX4_widen_20 : decode cX4_widen 20 = .ok (.iload_n 3, 1) := by decide +kernel
theorem dX4_widen_21 : decode cX4_widen 21 = .ok (.aload_n 0, 1) := by decide +kernel
theorem dX4_widen_22 : decode cX4_widen 22 = .ok (.getfield 68, 3) := by decide +kernel
theorem dX4_widen_25 : decode cX4_widen 25 = .ok (.if_icmp .ge 31, 3) := by decide +kernel
theorem dX4_widen_28 : decode cX4_widen 28 = .ok (.aload_n 0, 1) := by decide +kernel
theorem dX4_widen_29 : decode cX4_widen 29 = .ok (.getfield 46, 3) := by decide +kernel
theorem dX4_widen_32 : decode cX4_widen 32 = .ok (.iload_n 3, 1) := by decide +kernel
theorem dX4_widen_33 : decode cX4_widen 33 = .ok (.iload_n 3, 1) := by decide +kernel
theorem dX4_widen_34 : decode cX4_widen 34 = .ok (.aload_n 0, 1) := by decide +kernel
theorem dX4_widen_35 : decode cX4_widen 35 = .ok (.getfield 28, 3) := by decide +kernel
theorem dX4_widen_38 : decode cX4_widen 38 = .ok (.iload_n 1, 1) := by decide +kernel
theorem dX4_widen_39 : decode cX4_widen 39 = .ok (.iaload, 1) := by decide +kernel
theorem dX4_widen_40 : decode cX4_widen 40 = .ok (.if_icmp .ne 7, 3) := by decide +kernel
theorem dX4_widen_43 : decode cX4_widen 43 = .ok (.iconst 0, 1) := by decide +kernel
theorem dX4_widen_44 : decode cX4_widen 44 = .ok (.goto 5, 3) := by decide +kernel
theorem dX4_widen_47 : decode cX4_widen 47 = .ok (.bipush (-9), 2) := by decide +kernel
theorem dX4_widen_49 : decode cX4_widen 49 = .ok (.iastore, 1) := by decide +kernel
theorem dX4_widen_50 : decode cX4_widen 50 = .ok (.iinc 3 1, 3) := by decide +kernel
theorem dX4_widen_53 : decode cX4_widen 53 = .ok (.goto (-33), 3) := by decide +kernel
theorem dX4_widen_56 : decode cX4_widen 56 = .ok (.iconst 0, 1) := by decide +kernel
theorem dX4_widen_57 : decode cX4_widen 57 = .ok (.istore_n 3, 1) := by decide +kernel
theorem dX4_widen_58 : decode cX4_widen 58 = .ok (.iload_n 3, 1) := by decide +kernel
theorem dX4_widen_59 : decode cX4_widen 59 = .ok (.aload_n 0, 1) := by decide +kernel
theorem dX4_widen_60 : decode cX4_widen 60 = .ok (.getfield 68, 3) := by decide +kernel
theorem dX4_widen_63 : decode cX4_widen 63 = .ok (.if_icmp .ge 154, 3) := by decide +kernel
theorem dX4_widen_66 : decode cX4_widen 66 = .ok (.iconst 0, 1) := by decide +kernel
theorem dX4_widen_67 : decode cX4_widen 67 = .ok (.istore 4, 2) := by decide +kernel
theorem dX4_widen_69 : decode cX4_widen 69 = .ok (.iload 4, 2) := by decide +kernel
theorem dX4_widen_71 : decode cX4_widen 71 = .ok (.aload_n 0, 1) := by decide +kernel
theorem dX4_widen_72 : decode cX4_widen 72 = .ok (.getfield 68, 3) := by decide +kernel
theorem dX4_widen_75 : decode cX4_widen 75 = .ok (.if_icmp .ge 136, 3) := by decide +kernel
theorem dX4_widen_78 : decode cX4_widen 78 = .ok (.iconst 0, 1) := by decide +kernel
theorem dX4_widen_79 : decode cX4_widen 79 = .ok (.istore 5, 2) := by decide +kernel
theorem dX4_widen_81 : decode cX4_widen 81 = .ok (.iload 5, 2) := by decide +kernel
theorem dX4_widen_83 : decode cX4_widen 83 = .ok (.aload_n 0, 1) := by decide +kernel
theorem dX4_widen_84 : decode cX4_widen 84 = .ok (.getfield 68, 3) := by decide +kernel
theorem dX4_widen_87 : decode cX4_widen 87 = .ok (.if_icmp .ge 118, 3) := by decide +kernel
theorem dX4_widen_90 : decode cX4_widen 90 = .ok (.iload 4, 2) := by decide +kernel
theorem dX4_widen_92 : decode cX4_widen 92 = .ok (.iload 5, 2) := by decide +kernel
theorem dX4_widen_94 : decode cX4_widen 94 = .ok (.if_icmp .eq 105, 3) := by decide +kernel
theorem dX4_widen_97 : decode cX4_widen 97 = .ok (.aload_n 0, 1) := by decide +kernel
theorem dX4_widen_98 : decode cX4_widen 98 = .ok (.getfield 46, 3) := by decide +kernel
theorem dX4_widen_101 : decode cX4_widen 101 = .ok (.iload 4, 2) := by decide +kernel
theorem dX4_widen_103 : decode cX4_widen 103 = .ok (.iaload, 1) := by decide +kernel
theorem dX4_widen_104 : decode cX4_widen 104 = .ok (.bipush (-9), 2) := by decide +kernel
theorem dX4_widen_106 : decode cX4_widen 106 = .ok (.if_icmp .eq 93, 3) := by decide +kernel
theorem dX4_widen_109 : decode cX4_widen 109 = .ok (.aload_n 0, 1) := by decide +kernel
theorem dX4_widen_110 : decode cX4_widen 110 = .ok (.getfield 19, 3) := by decide +kernel
theorem dX4_widen_113 : decode cX4_widen 113 = .ok (.aload_n 0, 1) := by decide +kernel
theorem dX4_widen_114 : decode cX4_widen 114 = .ok (.iload 4, 2) := by decide +kernel
theorem dX4_widen_116 : decode cX4_widen 116 = .ok (.iload 5, 2) := by decide +kernel
theorem dX4_widen_118 : decode cX4_widen 118 = .ok (.invokevirtual 146, 3) := by decide +kernel
theorem dX4_widen_121 : decode cX4_widen 121 = .ok (.iaload, 1) := by decide +kernel
theorem dX4_widen_122 : decode cX4_widen 122 = .ok (.ifCond .le 77, 3) := by decide +kernel
theorem dX4_widen_125 : decode cX4_widen 125 = .ok (.aload_n 0, 1) := by decide +kernel
theorem dX4_widen_126 : decode cX4_widen 126 = .ok (.getfield 46, 3) := by decide +kernel
theorem dX4_widen_129 : decode cX4_widen 129 = .ok (.iload 4, 2) := by decide +kernel
theorem dX4_widen_131 : decode cX4_widen 131 = .ok (.iaload, 1) := by decide +kernel
theorem dX4_widen_132 : decode cX4_widen 132 = .ok (.aload_n 0, 1) := by decide +kernel
theorem dX4_widen_133 : decode cX4_widen 133 = .ok (.iload_n 1, 1) := by decide +kernel
theorem dX4_widen_134 : decode cX4_widen 134 = .ok (.aload_n 0, 1) := by decide +kernel
theorem dX4_widen_135 : decode cX4_widen 135 = .ok (.iload 4, 2) := by decide +kernel
theorem dX4_widen_137 : decode cX4_widen 137 = .ok (.iload 5, 2) := by decide +kernel
theorem dX4_widen_139 : decode cX4_widen 139 = .ok (.invokevirtual 146, 3) := by decide +kernel
theorem dX4_widen_142 : decode cX4_widen 142 = .ok (.invokevirtual 150, 3) := by decide +kernel
theorem dX4_widen_145 : decode cX4_widen 145 = .ok (.ifCond .eq 7, 3) := by decide +kernel
theorem dX4_widen_148 : decode cX4_widen 148 = .ok (.iconst 0, 1) := by decide +kernel
theorem dX4_widen_149 : decode cX4_widen 149 = .ok (.goto 4, 3) := by decide +kernel
theorem dX4_widen_152 : decode cX4_widen 152 = .ok (.iconst 1, 1) := by decide +kernel
theorem dX4_widen_153 : decode cX4_widen 153 = .ok (.iadd, 1) := by decide +kernel
theorem dX4_widen_154 : decode cX4_widen 154 = .ok (.istore 6, 2) := by decide +kernel
theorem dX4_widen_156 : decode cX4_widen 156 = .ok (.aload_n 0, 1) := by decide +kernel
theorem dX4_widen_157 : decode cX4_widen 157 = .ok (.getfield 46, 3) := by decide +kernel
theorem dX4_widen_160 : decode cX4_widen 160 = .ok (.iload 5, 2) := by decide +kernel
theorem dX4_widen_162 : decode cX4_widen 162 = .ok (.aload_n 0, 1) := by decide +kernel
theorem dX4_widen_163 : decode cX4_widen 163 = .ok (.getfield 46, 3) := by decide +kernel
theorem dX4_widen_166 : decode cX4_widen 166 = .ok (.iload 5, 2) := by decide +kernel
theorem dX4_widen_168 : decode cX4_widen 168 = .ok (.iaload, 1) := by decide +kernel
theorem dX4_widen_169 : decode cX4_widen 169 = .ok (.bipush (-9), 2) := by decide +kernel
theorem dX4_widen_171 : decode cX4_widen 171 = .ok (.if_icmp .eq 15, 3) := by decide +kernel
theorem dX4_widen_174 : decode cX4_widen 174 = .ok (.iload 6, 2) := by decide +kernel
theorem dX4_widen_176 : decode cX4_widen 176 = .ok (.aload_n 0, 1) := by decide +kernel
theorem dX4_widen_177 : decode cX4_widen 177 = .ok (.getfield 46, 3) := by decide +kernel
theorem dX4_widen_180 : decode cX4_widen 180 = .ok (.iload 5, 2) := by decide +kernel
theorem dX4_widen_182 : decode cX4_widen 182 = .ok (.iaload, 1) := by decide +kernel
theorem dX4_widen_183 : decode cX4_widen 183 = .ok (.if_icmp .ge 8, 3) := by decide +kernel
theorem dX4_widen_186 : decode cX4_widen 186 = .ok (.iload 6, 2) := by decide +kernel
theorem dX4_widen_188 : decode cX4_widen 188 = .ok (.goto 10, 3) := by decide +kernel
theorem dX4_widen_191 : decode cX4_widen 191 = .ok (.aload_n 0, 1) := by decide +kernel
theorem dX4_widen_192 : decode cX4_widen 192 = .ok (.getfield 46, 3) := by decide +kernel
theorem dX4_widen_195 : decode cX4_widen 195 = .ok (.iload 5, 2) := by decide +kernel
theorem dX4_widen_197 : decode cX4_widen 197 = .ok (.iaload, 1) := by decide +kernel
theorem dX4_widen_198 : decode cX4_widen 198 = .ok (.iastore, 1) := by decide +kernel
theorem dX4_widen_199 : decode cX4_widen 199 = .ok (.iinc 5 1, 3) := by decide +kernel
theorem dX4_widen_202 : decode cX4_widen 202 = .ok (.goto (-121), 3) := by decide +kernel
theorem dX4_widen_205 : decode cX4_widen 205 = .ok (.iinc 4 1, 3) := by decide +kernel
theorem dX4_widen_208 : decode cX4_widen 208 = .ok (.goto (-139), 3) := by decide +kernel
theorem dX4_widen_211 : decode cX4_widen 211 = .ok (.iinc 3 1, 3) := by decide +kernel
theorem dX4_widen_214 : decode cX4_widen 214 = .ok (.goto (-156), 3) := by decide +kernel
theorem dX4_widen_217 : decode cX4_widen 217 = .ok (.aload_n 0, 1) := by decide +kernel
theorem dX4_widen_218 : decode cX4_widen 218 = .ok (.getfield 46, 3) := by decide +kernel
theorem dX4_widen_221 : decode cX4_widen 221 = .ok (.iload_n 2, 1) := by decide +kernel
theorem dX4_widen_222 : decode cX4_widen 222 = .ok (.iaload, 1) := by decide +kernel
theorem dX4_widen_223 : decode cX4_widen 223 = .ok (.ireturn, 1) := by decide +kernel
theorem dX4_keep_0 : decode cX4_keep 0 = .ok (.aload_n 0, 1) := by decide +kernel
theorem dX4_keep_1 : decode cX4_keep 1 = .ok (.iload_n 1, 1) := by decide +kernel
theorem dX4_keep_2 : decode cX4_keep 2 = .ok (.invokevirtual 140, 3) := by decide +kernel
theorem dX4_keep_5 : decode cX4_keep 5 = .ok (.ifCond .eq 11, 3) := by decide +kernel
theorem dX4_keep_8 : decode cX4_keep 8 = .ok (.aload_n 0, 1) := by decide +kernel
theorem dX4_keep_9 : decode cX4_keep 9 = .ok (.iload_n 2, 1) := by decide +kernel
theorem dX4_keep_10 : decode cX4_keep 10 = .ok (.invokevirtual 71, 3) := by decide +kernel
theorem dX4_keep_13 : decode cX4_keep 13 = .ok (.ifCond .ne 5, 3) := by decide +kernel
theorem dX4_keep_16 : decode cX4_keep 16 = .ok (.iconst (-1), 1) := by decide +kernel
theorem dX4_keep_17 : decode cX4_keep 17 = .ok (.ireturn, 1) := by decide +kernel
theorem dX4_keep_18 : decode cX4_keep 18 = .ok (.aload_n 0, 1) := by decide +kernel
theorem dX4_keep_19 : decode cX4_keep 19 = .ok (.getfield 28, 3) := by decide +kernel
theorem dX4_keep_22 : decode cX4_keep 22 = .ok (.iload_n 1, 1) := by decide +kernel
theorem dX4_keep_23 : decode cX4_keep 23 = .ok (.iaload, 1) := by decide +kernel
theorem dX4_keep_24 : decode cX4_keep 24 = .ok (.iload_n 2, 1) := by decide +kernel
theorem dX4_keep_25 : decode cX4_keep 25 = .ok (.if_icmp .ne 6, 3) := by decide +kernel
theorem dX4_keep_28 : decode cX4_keep 28 = .ok (.bipush (-9), 2) := by decide +kernel
theorem dX4_keep_30 : decode cX4_keep 30 = .ok (.ireturn, 1) := by decide +kernel
theorem dX4_keep_31 : decode cX4_keep 31 = .ok (.bipush (-9), 2) := by decide +kernel
theorem dX4_keep_33 : decode cX4_keep 33 = .ok (.istore_n 3, 1) := by decide +kernel
theorem dX4_keep_34 : decode cX4_keep 34 = .ok (.iconst 0, 1) := by decide +kernel
theorem dX4_keep_35 : decode cX4_keep 35 = .ok (.istore 4, 2) := by decide +kernel
theorem dX4_keep_37 : decode cX4_keep 37 = .ok (.iload 4, 2) := by decide +kernel
theorem dX4_keep_39 : decode cX4_keep 39 = .ok (.iconst 1, 1) := by decide +kernel
theorem dX4_keep_40 : decode cX4_keep 40 = .ok (.aload_n 0, 1) := by decide +kernel
theorem dX4_keep_41 : decode cX4_keep 41 = .ok (.invokevirtual 107, 3) := by decide +kernel
theorem dX4_keep_44 : decode cX4_keep 44 = .ok (.ishl, 1) := by decide +kernel
theorem dX4_keep_45 : decode cX4_keep 45 = .ok (.if_icmp .ge 66, 3) := by decide +kernel
theorem dX4_keep_48 : decode cX4_keep 48 = .ok (.iload_n 3, 1) := by decide +kernel
theorem dX4_keep_49 : decode cX4_keep 49 = .ok (.bipush (-9), 2) := by decide +kernel
theorem dX4_keep_51 : decode cX4_keep 51 = .ok (.if_icmp .eq 15, 3) := by decide +kernel
theorem dX4_keep_54 : decode cX4_keep 54 = .ok (.iload 4, 2) := by decide +kernel
theorem dX4_keep_56 : decode cX4_keep 56 = .ok (.invokestatic 202, 3) := by decide +kernel
theorem dX4_keep_59 : decode cX4_keep 59 = .ok (.iload_n 3, 1) := by decide +kernel
theorem dX4_keep_60 : decode cX4_keep 60 = .ok (.invokestatic 202, 3) := by decide +kernel
theorem dX4_keep_63 : decode cX4_keep 63 = .ok (.if_icmp .ge 7, 3) := by decide +kernel
theorem dX4_keep_66 : decode cX4_keep 66 = .ok (.iconst 1, 1) := by decide +kernel
theorem dX4_keep_67 : decode cX4_keep 67 = .ok (.goto 4, 3) := by decide +kernel
theorem dX4_keep_70 : decode cX4_keep 70 = .ok (.iconst 0, 1) := by decide +kernel
theorem dX4_keep_71 : decode cX4_keep 71 = .ok (.istore 5, 2) := by decide +kernel
theorem dX4_keep_73 : decode cX4_keep 73 = .ok (.iload 5, 2) := by decide +kernel
theorem dX4_keep_75 : decode cX4_keep 75 = .ok (.ifCond .eq 30, 3) := by decide +kernel
theorem dX4_keep_78 : decode cX4_keep 78 = .ok (.aload_n 0, 1) := by decide +kernel
theorem dX4_keep_79 : decode cX4_keep 79 = .ok (.aload_n 0, 1) := by decide +kernel
theorem dX4_keep_80 : decode cX4_keep 80 = .ok (.getfield 28, 3) := by decide +kernel
theorem dX4_keep_83 : decode cX4_keep 83 = .ok (.iload_n 1, 1) := by decide +kernel
theorem dX4_keep_84 : decode cX4_keep 84 = .ok (.iaload, 1) := by decide +kernel
theorem dX4_keep_85 : decode cX4_keep 85 = .ok (.aload_n 0, 1) := by decide +kernel
theorem dX4_keep_86 : decode cX4_keep 86 = .ok (.iload_n 1, 1) := by decide +kernel
theorem dX4_keep_87 : decode cX4_keep 87 = .ok (.invokevirtual 189, 3) := by decide +kernel
theorem dX4_keep_90 : decode cX4_keep 90 = .ok (.iload 4, 2) := by decide +kernel
theorem dX4_keep_92 : decode cX4_keep 92 = .ok (.invokevirtual 192, 3) := by decide +kernel
theorem dX4_keep_95 : decode cX4_keep 95 = .ok (.iload_n 2, 1) := by decide +kernel
theorem dX4_keep_96 : decode cX4_keep 96 = .ok (.invokestatic 156, 3) := by decide +kernel
theorem dX4_keep_99 : decode cX4_keep 99 = .ok (.ifCond .ne 6, 3) := by decide +kernel
theorem dX4_keep_102 : decode cX4_keep 102 = .ok (.iload 4, 2) := by decide +kernel
theorem dX4_keep_104 : decode cX4_keep 104 = .ok (.istore_n 3, 1) := by decide +kernel
theorem dX4_keep_105 : decode cX4_keep 105 = .ok (.iinc 4 1, 3) := by decide +kernel
theorem dX4_keep_108 : decode cX4_keep 108 = .ok (.goto (-71), 3) := by decide +kernel
theorem dX4_keep_111 : decode cX4_keep 111 = .ok (.iload_n 3, 1) := by decide +kernel
theorem dX4_keep_112 : decode cX4_keep 112 = .ok (.ireturn, 1) := by decide +kernel
theorem dX4_reading_0 : decode cX4_reading 0 = .ok (.aload_n 0, 1) := by decide +kernel
theorem dX4_reading_1 : decode cX4_reading 1 = .ok (.iload_n 1, 1) := by decide +kernel
theorem dX4_reading_2 : decode cX4_reading 2 = .ok (.invokevirtual 140, 3) := by decide +kernel
theorem dX4_reading_5 : decode cX4_reading 5 = .ok (.ifCond .eq 12, 3) := by decide +kernel
theorem dX4_reading_8 : decode cX4_reading 8 = .ok (.aload_n 0, 1) := by decide +kernel
theorem dX4_reading_9 : decode cX4_reading 9 = .ok (.iload_n 2, 1) := by decide +kernel
theorem dX4_reading_10 : decode cX4_reading 10 = .ok (.iload_n 3, 1) := by decide +kernel
theorem dX4_reading_11 : decode cX4_reading 11 = .ok (.invokevirtual 143, 3) := by decide +kernel
theorem dX4_reading_14 : decode cX4_reading 14 = .ok (.ifCond .ne 5, 3) := by decide +kernel
theorem dX4_reading_17 : decode cX4_reading 17 = .ok (.iconst (-1), 1) := by decide +kernel
theorem dX4_reading_18 : decode cX4_reading 18 = .ok (.ireturn, 1) := by decide +kernel
theorem dX4_reading_19 : decode cX4_reading 19 = .ok (.iload 4, 2) := by decide +kernel
theorem dX4_reading_21 : decode cX4_reading 21 = .ok (.iconst 0, 1) := by decide +kernel
theorem dX4_reading_22 : decode cX4_reading 22 = .ok (.iconst 1, 1) := by decide +kernel
theorem dX4_reading_23 : decode cX4_reading 23 = .ok (.invokestatic 64, 3) := by decide +kernel
theorem dX4_reading_26 : decode cX4_reading 26 = .ok (.ifCond .ne 6, 3) := by decide +kernel
theorem dX4_reading_29 : decode cX4_reading 29 = .ok (.bipush (-2), 2) := by decide +kernel
theorem dX4_reading_31 : decode cX4_reading 31 = .ok (.ireturn, 1) := by decide +kernel
theorem dX4_reading_32 : decode cX4_reading 32 = .ok (.aload_n 0, 1) := by decide +kernel
theorem dX4_reading_33 : decode cX4_reading 33 = .ok (.getfield 123, 3) := by decide +kernel
theorem dX4_reading_36 : decode cX4_reading 36 = .ok (.bipush 8, 2) := by decide +kernel
theorem dX4_reading_38 : decode cX4_reading 38 = .ok (.if_icmp .ne 6, 3) := by decide +kernel
theorem dX4_reading_41 : decode cX4_reading 41 = .ok (.bipush (-4), 2) := by decide +kernel
theorem dX4_reading_43 : decode cX4_reading 43 = .ok (.ireturn, 1) := by decide +kernel
theorem dX4_reading_44 : decode cX4_reading 44 = .ok (.aload_n 0, 1) := by decide +kernel
theorem dX4_reading_45 : decode cX4_reading 45 = .ok (.getfield 49, 3) := by decide +kernel
theorem dX4_reading_48 : decode cX4_reading 48 = .ok (.aload_n 0, 1) := by decide +kernel
theorem dX4_reading_49 : decode cX4_reading 49 = .ok (.getfield 123, 3) := by decide +kernel
theorem dX4_reading_52 : decode cX4_reading 52 = .ok (.iload_n 1, 1) := by decide +kernel
theorem dX4_reading_53 : decode cX4_reading 53 = .ok (.iastore, 1) := by decide +kernel
theorem dX4_reading_54 : decode cX4_reading 54 = .ok (.aload_n 0, 1) := by decide +kernel
theorem dX4_reading_55 : decode cX4_reading 55 = .ok (.getfield 52, 3) := by decide +kernel
theorem dX4_reading_58 : decode cX4_reading 58 = .ok (.aload_n 0, 1) := by decide +kernel
theorem dX4_reading_59 : decode cX4_reading 59 = .ok (.getfield 123, 3) := by decide +kernel
theorem dX4_reading_62 : decode cX4_reading 62 = .ok (.aload_n 0, 1) := by decide +kernel
theorem dX4_reading_63 : decode cX4_reading 63 = .ok (.iload_n 2, 1) := by decide +kernel
theorem dX4_reading_64 : decode cX4_reading 64 = .ok (.iload_n 3, 1) := by decide +kernel
theorem dX4_reading_65 : decode cX4_reading 65 = .ok (.invokevirtual 146, 3) := by decide +kernel
theorem dX4_reading_68 : decode cX4_reading 68 = .ok (.iastore, 1) := by decide +kernel
theorem dX4_reading_69 : decode cX4_reading 69 = .ok (.aload_n 0, 1) := by decide +kernel
theorem dX4_reading_70 : decode cX4_reading 70 = .ok (.getfield 55, 3) := by decide +kernel
theorem dX4_reading_73 : decode cX4_reading 73 = .ok (.aload_n 0, 1) := by decide +kernel
theorem dX4_reading_74 : decode cX4_reading 74 = .ok (.getfield 123, 3) := by decide +kernel
theorem dX4_reading_77 : decode cX4_reading 77 = .ok (.iload 4, 2) := by decide +kernel
theorem dX4_reading_79 : decode cX4_reading 79 = .ok (.iastore, 1) := by decide +kernel
theorem dX4_reading_80 : decode cX4_reading 80 = .ok (.aload_n 0, 1) := by decide +kernel
theorem dX4_reading_81 : decode cX4_reading 81 = .ok (.dup, 1) := by decide +kernel
theorem dX4_reading_82 : decode cX4_reading 82 = .ok (.getfield 123, 3) := by decide +kernel
theorem dX4_reading_85 : decode cX4_reading 85 = .ok (.iconst 1, 1) := by decide +kernel
theorem dX4_reading_86 : decode cX4_reading 86 = .ok (.iadd, 1) := by decide +kernel
theorem dX4_reading_87 : decode cX4_reading 87 = .ok (.putfield 123, 3) := by decide +kernel
theorem dX4_reading_90 : decode cX4_reading 90 = .ok (.aload_n 0, 1) := by decide +kernel
theorem dX4_reading_91 : decode cX4_reading 91 = .ok (.getfield 123, 3) := by decide +kernel
theorem dX4_reading_94 : decode cX4_reading 94 = .ok (.iconst 1, 1) := by decide +kernel
theorem dX4_reading_95 : decode cX4_reading 95 = .ok (.isub, 1) := by decide +kernel
theorem dX4_reading_96 : decode cX4_reading 96 = .ok (.ireturn, 1) := by decide +kernel
theorem dX4_back_0 : decode cX4_back 0 = .ok (.iload_n 1, 1) := by decide +kernel
theorem dX4_back_1 : decode cX4_back 1 = .ok (.iconst 0, 1) := by decide +kernel
theorem dX4_back_2 : decode cX4_back 2 = .ok (.aload_n 0, 1) := by decide +kernel
theorem dX4_back_3 : decode cX4_back 3 = .ok (.getfield 123, 3) := by decide +kernel
theorem dX4_back_6 : decode cX4_back 6 = .ok (.invokestatic 64, 3) := by decide +kernel
theorem dX4_back_9 : decode cX4_back 9 = .ok (.ifCond .ne 6, 3) := by decide +kernel
theorem dX4_back_12 : decode cX4_back 12 = .ok (.bipush (-2), 2) := by decide +kernel
theorem dX4_back_14 : decode cX4_back 14 = .ok (.ireturn, 1) := by decide +kernel
theorem dX4_back_15 : decode cX4_back 15 = .ok (.aload_n 0, 1) := by decide +kernel
theorem dX4_back_16 : decode cX4_back 16 = .ok (.dup, 1) := by decide +kernel
theorem dX4_back_17 : decode cX4_back 17 = .ok (.getfield 123, 3) := by decide +kernel
theorem dX4_back_20 : decode cX4_back 20 = .ok (.iload_n 1, 1) := by decide +kernel
theorem dX4_back_21 : decode cX4_back 21 = .ok (.isub, 1) := by decide +kernel
theorem dX4_back_22 : decode cX4_back 22 = .ok (.putfield 123, 3) := by decide +kernel
theorem dX4_back_25 : decode cX4_back 25 = .ok (.aload_n 0, 1) := by decide +kernel
theorem dX4_back_26 : decode cX4_back 26 = .ok (.getfield 123, 3) := by decide +kernel
theorem dX4_back_29 : decode cX4_back 29 = .ok (.ireturn, 1) := by decide +kernel
theorem dX4_areSo_0 : decode cX4_areSo 0 = .ok (.iconst 0, 1) := by decide +kernel
theorem dX4_areSo_1 : decode cX4_areSo 1 = .ok (.istore_n 1, 1) := by decide +kernel
theorem dX4_areSo_2 : decode cX4_areSo 2 = .ok (.iload_n 1, 1) := by decide +kernel
theorem dX4_areSo_3 : decode cX4_areSo 3 = .ok (.aload_n 0, 1) := by decide +kernel
theorem dX4_areSo_4 : decode cX4_areSo 4 = .ok (.getfield 123, 3) := by decide +kernel
theorem dX4_areSo_7 : decode cX4_areSo 7 = .ok (.if_icmp .ge 46, 3) := by decide +kernel
theorem dX4_areSo_10 : decode cX4_areSo 10 = .ok (.aload_n 0, 1) := by decide +kernel
theorem dX4_areSo_11 : decode cX4_areSo 11 = .ok (.aload_n 0, 1) := by decide +kernel
theorem dX4_areSo_12 : decode cX4_areSo 12 = .ok (.getfield 49, 3) := by decide +kernel
theorem dX4_areSo_15 : decode cX4_areSo 15 = .ok (.iload_n 1, 1) := by decide +kernel
theorem dX4_areSo_16 : decode cX4_areSo 16 = .ok (.iaload, 1) := by decide +kernel
theorem dX4_areSo_17 : decode cX4_areSo 17 = .ok (.aload_n 0, 1) := by decide +kernel
theorem dX4_areSo_18 : decode cX4_areSo 18 = .ok (.getfield 52, 3) := by decide +kernel
theorem dX4_areSo_21 : decode cX4_areSo 21 = .ok (.iload_n 1, 1) := by decide +kernel
theorem dX4_areSo_22 : decode cX4_areSo 22 = .ok (.iaload, 1) := by decide +kernel
theorem dX4_areSo_23 : decode cX4_areSo 23 = .ok (.invokevirtual 150, 3) := by decide +kernel
theorem dX4_areSo_26 : decode cX4_areSo 26 = .ok (.ifCond .eq 7, 3) := by decide +kernel
theorem dX4_areSo_29 : decode cX4_areSo 29 = .ok (.iconst 1, 1) := by decide +kernel
theorem dX4_areSo_30 : decode cX4_areSo 30 = .ok (.goto 4, 3) := by decide +kernel
theorem dX4_areSo_33 : decode cX4_areSo 33 = .ok (.iconst 0, 1) := by decide +kernel
theorem dX4_areSo_34 : decode cX4_areSo 34 = .ok (.istore_n 2, 1) := by decide +kernel
theorem dX4_areSo_35 : decode cX4_areSo 35 = .ok (.iload_n 2, 1) := by decide +kernel
theorem dX4_areSo_36 : decode cX4_areSo 36 = .ok (.aload_n 0, 1) := by decide +kernel
theorem dX4_areSo_37 : decode cX4_areSo 37 = .ok (.getfield 55, 3) := by decide +kernel
theorem dX4_areSo_40 : decode cX4_areSo 40 = .ok (.iload_n 1, 1) := by decide +kernel
theorem dX4_areSo_41 : decode cX4_areSo 41 = .ok (.iaload, 1) := by decide +kernel
theorem dX4_areSo_42 : decode cX4_areSo 42 = .ok (.if_icmp .eq 5, 3) := by decide +kernel
theorem dX4_areSo_45 : decode cX4_areSo 45 = .ok (.iconst 0, 1) := by decide +kernel
theorem dX4_areSo_46 : decode cX4_areSo 46 = .ok (.ireturn, 1) := by decide +kernel
theorem dX4_areSo_47 : decode cX4_areSo 47 = .ok (.iinc 1 1, 3) := by decide +kernel
theorem dX4_areSo_50 : decode cX4_areSo 50 = .ok (.goto (-48), 3) := by decide +kernel
theorem dX4_areSo_53 : decode cX4_areSo 53 = .ok (.iconst 1, 1) := by decide +kernel
theorem dX4_areSo_54 : decode cX4_areSo 54 = .ok (.ireturn, 1) := by decide +kernel
theorem dX4_girths_0 : decode cX4_girths 0 = .ok (.aload_n 0, 1) := by decide +kernel
theorem dX4_girths_1 : decode cX4_girths 1 = .ok (.iload_n 1, 1) := by decide +kernel
theorem dX4_girths_2 : decode cX4_girths 2 = .ok (.invokevirtual 140, 3) := by decide +kernel
theorem dX4_girths_5 : decode cX4_girths 5 = .ok (.ifCond .ne 5, 3) := by decide +kernel
theorem dX4_girths_8 : decode cX4_girths 8 = .ok (.iconst (-1), 1) := by decide +kernel
theorem dX4_girths_9 : decode cX4_girths 9 = .ok (.ireturn, 1) := by decide +kernel
theorem dX4_girths_10 : decode cX4_girths 10 = .ok (.aload_n 0, 1) := by decide +kernel
theorem dX4_girths_11 : decode cX4_girths 11 = .ok (.getfield 25, 3) := by decide +kernel
theorem dX4_girths_14 : decode cX4_girths 14 = .ok (.iload_n 1, 1) := by decide +kernel
theorem dX4_girths_15 : decode cX4_girths 15 = .ok (.iaload, 1) := by decide +kernel
theorem dX4_girths_16 : decode cX4_girths 16 = .ok (.istore_n 2, 1) := by decide +kernel
theorem dX4_girths_17 : decode cX4_girths 17 = .ok (.iconst 0, 1) := by decide +kernel
theorem dX4_girths_18 : decode cX4_girths 18 = .ok (.istore_n 3, 1) := by decide +kernel
theorem dX4_girths_19 : decode cX4_girths 19 = .ok (.iconst 1, 1) := by decide +kernel
theorem dX4_girths_20 : decode cX4_girths 20 = .ok (.istore 4, 2) := by decide +kernel
theorem dX4_girths_22 : decode cX4_girths 22 = .ok (.iload 4, 2) := by decide +kernel
theorem dX4_girths_24 : decode cX4_girths 24 = .ok (.bipush 9, 2) := by decide +kernel
theorem dX4_girths_26 : decode cX4_girths 26 = .ok (.if_icmp .gt 35, 3) := by decide +kernel
theorem dX4_girths_29 : decode cX4_girths 29 = .ok (.aload_n 0, 1) := by decide +kernel
theorem dX4_girths_30 : decode cX4_girths 30 = .ok (.getfield 25, 3) := by decide +kernel
theorem dX4_girths_33 : decode cX4_girths 33 = .ok (.iload_n 1, 1) := by decide +kernel
theorem dX4_girths_34 : decode cX4_girths 34 = .ok (.iload 4, 2) := by decide +kernel
theorem dX4_girths_36 : decode cX4_girths 36 = .ok (.iastore, 1) := by decide +kernel
theorem dX4_girths_37 : decode cX4_girths 37 = .ok (.iload_n 3, 1) := by decide +kernel
theorem dX4_girths_38 : decode cX4_girths 38 = .ok (.aload_n 0, 1) := by decide +kernel
theorem dX4_girths_39 : decode cX4_girths 39 = .ok (.invokevirtual 205, 3) := by decide +kernel
theorem dX4_girths_42 : decode cX4_girths 42 = .ok (.ifCond .eq 10, 3) := by decide +kernel
theorem dX4_girths_45 : decode cX4_girths 45 = .ok (.iconst 1, 1) := by decide +kernel
theorem dX4_girths_46 : decode cX4_girths 46 = .ok (.iload 4, 2) := by decide +kernel
theorem dX4_girths_48 : decode cX4_girths 48 = .ok (.ishl, 1) := by decide +kernel
theorem dX4_girths_49 : decode cX4_girths 49 = .ok (.goto 4, 3) := by decide +kernel
theorem dX4_girths_52 : decode cX4_girths 52 = .ok (.iconst 0, 1) := by decide +kernel
theorem dX4_girths_53 : decode cX4_girths 53 = .ok (.ior, 1) := by decide +kernel
theorem dX4_girths_54 : decode cX4_girths 54 = .ok (.istore_n 3, 1) := by decide +kernel
theorem dX4_girths_55 : decode cX4_girths 55 = .ok (.iinc 4 1, 3) := by decide +kernel
theorem dX4_girths_58 : decode cX4_girths 58 = .ok (.goto (-36), 3) := by decide +kernel
theorem dX4_girths_61 : decode cX4_girths 61 = .ok (.aload_n 0, 1) := by decide +kernel
theorem dX4_girths_62 : decode cX4_girths 62 = .ok (.getfield 25, 3) := by decide +kernel
theorem dX4_girths_65 : decode cX4_girths 65 = .ok (.iload_n 1, 1) := by decide +kernel
theorem dX4_girths_66 : decode cX4_girths 66 = .ok (.iload_n 2, 1) := by decide +kernel
theorem dX4_girths_67 : decode cX4_girths 67 = .ok (.iastore, 1) := by decide +kernel
theorem dX4_girths_68 : decode cX4_girths 68 = .ok (.iload_n 3, 1) := by decide +kernel
theorem dX4_girths_69 : decode cX4_girths 69 = .ok (.ireturn, 1) := by decide +kernel
theorem dX4_kinds_0 : decode cX4_kinds 0 = .ok (.aload_n 0, 1) := by decide +kernel
theorem dX4_kinds_1 : decode cX4_kinds 1 = .ok (.iload_n 1, 1) := by decide +kernel
theorem dX4_kinds_2 : decode cX4_kinds 2 = .ok (.invokevirtual 140, 3) := by decide +kernel
theorem dX4_kinds_5 : decode cX4_kinds 5 = .ok (.ifCond .ne 5, 3) := by decide +kernel
theorem dX4_kinds_8 : decode cX4_kinds 8 = .ok (.iconst (-1), 1) := by decide +kernel
theorem dX4_kinds_9 : decode cX4_kinds 9 = .ok (.ireturn, 1) := by decide +kernel
theorem dX4_kinds_10 : decode cX4_kinds 10 = .ok (.aload_n 0, 1) := by decide +kernel
theorem dX4_kinds_11 : decode cX4_kinds 11 = .ok (.getfield 22, 3) := by decide +kernel
theorem dX4_kinds_14 : decode cX4_kinds 14 = .ok (.iload_n 1, 1) := by decide +kernel
theorem dX4_kinds_15 : decode cX4_kinds 15 = .ok (.iaload, 1) := by decide +kernel
theorem dX4_kinds_16 : decode cX4_kinds 16 = .ok (.istore_n 2, 1) := by decide +kernel
theorem dX4_kinds_17 : decode cX4_kinds 17 = .ok (.iconst 0, 1) := by decide +kernel
theorem dX4_kinds_18 : decode cX4_kinds 18 = .ok (.istore_n 3, 1) := by decide +kernel
theorem dX4_kinds_19 : decode cX4_kinds 19 = .ok (.iconst 0, 1) := by decide +kernel
theorem dX4_kinds_20 : decode cX4_kinds 20 = .ok (.istore 4, 2) := by decide +kernel
theorem dX4_kinds_22 : decode cX4_kinds 22 = .ok (.iload 4, 2) := by decide +kernel
theorem dX4_kinds_24 : decode cX4_kinds 24 = .ok (.iconst 3, 1) := by decide +kernel
theorem dX4_kinds_25 : decode cX4_kinds 25 = .ok (.if_icmp .ge 35, 3) := by decide +kernel
theorem dX4_kinds_28 : decode cX4_kinds 28 = .ok (.aload_n 0, 1) := by decide +kernel
theorem dX4_kinds_29 : decode cX4_kinds 29 = .ok (.getfield 22, 3) := by decide +kernel
theorem dX4_kinds_32 : decode cX4_kinds 32 = .ok (.iload_n 1, 1) := by decide +kernel
theorem dX4_kinds_33 : decode cX4_kinds 33 = .ok (.iload 4, 2) := by decide +kernel
theorem dX4_kinds_35 : decode cX4_kinds 35 = .ok (.iastore, 1) := by decide +kernel
theorem dX4_kinds_36 : decode cX4_kinds 36 = .ok (.iload_n 3, 1) := by decide +kernel
theorem dX4_kinds_37 : decode cX4_kinds 37 = .ok (.aload_n 0, 1) := by decide +kernel
theorem dX4_kinds_38 : decode cX4_kinds 38 = .ok (.invokevirtual 205, 3) := by decide +kernel
theorem dX4_kinds_41 : decode cX4_kinds 41 = .ok (.ifCond .eq 10, 3) := by decide +kernel
theorem dX4_kinds_44 : decode cX4_kinds 44 = .ok (.iconst 1, 1) := by decide +kernel
theorem dX4_kinds_45 : decode cX4_kinds 45 = .ok (.iload 4, 2) := by decide +kernel
theorem dX4_kinds_47 : decode cX4_kinds 47 = .ok (.ishl, 1) := by decide +kernel
theorem dX4_kinds_48 : decode cX4_kinds 48 = .ok (.goto 4, 3) := by decide +kernel
theorem dX4_kinds_51 : decode cX4_kinds 51 = .ok (.iconst 0, 1) := by decide +kernel
theorem dX4_kinds_52 : decode cX4_kinds 52 = .ok (.ior, 1) := by decide +kernel
theorem dX4_kinds_53 : decode cX4_kinds 53 = .ok (.istore_n 3, 1) := by decide +kernel
theorem dX4_kinds_54 : decode cX4_kinds 54 = .ok (.iinc 4 1, 3) := by decide +kernel
theorem dX4_kinds_57 : decode cX4_kinds 57 = .ok (.goto (-35), 3) := by decide +kernel
theorem dX4_kinds_60 : decode cX4_kinds 60 = .ok (.aload_n 0, 1) := by decide +kernel
theorem dX4_kinds_61 : decode cX4_kinds 61 = .ok (.getfield 22, 3) := by decide +kernel
theorem dX4_kinds_64 : decode cX4_kinds 64 = .ok (.iload_n 1, 1) := by decide +kernel
theorem dX4_kinds_65 : decode cX4_kinds 65 = .ok (.iload_n 2, 1) := by decide +kernel
theorem dX4_kinds_66 : decode cX4_kinds 66 = .ok (.iastore, 1) := by decide +kernel
theorem dX4_kinds_67 : decode cX4_kinds 67 = .ok (.iload_n 3, 1) := by decide +kernel
theorem dX4_kinds_68 : decode cX4_kinds 68 = .ok (.ireturn, 1) := by decide +kernel
theorem dX4_holes_0 : decode cX4_holes 0 = .ok (.aload_n 0, 1) := by decide +kernel
theorem dX4_holes_1 : decode cX4_holes 1 = .ok (.iload_n 1, 1) := by decide +kernel
theorem dX4_holes_2 : decode cX4_holes 2 = .ok (.iload_n 2, 1) := by decide +kernel
theorem dX4_holes_3 : decode cX4_holes 3 = .ok (.invokevirtual 143, 3) := by decide +kernel
theorem dX4_holes_6 : decode cX4_holes 6 = .ok (.ifCond .ne 5, 3) := by decide +kernel
theorem dX4_holes_9 : decode cX4_holes 9 = .ok (.iconst (-1), 1) := by decide +kernel
theorem dX4_holes_10 : decode cX4_holes 10 = .ok (.ireturn, 1) := by decide +kernel
theorem dX4_holes_11 : decode cX4_holes 11 = .ok (.aload_n 0, 1) := by decide +kernel
theorem dX4_holes_12 : decode cX4_holes 12 = .ok (.iload_n 1, 1) := by decide +kernel
theorem dX4_holes_13 : decode cX4_holes 13 = .ok (.iload_n 2, 1) := by decide +kernel
theorem dX4_holes_14 : decode cX4_holes 14 = .ok (.invokevirtual 146, 3) := by decide +kernel
theorem dX4_holes_17 : decode cX4_holes 17 = .ok (.istore_n 3, 1) := by decide +kernel
theorem dX4_holes_18 : decode cX4_holes 18 = .ok (.aload_n 0, 1) := by decide +kernel
theorem dX4_holes_19 : decode cX4_holes 19 = .ok (.getfield 19, 3) := by decide +kernel
theorem dX4_holes_22 : decode cX4_holes 22 = .ok (.iload_n 3, 1) := by decide +kernel
theorem dX4_holes_23 : decode cX4_holes 23 = .ok (.iaload, 1) := by decide +kernel
theorem dX4_holes_24 : decode cX4_holes 24 = .ok (.istore 4, 2) := by decide +kernel
theorem dX4_holes_26 : decode cX4_holes 26 = .ok (.iconst 0, 1) := by decide +kernel
theorem dX4_holes_27 : decode cX4_holes 27 = .ok (.istore 5, 2) := by decide +kernel
theorem dX4_holes_29 : decode cX4_holes 29 = .ok (.iconst 0, 1) := by decide +kernel
theorem dX4_holes_30 : decode cX4_holes 30 = .ok (.istore 6, 2) := by decide +kernel
theorem dX4_holes_32 : decode cX4_holes 32 = .ok (.iload 6, 2) := by decide +kernel
theorem dX4_holes_34 : decode cX4_holes 34 = .ok (.bipush 9, 2) := by decide +kernel
theorem dX4_holes_36 : decode cX4_holes 36 = .ok (.if_icmp .gt 37, 3) := by decide +kernel
theorem dX4_holes_39 : decode cX4_holes 39 = .ok (.aload_n 0, 1) := by decide +kernel
theorem dX4_holes_40 : decode cX4_holes 40 = .ok (.getfield 19, 3) := by decide +kernel
theorem dX4_holes_43 : decode cX4_holes 43 = .ok (.iload_n 3, 1) := by decide +kernel
theorem dX4_holes_44 : decode cX4_holes 44 = .ok (.iload 6, 2) := by decide +kernel
theorem dX4_holes_46 : decode cX4_holes 46 = .ok (.iastore, 1) := by decide +kernel
theorem dX4_holes_47 : decode cX4_holes 47 = .ok (.iload 5, 2) := by decide +kernel
theorem dX4_holes_49 : decode cX4_holes 49 = .ok (.aload_n 0, 1) := by decide +kernel
theorem dX4_holes_50 : decode cX4_holes 50 = .ok (.invokevirtual 205, 3) := by decide +kernel
theorem dX4_holes_53 : decode cX4_holes 53 = .ok (.ifCond .eq 10, 3) := by decide +kernel
theorem dX4_holes_56 : decode cX4_holes 56 = .ok (.iconst 1, 1) := by decide +kernel
theorem dX4_holes_57 : decode cX4_holes 57 = .ok (.iload 6, 2) := by decide +kernel
theorem dX4_holes_59 : decode cX4_holes 59 = .ok (.ishl, 1) := by decide +kernel
theorem dX4_holes_60 : decode cX4_holes 60 = .ok (.goto 4, 3) := by decide +kernel
theorem dX4_holes_63 : decode cX4_holes 63 = .ok (.iconst 0, 1) := by decide +kernel
theorem dX4_holes_64 : decode cX4_holes 64 = .ok (.ior, 1) := by decide +kernel
theorem dX4_holes_65 : decode cX4_holes 65 = .ok (.istore 5, 2) := by decide +kernel
theorem dX4_holes_67 : decode cX4_holes 67 = .ok (.iinc 6 1, 3) := by decide +kernel
theorem dX4_holes_70 : decode cX4_holes 70 = .ok (.goto (-38), 3) := by decide +kernel
theorem dX4_holes_73 : decode cX4_holes 73 = .ok (.aload_n 0, 1) := by decide +kernel
theorem dX4_holes_74 : decode cX4_holes 74 = .ok (.getfield 19, 3) := by decide +kernel
theorem dX4_holes_77 : decode cX4_holes 77 = .ok (.iload_n 3, 1) := by decide +kernel
theorem dX4_holes_78 : decode cX4_holes 78 = .ok (.iload 4, 2) := by decide +kernel
theorem dX4_holes_80 : decode cX4_holes 80 = .ok (.iastore, 1) := by decide +kernel
theorem dX4_holes_81 : decode cX4_holes 81 = .ok (.iload 5, 2) := by decide +kernel
theorem dX4_holes_83 : decode cX4_holes 83 = .ok (.ireturn, 1) := by decide +kernel
theorem dX4_inLeastTerms_0 : decode cX4_inLeastTerms 0 = .ok (.lload_n 0, 1) := by decide +kernel
theorem dX4_inLeastTerms_1 : decode cX4_inLeastTerms 1 = .ok (.lstore 5, 2) := by decide +kernel
theorem dX4_inLeastTerms_3 : decode cX4_inLeastTerms 3 = .ok (.lload_n 2, 1) := by decide +kernel
theorem dX4_inLeastTerms_4 : decode cX4_inLeastTerms 4 = .ok (.lstore 7, 2) := by decide +kernel
theorem dX4_inLeastTerms_6 : decode cX4_inLeastTerms 6 = .ok (.lload 7, 2) := by decide +kernel
theorem dX4_inLeastTerms_8 : decode cX4_inLeastTerms 8 = .ok (.lconst 0, 1) := by decide +kernel
theorem dX4_inLeastTerms_9 : decode cX4_inLeastTerms 9 = .ok (.lcmp, 1) := by decide +kernel
theorem dX4_inLeastTerms_10 : decode cX4_inLeastTerms 10 = .ok (.ifCond .eq 21, 3) := by decide +kernel
theorem dX4_inLeastTerms_13 : decode cX4_inLeastTerms 13 = .ok (.lload 5, 2) := by decide +kernel
theorem dX4_inLeastTerms_15 : decode cX4_inLeastTerms 15 = .ok (.lload 7, 2) := by decide +kernel
theorem dX4_inLeastTerms_17 : decode cX4_inLeastTerms 17 = .ok (.lrem, 1) := by decide +kernel
theorem dX4_inLeastTerms_18 : decode cX4_inLeastTerms 18 = .ok (.lstore 9, 2) := by decide +kernel
theorem dX4_inLeastTerms_20 : decode cX4_inLeastTerms 20 = .ok (.lload 7, 2) := by decide +kernel
theorem dX4_inLeastTerms_22 : decode cX4_inLeastTerms 22 = .ok (.lstore 5, 2) := by decide +kernel
theorem dX4_inLeastTerms_24 : decode cX4_inLeastTerms 24 = .ok (.lload 9, 2) := by decide +kernel
theorem dX4_inLeastTerms_26 : decode cX4_inLeastTerms 26 = .ok (.lstore 7, 2) := by decide +kernel
theorem dX4_inLeastTerms_28 : decode cX4_inLeastTerms 28 = .ok (.goto (-22), 3) := by decide +kernel
theorem dX4_inLeastTerms_31 : decode cX4_inLeastTerms 31 = .ok (.iload 4, 2) := by decide +kernel
theorem dX4_inLeastTerms_33 : decode cX4_inLeastTerms 33 = .ok (.ifCond .ne 10, 3) := by decide +kernel
theorem dX4_inLeastTerms_36 : decode cX4_inLeastTerms 36 = .ok (.lload_n 0, 1) := by decide +kernel
theorem dX4_inLeastTerms_37 : decode cX4_inLeastTerms 37 = .ok (.lload 5, 2) := by decide +kernel
theorem dX4_inLeastTerms_39 : decode cX4_inLeastTerms 39 = .ok (.ldiv, 1) := by decide +kernel
theorem dX4_inLeastTerms_40 : decode cX4_inLeastTerms 40 = .ok (.goto 7, 3) := by decide +kernel
theorem dX4_inLeastTerms_43 : decode cX4_inLeastTerms 43 = .ok (.lload_n 2, 1) := by decide +kernel
theorem dX4_inLeastTerms_44 : decode cX4_inLeastTerms 44 = .ok (.lload 5, 2) := by decide +kernel
theorem dX4_inLeastTerms_46 : decode cX4_inLeastTerms 46 = .ok (.ldiv, 1) := by decide +kernel
theorem dX4_inLeastTerms_47 : decode cX4_inLeastTerms 47 = .ok (.lreturn, 1) := by decide +kernel
theorem dX4_odds_0 : decode cX4_odds 0 = .ok (.aload_n 0, 1) := by decide +kernel
theorem dX4_odds_1 : decode cX4_odds 1 = .ok (.iload_n 1, 1) := by decide +kernel
theorem dX4_odds_2 : decode cX4_odds 2 = .ok (.invokevirtual 140, 3) := by decide +kernel
theorem dX4_odds_5 : decode cX4_odds 5 = .ok (.ifCond .eq 20, 3) := by decide +kernel
theorem dX4_odds_8 : decode cX4_odds 8 = .ok (.aload_n 0, 1) := by decide +kernel
theorem dX4_odds_9 : decode cX4_odds 9 = .ok (.iload_n 2, 1) := by decide +kernel
theorem dX4_odds_10 : decode cX4_odds 10 = .ok (.invokevirtual 71, 3) := by decide +kernel
theorem dX4_odds_13 : decode cX4_odds 13 = .ok (.ifCond .eq 12, 3) := by decide +kernel
theorem dX4_odds_16 : decode cX4_odds 16 = .ok (.iload_n 3, 1) := by decide +kernel
theorem dX4_odds_17 : decode cX4_odds 17 = .ok (.iconst 0, 1) := by decide +kernel
theorem dX4_odds_18 : decode cX4_odds 18 = .ok (.iconst 1, 1) := by decide +kernel
theorem dX4_odds_19 : decode cX4_odds 19 = .ok (.invokestatic 64, 3) := by decide +kernel
theorem dX4_odds_22 : decode cX4_odds 22 = .ok (.ifCond .ne 7, 3) := by decide +kernel
theorem dX4_odds_25 : decode cX4_odds 25 = .ok (.ldc2_w 62, 3) := by decide +kernel
theorem dX4_odds_28 : decode cX4_odds 28 = .ok (.lreturn, 1) := by decide +kernel
theorem dX4_odds_29 : decode cX4_odds 29 = .ok (.aload_n 0, 1) := by decide +kernel
theorem dX4_odds_30 : decode cX4_odds 30 = .ok (.getfield 25, 3) := by decide +kernel
theorem dX4_odds_33 : decode cX4_odds 33 = .ok (.iload_n 1, 1) := by decide +kernel
theorem dX4_odds_34 : decode cX4_odds 34 = .ok (.iaload, 1) := by decide +kernel
theorem dX4_odds_35 : decode cX4_odds 35 = .ok (.istore 4, 2) := by decide +kernel
theorem dX4_odds_37 : decode cX4_odds 37 = .ok (.iconst 0, 1) := by decide +kernel
theorem dX4_odds_38 : decode cX4_odds 38 = .ok (.istore 5, 2) := by decide +kernel
theorem dX4_odds_40 : decode cX4_odds 40 = .ok (.iconst 1, 1) := by decide +kernel
theorem dX4_odds_41 : decode cX4_odds 41 = .ok (.istore 6, 2) := by decide +kernel
theorem dX4_odds_43 : decode cX4_odds 43 = .ok (.iload 6, 2) := by decide +kernel
theorem dX4_odds_45 : decode cX4_odds 45 = .ok (.bipush 9, 2) := by decide +kernel
theorem dX4_odds_47 : decode cX4_odds 47 = .ok (.if_icmp .gt 39, 3) := by decide +kernel
theorem dX4_odds_50 : decode cX4_odds 50 = .ok (.aload_n 0, 1) := by decide +kernel
theorem dX4_odds_51 : decode cX4_odds 51 = .ok (.getfield 25, 3) := by decide +kernel
theorem dX4_odds_54 : decode cX4_odds 54 = .ok (.iload_n 1, 1) := by decide +kernel
theorem dX4_odds_55 : decode cX4_odds 55 = .ok (.iload 6, 2) := by decide +kernel
theorem dX4_odds_57 : decode cX4_odds 57 = .ok (.iastore, 1) := by decide +kernel
theorem dX4_odds_58 : decode cX4_odds 58 = .ok (.iload 5, 2) := by decide +kernel
theorem dX4_odds_60 : decode cX4_odds 60 = .ok (.aload_n 0, 1) := by decide +kernel
theorem dX4_odds_61 : decode cX4_odds 61 = .ok (.iload_n 1, 1) := by decide +kernel
theorem dX4_odds_62 : decode cX4_odds 62 = .ok (.invokevirtual 199, 3) := by decide +kernel
theorem dX4_odds_65 : decode cX4_odds 65 = .ok (.iload_n 2, 1) := by decide +kernel
theorem dX4_odds_66 : decode cX4_odds 66 = .ok (.invokestatic 156, 3) := by decide +kernel
theorem dX4_odds_69 : decode cX4_odds 69 = .ok (.ifCond .eq 7, 3) := by decide +kernel
theorem dX4_odds_72 : decode cX4_odds 72 = .ok (.iconst 1, 1) := by decide +kernel
theorem dX4_odds_73 : decode cX4_odds 73 = .ok (.goto 4, 3) := by decide +kernel
theorem dX4_odds_76 : decode cX4_odds 76 = .ok (.iconst 0, 1) := by decide +kernel
theorem dX4_odds_77 : decode cX4_odds 77 = .ok (.iadd, 1) := by decide +kernel
theorem dX4_odds_78 : decode cX4_odds 78 = .ok (.istore 5, 2) := by decide +kernel
theorem dX4_odds_80 : decode cX4_odds 80 = .ok (.iinc 6 1, 3) := by decide +kernel
theorem dX4_odds_83 : decode cX4_odds 83 = .ok (.goto (-40), 3) := by decide +kernel
theorem dX4_odds_86 : decode cX4_odds 86 = .ok (.aload_n 0, 1) := by decide +kernel
theorem dX4_odds_87 : decode cX4_odds 87 = .ok (.getfield 25, 3) := by decide +kernel
theorem dX4_odds_90 : decode cX4_odds 90 = .ok (.iload_n 1, 1) := by decide +kernel
theorem dX4_odds_91 : decode cX4_odds 91 = .ok (.iload 4, 2) := by decide +kernel
theorem dX4_odds_93 : decode cX4_odds 93 = .ok (.iastore, 1) := by decide +kernel
theorem dX4_odds_94 : decode cX4_odds 94 = .ok (.iload 5, 2) := by decide +kernel
theorem dX4_odds_96 : decode cX4_odds 96 = .ok (.i2l, 1) := by decide +kernel
theorem dX4_odds_97 : decode cX4_odds 97 = .ok (.ldc2_w 209, 3) := by decide +kernel
theorem dX4_odds_100 : decode cX4_odds 100 = .ok (.iload_n 3, 1) := by decide +kernel
theorem dX4_odds_101 : decode cX4_odds 101 = .ok (.invokestatic 211, 3) := by decide +kernel
theorem dX4_odds_104 : decode cX4_odds 104 = .ok (.lreturn, 1) := by decide +kernel
theorem dX4_sheet_0 : decode cX4_sheet 0 = .ok (.aload_n 0, 1) := by decide +kernel
theorem dX4_sheet_1 : decode cX4_sheet 1 = .ok (.iconst 0, 1) := by decide +kernel
theorem dX4_sheet_2 : decode cX4_sheet 2 = .ok (.putfield 58, 3) := by decide +kernel
theorem dX4_sheet_5 : decode cX4_sheet 5 = .ok (.iload_n 1, 1) := by decide +kernel
theorem dX4_sheet_6 : decode cX4_sheet 6 = .ok (.invokestatic 85, 3) := by decide +kernel
theorem dX4_sheet_9 : decode cX4_sheet 9 = .ok (.ifCond .ne 5, 3) := by decide +kernel
theorem dX4_sheet_12 : decode cX4_sheet 12 = .ok (.iconst (-1), 1) := by decide +kernel
theorem dX4_sheet_13 : decode cX4_sheet 13 = .ok (.ireturn, 1) := by decide +kernel
theorem dX4_sheet_14 : decode cX4_sheet 14 = .ok (.iload_n 2, 1) := by decide +kernel
theorem dX4_sheet_15 : decode cX4_sheet 15 = .ok (.invokestatic 88, 3) := by decide +kernel
theorem dX4_sheet_18 : decode cX4_sheet 18 = .ok (.ifCond .eq 9, 3) := by decide +kernel
theorem dX4_sheet_21 : decode cX4_sheet 21 = .ok (.iload_n 3, 1) := by decide +kernel
theorem dX4_sheet_22 : decode cX4_sheet 22 = .ok (.bipush 60, 2) := by decide +kernel
theorem dX4_sheet_24 : decode cX4_sheet 24 = .ok (.if_icmp .le 6, 3) := by decide +kernel
theorem dX4_sheet_27 : decode cX4_sheet 27 = .ok (.bipush (-2), 2) := by decide +kernel
theorem dX4_sheet_29 : decode cX4_sheet 29 = .ok (.ireturn, 1) := by decide +kernel
theorem dX4_sheet_30 : decode cX4_sheet 30 = .ok (.iload_n 3, 1) := by decide +kernel
theorem dX4_sheet_31 : decode cX4_sheet 31 = .ok (.ifCond .ge 9, 3) := by decide +kernel
theorem dX4_sheet_34 : decode cX4_sheet 34 = .ok (.aload_n 0, 1) := by decide +kernel
theorem dX4_sheet_35 : decode cX4_sheet 35 = .ok (.iconst 4, 1) := by decide +kernel
theorem dX4_sheet_36 : decode cX4_sheet 36 = .ok (.invokevirtual 95, 3) := by decide +kernel
theorem dX4_sheet_39 : decode cX4_sheet 39 = .ok (.ireturn, 1) := by decide +kernel
theorem dX4_sheet_40 : decode cX4_sheet 40 = .ok (.aload_n 0, 1) := by decide +kernel
theorem dX4_sheet_41 : decode cX4_sheet 41 = .ok (.getfield 9, 3) := by decide +kernel
theorem dX4_sheet_44 : decode cX4_sheet 44 = .ok (.iload_n 1, 1) := by decide +kernel
theorem dX4_sheet_45 : decode cX4_sheet 45 = .ok (.iload_n 2, 1) := by decide +kernel
theorem dX4_sheet_46 : decode cX4_sheet 46 = .ok (.iastore, 1) := by decide +kernel
theorem dX4_sheet_47 : decode cX4_sheet 47 = .ok (.aload_n 0, 1) := by decide +kernel
theorem dX4_sheet_48 : decode cX4_sheet 48 = .ok (.getfield 13, 3) := by decide +kernel
theorem dX4_sheet_51 : decode cX4_sheet 51 = .ok (.iload_n 1, 1) := by decide +kernel
theorem dX4_sheet_52 : decode cX4_sheet 52 = .ok (.iload_n 3, 1) := by decide +kernel
theorem dX4_sheet_53 : decode cX4_sheet 53 = .ok (.iastore, 1) := by decide +kernel
theorem dX4_sheet_54 : decode cX4_sheet 54 = .ok (.iconst 0, 1) := by decide +kernel
theorem dX4_sheet_55 : decode cX4_sheet 55 = .ok (.istore 4, 2) := by decide +kernel
theorem dX4_sheet_57 : decode cX4_sheet 57 = .ok (.iload 4, 2) := by decide +kernel
theorem dX4_sheet_59 : decode cX4_sheet 59 = .ok (.bipush 60, 2) := by decide +kernel
theorem dX4_sheet_61 : decode cX4_sheet 61 = .ok (.if_icmp .ge 22, 3) := by decide +kernel
theorem dX4_sheet_64 : decode cX4_sheet 64 = .ok (.aload_n 0, 1) := by decide +kernel
theorem dX4_sheet_65 : decode cX4_sheet 65 = .ok (.getfield 16, 3) := by decide +kernel
theorem dX4_sheet_68 : decode cX4_sheet 68 = .ok (.bipush 60, 2) := by decide +kernel
theorem dX4_sheet_70 : decode cX4_sheet 70 = .ok (.iload_n 1, 1) := by decide +kernel
theorem dX4_sheet_71 : decode cX4_sheet 71 = .ok (.imul, 1) := by decide +kernel
theorem dX4_sheet_72 : decode cX4_sheet 72 = .ok (.iload 4, 2) := by decide +kernel
theorem dX4_sheet_74 : decode cX4_sheet 74 = .ok (.iadd, 1) := by decide +kernel
theorem dX4_sheet_75 : decode cX4_sheet 75 = .ok (.iconst 0, 1) := by decide +kernel
theorem dX4_sheet_76 : decode cX4_sheet 76 = .ok (.iastore, 1) := by decide +kernel
theorem dX4_sheet_77 : decode cX4_sheet 77 = .ok (.iinc 4 1, 3) := by decide +kernel
theorem dX4_sheet_80 : decode cX4_sheet 80 = .ok (.goto (-23), 3) := by decide +kernel
theorem dX4_sheet_83 : decode cX4_sheet 83 = .ok (.iconst 1, 1) := by decide +kernel
theorem dX4_sheet_84 : decode cX4_sheet 84 = .ok (.ireturn, 1) := by decide +kernel
theorem dX4_lose_0 : decode cX4_lose 0 = .ok (.iload_n 1, 1) := by decide +kernel
theorem dX4_lose_1 : decode cX4_lose 1 = .ok (.invokestatic 85, 3) := by decide +kernel
theorem dX4_lose_4 : decode cX4_lose 4 = .ok (.ifCond .ne 5, 3) := by decide +kernel
theorem dX4_lose_7 : decode cX4_lose 7 = .ok (.iconst (-1), 1) := by decide +kernel
theorem dX4_lose_8 : decode cX4_lose 8 = .ok (.ireturn, 1) := by decide +kernel
theorem dX4_lose_9 : decode cX4_lose 9 = .ok (.aload_n 0, 1) := by decide +kernel
theorem dX4_lose_10 : decode cX4_lose 10 = .ok (.getfield 9, 3) := by decide +kernel
theorem dX4_lose_13 : decode cX4_lose 13 = .ok (.iload_n 1, 1) := by decide +kernel
theorem dX4_lose_14 : decode cX4_lose 14 = .ok (.iaload, 1) := by decide +kernel
theorem dX4_lose_15 : decode cX4_lose 15 = .ok (.bipush (-9), 2) := by decide +kernel
theorem dX4_lose_17 : decode cX4_lose 17 = .ok (.if_icmp .ne 7, 3) := by decide +kernel
theorem dX4_lose_20 : decode cX4_lose 20 = .ok (.iconst 0, 1) := by decide +kernel
theorem dX4_lose_21 : decode cX4_lose 21 = .ok (.goto 4, 3) := by decide +kernel
theorem dX4_lose_24 : decode cX4_lose 24 = .ok (.iconst 1, 1) := by decide +kernel
theorem dX4_lose_25 : decode cX4_lose 25 = .ok (.istore_n 2, 1) := by decide +kernel
theorem dX4_lose_26 : decode cX4_lose 26 = .ok (.aload_n 0, 1) := by decide +kernel
theorem dX4_lose_27 : decode cX4_lose 27 = .ok (.getfield 9, 3) := by decide +kernel
theorem dX4_lose_30 : decode cX4_lose 30 = .ok (.iload_n 1, 1) := by decide +kernel
theorem dX4_lose_31 : decode cX4_lose 31 = .ok (.bipush (-9), 2) := by decide +kernel
theorem dX4_lose_33 : decode cX4_lose 33 = .ok (.iastore, 1) := by decide +kernel
theorem dX4_lose_34 : decode cX4_lose 34 = .ok (.iload_n 2, 1) := by decide +kernel
theorem dX4_lose_35 : decode cX4_lose 35 = .ok (.ireturn, 1) := by decide +kernel
theorem dX4_put_0 : decode cX4_put 0 = .ok (.aload_n 0, 1) := by decide +kernel
theorem dX4_put_1 : decode cX4_put 1 = .ok (.iconst 0, 1) := by decide +kernel
theorem dX4_put_2 : decode cX4_put 2 = .ok (.putfield 58, 3) := by decide +kernel
theorem dX4_put_5 : decode cX4_put 5 = .ok (.iload_n 1, 1) := by decide +kernel
theorem dX4_put_6 : decode cX4_put 6 = .ok (.invokestatic 85, 3) := by decide +kernel
theorem dX4_put_9 : decode cX4_put 9 = .ok (.ifCond .ne 5, 3) := by decide +kernel
theorem dX4_put_12 : decode cX4_put 12 = .ok (.iconst (-1), 1) := by decide +kernel
theorem dX4_put_13 : decode cX4_put 13 = .ok (.ireturn, 1) := by decide +kernel
theorem dX4_put_14 : decode cX4_put 14 = .ok (.aload_n 0, 1) := by decide +kernel
theorem dX4_put_15 : decode cX4_put 15 = .ok (.getfield 9, 3) := by decide +kernel
theorem dX4_put_18 : decode cX4_put 18 = .ok (.iload_n 1, 1) := by decide +kernel
theorem dX4_put_19 : decode cX4_put 19 = .ok (.iaload, 1) := by decide +kernel
theorem dX4_put_20 : decode cX4_put 20 = .ok (.bipush (-9), 2) := by decide +kernel
theorem dX4_put_22 : decode cX4_put 22 = .ok (.if_icmp .ne 9, 3) := by decide +kernel
theorem dX4_put_25 : decode cX4_put 25 = .ok (.aload_n 0, 1) := by decide +kernel
theorem dX4_put_26 : decode cX4_put 26 = .ok (.iconst 1, 1) := by decide +kernel
theorem dX4_put_27 : decode cX4_put 27 = .ok (.invokevirtual 95, 3) := by decide +kernel
theorem dX4_put_30 : decode cX4_put 30 = .ok (.ireturn, 1) := by decide +kernel
theorem dX4_put_31 : decode cX4_put 31 = .ok (.iload_n 2, 1) := by decide +kernel
theorem dX4_put_32 : decode cX4_put 32 = .ok (.iconst 0, 1) := by decide +kernel
theorem dX4_put_33 : decode cX4_put 33 = .ok (.aload_n 0, 1) := by decide +kernel
theorem dX4_put_34 : decode cX4_put 34 = .ok (.getfield 13, 3) := by decide +kernel
theorem dX4_put_37 : decode cX4_put 37 = .ok (.iload_n 1, 1) := by decide +kernel
theorem dX4_put_38 : decode cX4_put 38 = .ok (.iaload, 1) := by decide +kernel
theorem dX4_put_39 : decode cX4_put 39 = .ok (.iconst 1, 1) := by decide +kernel
theorem dX4_put_40 : decode cX4_put 40 = .ok (.isub, 1) := by decide +kernel
theorem dX4_put_41 : decode cX4_put 41 = .ok (.invokestatic 64, 3) := by decide +kernel
theorem dX4_put_44 : decode cX4_put 44 = .ok (.ifCond .ne 9, 3) := by decide +kernel
theorem dX4_put_47 : decode cX4_put 47 = .ok (.aload_n 0, 1) := by decide +kernel
theorem dX4_put_48 : decode cX4_put 48 = .ok (.iconst 3, 1) := by decide +kernel
theorem dX4_put_49 : decode cX4_put 49 = .ok (.invokevirtual 95, 3) := by decide +kernel
theorem dX4_put_52 : decode cX4_put 52 = .ok (.ireturn, 1) := by decide +kernel
theorem dX4_put_53 : decode cX4_put 53 = .ok (.aload_n 0, 1) := by decide +kernel
theorem dX4_put_54 : decode cX4_put 54 = .ok (.getfield 16, 3) := by decide +kernel
theorem dX4_put_57 : decode cX4_put 57 = .ok (.bipush 60, 2) := by decide +kernel
theorem dX4_put_59 : decode cX4_put 59 = .ok (.iload_n 1, 1) := by decide +kernel
theorem dX4_put_60 : decode cX4_put 60 = .ok (.imul, 1) := by decide +kernel
theorem dX4_put_61 : decode cX4_put 61 = .ok (.iload_n 2, 1) := by decide +kernel
theorem dX4_put_62 : decode cX4_put 62 = .ok (.iadd, 1) := by decide +kernel
theorem dX4_put_63 : decode cX4_put 63 = .ok (.aload_n 0, 1) := by decide +kernel
theorem dX4_put_64 : decode cX4_put 64 = .ok (.getfield 9, 3) := by decide +kernel
theorem dX4_put_67 : decode cX4_put 67 = .ok (.iload_n 1, 1) := by decide +kernel
theorem dX4_put_68 : decode cX4_put 68 = .ok (.iaload, 1) := by decide +kernel
theorem dX4_put_69 : decode cX4_put 69 = .ok (.ifCond .ne 8, 3) := by decide +kernel
theorem dX4_put_72 : decode cX4_put 72 = .ok (.iload_n 3, 1) := by decide +kernel
theorem dX4_put_73 : decode cX4_put 73 = .ok (.i2b, 1) := by decide +kernel
theorem dX4_put_74 : decode cX4_put 74 = .ok (.goto 19, 3) := by decide +kernel
theorem dX4_put_77 : decode cX4_put 77 = .ok (.aload_n 0, 1) := by decide +kernel
theorem dX4_put_78 : decode cX4_put 78 = .ok (.getfield 9, 3) := by decide +kernel
theorem dX4_put_81 : decode cX4_put 81 = .ok (.iload_n 1, 1) := by decide +kernel
theorem dX4_put_82 : decode cX4_put 82 = .ok (.iaload, 1) := by decide +kernel
theorem dX4_put_83 : decode cX4_put 83 = .ok (.iconst 1, 1) := by decide +kernel
theorem dX4_put_84 : decode cX4_put 84 = .ok (.if_icmp .ne 8, 3) := by decide +kernel
theorem dX4_put_87 : decode cX4_put 87 = .ok (.iload_n 3, 1) := by decide +kernel
theorem dX4_put_88 : decode cX4_put 88 = .ok (.i2s, 1) := by decide +kernel
theorem dX4_put_89 : decode cX4_put 89 = .ok (.goto 4, 3) := by decide +kernel
theorem dX4_put_92 : decode cX4_put 92 = .ok (.iload_n 3, 1) := by decide +kernel
theorem dX4_put_93 : decode cX4_put 93 = .ok (.iastore, 1) := by decide +kernel
theorem dX4_put_94 : decode cX4_put 94 = .ok (.iconst 1, 1) := by decide +kernel
theorem dX4_put_95 : decode cX4_put 95 = .ok (.ireturn, 1) := by decide +kernel
theorem dX4_cell_0 : decode cX4_cell 0 = .ok (.aload_n 0, 1) := by decide +kernel
theorem dX4_cell_1 : decode cX4_cell 1 = .ok (.iconst 0, 1) := by decide +kernel
theorem dX4_cell_2 : decode cX4_cell 2 = .ok (.putfield 58, 3) := by decide +kernel
theorem dX4_cell_5 : decode cX4_cell 5 = .ok (.iload_n 1, 1) := by decide +kernel
theorem dX4_cell_6 : decode cX4_cell 6 = .ok (.invokestatic 85, 3) := by decide +kernel
theorem dX4_cell_9 : decode cX4_cell 9 = .ok (.ifCond .eq 10, 3) := by decide +kernel
theorem dX4_cell_12 : decode cX4_cell 12 = .ok (.iload_n 3, 1) := by decide +kernel
theorem dX4_cell_13 : decode cX4_cell 13 = .ok (.invokestatic 88, 3) := by decide +kernel
theorem dX4_cell_16 : decode cX4_cell 16 = .ok (.ifCond .ne 7, 3) := by decide +kernel
theorem dX4_cell_19 : decode cX4_cell 19 = .ok (.ldc2_w 62, 3) := by decide +kernel
theorem dX4_cell_22 : decode cX4_cell 22 = .ok (.lreturn, 1) := by decide +kernel
theorem dX4_cell_23 : decode cX4_cell 23 = .ok (.aload_n 0, 1) := by decide +kernel
theorem dX4_cell_24 : decode cX4_cell 24 = .ok (.getfield 9, 3) := by decide +kernel
theorem dX4_cell_27 : decode cX4_cell 27 = .ok (.iload_n 1, 1) := by decide +kernel
theorem dX4_cell_28 : decode cX4_cell 28 = .ok (.iaload, 1) := by decide +kernel
theorem dX4_cell_29 : decode cX4_cell 29 = .ok (.bipush (-9), 2) := by decide +kernel
theorem dX4_cell_31 : decode cX4_cell 31 = .ok (.if_icmp .eq 19, 3) := by decide +kernel
theorem dX4_cell_34 : decode cX4_cell 34 = .ok (.aload_n 0, 1) := by decide +kernel
theorem dX4_cell_35 : decode cX4_cell 35 = .ok (.getfield 9, 3) := by decide +kernel
theorem dX4_cell_38 : decode cX4_cell 38 = .ok (.iload_n 1, 1) := by decide +kernel
theorem dX4_cell_39 : decode cX4_cell 39 = .ok (.iaload, 1) := by decide +kernel
theorem dX4_cell_40 : decode cX4_cell 40 = .ok (.iload_n 3, 1) := by decide +kernel
theorem dX4_cell_41 : decode cX4_cell 41 = .ok (.if_icmp .eq 9, 3) := by decide +kernel
theorem dX4_cell_44 : decode cX4_cell 44 = .ok (.aload_n 0, 1) := by decide +kernel
theorem dX4_cell_45 : decode cX4_cell 45 = .ok (.iconst 2, 1) := by decide +kernel
theorem dX4_cell_46 : decode cX4_cell 46 = .ok (.invokevirtual 215, 3) := by decide +kernel
theorem dX4_cell_49 : decode cX4_cell 49 = .ok (.lreturn, 1) := by decide +kernel
theorem dX4_cell_50 : decode cX4_cell 50 = .ok (.aload_n 0, 1) := by decide +kernel
theorem dX4_cell_51 : decode cX4_cell 51 = .ok (.getfield 9, 3) := by decide +kernel
theorem dX4_cell_54 : decode cX4_cell 54 = .ok (.iload_n 1, 1) := by decide +kernel
theorem dX4_cell_55 : decode cX4_cell 55 = .ok (.iaload, 1) := by decide +kernel
theorem dX4_cell_56 : decode cX4_cell 56 = .ok (.bipush (-9), 2) := by decide +kernel
theorem dX4_cell_58 : decode cX4_cell 58 = .ok (.if_icmp .ne 9, 3) := by decide +kernel
theorem dX4_cell_61 : decode cX4_cell 61 = .ok (.aload_n 0, 1) := by decide +kernel
theorem dX4_cell_62 : decode cX4_cell 62 = .ok (.iconst 1, 1) := by decide +kernel
theorem dX4_cell_63 : decode cX4_cell 63 = .ok (.invokevirtual 215, 3) := by decide +kernel
theorem dX4_cell_66 : decode cX4_cell 66 = .ok (.lreturn, 1) := by decide +kernel
theorem dX4_cell_67 : decode cX4_cell 67 = .ok (.iload_n 2, 1) := by decide +kernel
theorem dX4_cell_68 : decode cX4_cell 68 = .ok (.iconst 0, 1) := by decide +kernel
theorem dX4_cell_69 : decode cX4_cell 69 = .ok (.aload_n 0, 1) := by decide +kernel
theorem dX4_cell_70 : decode cX4_cell 70 = .ok (.getfield 13, 3) := by decide +kernel
theorem dX4_cell_73 : decode cX4_cell 73 = .ok (.iload_n 1, 1) := by decide +kernel
theorem dX4_cell_74 : decode cX4_cell 74 = .ok (.iaload, 1) := by decide +kernel
theorem dX4_cell_75 : decode cX4_cell 75 = .ok (.iconst 1, 1) := by decide +kernel
theorem dX4_cell_76 : decode cX4_cell 76 = .ok (.isub, 1) := by decide +kernel
theorem dX4_cell_77 : decode cX4_cell 77 = .ok (.invokestatic 64, 3) := by decide +kernel
theorem dX4_cell_80 : decode cX4_cell 80 = .ok (.ifCond .ne 9, 3) := by decide +kernel
theorem dX4_cell_83 : decode cX4_cell 83 = .ok (.aload_n 0, 1) := by decide +kernel
theorem dX4_cell_84 : decode cX4_cell 84 = .ok (.iconst 3, 1) := by decide +kernel
theorem dX4_cell_85 : decode cX4_cell 85 = .ok (.invokevirtual 215, 3) := by decide +kernel
theorem dX4_cell_88 : decode cX4_cell 88 = .ok (.lreturn, 1) := by decide +kernel
theorem dX4_cell_89 : decode cX4_cell 89 = .ok (.aload_n 0, 1) := by decide +kernel
theorem dX4_cell_90 : decode cX4_cell 90 = .ok (.getfield 16, 3) := by decide +kernel
theorem dX4_cell_93 : decode cX4_cell 93 = .ok (.bipush 60, 2) := by decide +kernel
theorem dX4_cell_95 : decode cX4_cell 95 = .ok (.iload_n 1, 1) := by decide +kernel
theorem dX4_cell_96 : decode cX4_cell 96 = .ok (.imul, 1) := by decide +kernel
theorem dX4_cell_97 : decode cX4_cell 97 = .ok (.iload_n 2, 1) := by decide +kernel
theorem dX4_cell_98 : decode cX4_cell 98 = .ok (.iadd, 1) := by decide +kernel
theorem dX4_cell_99 : decode cX4_cell 99 = .ok (.iaload, 1) := by decide +kernel
theorem dX4_cell_100 : decode cX4_cell 100 = .ok (.i2l, 1) := by decide +kernel
theorem dX4_cell_101 : decode cX4_cell 101 = .ok (.lreturn, 1) := by decide +kernel
theorem dX4_copy_0 : decode cX4_copy 0 = .ok (.aload_n 0, 1) := by decide +kernel
theorem dX4_copy_1 : decode cX4_copy 1 = .ok (.iconst 0, 1) := by decide +kernel
theorem dX4_copy_2 : decode cX4_copy 2 = .ok (.putfield 58, 3) := by decide +kernel
theorem dX4_copy_5 : decode cX4_copy 5 = .ok (.iload_n 1, 1) := by decide +kernel
theorem dX4_copy_6 : decode cX4_copy 6 = .ok (.invokestatic 85, 3) := by decide +kernel
theorem dX4_copy_9 : decode cX4_copy 9 = .ok (.ifCond .eq 10, 3) := by decide +kernel
theorem dX4_copy_12 : decode cX4_copy 12 = .ok (.iload_n 3, 1) := by decide +kernel
theorem dX4_copy_13 : decode cX4_copy 13 = .ok (.invokestatic 85, 3) := by decide +kernel
theorem dX4_copy_16 : decode cX4_copy 16 = .ok (.ifCond .ne 5, 3) := by decide +kernel
theorem dX4_copy_19 : decode cX4_copy 19 = .ok (.iconst (-1), 1) := by decide +kernel
theorem dX4_copy_20 : decode cX4_copy 20 = .ok (.ireturn, 1) := by decide +kernel
theorem dX4_copy_21 : decode cX4_copy 21 = .ok (.aload_n 0, 1) := by decide +kernel
theorem dX4_copy_22 : decode cX4_copy 22 = .ok (.getfield 9, 3) := by decide +kernel
theorem dX4_copy_25 : decode cX4_copy 25 = .ok (.iload_n 1, 1) := by decide +kernel
theorem dX4_copy_26 : decode cX4_copy 26 = .ok (.iaload, 1) := by decide +kernel
theorem dX4_copy_27 : decode cX4_copy 27 = .ok (.bipush (-9), 2) := by decide +kernel
theorem dX4_copy_29 : decode cX4_copy 29 = .ok (.if_icmp .eq 14, 3) := by decide +kernel
theorem dX4_copy_32 : decode cX4_copy 32 = .ok (.aload_n 0, 1) := by decide +kernel
theorem dX4_copy_33 : decode cX4_copy 33 = .ok (.getfield 9, 3) := by decide +kernel
theorem dX4_copy_36 : decode cX4_copy 36 = .ok (.iload_n 3, 1) := by decide +kernel
theorem dX4_copy_37 : decode cX4_copy 37 = .ok (.iaload, 1) := by decide +kernel
theorem dX4_copy_38 : decode cX4_copy 38 = .ok (.bipush (-9), 2) := by decide +kernel
theorem dX4_copy_40 : decode cX4_copy 40 = .ok (.if_icmp .ne 9, 3) := by decide +kernel
theorem dX4_copy_43 : decode cX4_copy 43 = .ok (.aload_n 0, 1) := by decide +kernel
theorem dX4_copy_44 : decode cX4_copy 44 = .ok (.iconst 1, 1) := by decide +kernel
theorem dX4_copy_45 : decode cX4_copy 45 = .ok (.invokevirtual 95, 3) := by decide +kernel
theorem dX4_copy_48 : decode cX4_copy 48 = .ok (.ireturn, 1) := by decide +kernel
theorem dX4_copy_49 : decode cX4_copy 49 = .ok (.aload_n 0, 1) := by decide +kernel
theorem dX4_copy_50 : decode cX4_copy 50 = .ok (.getfield 9, 3) := by decide +kernel
theorem dX4_copy_53 : decode cX4_copy 53 = .ok (.iload_n 1, 1) := by decide +kernel
theorem dX4_copy_54 : decode cX4_copy 54 = .ok (.iaload, 1) := by decide +kernel
theorem dX4_copy_55 : decode cX4_copy 55 = .ok (.aload_n 0, 1) := by decide +kernel
theorem dX4_copy_56 : decode cX4_copy 56 = .ok (.getfield 9, 3) := by decide +kernel
theorem dX4_copy_59 : decode cX4_copy 59 = .ok (.iload_n 3, 1) := by decide +kernel
theorem dX4_copy_60 : decode cX4_copy 60 = .ok (.iaload, 1) := by decide +kernel
theorem dX4_copy_61 : decode cX4_copy 61 = .ok (.if_icmp .eq 9, 3) := by decide +kernel
theorem dX4_copy_64 : decode cX4_copy 64 = .ok (.aload_n 0, 1) := by decide +kernel
theorem dX4_copy_65 : decode cX4_copy 65 = .ok (.iconst 2, 1) := by decide +kernel
theorem dX4_copy_66 : decode cX4_copy 66 = .ok (.invokevirtual 95, 3) := by decide +kernel
theorem dX4_copy_69 : decode cX4_copy 69 = .ok (.ireturn, 1) := by decide +kernel
theorem dX4_copy_70 : decode cX4_copy 70 = .ok (.iload_n 2, 1) := by decide +kernel
theorem dX4_copy_71 : decode cX4_copy 71 = .ok (.ifCond .lt 38, 3) := by decide +kernel
theorem dX4_copy_74 : decode cX4_copy 74 = .ok (.iload 4, 2) := by decide +kernel
theorem dX4_copy_76 : decode cX4_copy 76 = .ok (.ifCond .lt 33, 3) := by decide +kernel
theorem dX4_copy_79 : decode cX4_copy 79 = .ok (.iload 5, 2) := by decide +kernel
theorem dX4_copy_81 : decode cX4_copy 81 = .ok (.ifCond .lt 28, 3) := by decide +kernel
theorem dX4_copy_84 : decode cX4_copy 84 = .ok (.iload_n 2, 1) := by decide +kernel
theorem dX4_copy_85 : decode cX4_copy 85 = .ok (.aload_n 0, 1) := by decide +kernel
theorem dX4_copy_86 : decode cX4_copy 86 = .ok (.getfield 13, 3) := by decide +kernel
theorem dX4_copy_89 : decode cX4_copy 89 = .ok (.iload_n 1, 1) := by decide +kernel
theorem dX4_copy_90 : decode cX4_copy 90 = .ok (.iaload, 1) := by decide +kernel
theorem dX4_copy_91 : decode cX4_copy 91 = .ok (.if_icmp .gt 18, 3) := by decide +kernel
theorem dX4_copy_94 : decode cX4_copy 94 = .ok (.iload 4, 2) := by decide +kernel
theorem dX4_copy_96 : decode cX4_copy 96 = .ok (.aload_n 0, 1) := by decide +kernel
theorem dX4_copy_97 : decode cX4_copy 97 = .ok (.getfield 13, 3) := by decide +kernel
theorem dX4_copy_100 : decode cX4_copy 100 = .ok (.iload_n 3, 1) := by decide +kernel
theorem dX4_copy_101 : decode cX4_copy 101 = .ok (.iaload, 1) := by decide +kernel
theorem dX4_copy_102 : decode cX4_copy 102 = .ok (.if_icmp .gt 7, 3) := by decide +kernel
theorem dX4_copy_105 : decode cX4_copy 105 = .ok (.iconst 1, 1) := by decide +kernel
theorem dX4_copy_106 : decode cX4_copy 106 = .ok (.goto 4, 3) := by decide +kernel
theorem dX4_copy_109 : decode cX4_copy 109 = .ok (.iconst 0, 1) := by decide +kernel
theorem dX4_copy_110 : decode cX4_copy 110 = .ok (.istore 6, 2) := by decide +kernel
theorem dX4_copy_112 : decode cX4_copy 112 = .ok (.iload 6, 2) := by decide +kernel
theorem dX4_copy_114 : decode cX4_copy 114 = .ok (.ifCond .eq 30, 3) := by decide +kernel
theorem dX4_copy_117 : decode cX4_copy 117 = .ok (.iload 5, 2) := by decide +kernel
theorem dX4_copy_119 : decode cX4_copy 119 = .ok (.aload_n 0, 1) := by decide +kernel
theorem dX4_copy_120 : decode cX4_copy 120 = .ok (.getfield 13, 3) := by decide +kernel
theorem dX4_copy_123 : decode cX4_copy 123 = .ok (.iload_n 1, 1) := by decide +kernel
theorem dX4_copy_124 : decode cX4_copy 124 = .ok (.iaload, 1) := by decide +kernel
theorem dX4_copy_125 : decode cX4_copy 125 = .ok (.iload_n 2, 1) := by decide +kernel
theorem dX4_copy_126 : decode cX4_copy 126 = .ok (.isub, 1) := by decide +kernel
theorem dX4_copy_127 : decode cX4_copy 127 = .ok (.if_icmp .gt 17, 3) := by decide +kernel
theorem dX4_copy_130 : decode cX4_copy 130 = .ok (.iload 5, 2) := by decide +kernel
theorem dX4_copy_132 : decode cX4_copy 132 = .ok (.aload_n 0, 1) := by decide +kernel
theorem dX4_copy_133 : decode cX4_copy 133 = .ok (.getfield 13, 3) := by decide +kernel
theorem dX4_copy_136 : decode cX4_copy 136 = .ok (.iload_n 3, 1) := by decide +kernel
theorem dX4_copy_137 : decode cX4_copy 137 = .ok (.iaload, 1) := by decide +kernel
theorem dX4_copy_138 : decode cX4_copy 138 = .ok (.iload 4, 2) := by decide +kernel
theorem dX4_copy_140 : decode cX4_copy 140 = .ok (.isub, 1) := by decide +kernel
theorem dX4_copy_141 : decode cX4_copy 141 = .ok (.if_icmp .le 9, 3) := by decide +kernel
theorem dX4_copy_144 : decode cX4_copy 144 = .ok (.aload_n 0, 1) := by decide +kernel
theorem dX4_copy_145 : decode cX4_copy 145 = .ok (.iconst 3, 1) := by decide +kernel
theorem dX4_copy_146 : decode cX4_copy 146 = .ok (.invokevirtual 95, 3) := by decide +kernel
theorem dX4_copy_149 : decode cX4_copy 149 = .ok (.ireturn, 1) := by decide +kernel
theorem dX4_copy_150 : decode cX4_copy 150 = .ok (.iload_n 2, 1) := by decide +kernel
theorem dX4_copy_151 : decode cX4_copy 151 = .ok (.iload 4, 2) := by decide +kernel
theorem dX4_copy_153 : decode cX4_copy 153 = .ok (.if_icmp .ge 7, 3) := by decide +kernel
theorem dX4_copy_156 : decode cX4_copy 156 = .ok (.iconst 1, 1) := by decide +kernel
theorem dX4_copy_157 : decode cX4_copy 157 = .ok (.goto 4, 3) := by decide +kernel
theorem dX4_copy_160 : decode cX4_copy 160 = .ok (.iconst 0, 1) := by decide +kernel
theorem dX4_copy_161 : decode cX4_copy 161 = .ok (.istore 7, 2) := by decide +kernel
theorem dX4_copy_163 : decode cX4_copy 163 = .ok (.iconst 0, 1) := by decide +kernel
theorem dX4_copy_164 : decode cX4_copy 164 = .ok (.istore 8, 2) := by decide +kernel
theorem dX4_copy_166 : decode cX4_copy 166 = .ok (.iload 8, 2) := by decide +kernel
theorem dX4_copy_168 : decode cX4_copy 168 = .ok (.iload 5, 2) := by decide +kernel
theorem dX4_copy_170 : decode cX4_copy 170 = .ok (.if_icmp .ge 57, 3) := by decide +kernel
theorem dX4_copy_173 : decode cX4_copy 173 = .ok (.iload 7, 2) := by decide +kernel
theorem dX4_copy_175 : decode cX4_copy 175 = .ok (.ifCond .eq 13, 3) := by decide +kernel
theorem dX4_copy_178 : decode cX4_copy 178 = .ok (.iload 5, 2) := by decide +kernel
theorem dX4_copy_180 : decode cX4_copy 180 = .ok (.iconst 1, 1) := by decide +kernel
theorem dX4_copy_181 : decode cX4_copy 181 = .ok (.isub, 1) := by decide +kernel
theorem dX4_copy_182 : decode cX4_copy 182 = .ok (.iload 8, 2) := by decide +kernel
theorem dX4_copy_184 : decode cX4_copy 184 = .ok (.isub, 1) := by decide +kernel
theorem dX4_copy_185 : decode cX4_copy 185 = .ok (.goto 5, 3) := by decide +kernel
theorem dX4_copy_188 : decode cX4_copy 188 = .ok (.iload 8, 2) := by decide +kernel
theorem dX4_copy_190 : decode cX4_copy 190 = .ok (.istore 9, 2) := by decide +kernel
theorem dX4_copy_192 : decode cX4_copy 192 = .ok (.aload_n 0, 1) := by decide +kernel
theorem dX4_copy_193 : decode cX4_copy 193 = .ok (.getfield 16, 3) := by decide +kernel
theorem dX4_copy_196 : decode cX4_copy 196 = .ok (.bipush 60, 2) := by decide +kernel
theorem dX4_copy_198 : decode cX4_copy 198 = .ok (.iload_n 3, 1) := by decide +kernel
theorem dX4_copy_199 : decode cX4_copy 199 = .ok (.imul, 1) := by decide +kernel
theorem dX4_copy_200 : decode cX4_copy 200 = .ok (.iload 4, 2) := by decide +kernel
theorem dX4_copy_202 : decode cX4_copy 202 = .ok (.iadd, 1) := by decide +kernel
theorem dX4_copy_203 : decode cX4_copy 203 = .ok (.iload 9, 2) := by decide +kernel
theorem dX4_copy_205 : decode cX4_copy 205 = .ok (.iadd, 1) := by decide +kernel
theorem dX4_copy_206 : decode cX4_copy 206 = .ok (.aload_n 0, 1) := by decide +kernel
theorem dX4_copy_207 : decode cX4_copy 207 = .ok (.getfield 16, 3) := by decide +kernel
theorem dX4_copy_210 : decode cX4_copy 210 = .ok (.bipush 60, 2) := by decide +kernel
theorem dX4_copy_212 : decode cX4_copy 212 = .ok (.iload_n 1, 1) := by decide +kernel
theorem dX4_copy_213 : decode cX4_copy 213 = .ok (.imul, 1) := by decide +kernel
theorem dX4_copy_214 : decode cX4_copy 214 = .ok (.iload_n 2, 1) := by decide +kernel
theorem dX4_copy_215 : decode cX4_copy 215 = .ok (.iadd, 1) := by decide +kernel
theorem dX4_copy_216 : decode cX4_copy 216 = .ok (.iload 9, 2) := by decide +kernel
theorem dX4_copy_218 : decode cX4_copy 218 = .ok (.iadd, 1) := by decide +kernel
theorem dX4_copy_219 : decode cX4_copy 219 = .ok (.iaload, 1) := by decide +kernel
theorem dX4_copy_220 : decode cX4_copy 220 = .ok (.iastore, 1) := by decide +kernel
theorem dX4_copy_221 : decode cX4_copy 221 = .ok (.iinc 8 1, 3) := by decide +kernel
theorem dX4_copy_224 : decode cX4_copy 224 = .ok (.goto (-58), 3) := by decide +kernel
theorem dX4_copy_227 : decode cX4_copy 227 = .ok (.iload 5, 2) := by decide +kernel
theorem dX4_copy_229 : decode cX4_copy 229 = .ok (.ireturn, 1) := by decide +kernel
theorem dX4_begins_0 : decode cX4_begins 0 = .ok (.aload_n 0, 1) := by decide +kernel
theorem dX4_begins_1 : decode cX4_begins 1 = .ok (.bipush 31, 2) := by decide +kernel
theorem dX4_begins_3 : decode cX4_begins 3 = .ok (.aload_n 0, 1) := by decide +kernel
theorem dX4_begins_4 : decode cX4_begins 4 = .ok (.getfield 219, 3) := by decide +kernel
theorem dX4_begins_7 : decode cX4_begins 7 = .ok (.imul, 1) := by decide +kernel
theorem dX4_begins_8 : decode cX4_begins 8 = .ok (.iload_n 1, 1) := by decide +kernel
theorem dX4_begins_9 : decode cX4_begins 9 = .ok (.iadd, 1) := by decide +kernel
theorem dX4_begins_10 : decode cX4_begins 10 = .ok (.putfield 219, 3) := by decide +kernel
theorem dX4_begins_13 : decode cX4_begins 13 = .ok (.return_, 1) := by decide +kernel
theorem dX4_tell_0 : decode cX4_tell 0 = .ok (.aload_n 0, 1) := by decide +kernel
theorem dX4_tell_1 : decode cX4_tell 1 = .ok (.iload_n 1, 1) := by decide +kernel
theorem dX4_tell_2 : decode cX4_tell 2 = .ok (.invokevirtual 140, 3) := by decide +kernel
theorem dX4_tell_5 : decode cX4_tell 5 = .ok (.ifCond .ne 5, 3) := by decide +kernel
theorem dX4_tell_8 : decode cX4_tell 8 = .ok (.iconst (-1), 1) := by decide +kernel
theorem dX4_tell_9 : decode cX4_tell 9 = .ok (.ireturn, 1) := by decide +kernel
theorem dX4_tell_10 : decode cX4_tell 10 = .ok (.aload_n 0, 1) := by decide +kernel
theorem dX4_tell_11 : decode cX4_tell 11 = .ok (.getfield 25, 3) := by decide +kernel
theorem dX4_tell_14 : decode cX4_tell 14 = .ok (.iload_n 1, 1) := by decide +kernel
theorem dX4_tell_15 : decode cX4_tell 15 = .ok (.iaload, 1) := by decide +kernel
theorem dX4_tell_16 : decode cX4_tell 16 = .ok (.istore_n 2, 1) := by decide +kernel
theorem dX4_tell_17 : decode cX4_tell 17 = .ok (.aload_n 0, 1) := by decide +kernel
theorem dX4_tell_18 : decode cX4_tell 18 = .ok (.getfield 22, 3) := by decide +kernel
theorem dX4_tell_21 : decode cX4_tell 21 = .ok (.iload_n 1, 1) := by decide +kernel
theorem dX4_tell_22 : decode cX4_tell 22 = .ok (.iaload, 1) := by decide +kernel
theorem dX4_tell_23 : decode cX4_tell 23 = .ok (.lookupswitch 67 #[(1, 25), (2, 40)], 25) := by decide +kernel
theorem dX4_tell_48 : decode cX4_tell 48 = .ok (.aload_n 0, 1) := by decide +kernel
theorem dX4_tell_49 : decode cX4_tell 49 = .ok (.iconst 2, 1) := by decide +kernel
theorem dX4_tell_50 : decode cX4_tell 50 = .ok (.invokevirtual 222, 3) := by decide +kernel
theorem dX4_tell_53 : decode cX4_tell 53 = .ok (.aload_n 0, 1) := by decide +kernel
theorem dX4_tell_54 : decode cX4_tell 54 = .ok (.iconst 1, 1) := by decide +kernel
theorem dX4_tell_55 : decode cX4_tell 55 = .ok (.invokevirtual 222, 3) := by decide +kernel
theorem dX4_tell_58 : decode cX4_tell 58 = .ok (.iload_n 2, 1) := by decide +kernel
theorem dX4_tell_59 : decode cX4_tell 59 = .ok (.bipush 100, 2) := by decide +kernel
theorem dX4_tell_61 : decode cX4_tell 61 = .ok (.iadd, 1) := by decide +kernel
theorem dX4_tell_62 : decode cX4_tell 62 = .ok (.ireturn, 1) := by decide +kernel
theorem dX4_tell_63 : decode cX4_tell 63 = .ok (.aload_n 0, 1) := by decide +kernel
theorem dX4_tell_64 : decode cX4_tell 64 = .ok (.iconst 3, 1) := by decide +kernel
theorem dX4_tell_65 : decode cX4_tell 65 = .ok (.invokevirtual 222, 3) := by decide +kernel
theorem dX4_tell_68 : decode cX4_tell 68 = .ok (.aload_n 0, 1) := by decide +kernel
theorem dX4_tell_69 : decode cX4_tell 69 = .ok (.iconst 2, 1) := by decide +kernel
theorem dX4_tell_70 : decode cX4_tell 70 = .ok (.invokevirtual 222, 3) := by decide +kernel
theorem dX4_tell_73 : decode cX4_tell 73 = .ok (.aload_n 0, 1) := by decide +kernel
theorem dX4_tell_74 : decode cX4_tell 74 = .ok (.iconst 1, 1) := by decide +kernel
theorem dX4_tell_75 : decode cX4_tell 75 = .ok (.invokevirtual 222, 3) := by decide +kernel
theorem dX4_tell_78 : decode cX4_tell 78 = .ok (.aload_n 0, 1) := by decide +kernel
theorem dX4_tell_79 : decode cX4_tell 79 = .ok (.iconst 1, 1) := by decide +kernel
theorem dX4_tell_80 : decode cX4_tell 80 = .ok (.invokevirtual 222, 3) := by decide +kernel
theorem dX4_tell_83 : decode cX4_tell 83 = .ok (.iconst 2, 1) := by decide +kernel
theorem dX4_tell_84 : decode cX4_tell 84 = .ok (.iload_n 2, 1) := by decide +kernel
theorem dX4_tell_85 : decode cX4_tell 85 = .ok (.imul, 1) := by decide +kernel
theorem dX4_tell_86 : decode cX4_tell 86 = .ok (.bipush 100, 2) := by decide +kernel
theorem dX4_tell_88 : decode cX4_tell 88 = .ok (.iadd, 1) := by decide +kernel
theorem dX4_tell_89 : decode cX4_tell 89 = .ok (.ireturn, 1) := by decide +kernel
theorem dX4_tell_90 : decode cX4_tell 90 = .ok (.aload_n 0, 1) := by decide +kernel
theorem dX4_tell_91 : decode cX4_tell 91 = .ok (.iconst 1, 1) := by decide +kernel
theorem dX4_tell_92 : decode cX4_tell 92 = .ok (.invokevirtual 222, 3) := by decide +kernel
theorem dX4_tell_95 : decode cX4_tell 95 = .ok (.iload_n 2, 1) := by decide +kernel
theorem dX4_tell_96 : decode cX4_tell 96 = .ok (.ireturn, 1) := by decide +kernel
theorem dX4_hail_0 : decode cX4_hail 0 = .ok (.aload_n 0, 1) := by decide +kernel
theorem dX4_hail_1 : decode cX4_hail 1 = .ok (.iload_n 1, 1) := by decide +kernel
theorem dX4_hail_2 : decode cX4_hail 2 = .ok (.invokevirtual 140, 3) := by decide +kernel
theorem dX4_hail_5 : decode cX4_hail 5 = .ok (.ifCond .ne 5, 3) := by decide +kernel
theorem dX4_hail_8 : decode cX4_hail 8 = .ok (.iconst (-1), 1) := by decide +kernel
theorem dX4_hail_9 : decode cX4_hail 9 = .ok (.ireturn, 1) := by decide +kernel
theorem dX4_hail_10 : decode cX4_hail 10 = .ok (.aload_n 0, 1) := by decide +kernel
theorem dX4_hail_11 : decode cX4_hail 11 = .ok (.aload_n 0, 1) := by decide +kernel
theorem dX4_hail_12 : decode cX4_hail 12 = .ok (.getfield 22, 3) := by decide +kernel
theorem dX4_hail_15 : decode cX4_hail 15 = .ok (.iload_n 1, 1) := by decide +kernel
theorem dX4_hail_16 : decode cX4_hail 16 = .ok (.iaload, 1) := by decide +kernel
theorem dX4_hail_17 : decode cX4_hail 17 = .ok (.iconst 2, 1) := by decide +kernel
theorem dX4_hail_18 : decode cX4_hail 18 = .ok (.if_icmp .ne 7, 3) := by decide +kernel
theorem dX4_hail_21 : decode cX4_hail 21 = .ok (.iconst 5, 1) := by decide +kernel
theorem dX4_hail_22 : decode cX4_hail 22 = .ok (.goto 4, 3) := by decide +kernel
theorem dX4_hail_25 : decode cX4_hail 25 = .ok (.iconst 4, 1) := by decide +kernel
theorem dX4_hail_26 : decode cX4_hail 26 = .ok (.invokevirtual 222, 3) := by decide +kernel
theorem dX4_hail_29 : decode cX4_hail 29 = .ok (.aload_n 0, 1) := by decide +kernel
theorem dX4_hail_30 : decode cX4_hail 30 = .ok (.getfield 22, 3) := by decide +kernel
theorem dX4_hail_33 : decode cX4_hail 33 = .ok (.iload_n 1, 1) := by decide +kernel
theorem dX4_hail_34 : decode cX4_hail 34 = .ok (.iaload, 1) := by decide +kernel
theorem dX4_hail_35 : decode cX4_hail 35 = .ok (.iconst 2, 1) := by decide +kernel
theorem dX4_hail_36 : decode cX4_hail 36 = .ok (.if_icmp .ne 8, 3) := by decide +kernel
theorem dX4_hail_39 : decode cX4_hail 39 = .ok (.bipush 90, 2) := by decide +kernel
theorem dX4_hail_41 : decode cX4_hail 41 = .ok (.goto 9, 3) := by decide +kernel
theorem dX4_hail_44 : decode cX4_hail 44 = .ok (.aload_n 0, 1) := by decide +kernel
theorem dX4_hail_45 : decode cX4_hail 45 = .ok (.getfield 28, 3) := by decide +kernel
theorem dX4_hail_48 : decode cX4_hail 48 = .ok (.iload_n 1, 1) := by decide +kernel
theorem dX4_hail_49 : decode cX4_hail 49 = .ok (.iaload, 1) := by decide +kernel
theorem dX4_hail_50 : decode cX4_hail 50 = .ok (.ireturn, 1) := by decide +kernel
theorem dX4_as_0 : decode cX4_as 0 = .ok (.aload_n 0, 1) := by decide +kernel
theorem dX4_as_1 : decode cX4_as 1 = .ok (.iconst 0, 1) := by decide +kernel
theorem dX4_as_2 : decode cX4_as 2 = .ok (.putfield 58, 3) := by decide +kernel
theorem dX4_as_5 : decode cX4_as 5 = .ok (.aload_n 0, 1) := by decide +kernel
theorem dX4_as_6 : decode cX4_as 6 = .ok (.iload_n 1, 1) := by decide +kernel
theorem dX4_as_7 : decode cX4_as 7 = .ok (.invokevirtual 140, 3) := by decide +kernel
theorem dX4_as_10 : decode cX4_as 10 = .ok (.ifCond .ne 5, 3) := by decide +kernel
theorem dX4_as_13 : decode cX4_as 13 = .ok (.iconst (-1), 1) := by decide +kernel
theorem dX4_as_14 : decode cX4_as 14 = .ok (.ireturn, 1) := by decide +kernel
theorem dX4_as_15 : decode cX4_as 15 = .ok (.iload_n 2, 1) := by decide +kernel
theorem dX4_as_16 : decode cX4_as 16 = .ok (.iconst 0, 1) := by decide +kernel
theorem dX4_as_17 : decode cX4_as 17 = .ok (.iconst 2, 1) := by decide +kernel
theorem dX4_as_18 : decode cX4_as 18 = .ok (.invokestatic 64, 3) := by decide +kernel
theorem dX4_as_21 : decode cX4_as 21 = .ok (.ifCond .ne 6, 3) := by decide +kernel
theorem dX4_as_24 : decode cX4_as 24 = .ok (.bipush (-2), 2) := by decide +kernel
theorem dX4_as_26 : decode cX4_as 26 = .ok (.ireturn, 1) := by decide +kernel
theorem dX4_as_27 : decode cX4_as 27 = .ok (.aload_n 0, 1) := by decide +kernel
theorem dX4_as_28 : decode cX4_as 28 = .ok (.getfield 22, 3) := by decide +kernel
theorem dX4_as_31 : decode cX4_as 31 = .ok (.iload_n 1, 1) := by decide +kernel
theorem dX4_as_32 : decode cX4_as 32 = .ok (.iaload, 1) := by decide +kernel
theorem dX4_as_33 : decode cX4_as 33 = .ok (.iload_n 2, 1) := by decide +kernel
theorem dX4_as_34 : decode cX4_as 34 = .ok (.if_icmp .lt 7, 3) := by decide +kernel
theorem dX4_as_37 : decode cX4_as 37 = .ok (.iconst 1, 1) := by decide +kernel
theorem dX4_as_38 : decode cX4_as 38 = .ok (.goto 8, 3) := by decide +kernel
theorem dX4_as_41 : decode cX4_as 41 = .ok (.aload_n 0, 1) := by decide +kernel
theorem dX4_as_42 : decode cX4_as 42 = .ok (.iconst 2, 1) := by decide +kernel
theorem dX4_as_43 : decode cX4_as 43 = .ok (.invokevirtual 95, 3) := by decide +kernel
theorem dX4_as_46 : decode cX4_as 46 = .ok (.ireturn, 1) := by decide +kernel
theorem dX4_trace_0 : decode cX4_trace 0 = .ok (.aload_n 0, 1) := by decide +kernel
theorem dX4_trace_1 : decode cX4_trace 1 = .ok (.getfield 219, 3) := by decide +kernel
theorem dX4_trace_4 : decode cX4_trace 4 = .ok (.ireturn, 1) := by decide +kernel
theorem dX4_fault_0 : decode cX4_fault 0 = .ok (.aload_n 0, 1) := by decide +kernel
theorem dX4_fault_1 : decode cX4_fault 1 = .ok (.getfield 58, 3) := by decide +kernel
theorem dX4_fault_4 : decode cX4_fault 4 = .ok (.ireturn, 1) := by decide +kernel
theorem dX4_many_0 : decode cX4_many 0 = .ok (.iload_n 1, 1) := by decide +kernel
theorem dX4_many_1 : decode cX4_many 1 = .ok (.tableswitch 60 0 4 #[35, 40, 45, 50, 55], 35) := by decide +kernel
theorem dX4_many_36 : decode cX4_many 36 = .ok (.aload_n 0, 1) := by decide +kernel
theorem dX4_many_37 : decode cX4_many 37 = .ok (.getfield 68, 3) := by decide +kernel
theorem dX4_many_40 : decode cX4_many 40 = .ok (.ireturn, 1) := by decide +kernel
theorem dX4_many_41 : decode cX4_many 41 = .ok (.aload_n 0, 1) := by decide +kernel
theorem dX4_many_42 : decode cX4_many 42 = .ok (.getfield 75, 3) := by decide +kernel
theorem dX4_many_45 : decode cX4_many 45 = .ok (.ireturn, 1) := by decide +kernel
theorem dX4_many_46 : decode cX4_many 46 = .ok (.aload_n 0, 1) := by decide +kernel
theorem dX4_many_47 : decode cX4_many 47 = .ok (.getfield 117, 3) := by decide +kernel
theorem dX4_many_50 : decode cX4_many 50 = .ok (.ireturn, 1) := by decide +kernel
theorem dX4_many_51 : decode cX4_many 51 = .ok (.aload_n 0, 1) := by decide +kernel
theorem dX4_many_52 : decode cX4_many 52 = .ok (.getfield 120, 3) := by decide +kernel
theorem dX4_many_55 : decode cX4_many 55 = .ok (.ireturn, 1) := by decide +kernel
theorem dX4_many_56 : decode cX4_many 56 = .ok (.aload_n 0, 1) := by decide +kernel
theorem dX4_many_57 : decode cX4_many 57 = .ok (.getfield 123, 3) := by decide +kernel
theorem dX4_many_60 : decode cX4_many 60 = .ok (.ireturn, 1) := by decide +kernel
theorem dX4_many_61 : decode cX4_many 61 = .ok (.bipush (-2), 2) := by decide +kernel
theorem dX4_many_63 : decode cX4_many 63 = .ok (.ireturn, 1) := by decide +kernel
end
section
/-! my own base: bundles of rows, the pictures of the classes, guards, loops with fuel, contracts of methods that read and of methods that write -/
abbrev Bk : Type := Nat → Nat → Int32
def sB (B : Bk) (k i : Nat) (v : Int32) : Bk := va_up B k (upd (B k) i v)
def sA (B : Bk) (k : Nat) (f : Nat → Int32) : Bk := va_up B k f
abbrev tyL (cI cZ cQ : ClassId) : List (ClassId × FieldType) := [(cI, .int), (cZ, .boolean), (cQ, .object RX2)]
abbrev EK (D : va_G) (cI cZ cQ : ClassId) (U : State) : Prop := va_K D vwCl (tyL cI cZ cQ) U ∧ va_Nw (.methodLinkNest RX0 62 yX3_digit RX3) U ∧ va_Nw (.methodLinkNest RX0 52 yX3_thickness RX3) U ∧ va_Nw (.methodLinkNest RX0 58 yX3_lets RX3) U ∧ va_Nw (.methodLinkNest RX0 84 yX3_isIn RX3) U ∧ va_Nw (.methodLinkNest RX1 35 yX3_lets RX3) U
theorem EK_warm {D : va_G} {cI cZ cQ : ClassId} {s U : State} (hW : s.WarmedH U.vm) (h : EK D cI cZ cQ s) : EK D cI cZ cQ U := ⟨va_K.moved hW.alike h.1, va_Nw.warmM hW h.2.1, va_Nw.warmM hW h.2.2.1, va_Nw.warmM hW h.2.2.2.1, va_Nw.warmM hW h.2.2.2.2.1, va_Nw.warmM hW h.2.2.2.2.2⟩
theorem EK_call {D : va_G} {cI cZ cQ : ClassId} {U : State} {g : JFrame} {mk : MethodId} {a : Array Value} (h : EK D cI cZ cQ U) : EK D cI cZ cQ (U.calling g mk a) := ⟨va_K.moved (u := U) (U := U.calling g mk a) (Vm.Alike.refl U.vm) h.1, va_Nw.same (u := U) rfl rfl h.2.1, va_Nw.same (u := U) rfl rfl h.2.2.1, va_Nw.same (u := U) rfl rfl h.2.2.2.1, va_Nw.same (u := U) rfl rfl h.2.2.2.2.1, va_Nw.same (u := U) rfl rfl h.2.2.2.2.2⟩
-- the pictures: o the object's cell, a k the cell of the array in field k, B k the row (or B k 0 the number) of field k
abbrev wL (cI : ClassId) (o : Nat) (a : Nat → Nat) (L : Bk) : va_W := [(o, .inr (0, [.int (L 0 0), .int (L 1 0), .int (L 2 0), .ref (a 3), .ref (a 4), .ref (a 5), .ref (a 6), .ref (a 7)])), (a 3, .inl (cI, 10, .inl (L 3))), (a 4, .inl (cI, 5, .inl (L 4))), (a 5, .inl (cI, 5, .inl (L 5))), (a 6, .inl (cI, 5, .inl (L 6))), (a 7, .inl (cI, 5, .inl (L 7)))]
abbrev wLL (cI : ClassId) (o : Nat) (a : Nat → Nat) (L : Bk) (o2 : Nat) (a2 : Nat → Nat) (L2 : Bk) : va_W := [(o, .inr (0, [.int (L 0 0), .int (L 1 0), .int (L 2 0), .ref (a 3), .ref (a 4), .ref (a 5), .ref (a 6), .ref (a 7)])), (a 3, .inl (cI, 10, .inl (L 3))), (a 4, .inl (cI, 5, .inl (L 4))), (a 5, .inl (cI, 5, .inl (L 5))), (a 6, .inl (cI, 5, .inl (L 6))), (a 7, .inl (cI, 5, .inl (L 7))), (o2, .inr (0, [.int (L2 0 0), .int (L2 1 0), .int (L2 2 0), .ref (a2 3), .ref (a2 4), .ref (a2 5), .ref (a2 6), .ref (a2 7)])), (a2 3, .inl (cI, 10, .inl (L2 3))), (a2 4, .inl (cI, 5, .inl (L2 4))), (a2 5, .inl (cI, 5, .inl (L2 5))), (a2 6, .inl (cI, 5, .inl (L2 6))), (a2 7, .inl (cI, 5, .inl (L2 7)))]
abbrev wN (cI cZ : ClassId) (o : Nat) (a : Nat → Nat) (N : Bk) : va_W := [(o, .inr (1, [.ref (a 0), .ref (a 1), .ref (a 2), .int (N 3 0)])), (a 0, .inl (cI, 8, .inl (N 0))), (a 1, .inl (cI, 8, .inl (N 1))), (a 2, .inl (cZ, 8, .inl (N 2)))]
abbrev wNL (cI cZ : ClassId) (o : Nat) (a : Nat → Nat) (N : Bk) (o2 : Nat) (a2 : Nat → Nat) (L : Bk) : va_W := [(o, .inr (1, [.ref (a 0), .ref (a 1), .ref (a 2), .int (N 3 0)])), (a 0, .inl (cI, 8, .inl (N 0))), (a 1, .inl (cI, 8, .inl (N 1))), (a 2, .inl (cZ, 8, .inl (N 2))), (o2, .inr (0, [.int (L 0 0), .int (L 1 0), .int (L 2 0), .ref (a2 3), .ref (a2 4), .ref (a2 5), .ref (a2 6), .ref (a2 7)])), (a2 3, .inl (cI, 10, .inl (L 3))), (a2 4, .inl (cI, 5, .inl (L 4))), (a2 5, .inl (cI, 5, .inl (L 5))), (a2 6, .inl (cI, 5, .inl (L 6))), (a2 7, .inl (cI, 5, .inl (L 7)))]
abbrev wR (cI : ClassId) (o : Nat) (a : Nat → Nat) (R : Bk) : va_W := [(o, .inr (2, [.ref (a 0), .int (R 1 0), .int (R 2 0), .int (R 3 0)])), (a 0, .inl (cI, 60, .inl (R 0)))]
-- the system: o its object, ra the array of rows, rr i the object of row i; in sight: row k (cells in rc), the land, the trial, the notebook
abbrev wX (cI cZ cQ : ClassId) (o ra : Nat) (rr : Nat → Nat) (k rc : Nat) (oL : Nat) (aL : Nat → Nat) (oT : Nat) (aT : Nat → Nat) (oN : Nat) (aN : Nat → Nat) (X R L T N : Bk) : va_W := [(o, .inr (3, [.ref ra, .ref oL, .ref oT, .ref oN, .int (X 4 0), .int (X 5 0), .int (X 6 0), .int (X 7 0)])), (ra, .inl (cQ, 4, .inr (.inr (.inr (.inr (fun i => some (rr i))))))), (rr k, .inr (2, [.ref rc, .int (R 1 0), .int (R 2 0), .int (R 3 0)])), (rc, .inl (cI, 60, .inl (R 0))), (oL, .inr (0, [.int (L 0 0), .int (L 1 0), .int (L 2 0), .ref (aL 3), .ref (aL 4), .ref (aL 5), .ref (aL 6), .ref (aL 7)])), (aL 3, .inl (cI, 10, .inl (L 3))), (aL 4, .inl (cI, 5, .inl (L 4))), (aL 5, .inl (cI, 5, .inl (L 5))), (aL 6, .inl (cI, 5, .inl (L 6))), (aL 7, .inl (cI, 5, .inl (L 7))), (oT, .inr (0, [.int (T 0 0), .int (T 1 0), .int (T 2 0), .ref (aT 3), .ref (aT 4), .ref (aT 5), .ref (aT 6), .ref (aT 7)])), (aT 3, .inl (cI, 10, .inl (T 3))), (aT 4, .inl (cI, 5, .inl (T 4))), (aT 5, .inl (cI, 5, .inl (T 5))), (aT 6, .inl (cI, 5, .inl (T 6))), (aT 7, .inl (cI, 5, .inl (T 7))), (oN, .inr (1, [.ref (aN 0), .ref (aN 1), .ref (aN 2), .int (N 3 0)])), (aN 0, .inl (cI, 8, .inl (N 0))), (aN 1, .inl (cI, 8, .inl (N 1))), (aN 2, .inl (cZ, 8, .inl (N 2)))]
-- the same with two rows in sight: k and k2
abbrev wX2 (cI cZ cQ : ClassId) (o ra : Nat) (rr : Nat → Nat) (k rc k2 rc2 : Nat) (oL oT oN : Nat) (X R S : Bk) : va_W := [(o, .inr (3, [.ref ra, .ref oL, .ref oT, .ref oN, .int (X 4 0), .int (X 5 0), .int (X 6 0), .int (X 7 0)])), (ra, .inl (cQ, 4, .inr (.inr (.inr (.inr (fun i => some (rr i))))))), (rr k, .inr (2, [.ref rc, .int (R 1 0), .int (R 2 0), .int (R 3 0)])), (rc, .inl (cI, 60, .inl (R 0))), (rr k2, .inr (2, [.ref rc2, .int (S 1 0), .int (S 2 0), .int (S 3 0)])), (rc2, .inl (cI, 60, .inl (S 0)))]
abbrev wM (cI : ClassId) (o : Nat) (a : Nat → Nat) (M : Bk) : va_W := [(o, .inr (4, [.int (M 0 0), .int (M 1 0), .ref (a 2), .ref (a 3), .ref (a 4), .int (M 5 0), .int (M 6 0), .int (M 7 0), .int (M 8 0), .int (M 9 0), .ref (a 10), .ref (a 11), .ref (a 12), .ref (a 13), .int (M 14 0), .int (M 15 0), .int (M 16 0), .ref (a 17), .ref (a 18), .ref (a 19), .ref (a 20), .int (M 21 0), .int (M 22 0), .ref (a 23), .ref (a 24), .int (M 25 0), .ref (a 26), .ref (a 27), .ref (a 28)])), (a 2, .inl (cI, 4, .inl (M 2))), (a 3, .inl (cI, 4, .inl (M 3))), (a 4, .inl (cI, 240, .inl (M 4))), (a 10, .inl (cI, 10, .inl (M 10))), (a 11, .inl (cI, 5, .inl (M 11))), (a 12, .inl (cI, 5, .inl (M 12))), (a 13, .inl (cI, 5, .inl (M 13))), (a 17, .inl (cI, 10, .inl (M 17))), (a 18, .inl (cI, 15, .inl (M 18))), (a 19, .inl (cI, 10, .inl (M 19))), (a 20, .inl (cI, 5, .inl (M 20))), (a 23, .inl (cI, 5, .inl (M 23))), (a 24, .inl (cI, 5, .inl (M 24))), (a 26, .inl (cI, 8, .inl (M 26))), (a 27, .inl (cI, 8, .inl (M 27))), (a 28, .inl (cI, 8, .inl (M 28)))]
-- guards
def gI {α : Type} (i : Int32) (n : Nat) (x : Option α) : Option α := if i < 0 ∨ n ≤ i.toNatClampNeg then none else x
theorem gI_e {α : Type} {i : Int32} {n : Nat} {x : Option α} {r : α} (h : gI i n x = some r) : vp_in i n ∧ x = some r := by
  unfold gI at h
  by_cases c : i < 0 ∨ n ≤ i.toNatClampNeg
  · rw [if_pos c] at h; cases h
  · rw [if_neg c] at h; exact ⟨c, h⟩
theorem gI_ok {α : Type} {i : Int32} {n : Nat} {x : Option α} (h : vp_in i n) : gI i n x = x := if_neg h
def gN {α : Type} (y : Int32) (x : Option α) : Option α := if y = 0 then none else x
theorem gN_e {α : Type} {y : Int32} {x : Option α} {r : α} (h : gN y x = some r) : (¬ y = 0) ∧ x = some r := by
  unfold gN at h
  by_cases c : y = 0
  · rw [if_pos c] at h; cases h
  · rw [if_neg c] at h; exact ⟨c, h⟩
def gJ {α : Type} (y : Int64) (x : Option α) : Option α := if y = 0 then none else x
theorem gJ_e {α : Type} {y : Int64} {x : Option α} {r : α} (h : gJ y x = some r) : (¬ y = 0) ∧ x = some r := by
  unfold gJ at h
  by_cases c : y = 0
  · rw [if_pos c] at h; cases h
  · rw [if_neg c] at h; exact ⟨c, h⟩
def gB {α : Type} (v : Int32) (x : Option α) : Option α := if v = 0 ∨ v = 1 then x else none
theorem gB_e {α : Type} {v : Int32} {x : Option α} {r : α} (h : gB v x = some r) : (v = 0 ∨ v = 1) ∧ x = some r := by
  unfold gB at h
  by_cases c : v = 0 ∨ v = 1
  · rw [if_pos c] at h; exact ⟨c, h⟩
  · rw [if_neg c] at h; cases h
theorem nzB {v : Int32} (h : v = 0 ∨ v = 1) : narrow .boolean (.int v) = .int v := by
  rcases h with h | h <;> subst h <;> rfl
def gE {α : Type} (a b : Nat) (x : Option α) : Option α := if a = b then x else none
theorem gE_e {α : Type} {a b : Nat} {x : Option α} {r : α} (h : gE a b x = some r) : a = b ∧ x = some r := by
  unfold gE at h
  by_cases c : a = b
  · rw [if_pos c] at h; exact ⟨c, h⟩
  · rw [if_neg c] at h; cases h
def gC {α : Type} (i j n : Int32) (n0 n1 : Nat) (x : Option α) : Option α := if (¬ i < 0) ∧ (¬ j < 0) ∧ (¬ n < 0) ∧ i.toNatClampNeg + n.toNatClampNeg ≤ n0 ∧ j.toNatClampNeg + n.toNatClampNeg ≤ n1 then x else none
theorem gC_e {α : Type} {i j n : Int32} {n0 n1 : Nat} {x : Option α} {r : α} (h : gC i j n n0 n1 x = some r) : ((¬ i < 0) ∧ (¬ j < 0) ∧ (¬ n < 0) ∧ i.toNatClampNeg + n.toNatClampNeg ≤ n0 ∧ j.toNatClampNeg + n.toNatClampNeg ≤ n1) ∧ x = some r := by
  unfold gC at h
  by_cases c : (¬ i < 0) ∧ (¬ j < 0) ∧ (¬ n < 0) ∧ i.toNatClampNeg + n.toNatClampNeg ≤ n0 ∧ j.toNatClampNeg + n.toNatClampNeg ≤ n1
  · rw [if_pos c] at h; exact ⟨c, h⟩
  · rw [if_neg c] at h; cases h
theorem bd {α ρ : Type} {x : Option α} {κ : α → Option ρ} {r : ρ} (h : x.bind κ = some r) : ∃ v, x = some v ∧ κ v = some r := by
  cases x with
  | none => cases h
  | some v => exact ⟨v, rfl, h⟩
theorem iT {ρ : Type} {c : Prop} [Decidable c] {x y : Option ρ} {r : ρ} (hc : c) (h : (if c then x else y) = some r) : x = some r := by rwa [if_pos hc] at h
theorem iF {ρ : Type} {c : Prop} [Decidable c] {x y : Option ρ} {r : ρ} (hc : ¬ c) (h : (if c then x else y) = some r) : y = some r := by rwa [if_neg hc] at h
-- loops with fuel
def fu1 {A ρ : Type} (F : (A → Option ρ) → A → Option ρ) : Nat → A → Option ρ
  | 0, _ => none
  | n + 1, a => F (fu1 F n) a
def fu2 {A B ρ : Type} (F : (A → B → Option ρ) → A → B → Option ρ) : Nat → A → B → Option ρ
  | 0, _, _ => none
  | n + 1, a, b => F (fu2 F n) a b
def fu3 {A B C ρ : Type} (F : (A → B → C → Option ρ) → A → B → C → Option ρ) : Nat → A → B → C → Option ρ
  | 0, _, _, _ => none
  | n + 1, a, b, c => F (fu3 F n) a b c
def fu4 {A B C E ρ : Type} (F : (A → B → C → E → Option ρ) → A → B → C → E → Option ρ) : Nat → A → B → C → E → Option ρ
  | 0, _, _, _, _ => none
  | n + 1, a, b, c, d => F (fu4 F n) a b c d
theorem zl1 {A ρ : Type} {G : (A → Option ρ) → (A → Option ρ) → A → Option ρ} {κ : A → Option ρ} {N : Nat} {a0 : A} {r : ρ} (P X : A → Prop) (hf : fu1 (G κ) N a0 = some r) (hx : ∀ a, κ a = some r → X a) (hs : ∀ (κ' self : A → Option ρ), (∀ a, κ' a = some r → X a) → (∀ a, self a = some r → P a) → ∀ a, G κ' self a = some r → P a) : P a0 := by
  have key : ∀ n a, fu1 (G κ) n a = some r → P a := by
    intro n
    induction n with
    | zero => intro a h; cases h
    | succ n ih => intro a h; exact hs κ (fu1 (G κ) n) hx ih a h
  exact key N a0 hf
theorem zl2 {A B ρ : Type} {G : (A → B → Option ρ) → (A → B → Option ρ) → A → B → Option ρ} {κ : A → B → Option ρ} {N : Nat} {a0 : A} {b0 : B} {r : ρ} (P X : A → B → Prop) (hf : fu2 (G κ) N a0 b0 = some r) (hx : ∀ a b, κ a b = some r → X a b) (hs : ∀ (κ' self : A → B → Option ρ), (∀ a b, κ' a b = some r → X a b) → (∀ a b, self a b = some r → P a b) → ∀ a b, G κ' self a b = some r → P a b) : P a0 b0 := by
  have key : ∀ n a b, fu2 (G κ) n a b = some r → P a b := by
    intro n
    induction n with
    | zero => intro a b h; cases h
    | succ n ih => intro a b h; exact hs κ (fu2 (G κ) n) hx ih a b h
  exact key N a0 b0 hf
theorem zl3 {A B C ρ : Type} {G : (A → B → C → Option ρ) → (A → B → C → Option ρ) → A → B → C → Option ρ} {κ : A → B → C → Option ρ} {N : Nat} {a0 : A} {b0 : B} {c0 : C} {r : ρ} (P X : A → B → C → Prop) (hf : fu3 (G κ) N a0 b0 c0 = some r) (hx : ∀ a b c, κ a b c = some r → X a b c) (hs : ∀ (κ' self : A → B → C → Option ρ), (∀ a b c, κ' a b c = some r → X a b c) → (∀ a b c, self a b c = some r → P a b c) → ∀ a b c, G κ' self a b c = some r → P a b c) : P a0 b0 c0 := by
  have key : ∀ n a b c, fu3 (G κ) n a b c = some r → P a b c := by
    intro n
    induction n with
    | zero => intro a b c h; cases h
    | succ n ih => intro a b c h; exact hs κ (fu3 (G κ) n) hx ih a b c h
  exact key N a0 b0 c0 hf
theorem zl4 {A B C E ρ : Type} {G : (A → B → C → E → Option ρ) → (A → B → C → E → Option ρ) → A → B → C → E → Option ρ} {κ : A → B → C → E → Option ρ} {N : Nat} {a0 : A} {b0 : B} {c0 : C} {d0 : E} {r : ρ} (P X : A → B → C → E → Prop) (hf : fu4 (G κ) N a0 b0 c0 d0 = some r) (hx : ∀ a b c d, κ a b c d = some r → X a b c d) (hs : ∀ (κ' self : A → B → C → E → Option ρ), (∀ a b c d, κ' a b c d = some r → X a b c d) → (∀ a b c d, self a b c d = some r → P a b c d) → ∀ a b c d, G κ' self a b c d = some r → P a b c d) : P a0 b0 c0 d0 := by
  have key : ∀ n a b c d, fu4 (G κ) n a b c d = some r → P a b c d := by
    intro n
    induction n with
    | zero => intro a b c d h; cases h
    | succ n ih => intro a b c d h; exact hs κ (fu4 (G κ) n) hx ih a b c d h
  exact key N a0 b0 c0 d0 hf
-- contracts: a method that reads alone
abbrev RoP (D : va_G) (cI cZ cQ : ClassId) (av : List Value) (w : va_W) : Array Value → State → Prop := va_Pc av (fun U => va_P D vwCl w U.heap ∧ EK D cI cZ cQ U)
theorem RoP_blind {D : va_G} {cI cZ cQ : ClassId} {av : List Value} {w : va_W} : FrameBlind (RoP D cI cZ cQ av w) := fun _ _ _ _ h => ⟨h.1, h.2.1, EK_call h.2.2⟩
section CON
variable {l : Launch} {y : MethodName} {ws ws' : List Cond} {rm : Room} {cc : ByteArray} {maxL : Nat} {D : va_G} {cI cZ cQ : ClassId} {av : List Value} {w w0 w1 : va_W}
theorem metRi {ty : FieldType} {r : Int32} (hy : plainName y.cls = true) (hw : ws = Cond.code y cc maxL (some ty) :: ws') (hlen : (lg_sl av).length ≤ maxL)
    (body : ∀ p e s m args below meth c Q, CallFix p m c cc maxL s args ws y.cls → EK D cI cZ cQ s → va_P D vwCl w s.heap → (∀ pc ls, narrow ty (.int r) = .int r → decode cc pc = .ok (.ireturn, 1) → W p l e rm s m args below meth c s.heap [] 0 0 Q (F0 m pc ls [.int r])) → ∀ ls, lv_has ls maxL (lv_args 0 av) → W p l e rm s m args below meth c s.heap [] 0 0 Q (F0 m 0 ls [])) :
    Met l y ws rm (RoP D cI cZ cQ av w) (vp_Si (fun r' => r' = r)) 0 0 (fun _ => False) := by
  refine Met.ofW (cc := cc) (maxL := maxL) (ret := some ty) hy hw ?_
  intro p e s m args below meth c s₁ B hml hv
  obtain ⟨rfl, hP, hK⟩ := hv
  have hl := lv_entry av (n := maxL) hlen
  rw [lg_entry_eq]
  refine body p e s m av.toArray below meth c _ ⟨B.exec, B.bytes, hml, findClass_of_methodNamed B.named, atoms_spec (ws := ws) B.pre⟩ hK hP ?_ _ hl
  intro pc ls hn hd
  exact W.zret B.exec B.bytes B.returns hn (fun t ht _ => ⟨r, rfl, rfl, ht⟩) (fun _ h => by cases h) hd
theorem metRl {r : Int64} (hy : plainName y.cls = true) (hw : ws = Cond.code y cc maxL (some .long) :: ws') (hlen : (lg_sl av).length ≤ maxL)
    (body : ∀ p e s m args below meth c Q, CallFix p m c cc maxL s args ws y.cls → EK D cI cZ cQ s → va_P D vwCl w s.heap → (∀ pc ls, decode cc pc = .ok (.lreturn, 1) → W p l e rm s m args below meth c s.heap [] 0 0 Q (F0 m pc ls [.long r])) → ∀ ls, lv_has ls maxL (lv_args 0 av) → W p l e rm s m args below meth c s.heap [] 0 0 Q (F0 m 0 ls [])) :
    Met l y ws rm (RoP D cI cZ cQ av w) (vp_Sl (fun r' => r' = r)) 0 0 (fun _ => False) := by
  refine Met.ofW (cc := cc) (maxL := maxL) (ret := some .long) hy hw ?_
  intro p e s m args below meth c s₁ B hml hv
  obtain ⟨rfl, hP, hK⟩ := hv
  have hl := lv_entry av (n := maxL) hlen
  rw [lg_entry_eq]
  refine body p e s m av.toArray below meth c _ ⟨B.exec, B.bytes, hml, findClass_of_methodNamed B.named, atoms_spec (ws := ws) B.pre⟩ hK hP ?_ _ hl
  intro pc ls hd
  exact W.lret B.exec B.bytes B.returns (fun t ht _ => ⟨r, rfl, rfl, ht⟩) (fun _ h => by cases h) hd
end CON
-- contracts: a method that writes (no cell is made)
abbrev WrP (D : va_G) (cI cZ cQ : ClassId) (av : List Value) (w : va_W) (sz : Nat) : Array Value → State → Prop := va_Pc av (fun U => U.heap.size = sz ∧ va_P D vwCl w U.heap ∧ EK D cI cZ cQ U ∧ va_D (fun _ => True) w)
theorem WrP_blind {D : va_G} {cI cZ cQ : ClassId} {av : List Value} {w : va_W} {sz : Nat} : FrameBlind (WrP D cI cZ cQ av w sz) := fun _ _ _ _ h => ⟨h.1, h.2.1, h.2.2.1, EK_call h.2.2.2.1, h.2.2.2.2⟩
abbrev WrQi (D : va_G) (r : Int32) (w0 w1 : va_W) (sz : Nat) : Array Value → State → Outcome → State → Prop := va_Qi (S := Unit) (fun r' _ => r' = r) (fun _ t => va_P D vwCl w1 t.heap) (va_A w0 sz)
abbrev WrQl (D : va_G) (r : Int64) (w0 w1 : va_W) (sz : Nat) : Array Value → State → Outcome → State → Prop := va_Ql (S := Unit) (fun r' _ => r' = r) (fun _ t => va_P D vwCl w1 t.heap) (va_A w0 sz)
abbrev WrQv (D : va_G) (w0 w1 : va_W) (sz : Nat) : Array Value → State → Outcome → State → Prop := va_Qv (S := Unit) (fun _ => True) (fun _ t => va_P D vwCl w1 t.heap) (va_A w0 sz)
section CONW
variable {l : Launch} {y : MethodName} {ws ws' : List Cond} {rm : Room} {cc : ByteArray} {maxL sz : Nat} {D : va_G} {cI cZ cQ : ClassId} {av : List Value} {w w0 w1 : va_W}
theorem metWi {ty : FieldType} {r : Int32} (hy : plainName y.cls = true) (hw : ws = Cond.code y cc maxL (some ty) :: ws') (hlen : (lg_sl av).length ≤ maxL)
    (body : ∀ p e s m args below meth c Q A, CallFix p m c cc maxL s args ws y.cls → EK D cI cZ cQ s → va_P D vwCl w0 s.heap → va_D A w0 → (∀ q : Nat, s.heap.size ≤ q → A q) → (∀ pc ls H locs, narrow ty (.int r) = .int r → decode cc pc = .ok (.ireturn, 1) → va_P D vwCl w1 H → va_S A s.heap H locs → W p l e rm s m args below meth c H locs 0 0 Q (F0 m pc ls [.int r])) → ∀ ls, lv_has ls maxL (lv_args 0 av) → W p l e rm s m args below meth c s.heap [] 0 0 Q (F0 m 0 ls [])) :
    Met l y ws rm (WrP D cI cZ cQ av w0 sz) (WrQi D r w0 w1 sz) 0 0 (va_A w0 sz) := by
  refine Met.ofW (cc := cc) (maxL := maxL) (ret := some ty) hy hw ?_
  intro p e s m args below meth c s₁ B hml hv
  obtain ⟨rfl, hsz, hP, hK, hD0⟩ := hv
  subst hsz
  have hl := lv_entry av (n := maxL) hlen
  rw [lg_entry_eq]
  refine body p e s m av.toArray below meth c _ (va_A w0 s.heap.size) ⟨B.exec, B.bytes, hml, findClass_of_methodNamed B.named, atoms_spec (ws := ws) B.pre⟩ hK hP (hD0.self (sz := s.heap.size)) (fun q h => Or.inr h) ?_ _ hl
  intro pc ls H locs hn hd hP1 hS
  exact W.zret B.exec B.bytes B.returns hn (fun t ht _ => ⟨⟨r, (), rfl, rfl, by rw [ht]; exact hP1⟩, hS.F ht⟩) hS.2.2 hd
theorem metWl {r : Int64} (hy : plainName y.cls = true) (hw : ws = Cond.code y cc maxL (some .long) :: ws') (hlen : (lg_sl av).length ≤ maxL)
    (body : ∀ p e s m args below meth c Q A, CallFix p m c cc maxL s args ws y.cls → EK D cI cZ cQ s → va_P D vwCl w0 s.heap → va_D A w0 → (∀ q : Nat, s.heap.size ≤ q → A q) → (∀ pc ls H locs, decode cc pc = .ok (.lreturn, 1) → va_P D vwCl w1 H → va_S A s.heap H locs → W p l e rm s m args below meth c H locs 0 0 Q (F0 m pc ls [.long r])) → ∀ ls, lv_has ls maxL (lv_args 0 av) → W p l e rm s m args below meth c s.heap [] 0 0 Q (F0 m 0 ls [])) :
    Met l y ws rm (WrP D cI cZ cQ av w0 sz) (WrQl D r w0 w1 sz) 0 0 (va_A w0 sz) := by
  refine Met.ofW (cc := cc) (maxL := maxL) (ret := some .long) hy hw ?_
  intro p e s m args below meth c s₁ B hml hv
  obtain ⟨rfl, hsz, hP, hK, hD0⟩ := hv
  subst hsz
  have hl := lv_entry av (n := maxL) hlen
  rw [lg_entry_eq]
  refine body p e s m av.toArray below meth c _ (va_A w0 s.heap.size) ⟨B.exec, B.bytes, hml, findClass_of_methodNamed B.named, atoms_spec (ws := ws) B.pre⟩ hK hP (hD0.self (sz := s.heap.size)) (fun q h => Or.inr h) ?_ _ hl
  intro pc ls H locs hd hP1 hS
  exact W.lret B.exec B.bytes B.returns (fun t ht _ => ⟨⟨r, (), rfl, rfl, by rw [ht]; exact hP1⟩, hS.F ht⟩) hS.2.2 hd
theorem metWv (hy : plainName y.cls = true) (hw : ws = Cond.code y cc maxL none :: ws') (hlen : (lg_sl av).length ≤ maxL)
    (body : ∀ p e s m args below meth c Q A, CallFix p m c cc maxL s args ws y.cls → EK D cI cZ cQ s → va_P D vwCl w0 s.heap → va_D A w0 → (∀ q : Nat, s.heap.size ≤ q → A q) → (∀ pc ls H locs, decode cc pc = .ok (.return_, 1) → va_P D vwCl w1 H → va_S A s.heap H locs → W p l e rm s m args below meth c H locs 0 0 Q (F0 m pc ls [])) → ∀ ls, lv_has ls maxL (lv_args 0 av) → W p l e rm s m args below meth c s.heap [] 0 0 Q (F0 m 0 ls [])) :
    Met l y ws rm (WrP D cI cZ cQ av w0 sz) (WrQv D w0 w1 sz) 0 0 (va_A w0 sz) := by
  refine Met.ofW (cc := cc) (maxL := maxL) (ret := none) hy hw ?_
  intro p e s m args below meth c s₁ B hml hv
  obtain ⟨rfl, hsz, hP, hK, hD0⟩ := hv
  subst hsz
  have hl := lv_entry av (n := maxL) hlen
  rw [lg_entry_eq]
  refine body p e s m av.toArray below meth c _ (va_A w0 s.heap.size) ⟨B.exec, B.bytes, hml, findClass_of_methodNamed B.named, atoms_spec (ws := ws) B.pre⟩ hK hP (hD0.self (sz := s.heap.size)) (fun q h => Or.inr h) ?_ _ hl
  intro pc ls H locs hd hP1 hS
  exact W.vret B.exec B.bytes B.returns (fun t ht _ => ⟨⟨(), rfl, trivial, by rw [ht]; exact hP1⟩, hS.F ht⟩) hS.2.2 hd
end CONW
-- putting a callee's cells back among the caller's
def putAt : va_W → List Nat → va_W → va_W
  | ws, i :: is, q :: qs => putAt (ws.set i q) is qs
  | ws, _, _ => ws
theorem putAt_get : ∀ (is : List Nat) (ws w1 : va_W) (k : Nat) (q : Nat × va_E), is.length = w1.length → (putAt ws is w1)[k]? = some q → q ∈ w1 ∨ (k ∉ is ∧ ws[k]? = some q)
  | [], ws, w1, k, q, _, h => Or.inr ⟨List.not_mem_nil, by cases w1 <;> exact h⟩
  | i :: is, ws, [], k, q, hl, h => by cases hl
  | i :: is, ws, x :: w1, k, q, hl, h => by
    rcases putAt_get is (ws.set i x) w1 k q (Nat.succ.inj hl) h with h1 | ⟨h1, h2⟩
    · exact Or.inl (List.mem_cons_of_mem _ h1)
    · by_cases e : i = k
      · subst e
        rw [List.getElem?_set] at h2
        by_cases hlt : i < ws.length
        · simp only [if_true, hlt, if_pos] at h2
          cases h2
          exact Or.inl List.mem_cons_self
        · simp only [if_true, hlt, if_false] at h2
          cases h2
      · rw [List.getElem?_set_ne e] at h2
        refine Or.inr ⟨fun hm => ?_, h2⟩
        rcases List.mem_cons.mp hm with e2 | e2
        · exact e e2.symm
        · exact h1 e2
theorem va_D_addr {A : Nat → Prop} {ws ws' : va_W} (he : ws'.map Prod.fst = ws.map Prod.fst) (h : va_D A ws) : va_D A ws' := by
  have key : ∀ (i : Nat) (p : Nat × va_E), ws'[i]? = some p → ∃ p0, ws[i]? = some p0 ∧ p0.1 = p.1 := by
    intro i p hp
    have h1 : (ws'.map Prod.fst)[i]? = some p.1 := by rw [List.getElem?_map, hp]; rfl
    rw [he, List.getElem?_map] at h1
    cases hq : ws[i]? with
    | none => rw [hq] at h1; cases h1
    | some p0 => rw [hq] at h1; exact ⟨p0, rfl, Option.some.inj h1⟩
  refine ⟨fun i j p q hp hq e => ?_, fun k q hq => ?_⟩
  · obtain ⟨p0, a1, b1⟩ := key i p hp
    obtain ⟨q0, a2, b2⟩ := key j q hq
    exact h.1 i j p0 q0 a1 a2 (by rw [b1, b2]; exact e)
  · obtain ⟨q0, a2, b2⟩ := key k q hq
    rw [← b2]; exact h.2 k q0 a2
theorem mapGet {ws wc : va_W} {is : List Nat} (hC : is.map (fun i => ws[i]?) = wc.map some) (k : Nat) (q : Nat × va_E) (hq : wc[k]? = some q) : ∃ i, is[k]? = some i ∧ ws[i]? = some q := by
  have h1 : (is.map (fun i => ws[i]?))[k]? = some (some q) := by rw [hC, List.getElem?_map, hq]; rfl
  rw [List.getElem?_map] at h1
  cases hi : is[k]? with
  | none => rw [hi] at h1; cases h1
  | some i => rw [hi] at h1; exact ⟨i, rfl, Option.some.inj h1⟩
theorem va_P_sub' {D : va_G} {cl : List vw_C} {ws wc : va_W} {H : Heap} (h : va_P D cl ws H) (is : List Nat) (hC : is.map (fun i => ws[i]?) = wc.map some) : va_P D cl wc H := by
  intro k q hq
  obtain ⟨i, -, hi⟩ := mapGet hC k q hq
  exact h i q hi
theorem zjoin {A : Nat → Prop} {D : va_G} {cl : List vw_C} {ws wc w1 ws' : va_W} {H H1 : Heap} (hP : va_P D cl ws H) (hD : va_D A ws) (is : List Nat) (hC : is.map (fun i => ws[i]?) = wc.map some) (hl : is.length = w1.length) (hput : putAt ws is w1 = ws') (had : ws'.map Prod.fst = ws.map Prod.fst)
    (hk : ∀ q : Nat, q < H.size → ¬ va_A wc H.size q → H1[q]? = H[q]?) (hP1 : va_P D cl w1 H1) : va_P D cl ws' H1 ∧ va_D A ws' := by
  refine ⟨fun k q hq => ?_, va_D_addr had hD⟩
  rw [← hput] at hq
  rcases putAt_get is ws w1 k q hl hq with h | ⟨h1, h2⟩
  · obtain ⟨j, hj⟩ := List.getElem?_of_mem h
    exact hP1 j q hj
  · have hlt := (hP k q h2).lt
    refine (hP k q h2).kept (hk q.1 hlt (fun h => ?_))
    rcases h with ⟨k2, e, h⟩ | h
    · obtain ⟨j, h3, h4⟩ := mapGet hC k2 (q.1, e) h
      have hij := hD.1 k j q (q.1, e) h2 h4 rfl
      subst hij
      exact h1 (List.mem_of_getElem? h3)
    · omega
-- calls
section CALLS
variable {p : Program} {l : Launch} {e : Env} {R : Room} {s : State} {m : MethodId} {args : Array Value} {below : List Frame} {meth : Method} {c : Code} {H : Heap} {locs : List Loc} {Q : State → Prop}
variable {y : MethodName} {bytes cc : ByteArray} {maxL nL n index : Nat} {ret : Option FieldType} {ws : List Cond} {rm : Room} {Ts : List Cond} {own C host : String} {b : Addr} {As rest st : List Value} {pc : Nat} {ls : Array Slot}
variable {D : va_G} {cI cZ cQ : ClassId} {wc w1 wB wB' : va_W} {A : Nat → Prop} {H0 : Heap} {ci : Nat} {fs : List Value} {q : vw_C}
theorem roPreV (hK : EK D cI cZ cQ s) (hP : va_P D vwCl wc H) (hc : vwCl[ci]? = some q) (he : wc[0]? = some (b, .inr (ci, fs))) (hC : q.1 = C) : PreV s H C b (RoP D cI cZ cQ (.ref b :: As) wc) As :=
  ⟨RoP_blind, by rw [← hC]; exact va_recv hK.1 hP hc he, fun U hU hW => ⟨rfl, by rw [hU]; exact hP, EK_warm hW hK⟩⟩
theorem roPreS (hK : EK D cI cZ cQ s) (hP : va_P D vwCl wc H) : PreS s H (RoP D cI cZ cQ As wc) As :=
  ⟨RoP_blind, fun U hU hW => ⟨rfl, by rw [hU]; exact hP, EK_warm hW hK⟩⟩
theorem wrPreV (hK : EK D cI cZ cQ s) (hP : va_P D vwCl wc H) (hD : va_D A wc) (hc : vwCl[ci]? = some q) (he : wc[0]? = some (b, .inr (ci, fs))) (hC : q.1 = C) : PreV s H C b (WrP D cI cZ cQ (.ref b :: As) wc H.size) As :=
  ⟨WrP_blind, by rw [← hC]; exact va_recv hK.1 hP hc he, fun U hU hW => ⟨rfl, by rw [hU], by rw [hU]; exact hP, EK_warm hW hK, hD.weaken (fun _ _ _ _ => trivial)⟩⟩
theorem wrPreS (hK : EK D cI cZ cQ s) (hP : va_P D vwCl wc H) (hD : va_D A wc) : PreS s H (WrP D cI cZ cQ As wc H.size) As :=
  ⟨WrP_blind, fun U hU hW => ⟨rfl, by rw [hU], by rw [hU]; exact hP, EK_warm hW hK, hD.weaken (fun _ _ _ _ => trivial)⟩⟩
theorem roVi {r : Int32} (CF : CallFix p m c cc nL s args Ts own) (hM : Met l y ws rm (RoP D cI cZ cQ (.ref b :: As) wc) (vp_Si (fun r' => r' = r)) 0 0 (fun _ => False)) (cw : CallW R s args own C index y bytes maxL ret ws rm 0 0 n) (hK : EK D cI cZ cQ s) (hP : va_P D vwCl wc H) (hc : vwCl[ci]? = some q) (he : wc[0]? = some (b, .inr (ci, fs))) (hC : q.1 = C) (hn : As.length = n) (hsz : ls.size = nL) (hst : st = As.reverse ++ .ref b :: rest) (hW : (rest.map fun v => v.category).sum ≤ 8) (hdg : decode cc pc = .ok (.invokevirtual index, 3))
    (kk : W p l e R s m args below meth c H locs 0 0 Q (F0 m (pc + 3) ls (.int r :: rest))) : W p l e R s m args below meth c H locs 0 0 Q (F0 m pc ls st) :=
  vp_callSi (W.runV CF hM cw (roPreV hK hP hc he hC) rfl hn hsz hst (lv_room hW) hdg ⟨Nat.zero_le _, Nat.zero_le _⟩) (fun _ e => by subst e; exact kk)
theorem roVl {r : Int64} (CF : CallFix p m c cc nL s args Ts own) (hM : Met l y ws rm (RoP D cI cZ cQ (.ref b :: As) wc) (vp_Sl (fun r' => r' = r)) 0 0 (fun _ => False)) (cw : CallW R s args own C index y bytes maxL ret ws rm 0 0 n) (hK : EK D cI cZ cQ s) (hP : va_P D vwCl wc H) (hc : vwCl[ci]? = some q) (he : wc[0]? = some (b, .inr (ci, fs))) (hC : q.1 = C) (hn : As.length = n) (hsz : ls.size = nL) (hst : st = As.reverse ++ .ref b :: rest) (hW : (rest.map fun v => v.category).sum ≤ 8) (hdg : decode cc pc = .ok (.invokevirtual index, 3))
    (kk : W p l e R s m args below meth c H locs 0 0 Q (F0 m (pc + 3) ls (.long r :: rest))) : W p l e R s m args below meth c H locs 0 0 Q (F0 m pc ls st) :=
  vp_callSl (W.runV CF hM cw (roPreV hK hP hc he hC) rfl hn hsz hst (lv_room hW) hdg ⟨Nat.zero_le _, Nat.zero_le _⟩) (fun _ e => by subst e; exact kk)
theorem roSi {r : Int32} (CF : CallFix p m c cc nL s args Ts own) (hM : Met l y ws rm (RoP D cI cZ cQ As wc) (vp_Si (fun r' => r' = r)) 0 0 (fun _ => False)) (cw : CallB R s args own index y bytes maxL ret ws rm 0 0 n ∧ (Cond.static y).before args s = true) (hK : EK D cI cZ cQ s) (hP : va_P D vwCl wc H) (hn : As.length = n) (hsz : ls.size = nL) (hst : st = As.reverse ++ rest) (hW : (rest.map fun v => v.category).sum ≤ 8) (hdg : decode cc pc = .ok (.invokestatic index, 3))
    (kk : W p l e R s m args below meth c H locs 0 0 Q (F0 m (pc + 3) ls (.int r :: rest))) : W p l e R s m args below meth c H locs 0 0 Q (F0 m pc ls st) :=
  vp_callSi (W.runS CF hM cw (roPreS hK hP) rfl hn hsz hst (lv_room hW) hdg ⟨Nat.zero_le _, Nat.zero_le _⟩) (fun _ e => by subst e; exact kk)
theorem roSl {r : Int64} (CF : CallFix p m c cc nL s args Ts own) (hM : Met l y ws rm (RoP D cI cZ cQ As wc) (vp_Sl (fun r' => r' = r)) 0 0 (fun _ => False)) (cw : CallB R s args own index y bytes maxL ret ws rm 0 0 n ∧ (Cond.static y).before args s = true) (hK : EK D cI cZ cQ s) (hP : va_P D vwCl wc H) (hn : As.length = n) (hsz : ls.size = nL) (hst : st = As.reverse ++ rest) (hW : (rest.map fun v => v.category).sum ≤ 8) (hdg : decode cc pc = .ok (.invokestatic index, 3))
    (kk : W p l e R s m args below meth c H locs 0 0 Q (F0 m (pc + 3) ls (.long r :: rest))) : W p l e R s m args below meth c H locs 0 0 Q (F0 m pc ls st) :=
  vp_callSl (W.runS CF hM cw (roPreS hK hP) rfl hn hsz hst (lv_room hW) hdg ⟨Nat.zero_le _, Nat.zero_le _⟩) (fun _ e => by subst e; exact kk)
theorem roNi {r : Int32} (CF : CallFix p m c cc nL s args Ts own) (hM : Met l y ws rm (RoP D cI cZ cQ As wc) (vp_Si (fun r' => r' = r)) 0 0 (fun _ => False)) (cw : va_CN R s args own index y host bytes maxL ret ws rm 0 0 n) (hstt : (Cond.static y).before args s = true) (hK : EK D cI cZ cQ s) (hP : va_P D vwCl wc H) (hn : As.length = n) (hsz : ls.size = nL) (hst : st = As.reverse ++ rest) (hW : (rest.map fun v => v.category).sum ≤ 8) (hdg : decode cc pc = .ok (.invokestatic index, 3))
    (kk : W p l e R s m args below meth c H locs 0 0 Q (F0 m (pc + 3) ls (.int r :: rest))) : W p l e R s m args below meth c H locs 0 0 Q (F0 m pc ls st) :=
  vp_callSi (va_runSN CF hM ⟨cw, hstt, trivial⟩ (roPreS hK hP) rfl hn hsz hst (lv_room hW) hdg ⟨Nat.zero_le _, Nat.zero_le _⟩).run (fun _ e => by subst e; exact kk)
theorem wrVi {r : Int32} (CF : CallFix p m c cc nL s args Ts own) (hM : Met l y ws rm (WrP D cI cZ cQ (.ref b :: As) wc H.size) (WrQi D r wc w1 H.size) 0 0 (va_A wc H.size)) (cw : CallW R s args own C index y bytes maxL ret ws rm 0 0 n) (hK : EK D cI cZ cQ s) (hP : va_P D vwCl wB H) (hD : va_D A wB) (hS : va_S A H0 H locs) (hA : ∀ q : Nat, H0.size ≤ q → A q) (is : List Nat) (hIs : is.map (fun i => wB[i]?) = wc.map some) (hnd : va_nd is = true) (hlen : is.length = w1.length) (hput : putAt wB is w1 = wB') (had : wB'.map Prod.fst = wB.map Prod.fst) (hc : vwCl[ci]? = some q) (he : wc[0]? = some (b, .inr (ci, fs))) (hC : q.1 = C) (hn : As.length = n) (hsz : ls.size = nL) (hst : st = As.reverse ++ .ref b :: rest) (hW : (rest.map fun v => v.category).sum ≤ 8) (hdg : decode cc pc = .ok (.invokevirtual index, 3))
    (kk : ∀ (H1 : Heap) (locs1 : List Loc), va_P D vwCl wB' H1 → va_D A wB' → va_S A H0 H1 locs1 → W p l e R s m args below meth c H1 locs1 0 0 Q (F0 m (pc + 3) ls (.int r :: rest))) : W p l e R s m args below meth c H locs 0 0 Q (F0 m pc ls st) := by
  have hF := va_free (wc := wc) hD hS hA is hIs
  refine va_calli (va_runV CF hM cw (wrPreV hK (va_P_sub' hP is hIs) (hD.sub is hnd hIs) hc he hC) rfl hn hsz hst (lv_room hW) hdg ⟨Nat.zero_le _, Nat.zero_le _⟩) hS (fun q _ h => hF q h) hF (fun r' u t H1 locs1 ht hvm hw hB hz1 hk1 hS1 => ?_)
  subst hw
  rw [ht] at hB
  obtain ⟨hP', hD'⟩ := zjoin hP hD is hIs hlen hput had hk1 hB
  exact kk H1 locs1 hP' hD' hS1
theorem wrVl {r : Int64} (CF : CallFix p m c cc nL s args Ts own) (hM : Met l y ws rm (WrP D cI cZ cQ (.ref b :: As) wc H.size) (WrQl D r wc w1 H.size) 0 0 (va_A wc H.size)) (cw : CallW R s args own C index y bytes maxL ret ws rm 0 0 n) (hK : EK D cI cZ cQ s) (hP : va_P D vwCl wB H) (hD : va_D A wB) (hS : va_S A H0 H locs) (hA : ∀ q : Nat, H0.size ≤ q → A q) (is : List Nat) (hIs : is.map (fun i => wB[i]?) = wc.map some) (hnd : va_nd is = true) (hlen : is.length = w1.length) (hput : putAt wB is w1 = wB') (had : wB'.map Prod.fst = wB.map Prod.fst) (hc : vwCl[ci]? = some q) (he : wc[0]? = some (b, .inr (ci, fs))) (hC : q.1 = C) (hn : As.length = n) (hsz : ls.size = nL) (hst : st = As.reverse ++ .ref b :: rest) (hW : (rest.map fun v => v.category).sum ≤ 8) (hdg : decode cc pc = .ok (.invokevirtual index, 3))
    (kk : ∀ (H1 : Heap) (locs1 : List Loc), va_P D vwCl wB' H1 → va_D A wB' → va_S A H0 H1 locs1 → W p l e R s m args below meth c H1 locs1 0 0 Q (F0 m (pc + 3) ls (.long r :: rest))) : W p l e R s m args below meth c H locs 0 0 Q (F0 m pc ls st) := by
  have hF := va_free (wc := wc) hD hS hA is hIs
  refine va_calll (va_runV CF hM cw (wrPreV hK (va_P_sub' hP is hIs) (hD.sub is hnd hIs) hc he hC) rfl hn hsz hst (lv_room hW) hdg ⟨Nat.zero_le _, Nat.zero_le _⟩) hS (fun q _ h => hF q h) hF (fun r' u t H1 locs1 ht hvm hw hB hz1 hk1 hS1 => ?_)
  subst hw
  rw [ht] at hB
  obtain ⟨hP', hD'⟩ := zjoin hP hD is hIs hlen hput had hk1 hB
  exact kk H1 locs1 hP' hD' hS1
theorem wrVv (CF : CallFix p m c cc nL s args Ts own) (hM : Met l y ws rm (WrP D cI cZ cQ (.ref b :: As) wc H.size) (WrQv D wc w1 H.size) 0 0 (va_A wc H.size)) (cw : CallW R s args own C index y bytes maxL ret ws rm 0 0 n) (hK : EK D cI cZ cQ s) (hP : va_P D vwCl wB H) (hD : va_D A wB) (hS : va_S A H0 H locs) (hA : ∀ q : Nat, H0.size ≤ q → A q) (is : List Nat) (hIs : is.map (fun i => wB[i]?) = wc.map some) (hnd : va_nd is = true) (hlen : is.length = w1.length) (hput : putAt wB is w1 = wB') (had : wB'.map Prod.fst = wB.map Prod.fst) (hc : vwCl[ci]? = some q) (he : wc[0]? = some (b, .inr (ci, fs))) (hC : q.1 = C) (hn : As.length = n) (hsz : ls.size = nL) (hst : st = As.reverse ++ .ref b :: rest) (hW : (rest.map fun v => v.category).sum ≤ 8) (hdg : decode cc pc = .ok (.invokevirtual index, 3))
    (kk : ∀ (H1 : Heap) (locs1 : List Loc), va_P D vwCl wB' H1 → va_D A wB' → va_S A H0 H1 locs1 → W p l e R s m args below meth c H1 locs1 0 0 Q (F0 m (pc + 3) ls rest)) : W p l e R s m args below meth c H locs 0 0 Q (F0 m pc ls st) := by
  have hF := va_free (wc := wc) hD hS hA is hIs
  refine va_callv (va_runV CF hM cw (wrPreV hK (va_P_sub' hP is hIs) (hD.sub is hnd hIs) hc he hC) rfl hn hsz hst (lv_room hW) hdg ⟨Nat.zero_le _, Nat.zero_le _⟩) hS (fun q _ h => hF q h) hF (fun u t H1 locs1 ht hvm hw hB hz1 hk1 hS1 => ?_)
  rw [ht] at hB
  obtain ⟨hP', hD'⟩ := zjoin hP hD is hIs hlen hput had hk1 hB
  exact kk H1 locs1 hP' hD' hS1
theorem wrSv (CF : CallFix p m c cc nL s args Ts own) (hM : Met l y ws rm (WrP D cI cZ cQ As wc H.size) (WrQv D wc w1 H.size) 0 0 (va_A wc H.size)) (cw : CallB R s args own index y bytes maxL ret ws rm 0 0 n ∧ (Cond.static y).before args s = true) (hK : EK D cI cZ cQ s) (hP : va_P D vwCl wB H) (hD : va_D A wB) (hS : va_S A H0 H locs) (hA : ∀ q : Nat, H0.size ≤ q → A q) (is : List Nat) (hIs : is.map (fun i => wB[i]?) = wc.map some) (hnd : va_nd is = true) (hlen : is.length = w1.length) (hput : putAt wB is w1 = wB') (had : wB'.map Prod.fst = wB.map Prod.fst) (hn : As.length = n) (hsz : ls.size = nL) (hst : st = As.reverse ++ rest) (hW : (rest.map fun v => v.category).sum ≤ 8) (hdg : decode cc pc = .ok (.invokestatic index, 3))
    (kk : ∀ (H1 : Heap) (locs1 : List Loc), va_P D vwCl wB' H1 → va_D A wB' → va_S A H0 H1 locs1 → W p l e R s m args below meth c H1 locs1 0 0 Q (F0 m (pc + 3) ls rest)) : W p l e R s m args below meth c H locs 0 0 Q (F0 m pc ls st) := by
  have hF := va_free (wc := wc) hD hS hA is hIs
  refine va_callv (va_runS CF hM cw (wrPreS hK (va_P_sub' hP is hIs) (hD.sub is hnd hIs)) rfl hn hsz hst (lv_room hW) hdg ⟨Nat.zero_le _, Nat.zero_le _⟩) hS (fun q _ h => hF q h) hF (fun u t H1 locs1 ht hvm hw hB hz1 hk1 hS1 => ?_)
  rw [ht] at hB
  obtain ⟨hP', hD'⟩ := zjoin hP hD is hIs hlen hput had hk1 hB
  exact kk H1 locs1 hP' hD' hS1
end CALLS
end
section
theorem zz_look : True := trivial
end
