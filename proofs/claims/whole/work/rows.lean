section
-- ===== PART A: goes FIRST, ahead of the names: the tables' words, and 'selects' of the private methods out of them =====
/-- a private method of a class that the tables say can be made, by its rows of tables_1 -/
def lw_okq (q : MethodName × Nat) : Prop := (q.1.cls ≠ "java/lang/invoke/MethodHandle" ∧ q.1.cls ≠ "java/lang/invoke/VarHandle") ∧ Cond.instantiable q.1.cls q.2 ∈ tables_1 ∧ Cond.privateMethod q.1 ∈ tables_1 ∧ Cond.instanceMethod q.1 ∈ tables_1
theorem lw_p0 : lw_okq (⟨"CrackTarget", "beginChange", "()V"⟩, 10) := ⟨⟨by decide +kernel, by decide +kernel⟩, List.mem_of_getElem? (i := 14) (by decide +kernel), List.mem_of_getElem? (i := 247) (by decide +kernel), List.mem_of_getElem? (i := 248) (by decide +kernel)⟩
theorem lw_p1 : lw_okq (⟨"CrackTarget$Heard", "placeOf", "(I)I"⟩, 3) := ⟨⟨by decide +kernel, by decide +kernel⟩, List.mem_of_getElem? (i := 22) (by decide +kernel), List.mem_of_getElem? (i := 281) (by decide +kernel), List.mem_of_getElem? (i := 282) (by decide +kernel)⟩
theorem lw_p2 : lw_okq (⟨"CrackTarget$Pad", "step", "(IC)I"⟩, 6) := ⟨⟨by decide +kernel, by decide +kernel⟩, List.mem_of_getElem? (i := 63) (by decide +kernel), List.mem_of_getElem? (i := 320) (by decide +kernel), List.mem_of_getElem? (i := 321) (by decide +kernel)⟩
theorem lw_p3 : lw_okq (⟨"CrackTarget$Pad", "note", "()V"⟩, 6) := ⟨⟨by decide +kernel, by decide +kernel⟩, List.mem_of_getElem? (i := 63) (by decide +kernel), List.mem_of_getElem? (i := 325) (by decide +kernel), List.mem_of_getElem? (i := 326) (by decide +kernel)⟩
theorem lw_p4 : lw_okq (⟨"CrackTarget", "current", "()LCrackTarget$Shots;"⟩, 10) := ⟨⟨by decide +kernel, by decide +kernel⟩, List.mem_of_getElem? (i := 14) (by decide +kernel), List.mem_of_getElem? (i := 364) (by decide +kernel), List.mem_of_getElem? (i := 365) (by decide +kernel)⟩
theorem lw_p5 : lw_okq (⟨"CrackTarget$Finder", "judge", "(LCrackTarget$Frame;LCrackTarget$Heard;ILCrackTarget$Shots;)V"⟩, 4) := ⟨⟨by decide +kernel, by decide +kernel⟩, List.mem_of_getElem? (i := 112) (by decide +kernel), List.mem_of_getElem? (i := 377) (by decide +kernel), List.mem_of_getElem? (i := 378) (by decide +kernel)⟩
theorem lw_p6 : lw_okq (⟨"CrackTarget$Finder", "gather", "(LCrackTarget$Heard;I[I)V"⟩, 4) := ⟨⟨by decide +kernel, by decide +kernel⟩, List.mem_of_getElem? (i := 112) (by decide +kernel), List.mem_of_getElem? (i := 381) (by decide +kernel), List.mem_of_getElem? (i := 382) (by decide +kernel)⟩
theorem lw_p7 : lw_okq (⟨"CrackTarget$Finder", "choose", "(LCrackTarget$Heard;I)Z"⟩, 4) := ⟨⟨by decide +kernel, by decide +kernel⟩, List.mem_of_getElem? (i := 112) (by decide +kernel), List.mem_of_getElem? (i := 387) (by decide +kernel), List.mem_of_getElem? (i := 388) (by decide +kernel)⟩
theorem lw_p8 : lw_okq (⟨"CrackTarget", "tryOut", "(II)V"⟩, 10) := ⟨⟨by decide +kernel, by decide +kernel⟩, List.mem_of_getElem? (i := 14) (by decide +kernel), List.mem_of_getElem? (i := 495) (by decide +kernel), List.mem_of_getElem? (i := 496) (by decide +kernel)⟩
theorem lw_p9 : lw_okq (⟨"CrackTargetModel", "record", "()V"⟩, 27) := ⟨⟨by decide +kernel, by decide +kernel⟩, List.mem_of_getElem? (i := 543) (by decide +kernel), List.mem_of_getElem? (i := 644) (by decide +kernel), List.mem_of_getElem? (i := 645) (by decide +kernel)⟩
theorem lw_p10 : lw_okq (⟨"CrackTargetModel", "whyNotHeard", "(II)I"⟩, 27) := ⟨⟨by decide +kernel, by decide +kernel⟩, List.mem_of_getElem? (i := 543) (by decide +kernel), List.mem_of_getElem? (i := 655) (by decide +kernel), List.mem_of_getElem? (i := 656) (by decide +kernel)⟩
theorem lw_p11 : lw_okq (⟨"CrackTargetModel", "isThere", "(II)Z"⟩, 27) := ⟨⟨by decide +kernel, by decide +kernel⟩, List.mem_of_getElem? (i := 543) (by decide +kernel), List.mem_of_getElem? (i := 663) (by decide +kernel), List.mem_of_getElem? (i := 664) (by decide +kernel)⟩
theorem lw_p12 : lw_okq (⟨"CrackTargetModel", "earOf", "(I)I"⟩, 27) := ⟨⟨by decide +kernel, by decide +kernel⟩, List.mem_of_getElem? (i := 543) (by decide +kernel), List.mem_of_getElem? (i := 667) (by decide +kernel), List.mem_of_getElem? (i := 668) (by decide +kernel)⟩
theorem lw_p13 : lw_okq (⟨"CrackTargetModel", "timeOf", "(I)I"⟩, 27) := ⟨⟨by decide +kernel, by decide +kernel⟩, List.mem_of_getElem? (i := 543) (by decide +kernel), List.mem_of_getElem? (i := 671) (by decide +kernel), List.mem_of_getElem? (i := 672) (by decide +kernel)⟩
theorem lw_p14 : lw_okq (⟨"CrackTargetModel", "comes", "(II)I"⟩, 27) := ⟨⟨by decide +kernel, by decide +kernel⟩, List.mem_of_getElem? (i := 543) (by decide +kernel), List.mem_of_getElem? (i := 675) (by decide +kernel), List.mem_of_getElem? (i := 676) (by decide +kernel)⟩
theorem lw_p15 : lw_okq (⟨"CrackTargetModel", "takesBy", "(IIII)I"⟩, 27) := ⟨⟨by decide +kernel, by decide +kernel⟩, List.mem_of_getElem? (i := 543) (by decide +kernel), List.mem_of_getElem? (i := 690) (by decide +kernel), List.mem_of_getElem? (i := 691) (by decide +kernel)⟩
def lw_privs_1 : List (MethodName × Nat) := [(⟨"CrackTarget", "beginChange", "()V"⟩, 10), (⟨"CrackTarget$Heard", "placeOf", "(I)I"⟩, 3), (⟨"CrackTarget$Pad", "step", "(IC)I"⟩, 6), (⟨"CrackTarget$Pad", "note", "()V"⟩, 6), (⟨"CrackTarget", "current", "()LCrackTarget$Shots;"⟩, 10), (⟨"CrackTarget$Finder", "judge", "(LCrackTarget$Frame;LCrackTarget$Heard;ILCrackTarget$Shots;)V"⟩, 4), (⟨"CrackTarget$Finder", "gather", "(LCrackTarget$Heard;I[I)V"⟩, 4), (⟨"CrackTarget$Finder", "choose", "(LCrackTarget$Heard;I)Z"⟩, 4), (⟨"CrackTarget", "tryOut", "(II)V"⟩, 10), (⟨"CrackTargetModel", "record", "()V"⟩, 27), (⟨"CrackTargetModel", "whyNotHeard", "(II)I"⟩, 27), (⟨"CrackTargetModel", "isThere", "(II)Z"⟩, 27), (⟨"CrackTargetModel", "earOf", "(I)I"⟩, 27), (⟨"CrackTargetModel", "timeOf", "(I)I"⟩, 27), (⟨"CrackTargetModel", "comes", "(II)I"⟩, 27), (⟨"CrackTargetModel", "takesBy", "(IIII)I"⟩, 27)]
theorem lw_r1 : ∀ q ∈ lw_privs_1, lw_okq q := List.forall_mem_cons.mpr ⟨lw_p0, List.forall_mem_cons.mpr ⟨lw_p1, List.forall_mem_cons.mpr ⟨lw_p2, List.forall_mem_cons.mpr ⟨lw_p3, List.forall_mem_cons.mpr ⟨lw_p4, List.forall_mem_cons.mpr ⟨lw_p5, List.forall_mem_cons.mpr ⟨lw_p6, List.forall_mem_cons.mpr ⟨lw_p7, List.forall_mem_cons.mpr ⟨lw_p8, List.forall_mem_cons.mpr ⟨lw_p9, List.forall_mem_cons.mpr ⟨lw_p10, List.forall_mem_cons.mpr ⟨lw_p11, List.forall_mem_cons.mpr ⟨lw_p12, List.forall_mem_cons.mpr ⟨lw_p13, List.forall_mem_cons.mpr ⟨lw_p14, List.forall_mem_cons.mpr ⟨lw_p15, fun _ h => absurd h List.not_mem_nil⟩⟩⟩⟩⟩⟩⟩⟩⟩⟩⟩⟩⟩⟩⟩⟩
theorem lw_p16 : lw_okq (⟨"CrackTargetModel", "distance", "(IIII)I"⟩, 27) := ⟨⟨by decide +kernel, by decide +kernel⟩, List.mem_of_getElem? (i := 543) (by decide +kernel), List.mem_of_getElem? (i := 694) (by decide +kernel), List.mem_of_getElem? (i := 695) (by decide +kernel)⟩
theorem lw_p17 : lw_okq (⟨"CrackTargetModel", "isPulse", "(I)Z"⟩, 27) := ⟨⟨by decide +kernel, by decide +kernel⟩, List.mem_of_getElem? (i := 543) (by decide +kernel), List.mem_of_getElem? (i := 705) (by decide +kernel), List.mem_of_getElem? (i := 706) (by decide +kernel)⟩
theorem lw_p18 : lw_okq (⟨"CrackTargetModel", "goes", "(I)V"⟩, 27) := ⟨⟨by decide +kernel, by decide +kernel⟩, List.mem_of_getElem? (i := 543) (by decide +kernel), List.mem_of_getElem? (i := 709) (by decide +kernel), List.mem_of_getElem? (i := 710) (by decide +kernel)⟩
theorem lw_p19 : lw_okq (⟨"CrackTargetModel", "find", "()V"⟩, 27) := ⟨⟨by decide +kernel, by decide +kernel⟩, List.mem_of_getElem? (i := 543) (by decide +kernel), List.mem_of_getElem? (i := 725) (by decide +kernel), List.mem_of_getElem? (i := 726) (by decide +kernel)⟩
theorem lw_p20 : lw_okq (⟨"CrackTargetModel", "findShots", "(I)V"⟩, 27) := ⟨⟨by decide +kernel, by decide +kernel⟩, List.mem_of_getElem? (i := 543) (by decide +kernel), List.mem_of_getElem? (i := 729) (by decide +kernel), List.mem_of_getElem? (i := 730) (by decide +kernel)⟩
theorem lw_p21 : lw_okq (⟨"CrackTargetModel", "reckon", "(I)V"⟩, 27) := ⟨⟨by decide +kernel, by decide +kernel⟩, List.mem_of_getElem? (i := 543) (by decide +kernel), List.mem_of_getElem? (i := 733) (by decide +kernel), List.mem_of_getElem? (i := 734) (by decide +kernel)⟩
theorem lw_p22 : lw_okq (⟨"CrackTargetModel", "findCandidates", "(I)Z"⟩, 27) := ⟨⟨by decide +kernel, by decide +kernel⟩, List.mem_of_getElem? (i := 543) (by decide +kernel), List.mem_of_getElem? (i := 737) (by decide +kernel), List.mem_of_getElem? (i := 738) (by decide +kernel)⟩
theorem lw_p23 : lw_okq (⟨"CrackTargetModel", "findBest", "()V"⟩, 27) := ⟨⟨by decide +kernel, by decide +kernel⟩, List.mem_of_getElem? (i := 543) (by decide +kernel), List.mem_of_getElem? (i := 741) (by decide +kernel), List.mem_of_getElem? (i := 742) (by decide +kernel)⟩
theorem lw_p24 : lw_okq (⟨"CrackTargetModel", "takeRow", "(I)V"⟩, 27) := ⟨⟨by decide +kernel, by decide +kernel⟩, List.mem_of_getElem? (i := 543) (by decide +kernel), List.mem_of_getElem? (i := 745) (by decide +kernel), List.mem_of_getElem? (i := 746) (by decide +kernel)⟩
theorem lw_p25 : lw_okq (⟨"CrackTargetModel", "isRow", "()Z"⟩, 27) := ⟨⟨by decide +kernel, by decide +kernel⟩, List.mem_of_getElem? (i := 543) (by decide +kernel), List.mem_of_getElem? (i := 749) (by decide +kernel), List.mem_of_getElem? (i := 750) (by decide +kernel)⟩
theorem lw_p26 : lw_okq (⟨"CrackTargetModel", "findPlace", "()V"⟩, 27) := ⟨⟨by decide +kernel, by decide +kernel⟩, List.mem_of_getElem? (i := 543) (by decide +kernel), List.mem_of_getElem? (i := 753) (by decide +kernel), List.mem_of_getElem? (i := 754) (by decide +kernel)⟩
theorem lw_p27 : lw_okq (⟨"CrackTargetModel", "spreadAt", "(I)I"⟩, 27) := ⟨⟨by decide +kernel, by decide +kernel⟩, List.mem_of_getElem? (i := 543) (by decide +kernel), List.mem_of_getElem? (i := 757) (by decide +kernel), List.mem_of_getElem? (i := 758) (by decide +kernel)⟩
theorem lw_p28 : lw_okq (⟨"CrackTargetModel", "becomesShot", "()V"⟩, 27) := ⟨⟨by decide +kernel, by decide +kernel⟩, List.mem_of_getElem? (i := 543) (by decide +kernel), List.mem_of_getElem? (i := 762) (by decide +kernel), List.mem_of_getElem? (i := 763) (by decide +kernel)⟩
theorem lw_p29 : lw_okq (⟨"CrackTargetModel", "momentAt", "(I)I"⟩, 27) := ⟨⟨by decide +kernel, by decide +kernel⟩, List.mem_of_getElem? (i := 543) (by decide +kernel), List.mem_of_getElem? (i := 766) (by decide +kernel), List.mem_of_getElem? (i := 767) (by decide +kernel)⟩
theorem lw_p30 : lw_okq (⟨"CrackTargetModel", "isShot", "(I)Z"⟩, 27) := ⟨⟨by decide +kernel, by decide +kernel⟩, List.mem_of_getElem? (i := 543) (by decide +kernel), List.mem_of_getElem? (i := 774) (by decide +kernel), List.mem_of_getElem? (i := 775) (by decide +kernel)⟩
theorem lw_p31 : lw_okq (⟨"CrackTargetModel", "ringOf", "(I)I"⟩, 27) := ⟨⟨by decide +kernel, by decide +kernel⟩, List.mem_of_getElem? (i := 543) (by decide +kernel), List.mem_of_getElem? (i := 778) (by decide +kernel), List.mem_of_getElem? (i := 779) (by decide +kernel)⟩
def lw_privs_2 : List (MethodName × Nat) := [(⟨"CrackTargetModel", "distance", "(IIII)I"⟩, 27), (⟨"CrackTargetModel", "isPulse", "(I)Z"⟩, 27), (⟨"CrackTargetModel", "goes", "(I)V"⟩, 27), (⟨"CrackTargetModel", "find", "()V"⟩, 27), (⟨"CrackTargetModel", "findShots", "(I)V"⟩, 27), (⟨"CrackTargetModel", "reckon", "(I)V"⟩, 27), (⟨"CrackTargetModel", "findCandidates", "(I)Z"⟩, 27), (⟨"CrackTargetModel", "findBest", "()V"⟩, 27), (⟨"CrackTargetModel", "takeRow", "(I)V"⟩, 27), (⟨"CrackTargetModel", "isRow", "()Z"⟩, 27), (⟨"CrackTargetModel", "findPlace", "()V"⟩, 27), (⟨"CrackTargetModel", "spreadAt", "(I)I"⟩, 27), (⟨"CrackTargetModel", "becomesShot", "()V"⟩, 27), (⟨"CrackTargetModel", "momentAt", "(I)I"⟩, 27), (⟨"CrackTargetModel", "isShot", "(I)Z"⟩, 27), (⟨"CrackTargetModel", "ringOf", "(I)I"⟩, 27)]
theorem lw_r2 : ∀ q ∈ lw_privs_2, lw_okq q := List.forall_mem_cons.mpr ⟨lw_p16, List.forall_mem_cons.mpr ⟨lw_p17, List.forall_mem_cons.mpr ⟨lw_p18, List.forall_mem_cons.mpr ⟨lw_p19, List.forall_mem_cons.mpr ⟨lw_p20, List.forall_mem_cons.mpr ⟨lw_p21, List.forall_mem_cons.mpr ⟨lw_p22, List.forall_mem_cons.mpr ⟨lw_p23, List.forall_mem_cons.mpr ⟨lw_p24, List.forall_mem_cons.mpr ⟨lw_p25, List.forall_mem_cons.mpr ⟨lw_p26, List.forall_mem_cons.mpr ⟨lw_p27, List.forall_mem_cons.mpr ⟨lw_p28, List.forall_mem_cons.mpr ⟨lw_p29, List.forall_mem_cons.mpr ⟨lw_p30, List.forall_mem_cons.mpr ⟨lw_p31, fun _ h => absurd h List.not_mem_nil⟩⟩⟩⟩⟩⟩⟩⟩⟩⟩⟩⟩⟩⟩⟩⟩
theorem lw_p32 : lw_okq (⟨"CrackTargetModel", "sumOfRings", "()I"⟩, 27) := ⟨⟨by decide +kernel, by decide +kernel⟩, List.mem_of_getElem? (i := 543) (by decide +kernel), List.mem_of_getElem? (i := 786) (by decide +kernel), List.mem_of_getElem? (i := 787) (by decide +kernel)⟩
theorem lw_p33 : lw_okq (⟨"CrackTargetModel", "bestShot", "()I"⟩, 27) := ⟨⟨by decide +kernel, by decide +kernel⟩, List.mem_of_getElem? (i := 543) (by decide +kernel), List.mem_of_getElem? (i := 790) (by decide +kernel), List.mem_of_getElem? (i := 791) (by decide +kernel)⟩
theorem lw_p34 : lw_okq (⟨"CrackTargetModel", "sumOfSpreads", "()I"⟩, 27) := ⟨⟨by decide +kernel, by decide +kernel⟩, List.mem_of_getElem? (i := 543) (by decide +kernel), List.mem_of_getElem? (i := 794) (by decide +kernel), List.mem_of_getElem? (i := 795) (by decide +kernel)⟩
theorem lw_p35 : lw_okq (⟨"CrackTargetModel", "widest", "()I"⟩, 27) := ⟨⟨by decide +kernel, by decide +kernel⟩, List.mem_of_getElem? (i := 543) (by decide +kernel), List.mem_of_getElem? (i := 798) (by decide +kernel), List.mem_of_getElem? (i := 799) (by decide +kernel)⟩
theorem lw_p36 : lw_okq (⟨"CrackTargetModel", "findFault", "()I"⟩, 27) := ⟨⟨by decide +kernel, by decide +kernel⟩, List.mem_of_getElem? (i := 543) (by decide +kernel), List.mem_of_getElem? (i := 835) (by decide +kernel), List.mem_of_getElem? (i := 836) (by decide +kernel)⟩
theorem lw_p37 : lw_okq (⟨"CrackTargetModel", "readsPulse", "()Z"⟩, 27) := ⟨⟨by decide +kernel, by decide +kernel⟩, List.mem_of_getElem? (i := 543) (by decide +kernel), List.mem_of_getElem? (i := 839) (by decide +kernel), List.mem_of_getElem? (i := 840) (by decide +kernel)⟩
theorem lw_p38 : lw_okq (⟨"CrackTargetModel", "takeDigit", "(I)I"⟩, 27) := ⟨⟨by decide +kernel, by decide +kernel⟩, List.mem_of_getElem? (i := 543) (by decide +kernel), List.mem_of_getElem? (i := 843) (by decide +kernel), List.mem_of_getElem? (i := 844) (by decide +kernel)⟩
theorem lw_p39 : lw_okq (⟨"CrackTargetModel", "character", "(I)I"⟩, 27) := ⟨⟨by decide +kernel, by decide +kernel⟩, List.mem_of_getElem? (i := 543) (by decide +kernel), List.mem_of_getElem? (i := 847) (by decide +kernel), List.mem_of_getElem? (i := 848) (by decide +kernel)⟩
theorem lw_p40 : lw_okq (⟨"CrackTargetModel", "isNext", "(I)Z"⟩, 27) := ⟨⟨by decide +kernel, by decide +kernel⟩, List.mem_of_getElem? (i := 543) (by decide +kernel), List.mem_of_getElem? (i := 851) (by decide +kernel), List.mem_of_getElem? (i := 852) (by decide +kernel)⟩
theorem lw_p41 : lw_okq (⟨"CrackTargetModel", "takeNumber", "()I"⟩, 27) := ⟨⟨by decide +kernel, by decide +kernel⟩, List.mem_of_getElem? (i := 543) (by decide +kernel), List.mem_of_getElem? (i := 855) (by decide +kernel), List.mem_of_getElem? (i := 856) (by decide +kernel)⟩
def lw_privs_3 : List (MethodName × Nat) := [(⟨"CrackTargetModel", "sumOfRings", "()I"⟩, 27), (⟨"CrackTargetModel", "bestShot", "()I"⟩, 27), (⟨"CrackTargetModel", "sumOfSpreads", "()I"⟩, 27), (⟨"CrackTargetModel", "widest", "()I"⟩, 27), (⟨"CrackTargetModel", "findFault", "()I"⟩, 27), (⟨"CrackTargetModel", "readsPulse", "()Z"⟩, 27), (⟨"CrackTargetModel", "takeDigit", "(I)I"⟩, 27), (⟨"CrackTargetModel", "character", "(I)I"⟩, 27), (⟨"CrackTargetModel", "isNext", "(I)Z"⟩, 27), (⟨"CrackTargetModel", "takeNumber", "()I"⟩, 27)]
theorem lw_r3 : ∀ q ∈ lw_privs_3, lw_okq q := List.forall_mem_cons.mpr ⟨lw_p32, List.forall_mem_cons.mpr ⟨lw_p33, List.forall_mem_cons.mpr ⟨lw_p34, List.forall_mem_cons.mpr ⟨lw_p35, List.forall_mem_cons.mpr ⟨lw_p36, List.forall_mem_cons.mpr ⟨lw_p37, List.forall_mem_cons.mpr ⟨lw_p38, List.forall_mem_cons.mpr ⟨lw_p39, List.forall_mem_cons.mpr ⟨lw_p40, List.forall_mem_cons.mpr ⟨lw_p41, fun _ h => absurd h List.not_mem_nil⟩⟩⟩⟩⟩⟩⟩⟩⟩⟩
def lw_privs : List (MethodName × Nat) := lw_privs_1 ++ (lw_privs_2 ++ (lw_privs_3))
def lw_tbl : List Cond := k2_sels lw_privs ++ tables_1
theorem lw_privs_ok : ∀ q ∈ lw_privs, lw_okq q := by
  show ∀ q ∈ lw_privs_1 ++ (lw_privs_2 ++ (lw_privs_3)), lw_okq q
  exact List.forall_mem_append.mpr ⟨lw_r1, List.forall_mem_append.mpr ⟨lw_r2, lw_r3⟩⟩
end
section
def RX0 : String := "CrackTarget$Finder"
def TX0 : u_T := fun k => match k with
  | 0 => ("CrackTarget$Finder", "fit", "LCrackTarget$Fit;", true)
  | 1 => ("CrackTarget$Finder", "near", "[I", true)
  | 2 => ("CrackTarget$Finder", "nearSizes", "[I", true)
  | _ => ("CrackTarget$Finder", "row", "[I", true)
def tyX0 : Nat → FieldType := fun k => match k with
  | 0 => .object "CrackTarget$Fit"
  | 1 => .array .int
  | 2 => .array .int
  | _ => .array .int
abbrev wsX00 : List Cond := u_ws RX0 TX0 4
theorem nmX0 : ∀ a, a < 4 → ∀ b, b < 4 → a ≠ b → (TX0 a).2.1 ≠ (TX0 b).2.1 := by decide +kernel
theorem tyX0_ok : ∀ k, k < 4 → parseFieldDescriptor (TX0 k).2.2.1 = some (tyX0 k) := by decide +kernel
abbrev cX0_init : ByteArray := prog_2_method_1_code
def yX0_init : MethodName := ⟨RX0, "<init>", "()V"⟩
abbrev cX0_find : ByteArray := prog_2_method_2_code
def yX0_find : MethodName := ⟨RX0, "find", "(LCrackTarget$Frame;LCrackTarget$Heard;ILCrackTarget$Shots;)V"⟩
abbrev cX0_spreadOf : ByteArray := prog_2_method_3_code
def yX0_spreadOf : MethodName := ⟨RX0, "spreadOf", "(LCrackTarget$Frame;LCrackTarget$Heard;LCrackTarget$Shot;II)I"⟩
abbrev cX0_judge : ByteArray := prog_2_method_4_code
def yX0_judge : MethodName := ⟨RX0, "judge", "(LCrackTarget$Frame;LCrackTarget$Heard;ILCrackTarget$Shots;)V"⟩
abbrev cX0_gather : ByteArray := prog_2_method_5_code
def yX0_gather : MethodName := ⟨RX0, "gather", "(LCrackTarget$Heard;I[I)V"⟩
abbrev cX0_choose : ByteArray := prog_2_method_6_code
def yX0_choose : MethodName := ⟨RX0, "choose", "(LCrackTarget$Heard;I)Z"⟩
def RX1 : String := "CrackTarget$Fit"
def TX1 : u_T := fun k => match k with
  | 0 => ("CrackTarget$Fit", "times", "[I", true)
  | 1 => ("CrackTarget$Fit", "x", "I", false)
  | 2 => ("CrackTarget$Fit", "y", "I", false)
  | _ => ("CrackTarget$Fit", "spread", "I", false)
def tyX1 : Nat → FieldType := fun k => match k with
  | 0 => .array .int
  | 1 => .int
  | 2 => .int
  | _ => .int
abbrev wsX10 : List Cond := u_ws RX1 TX1 4
theorem nmX1 : ∀ a, a < 4 → ∀ b, b < 4 → a ≠ b → (TX1 a).2.1 ≠ (TX1 b).2.1 := by decide +kernel
theorem tyX1_ok : ∀ k, k < 4 → parseFieldDescriptor (TX1 k).2.2.1 = some (tyX1 k) := by decide +kernel
abbrev cX1_init : ByteArray := prog_3_method_1_code
def yX1_init : MethodName := ⟨RX1, "<init>", "()V"⟩
abbrev cX1_search : ByteArray := prog_3_method_2_code
def yX1_search : MethodName := ⟨RX1, "search", "(LCrackTarget$Frame;I)Z"⟩
abbrev cX1_spreadAt : ByteArray := prog_3_method_3_code
def yX1_spreadAt : MethodName := ⟨RX1, "spreadAt", "(LCrackTarget$Frame;II)I"⟩
abbrev cX1_leastStart : ByteArray := prog_3_method_4_code
def yX1_leastStart : MethodName := ⟨RX1, "leastStart", "(LCrackTarget$Frame;)I"⟩
def RX2 : String := "CrackTarget$Frame"
def TX2 : u_T := fun k => match k with
  | 0 => ("CrackTarget$Frame", "distances", "[I", true)
  | 1 => ("CrackTarget$Frame", "times", "[I", true)
  | _ => ("CrackTarget$Frame", "speed", "I", false)
def tyX2 : Nat → FieldType := fun k => match k with
  | 0 => .array .int
  | 1 => .array .int
  | _ => .int
abbrev wsX20 : List Cond := u_ws RX2 TX2 3
theorem nmX2 : ∀ a, a < 3 → ∀ b, b < 3 → a ≠ b → (TX2 a).2.1 ≠ (TX2 b).2.1 := by decide +kernel
theorem tyX2_ok : ∀ k, k < 3 → parseFieldDescriptor (TX2 k).2.2.1 = some (tyX2 k) := by decide +kernel
abbrev cX2_init : ByteArray := prog_4_method_1_code
def yX2_init : MethodName := ⟨RX2, "<init>", "()V"⟩
abbrev cX2_speedAt : ByteArray := prog_4_method_2_code
def yX2_speedAt : MethodName := ⟨RX2, "speedAt", "(I)I"⟩
abbrev cX2_tune : ByteArray := prog_4_method_3_code
def yX2_tune : MethodName := ⟨RX2, "tune", "(I)V"⟩
abbrev cX2_distance : ByteArray := prog_4_method_4_code
def yX2_distance : MethodName := ⟨RX2, "distance", "(IIII)I"⟩
abbrev cX2_crackTime : ByteArray := prog_4_method_5_code
def yX2_crackTime : MethodName := ⟨RX2, "crackTime", "(III)I"⟩
abbrev cX2_lag : ByteArray := prog_4_method_6_code
def yX2_lag : MethodName := ⟨RX2, "lag", "(II)I"⟩
abbrev cX2_rootOf : ByteArray := prog_4_method_7_code
def yX2_rootOf : MethodName := ⟨RX2, "rootOf", "(I)I"⟩
def RX3 : String := "CrackTarget$Heard"
def TX3 : u_T := fun k => match k with
  | 0 => ("CrackTarget$Heard", "settings", "[I", true)
  | 1 => ("CrackTarget$Heard", "marks", "[I", true)
  | _ => ("CrackTarget$Heard", "size", "I", false)
def tyX3 : Nat → FieldType := fun k => match k with
  | 0 => .array .int
  | 1 => .array .int
  | _ => .int
abbrev wsX30 : List Cond := u_ws RX3 TX3 3
theorem nmX3 : ∀ a, a < 3 → ∀ b, b < 3 → a ≠ b → (TX3 a).2.1 ≠ (TX3 b).2.1 := by decide +kernel
theorem tyX3_ok : ∀ k, k < 3 → parseFieldDescriptor (TX3 k).2.2.1 = some (tyX3 k) := by decide +kernel
abbrev cX3_init : ByteArray := prog_5_method_1_code
def yX3_init : MethodName := ⟨RX3, "<init>", "()V"⟩
abbrev cX3_isPulse : ByteArray := prog_5_method_2_code
def yX3_isPulse : MethodName := ⟨RX3, "isPulse", "(I)Z"⟩
abbrev cX3_earOf : ByteArray := prog_5_method_3_code
def yX3_earOf : MethodName := ⟨RX3, "earOf", "(I)I"⟩
abbrev cX3_timeOf : ByteArray := prog_5_method_4_code
def yX3_timeOf : MethodName := ⟨RX3, "timeOf", "(I)I"⟩
abbrev cX3_has : ByteArray := prog_5_method_5_code
def yX3_has : MethodName := ⟨RX3, "has", "(I)Z"⟩
abbrev cX3_refusalOf : ByteArray := prog_5_method_6_code
def yX3_refusalOf : MethodName := ⟨RX3, "refusalOf", "(I)I"⟩
abbrev cX3_add : ByteArray := prog_5_method_7_code
def yX3_add : MethodName := ⟨RX3, "add", "(I)I"⟩
abbrev cX3_remove : ByteArray := prog_5_method_8_code
def yX3_remove : MethodName := ⟨RX3, "remove", "(I)V"⟩
abbrev cX3_become : ByteArray := prog_5_method_9_code
def yX3_become : MethodName := ⟨RX3, "become", "(LCrackTarget$Heard;)V"⟩
abbrev cX3_placeOf : ByteArray := prog_5_method_10_code
def yX3_placeOf : MethodName := ⟨RX3, "placeOf", "(I)I"⟩
def RX4 : String := "CrackTarget$History"
def TX4 : u_T := fun k => match k with
  | 0 => ("CrackTarget$History", "states", "[LCrackTarget$Heard;", true)
  | 1 => ("CrackTarget$History", "oldest", "I", false)
  | _ => ("CrackTarget$History", "size", "I", false)
def tyX4 : Nat → FieldType := fun k => match k with
  | 0 => .array (.object "CrackTarget$Heard")
  | 1 => .int
  | _ => .int
abbrev wsX40 : List Cond := u_ws RX4 TX4 3
theorem nmX4 : ∀ a, a < 3 → ∀ b, b < 3 → a ≠ b → (TX4 a).2.1 ≠ (TX4 b).2.1 := by decide +kernel
theorem tyX4_ok : ∀ k, k < 3 → parseFieldDescriptor (TX4 k).2.2.1 = some (tyX4 k) := by decide +kernel
abbrev cX4_init : ByteArray := prog_6_method_1_code
def yX4_init : MethodName := ⟨RX4, "<init>", "()V"⟩
abbrev cX4_record : ByteArray := prog_6_method_2_code
def yX4_record : MethodName := ⟨RX4, "record", "(LCrackTarget$Heard;)V"⟩
abbrev cX4_takeBack : ByteArray := prog_6_method_3_code
def yX4_takeBack : MethodName := ⟨RX4, "takeBack", "(LCrackTarget$Heard;)V"⟩
def RX5 : String := "CrackTarget$Pad"
def TX5 : u_T := fun k => match k with
  | 0 => ("CrackTarget$Pad", "signs", "[C", true)
  | 1 => ("CrackTarget$Pad", "marks", "[I", true)
  | 2 => ("CrackTarget$Pad", "length", "I", false)
  | 3 => ("CrackTarget$Pad", "pulses", "I", false)
  | 4 => ("CrackTarget$Pad", "ear", "I", false)
  | _ => ("CrackTarget$Pad", "time", "I", false)
def tyX5 : Nat → FieldType := fun k => match k with
  | 0 => .array .char
  | 1 => .array .int
  | 2 => .int
  | 3 => .int
  | 4 => .int
  | _ => .int
abbrev wsX50 : List Cond := u_ws RX5 TX5 6
theorem nmX5 : ∀ a, a < 6 → ∀ b, b < 6 → a ≠ b → (TX5 a).2.1 ≠ (TX5 b).2.1 := by decide +kernel
theorem tyX5_ok : ∀ k, k < 6 → parseFieldDescriptor (TX5 k).2.2.1 = some (tyX5 k) := by decide +kernel
abbrev cX5_init : ByteArray := prog_7_method_1_code
def yX5_init : MethodName := ⟨RX5, "<init>", "()V"⟩
abbrev cX5_append : ByteArray := prog_7_method_2_code
def yX5_append : MethodName := ⟨RX5, "append", "(C)V"⟩
abbrev cX5_read : ByteArray := prog_7_method_3_code
def yX5_read : MethodName := ⟨RX5, "read", "()I"⟩
abbrev cX5_step : ByteArray := prog_7_method_4_code
def yX5_step : MethodName := ⟨RX5, "step", "(IC)I"⟩
abbrev cX5_note : ByteArray := prog_7_method_5_code
def yX5_note : MethodName := ⟨RX5, "note", "()V"⟩
def RX6 : String := "CrackTarget$Shot"
def TX6 : u_T := fun k => match k with
  | 0 => ("CrackTarget$Shot", "pulses", "[I", true)
  | 1 => ("CrackTarget$Shot", "x", "I", false)
  | 2 => ("CrackTarget$Shot", "y", "I", false)
  | 3 => ("CrackTarget$Shot", "spread", "I", false)
  | 4 => ("CrackTarget$Shot", "moment", "I", false)
  | _ => ("CrackTarget$Shot", "ring", "I", false)
def tyX6 : Nat → FieldType := fun k => match k with
  | 0 => .array .int
  | 1 => .int
  | 2 => .int
  | 3 => .int
  | 4 => .int
  | _ => .int
abbrev wsX60 : List Cond := u_ws RX6 TX6 6
theorem nmX6 : ∀ a, a < 6 → ∀ b, b < 6 → a ≠ b → (TX6 a).2.1 ≠ (TX6 b).2.1 := by decide +kernel
theorem tyX6_ok : ∀ k, k < 6 → parseFieldDescriptor (TX6 k).2.2.1 = some (tyX6 k) := by decide +kernel
abbrev cX6_init : ByteArray := prog_8_method_1_code
def yX6_init : MethodName := ⟨RX6, "<init>", "()V"⟩
abbrev cX6_become : ByteArray := prog_8_method_2_code
def yX6_become : MethodName := ⟨RX6, "become", "(LCrackTarget$Frame;LCrackTarget$Fit;[I)V"⟩
abbrev cX6_tell : ByteArray := prog_8_method_3_code
def yX6_tell : MethodName := ⟨RX6, "tell", "(I)I"⟩
def RX7 : String := "CrackTarget$Shots"
def TX7 : u_T := fun k => match k with
  | 0 => ("CrackTarget$Shots", "list", "[LCrackTarget$Shot;", true)
  | 1 => ("CrackTarget$Shots", "owners", "[I", true)
  | _ => ("CrackTarget$Shots", "size", "I", false)
def tyX7 : Nat → FieldType := fun k => match k with
  | 0 => .array (.object "CrackTarget$Shot")
  | 1 => .array .int
  | _ => .int
abbrev wsX70 : List Cond := u_ws RX7 TX7 3
theorem nmX7 : ∀ a, a < 3 → ∀ b, b < 3 → a ≠ b → (TX7 a).2.1 ≠ (TX7 b).2.1 := by decide +kernel
theorem tyX7_ok : ∀ k, k < 3 → parseFieldDescriptor (TX7 k).2.2.1 = some (tyX7 k) := by decide +kernel
abbrev cX7_init : ByteArray := prog_9_method_1_code
def yX7_init : MethodName := ⟨RX7, "<init>", "()V"⟩
abbrev cX7_reset : ByteArray := prog_9_method_2_code
def yX7_reset : MethodName := ⟨RX7, "reset", "()V"⟩
abbrev cX7_isShot : ByteArray := prog_9_method_3_code
def yX7_isShot : MethodName := ⟨RX7, "isShot", "(I)Z"⟩
abbrev cX7_draft : ByteArray := prog_9_method_4_code
def yX7_draft : MethodName := ⟨RX7, "draft", "(LCrackTarget$Frame;LCrackTarget$Fit;[I)V"⟩
abbrev cX7_accept : ByteArray := prog_9_method_5_code
def yX7_accept : MethodName := ⟨RX7, "accept", "()V"⟩
abbrev cX7_sumOfRings : ByteArray := prog_9_method_6_code
def yX7_sumOfRings : MethodName := ⟨RX7, "sumOfRings", "()I"⟩
abbrev cX7_sumOfSpreads : ByteArray := prog_9_method_7_code
def yX7_sumOfSpreads : MethodName := ⟨RX7, "sumOfSpreads", "()I"⟩
abbrev cX7_sumOfX : ByteArray := prog_9_method_8_code
def yX7_sumOfX : MethodName := ⟨RX7, "sumOfX", "()I"⟩
abbrev cX7_sumOfY : ByteArray := prog_9_method_9_code
def yX7_sumOfY : MethodName := ⟨RX7, "sumOfY", "()I"⟩
abbrev cX7_withGreatestRing : ByteArray := prog_9_method_10_code
def yX7_withGreatestRing : MethodName := ⟨RX7, "withGreatestRing", "()I"⟩
abbrev cX7_widest : ByteArray := prog_9_method_11_code
def yX7_widest : MethodName := ⟨RX7, "widest", "(LCrackTarget$Frame;)I"⟩
def RX8 : String := "CrackTarget"
def TX8 : u_T := fun k => match k with
  | 0 => ("CrackTarget", "now", "LCrackTarget$Heard;", true)
  | 1 => ("CrackTarget", "history", "LCrackTarget$History;", true)
  | 2 => ("CrackTarget", "slots", "[LCrackTarget$Heard;", true)
  | 3 => ("CrackTarget", "saved", "[Z", true)
  | 4 => ("CrackTarget", "pad", "LCrackTarget$Pad;", true)
  | 5 => ("CrackTarget", "frame", "LCrackTarget$Frame;", true)
  | 6 => ("CrackTarget", "finder", "LCrackTarget$Finder;", true)
  | 7 => ("CrackTarget", "found", "LCrackTarget$Shots;", true)
  | 8 => ("CrackTarget", "tried", "LCrackTarget$Shots;", true)
  | _ => ("CrackTarget", "stale", "Z", false)
def tyX8 : Nat → FieldType := fun k => match k with
  | 0 => .object "CrackTarget$Heard"
  | 1 => .object "CrackTarget$History"
  | 2 => .array (.object "CrackTarget$Heard")
  | 3 => .array .boolean
  | 4 => .object "CrackTarget$Pad"
  | 5 => .object "CrackTarget$Frame"
  | 6 => .object "CrackTarget$Finder"
  | 7 => .object "CrackTarget$Shots"
  | 8 => .object "CrackTarget$Shots"
  | _ => .boolean
abbrev wsX80 : List Cond := u_ws RX8 TX8 10
theorem nmX8 : ∀ a, a < 10 → ∀ b, b < 10 → a ≠ b → (TX8 a).2.1 ≠ (TX8 b).2.1 := by decide +kernel
theorem tyX8_ok : ∀ k, k < 10 → parseFieldDescriptor (TX8 k).2.2.1 = some (tyX8 k) := by decide +kernel
abbrev cX8_init : ByteArray := prog_1_method_1_code
def yX8_init : MethodName := ⟨RX8, "<init>", "()V"⟩
abbrev cX8_set : ByteArray := prog_1_method_2_code
def yX8_set : MethodName := ⟨RX8, "set", "(II)I"⟩
abbrev cX8_hear : ByteArray := prog_1_method_3_code
def yX8_hear : MethodName := ⟨RX8, "hear", "(II)I"⟩
abbrev cX8_fire : ByteArray := prog_1_method_4_code
def yX8_fire : MethodName := ⟨RX8, "fire", "(III)I"⟩
abbrev cX8_hearAll : ByteArray := prog_1_method_5_code
def yX8_hearAll : MethodName := ⟨RX8, "hearAll", "()I"⟩
abbrev cX8_forget : ByteArray := prog_1_method_6_code
def yX8_forget : MethodName := ⟨RX8, "forget", "(I)I"⟩
abbrev cX8_clear : ByteArray := prog_1_method_7_code
def yX8_clear : MethodName := ⟨RX8, "clear", "()I"⟩
abbrev cX8_takes : ByteArray := prog_1_method_8_code
def yX8_takes : MethodName := ⟨RX8, "takes", "(III)I"⟩
abbrev cX8_pulse : ByteArray := prog_1_method_9_code
def yX8_pulse : MethodName := ⟨RX8, "pulse", "(II)I"⟩
abbrev cX8_shot : ByteArray := prog_1_method_10_code
def yX8_shot : MethodName := ⟨RX8, "shot", "(II)I"⟩
abbrev cX8_count : ByteArray := prog_1_method_11_code
def yX8_count : MethodName := ⟨RX8, "count", "(I)I"⟩
abbrev cX8_fits : ByteArray := prog_1_method_12_code
def yX8_fits : MethodName := ⟨RX8, "fits", "(III)I"⟩
abbrev cX8_mean : ByteArray := prog_1_method_13_code
def yX8_mean : MethodName := ⟨RX8, "mean", "(I)I"⟩
abbrev cX8_ifHeat : ByteArray := prog_1_method_14_code
def yX8_ifHeat : MethodName := ⟨RX8, "ifHeat", "(II)I"⟩
abbrev cX8_bestHeat : ByteArray := prog_1_method_15_code
def yX8_bestHeat : MethodName := ⟨RX8, "bestHeat", "()I"⟩
abbrev cX8_ifForgot : ByteArray := prog_1_method_16_code
def yX8_ifForgot : MethodName := ⟨RX8, "ifForgot", "(I)I"⟩
abbrev cX8_put : ByteArray := prog_1_method_17_code
def yX8_put : MethodName := ⟨RX8, "put", "(J)I"⟩
abbrev cX8_wipe : ByteArray := prog_1_method_18_code
def yX8_wipe : MethodName := ⟨RX8, "wipe", "()I"⟩
abbrev cX8_fault : ByteArray := prog_1_method_19_code
def yX8_fault : MethodName := ⟨RX8, "fault", "()I"⟩
abbrev cX8_undo : ByteArray := prog_1_method_20_code
def yX8_undo : MethodName := ⟨RX8, "undo", "()I"⟩
abbrev cX8_save : ByteArray := prog_1_method_21_code
def yX8_save : MethodName := ⟨RX8, "save", "(I)I"⟩
abbrev cX8_restore : ByteArray := prog_1_method_22_code
def yX8_restore : MethodName := ⟨RX8, "restore", "(I)I"⟩
abbrev cX8_beginChange : ByteArray := prog_1_method_23_code
def yX8_beginChange : MethodName := ⟨RX8, "beginChange", "()V"⟩
abbrev cX8_current : ByteArray := prog_1_method_24_code
def yX8_current : MethodName := ⟨RX8, "current", "()LCrackTarget$Shots;"⟩
abbrev cX8_tryOut : ByteArray := prog_1_method_25_code
def yX8_tryOut : MethodName := ⟨RX8, "tryOut", "(II)V"⟩
abbrev cX8_isEar : ByteArray := prog_1_method_26_code
def yX8_isEar : MethodName := ⟨RX8, "isEar", "(I)Z"⟩
abbrev cX8_isPoint : ByteArray := prog_1_method_27_code
def yX8_isPoint : MethodName := ⟨RX8, "isPoint", "(II)Z"⟩
abbrev cX8_markOf : ByteArray := prog_1_method_28_code
def yX8_markOf : MethodName := ⟨RX8, "markOf", "(II)I"⟩
def RX9 : String := "CrackTargetModel"
def TX9 : u_T := fun k => match k with
  | 0 => ("CrackTargetModel", "state", "[I", true)
  | 1 => ("CrackTargetModel", "kept", "[I", true)
  | 2 => ("CrackTargetModel", "history", "[I", true)
  | 3 => ("CrackTargetModel", "recorded", "I", false)
  | 4 => ("CrackTargetModel", "slots", "[I", true)
  | 5 => ("CrackTargetModel", "isSaved", "[I", true)
  | 6 => ("CrackTargetModel", "pad", "[I", true)
  | 7 => ("CrackTargetModel", "padLength", "I", false)
  | 8 => ("CrackTargetModel", "distances", "[I", true)
  | 9 => ("CrackTargetModel", "taken", "[I", true)
  | 10 => ("CrackTargetModel", "takenBy", "I", false)
  | 11 => ("CrackTargetModel", "shots", "I", false)
  | 12 => ("CrackTargetModel", "shotOf", "[I", true)
  | 13 => ("CrackTargetModel", "places", "[I", true)
  | 14 => ("CrackTargetModel", "spreads", "[I", true)
  | 15 => ("CrackTargetModel", "moments", "[I", true)
  | 16 => ("CrackTargetModel", "pulsesOf", "[I", true)
  | 17 => ("CrackTargetModel", "tried", "[I", true)
  | 18 => ("CrackTargetModel", "candidates", "[I", true)
  | 19 => ("CrackTargetModel", "best", "[I", true)
  | 20 => ("CrackTargetModel", "bestPlace", "I", false)
  | 21 => ("CrackTargetModel", "bestSpread", "I", false)
  | 22 => ("CrackTargetModel", "place", "I", false)
  | 23 => ("CrackTargetModel", "spread", "I", false)
  | 24 => ("CrackTargetModel", "at", "I", false)
  | 25 => ("CrackTargetModel", "earTold", "I", false)
  | _ => ("CrackTargetModel", "timeTold", "I", false)
def tyX9 : Nat → FieldType := fun k => match k with
  | 0 => .array .int
  | 1 => .array .int
  | 2 => .array .int
  | 3 => .int
  | 4 => .array .int
  | 5 => .array .int
  | 6 => .array .int
  | 7 => .int
  | 8 => .array .int
  | 9 => .array .int
  | 10 => .int
  | 11 => .int
  | 12 => .array .int
  | 13 => .array .int
  | 14 => .array .int
  | 15 => .array .int
  | 16 => .array .int
  | 17 => .array .int
  | 18 => .array .int
  | 19 => .array .int
  | 20 => .int
  | 21 => .int
  | 22 => .int
  | 23 => .int
  | 24 => .int
  | 25 => .int
  | _ => .int
abbrev wsX90 : List Cond := u_ws RX9 TX9 27
theorem nmX9 : ∀ a, a < 27 → ∀ b, b < 27 → a ≠ b → (TX9 a).2.1 ≠ (TX9 b).2.1 := by decide +kernel
theorem tyX9_ok : ∀ k, k < 27 → parseFieldDescriptor (TX9 k).2.2.1 = some (tyX9 k) := by decide +kernel
abbrev cX9_init : ByteArray := prog_11_method_1_code
def yX9_init : MethodName := ⟨RX9, "<init>", "()V"⟩
abbrev cX9_moves : ByteArray := prog_11_method_3_code
def yX9_moves : MethodName := ⟨RX9, "moves", "([II[II)V"⟩
abbrev cX9_within : ByteArray := prog_11_method_4_code
def yX9_within : MethodName := ⟨RX9, "within", "(III)Z"⟩
abbrev cX9_size : ByteArray := prog_11_method_5_code
def yX9_size : MethodName := ⟨RX9, "size", "(I)I"⟩
abbrev cX9_root : ByteArray := prog_11_method_6_code
def yX9_root : MethodName := ⟨RX9, "root", "(I)I"⟩
abbrev cX9_record : ByteArray := prog_11_method_7_code
def yX9_record : MethodName := ⟨RX9, "record", "()V"⟩
abbrev cX9_isPoint : ByteArray := prog_11_method_8_code
def yX9_isPoint : MethodName := ⟨RX9, "isPoint", "(II)Z"⟩
abbrev cX9_isEar : ByteArray := prog_11_method_9_code
def yX9_isEar : MethodName := ⟨RX9, "isEar", "(I)Z"⟩
abbrev cX9_distance : ByteArray := prog_11_method_10_code
def yX9_distance : MethodName := ⟨RX9, "distance", "(IIII)I"⟩
abbrev cX9_speedBy : ByteArray := prog_11_method_11_code
def yX9_speedBy : MethodName := ⟨RX9, "speedBy", "(I)I"⟩
abbrev cX9_takesBy : ByteArray := prog_11_method_12_code
def yX9_takesBy : MethodName := ⟨RX9, "takesBy", "(IIII)I"⟩
abbrev cX9_reckon : ByteArray := prog_11_method_13_code
def yX9_reckon : MethodName := ⟨RX9, "reckon", "(I)V"⟩
abbrev cX9_isPulse : ByteArray := prog_11_method_14_code
def yX9_isPulse : MethodName := ⟨RX9, "isPulse", "(I)Z"⟩
abbrev cX9_earOf : ByteArray := prog_11_method_15_code
def yX9_earOf : MethodName := ⟨RX9, "earOf", "(I)I"⟩
abbrev cX9_timeOf : ByteArray := prog_11_method_16_code
def yX9_timeOf : MethodName := ⟨RX9, "timeOf", "(I)I"⟩
abbrev cX9_isThere : ByteArray := prog_11_method_17_code
def yX9_isThere : MethodName := ⟨RX9, "isThere", "(II)Z"⟩
abbrev cX9_comes : ByteArray := prog_11_method_18_code
def yX9_comes : MethodName := ⟨RX9, "comes", "(II)I"⟩
abbrev cX9_goes : ByteArray := prog_11_method_19_code
def yX9_goes : MethodName := ⟨RX9, "goes", "(I)V"⟩
abbrev cX9_spreadAt : ByteArray := prog_11_method_20_code
def yX9_spreadAt : MethodName := ⟨RX9, "spreadAt", "(I)I"⟩
abbrev cX9_momentAt : ByteArray := prog_11_method_21_code
def yX9_momentAt : MethodName := ⟨RX9, "momentAt", "(I)I"⟩
abbrev cX9_findPlace : ByteArray := prog_11_method_22_code
def yX9_findPlace : MethodName := ⟨RX9, "findPlace", "()V"⟩
abbrev cX9_findCandidates : ByteArray := prog_11_method_23_code
def yX9_findCandidates : MethodName := ⟨RX9, "findCandidates", "(I)Z"⟩
abbrev cX9_takeRow : ByteArray := prog_11_method_24_code
def yX9_takeRow : MethodName := ⟨RX9, "takeRow", "(I)V"⟩
abbrev cX9_isRow : ByteArray := prog_11_method_25_code
def yX9_isRow : MethodName := ⟨RX9, "isRow", "()Z"⟩
abbrev cX9_findBest : ByteArray := prog_11_method_26_code
def yX9_findBest : MethodName := ⟨RX9, "findBest", "()V"⟩
abbrev cX9_becomesShot : ByteArray := prog_11_method_27_code
def yX9_becomesShot : MethodName := ⟨RX9, "becomesShot", "()V"⟩
abbrev cX9_findShots : ByteArray := prog_11_method_28_code
def yX9_findShots : MethodName := ⟨RX9, "findShots", "(I)V"⟩
abbrev cX9_find : ByteArray := prog_11_method_29_code
def yX9_find : MethodName := ⟨RX9, "find", "()V"⟩
abbrev cX9_ringOf : ByteArray := prog_11_method_30_code
def yX9_ringOf : MethodName := ⟨RX9, "ringOf", "(I)I"⟩
abbrev cX9_sumOfRings : ByteArray := prog_11_method_31_code
def yX9_sumOfRings : MethodName := ⟨RX9, "sumOfRings", "()I"⟩
abbrev cX9_sumOfSpreads : ByteArray := prog_11_method_32_code
def yX9_sumOfSpreads : MethodName := ⟨RX9, "sumOfSpreads", "()I"⟩
abbrev cX9_isValue : ByteArray := prog_11_method_33_code
def yX9_isValue : MethodName := ⟨RX9, "isValue", "(II)Z"⟩
abbrev cX9_set : ByteArray := prog_11_method_34_code
def yX9_set : MethodName := ⟨RX9, "set", "(II)I"⟩
abbrev cX9_whyNotHeard : ByteArray := prog_11_method_35_code
def yX9_whyNotHeard : MethodName := ⟨RX9, "whyNotHeard", "(II)I"⟩
abbrev cX9_hear : ByteArray := prog_11_method_36_code
def yX9_hear : MethodName := ⟨RX9, "hear", "(II)I"⟩
abbrev cX9_fire : ByteArray := prog_11_method_37_code
def yX9_fire : MethodName := ⟨RX9, "fire", "(III)I"⟩
abbrev cX9_forget : ByteArray := prog_11_method_38_code
def yX9_forget : MethodName := ⟨RX9, "forget", "(I)I"⟩
abbrev cX9_clear : ByteArray := prog_11_method_39_code
def yX9_clear : MethodName := ⟨RX9, "clear", "()I"⟩
abbrev cX9_takes : ByteArray := prog_11_method_40_code
def yX9_takes : MethodName := ⟨RX9, "takes", "(III)I"⟩
abbrev cX9_pulse : ByteArray := prog_11_method_41_code
def yX9_pulse : MethodName := ⟨RX9, "pulse", "(II)I"⟩
abbrev cX9_isShot : ByteArray := prog_11_method_42_code
def yX9_isShot : MethodName := ⟨RX9, "isShot", "(I)Z"⟩
abbrev cX9_shot : ByteArray := prog_11_method_43_code
def yX9_shot : MethodName := ⟨RX9, "shot", "(II)I"⟩
abbrev cX9_bestShot : ByteArray := prog_11_method_44_code
def yX9_bestShot : MethodName := ⟨RX9, "bestShot", "()I"⟩
abbrev cX9_widest : ByteArray := prog_11_method_45_code
def yX9_widest : MethodName := ⟨RX9, "widest", "()I"⟩
abbrev cX9_count : ByteArray := prog_11_method_46_code
def yX9_count : MethodName := ⟨RX9, "count", "(I)I"⟩
abbrev cX9_fits : ByteArray := prog_11_method_47_code
def yX9_fits : MethodName := ⟨RX9, "fits", "(III)I"⟩
abbrev cX9_mean : ByteArray := prog_11_method_48_code
def yX9_mean : MethodName := ⟨RX9, "mean", "(I)I"⟩
abbrev cX9_ifHeat : ByteArray := prog_11_method_49_code
def yX9_ifHeat : MethodName := ⟨RX9, "ifHeat", "(II)I"⟩
abbrev cX9_bestHeat : ByteArray := prog_11_method_50_code
def yX9_bestHeat : MethodName := ⟨RX9, "bestHeat", "()I"⟩
abbrev cX9_ifForgot : ByteArray := prog_11_method_51_code
def yX9_ifForgot : MethodName := ⟨RX9, "ifForgot", "(I)I"⟩
abbrev cX9_put : ByteArray := prog_11_method_52_code
def yX9_put : MethodName := ⟨RX9, "put", "(J)I"⟩
abbrev cX9_wipe : ByteArray := prog_11_method_53_code
def yX9_wipe : MethodName := ⟨RX9, "wipe", "()I"⟩
abbrev cX9_character : ByteArray := prog_11_method_54_code
def yX9_character : MethodName := ⟨RX9, "character", "(I)I"⟩
abbrev cX9_isNext : ByteArray := prog_11_method_55_code
def yX9_isNext : MethodName := ⟨RX9, "isNext", "(I)Z"⟩
abbrev cX9_takeDigit : ByteArray := prog_11_method_56_code
def yX9_takeDigit : MethodName := ⟨RX9, "takeDigit", "(I)I"⟩
abbrev cX9_takeNumber : ByteArray := prog_11_method_57_code
def yX9_takeNumber : MethodName := ⟨RX9, "takeNumber", "()I"⟩
abbrev cX9_readsPulse : ByteArray := prog_11_method_58_code
def yX9_readsPulse : MethodName := ⟨RX9, "readsPulse", "()Z"⟩
abbrev cX9_findFault : ByteArray := prog_11_method_59_code
def yX9_findFault : MethodName := ⟨RX9, "findFault", "()I"⟩
abbrev cX9_fault : ByteArray := prog_11_method_60_code
def yX9_fault : MethodName := ⟨RX9, "fault", "()I"⟩
abbrev cX9_hearAll : ByteArray := prog_11_method_61_code
def yX9_hearAll : MethodName := ⟨RX9, "hearAll", "()I"⟩
abbrev cX9_undo : ByteArray := prog_11_method_62_code
def yX9_undo : MethodName := ⟨RX9, "undo", "()I"⟩
abbrev cX9_save : ByteArray := prog_11_method_63_code
def yX9_save : MethodName := ⟨RX9, "save", "(I)I"⟩
abbrev cX9_restore : ByteArray := prog_11_method_64_code
def yX9_restore : MethodName := ⟨RX9, "restore", "(I)I"⟩
def RJ9 : String := "java/lang/Math"
abbrev cJ9_floorDiv_7cf53 : ByteArray := prog_12_method_47_code
def yJ9_floorDiv_7cf53 : MethodName := ⟨RJ9, "floorDiv", "(II)I"⟩
abbrev cJ9_abs_0f7a4 : ByteArray := prog_12_method_59_code
def yJ9_abs_0f7a4 : MethodName := ⟨RJ9, "abs", "(I)I"⟩
abbrev cJ9_max_7cf53 : ByteArray := prog_12_method_65_code
def yJ9_max_7cf53 : MethodName := ⟨RJ9, "max", "(II)I"⟩
abbrev cJ9_min_7cf53 : ByteArray := prog_12_method_69_code
def yJ9_min_7cf53 : MethodName := ⟨RJ9, "min", "(II)I"⟩
def RJ10 : String := "java/lang/System"
def RL : String := "CrackTargetLaw"
abbrev cL_law : ByteArray := code
def yL_law : MethodName := ⟨RL, "law", "([I)Z"⟩
abbrev vwCl : List vw_C := [(RX0, TX0, 4), (RX1, TX1, 4), (RX2, TX2, 3), (RX3, TX3, 3), (RX4, TX4, 3), (RX5, TX5, 6), (RX6, TX6, 6), (RX7, TX7, 3), (RX8, TX8, 10), (RX9, TX9, 27)]
end
section
section JMK
/-! ===== the walker: an abstract machine over a world of cells by index; each row is proved once over the kit ===== -/
/-- a method: name, code, locals, answer's type, room -/
abbrev jm_M : Type := MethodName × ByteArray × Nat × Option FieldType × Room
/-- a cell's shape: an object (its class by number; its fields: none = a number, some r = a reference), or an array (its kind, its length; none = numbers) -/
abbrev jm_Sh : Type := (Nat × List (Option (Option Nat))) ⊕ (Nat × Nat × Option (Nat → Option Nat))
/-- a world: shapes, addresses, numbers by cell and place -/
abbrev jm_W : Type := List jm_Sh × (Nat → Nat) × (Nat → Nat → Int32)
/-- what stays over the whole run: launch, places of the classes, array classes by kind, the arrays that are only read -/
abbrev jm_G : Type := Launch × va_G × (Nat → ClassId) × (Nat → Nat) × (Nat → Nat) × (Nat → Nat → Int32)
abbrev jm_K : Type := Program × Env × State × MethodId × Array Value × List Frame × Method × Code × (Nat → Prop) × (State → Prop)
def jm_TB : List Cond := lw_tbl.filter goodWord
def jm_isN : Cond → Bool
  | .methodLinkNest .. => true
  | _ => false
def jm_NB : List Cond := lw_tbl.filter jm_isN
theorem jm_tb {w : Cond} (i : Nat) (h : lw_tbl[i]? = some w) (hg : goodWord w = true) : w ∈ jm_TB := List.mem_filter.mpr ⟨List.mem_of_getElem? h, hg⟩
theorem jm_nb {w : Cond} (i : Nat) (h : lw_tbl[i]? = some w) (hg : jm_isN w = true) : w ∈ jm_NB := List.mem_filter.mpr ⟨List.mem_of_getElem? h, hg⟩
def jm_ws (M : jm_M) : List Cond := .code M.1 M.2.1 M.2.2.1 M.2.2.2.1 :: jm_TB
theorem jm_good : GoodIn jm_TB jm_TB := fun _ h => ⟨h, good_of_word (List.mem_filter.mp h).2⟩
theorem jm_gws {M : jm_M} (h : Cond.code M.1 M.2.1 M.2.2.1 M.2.2.2.1 ∈ jm_TB) : GoodIn jm_TB (jm_ws M) := by
  intro w hw
  rcases List.mem_cons.mp hw with rfl | hw
  · exact jm_good _ h
  · exact jm_good _ hw
def jm_tr (ro ad : Nat → Nat) : Value → Value
  | .ref k => .ref (ad k)
  | .retAddr i => .ref (ro i)
  | .int x => .int x
  | .long x => .long x
  | .float x => .float x
  | .double x => .double x
  | .null => .null
theorem jm_trc (ro ad : Nat → Nat) (v : Value) (h : ∀ i, v ≠ .retAddr i) : (jm_tr ro ad v).category = v.category := by
  cases v <;> first | rfl | exact absurd rfl (h _)
def jm_fv (ad : Nat → Nat) (f : Nat → Int32) (j : Nat) : Option (Option Nat) → Value
  | none => .int (f j)
  | some none => .null
  | some (some r) => .ref (ad r)
def jm_fs (ad : Nat → Nat) (fs : List (Option (Option Nat))) (f : Nat → Int32) : List Value := fs.mapIdx (fun j x => jm_fv ad f j x)
def jm_ent (cA : Nat → ClassId) (ad : Nat → Nat) (sh : jm_Sh) (f : Nat → Int32) : va_E := match sh with
  | .inl o => .inr (o.1, jm_fs ad o.2 f)
  | .inr (kd, n, none) => .inl (cA kd, n, .inl f)
  | .inr (kd, n, some r) => .inl (cA kd, n, .inr (.inr (.inr (.inr (fun j => (r j).map ad)))))
def jm_conc (g : jm_G) (w : jm_W) : va_W := w.1.mapIdx (fun k sh => (w.2.1 k, jm_ent g.2.2.1 w.2.1 sh (w.2.2 k)))
theorem jm_conc_at (g : jm_G) (w : jm_W) {k : Nat} {sh : jm_Sh} (h : w.1[k]? = some sh) : (jm_conc g w)[k]? = some (w.2.1 k, jm_ent g.2.2.1 w.2.1 sh (w.2.2 k)) := by
  simp [jm_conc, List.getElem?_mapIdx, h]
/-- a cell's numbers anew -/
def jm_up (μ : Nat → Nat → Int32) (k : Nat) (f : Nat → Int32) : Nat → Nat → Int32 := fun c => if c = k then f else μ c
/-- one number anew -/
def jm_st (μ : Nat → Nat → Int32) (k j : Nat) (x : Int32) : Nat → Nat → Int32 := jm_up μ k (upd (μ k) j x)
theorem jm_up_s (μ : Nat → Nat → Int32) (k : Nat) (f : Nat → Int32) : jm_up μ k f k = f := by simp [jm_up]
theorem jm_up_n (μ : Nat → Nat → Int32) {k c : Nat} (f : Nat → Int32) (h : c ≠ k) : jm_up μ k f c = μ c := by simp [jm_up, h]
theorem jm_st_s (μ : Nat → Nat → Int32) (k j : Nat) (x : Int32) : jm_st μ k j x k j = x := by simp [jm_st, jm_up, upd]
theorem jm_st_e (μ : Nat → Nat → Int32) (k j : Nat) (x : Int32) (c i : Nat) : jm_st μ k j x c i = if c = k ∧ i = j then x else μ c i := by
  by_cases h : c = k
  · subst h
    by_cases h2 : i = j <;> simp [jm_st, jm_up, upd, h2]
  · simp [jm_st, jm_up, h]
theorem jm_st_nc (μ : Nat → Nat → Int32) {k c : Nat} (j : Nat) (x : Int32) (h : c ≠ k) : jm_st μ k j x c = μ c := by simp [jm_st, jm_up, h]
theorem jm_st_ni (μ : Nat → Nat → Int32) (k : Nat) {j i : Nat} (x : Int32) (h : i ≠ j) : jm_st μ k j x k i = μ k i := by simp [jm_st, jm_up, upd, h]
theorem jm_conc_set (g : jm_G) (Γ : List jm_Sh) (ad : Nat → Nat) (μ : Nat → Nat → Int32) {k : Nat} {sh : jm_Sh} (f : Nat → Int32) (h : Γ[k]? = some sh) : (jm_conc g (Γ, ad, μ)).set k (ad k, jm_ent g.2.2.1 ad sh f) = jm_conc g (Γ, ad, jm_up μ k f) := by
  have hl : k < Γ.length := (List.getElem?_eq_some_iff.mp h).1
  apply List.ext_getElem?
  intro i
  rw [List.getElem?_set]
  by_cases hi : k = i
  · subst hi
    simp [jm_conc, List.getElem?_mapIdx, jm_up, hl, (List.getElem?_eq_some_iff.mp h).2]
  · have hi2 : ¬ i = k := fun q => hi q.symm
    simp [jm_conc, List.getElem?_mapIdx, hi, jm_up, hi2]
theorem jm_conc_shape (g : jm_G) (Γ : List jm_Sh) (ad : Nat → Nat) (μ : Nat → Nat → Int32) {k : Nat} (sh : jm_Sh) (h : k < Γ.length) : (jm_conc g (Γ, ad, μ)).set k (ad k, jm_ent g.2.2.1 ad sh (μ k)) = jm_conc g (Γ.set k sh, ad, μ) := by
  apply List.ext_getElem?
  intro i
  rw [List.getElem?_set]
  by_cases hi : k = i
  · subst hi
    simp [jm_conc, List.getElem?_mapIdx, h, List.getElem?_set]
  · simp [jm_conc, List.getElem?_mapIdx, hi, List.getElem?_set]
/-- the locals as the kit lists them -/
def jm_ls (ro ad : Nat → Nat) (ls : List (Option Value)) : List (Nat × Value) := ls.zipIdx.filterMap (fun q => q.1.map (fun v => (q.2, jm_tr ro ad v)))
theorem jm_ls_in {ro ad : Nat → Nat} {ls : List (Option Value)} {q : Nat × Value} : q ∈ jm_ls ro ad ls ↔ ∃ v, ls[q.1]? = some (some v) ∧ q.2 = jm_tr ro ad v := by
  constructor
  · intro h
    obtain ⟨⟨o, i⟩, h1, h2⟩ := List.mem_filterMap.mp h
    rw [List.mem_zipIdx_iff_getElem?] at h1
    cases o with
    | none => simp at h2
    | some v =>
      simp at h2
      subst h2
      exact ⟨v, h1, rfl⟩
  · rintro ⟨v, h1, h2⟩
    refine List.mem_filterMap.mpr ⟨(some v, q.1), ?_, ?_⟩
    · rw [List.mem_zipIdx_iff_getElem?]
      exact h1
    · simp only [Option.map_some]
      rw [← h2]
theorem jm_has {la : Array Slot} {n : Nat} {l l' : List (Nat × Value)} (h : lv_has la n l) (hs : ∀ q ∈ l', q ∈ l) : lv_has la n l' := ⟨h.1, h.2.1, fun q hq => h.2.2 q (hs q hq)⟩
/-- no long ends just before place i -/
def jm_nl (ls : List (Option Value)) (i : Nat) : Bool := match i with
  | 0 => true
  | j + 1 => match ls[j]? with
    | some (some (.long _)) => false
    | some (some (.double _)) => false
    | some (some (.retAddr _)) => false
    | _ => true
theorem jm_ls_set {ro ad : Nat → Nat} {ls : List (Option Value)} {i : Nat} (v : Value) (h : jm_nl ls i = true) : ∀ q ∈ jm_ls ro ad (ls.set i (some v)), q ∈ (i, jm_tr ro ad v) :: (jm_ls ro ad ls).filter (fun q => !(q.1 == i) && !(q.1 + 1 == i && q.2.category == 2)) := by
  intro q hq
  obtain ⟨u, h1, h2⟩ := jm_ls_in.mp hq
  by_cases hi : i = q.1
  · subst hi
    rw [List.getElem?_set_self'] at h1
    have : u = v := by
      cases hz : ls[q.1]? with
      | none => simp [hz] at h1
      | some z => simp [hz] at h1; exact h1.symm
    subst this
    refine List.mem_cons.mpr (Or.inl ?_)
    rw [← h2]
  · rw [List.getElem?_set_ne hi] at h1
    refine List.mem_cons.mpr (Or.inr (List.mem_filter.mpr ⟨jm_ls_in.mpr ⟨u, h1, h2⟩, ?_⟩))
    have hi2 : (q.1 == i) = false := by simp; exact fun e => hi e.symm
    rw [hi2]
    by_cases hj : q.1 + 1 = i
    · subst hj
      simp only [jm_nl, h1] at h
      rw [h2]
      cases u <;> simp_all [jm_tr, Value.category]
    · have hj2 : (q.1 + 1 == i) = false := by simp; exact hj
      rw [hj2]; rfl
theorem jm_ls_set2 {ro ad : Nat → Nat} {ls : List (Option Value)} {i : Nat} (v : Int64) (h : jm_nl ls i = true) : ∀ q ∈ jm_ls ro ad ((ls.set i (some (.long v))).set (i + 1) none), q ∈ (i, Value.long v) :: (jm_ls ro ad ls).filter (fun q => !(q.1 == i) && (!(q.1 == i + 1) && !(q.1 + 1 == i && q.2.category == 2))) := by
  intro q hq
  obtain ⟨u, h1, h2⟩ := jm_ls_in.mp hq
  by_cases hk : i + 1 = q.1
  · exfalso
    rw [← hk, List.getElem?_set_self'] at h1
    cases hz : (ls.set i (some (.long v)))[i + 1]? with
    | none => simp [hz] at h1
    | some z => simp [hz] at h1
  · rw [List.getElem?_set_ne hk] at h1
    by_cases hi : i = q.1
    · subst hi
      rw [List.getElem?_set_self'] at h1
      have : u = .long v := by
        cases hz : ls[q.1]? with
        | none => simp [hz] at h1
        | some z => simp [hz] at h1; exact h1.symm
      subst this
      refine List.mem_cons.mpr (Or.inl ?_)
      show q = (q.1, jm_tr ro ad (.long v))
      rw [← h2]
    · rw [List.getElem?_set_ne hi] at h1
      refine List.mem_cons.mpr (Or.inr (List.mem_filter.mpr ⟨jm_ls_in.mpr ⟨u, h1, h2⟩, ?_⟩))
      have hi2 : (q.1 == i) = false := by simp; exact fun e => hi e.symm
      have hk2 : (q.1 == i + 1) = false := by simp; exact fun e => hk e.symm
      rw [hi2, hk2]
      by_cases hj : q.1 + 1 = i
      · subst hj
        simp only [jm_nl, h1] at h
        rw [h2]
        cases u <;> simp_all [jm_tr, Value.category]
      · have hj2 : (q.1 + 1 == i) = false := by simp; exact hj
        rw [hj2]; rfl
def jm_tys (g : jm_G) : List (ClassId × FieldType) := [(g.2.2.1 0, .int), (g.2.2.1 1, .char), (g.2.2.1 2, .boolean), (g.2.2.1 3, .object RX3), (g.2.2.1 4, .object RX6)]
/-- what the tables say, in any state of the run -/
def jm_Sa (g : jm_G) (U : State) : Prop := va_K g.2.1 vwCl (jm_tys g) U ∧ (∀ w ∈ jm_NB, va_Nw w U) ∧ va_AO RX3 U ∧ va_AO RX6 U
/-- the arrays that are only read -/
def jm_Ro (g : jm_G) (A : Nat → Prop) (U : State) (H : Heap) : Prop := (∀ i : Nat, i < 3 → va_T .int (g.2.2.2.1 i) (g.2.2.2.2.1 i) (fun j => .int (g.2.2.2.2.2 i j)) A U H) ∧ va_Z RX8 "LOWEST" "[I" (.ref (g.2.2.2.1 0)) A U H ∧ va_Z RX8 "HIGHEST" "[I" (.ref (g.2.2.2.1 1)) A U H
theorem jm_Ro.moved {g : jm_G} {A : Nat → Prop} {u U : State} {H : Heap} (hvm : u.vm.Alike U.vm) (h : jm_Ro g A u H) : jm_Ro g A U H := ⟨fun i hi => (h.1 i hi).moved hvm, h.2.1.moved hvm, h.2.2.moved hvm⟩
theorem jm_Ro.kept {g : jm_G} {A : Nat → Prop} {U : State} {H H1 : Heap} (h : jm_Ro g A U H) (hq : ∀ a : Nat, a < H.size → ¬ A a → H1[a]? = H[a]?) : jm_Ro g A U H1 := ⟨fun i hi => (h.1 i hi).kept hq, h.2.1.kept hq, h.2.2.kept hq⟩
theorem jm_Ro.narrow {g : jm_G} {A B : Nat → Prop} {U : State} {H : Heap} (h : jm_Ro g A U H) (hAB : ∀ q, B q → A q) : jm_Ro g B U H := ⟨fun i hi => (h.1 i hi).narrow hAB, h.2.1.narrow hAB, h.2.2.narrow hAB⟩
theorem jm_Sa.same {g : jm_G} {u U : State} (hvm : u.vm = U.vm) (h : jm_Sa g u) : jm_Sa g U := by
  have ha : u.vm.Alike U.vm := by rw [hvm]; exact Vm.Alike.refl U.vm
  refine ⟨va_K.moved ha h.1, fun w hw => ?_, h.2.2.1.moved ha, h.2.2.2.moved ha⟩
  have h1 := h.2.1 w hw
  have h2 := (List.mem_filter.mp hw).2
  cases w <;> simp [jm_isN] at h2
  exact va_Nw.same rfl hvm h1
theorem jm_Sa.warm {g : jm_G} {s U : State} (hW : s.WarmedH U.vm) (h : jm_Sa g s) : jm_Sa g U := by
  refine ⟨va_K.moved hW.alike h.1, fun w hw => ?_, h.2.2.1.moved hW.alike, h.2.2.2.moved hW.alike⟩
  have h1 := h.2.1 w hw
  have h2 := (List.mem_filter.mp hw).2
  cases w <;> simp [jm_isN] at h2
  exact va_Nw.warmM hW h1
/-- what holds of a method while it runs -/
def jm_C (g : jm_G) (M : jm_M) (p : Program) (s : State) (m : MethodId) (args : Array Value) (meth : Method) (c : Code) (A : Nat → Prop) : Prop :=
  p.tables.exec = Jvm.exec ∧ c.code = M.2.1 ∧ c.maxLocals = M.2.2.1 ∧ meth.sig.returnType = M.2.2.2.1 ∧ s.vm.findClass M.1.cls = some m.cls ∧ (∀ w ∈ jm_TB, w.before args s = true) ∧ meth.locks = false ∧ meth.name = M.1.name ∧ jm_Sa g s ∧ jm_Ro g A s s.heap ∧ (∀ q, s.heap.size ≤ q → A q)
/-- THE JUDGEMENT: from this place, with these locals, this stack and this world, the method comes to its end -/
def jm_R (g : jm_G) (M : jm_M) (κ : jm_K) (k n pc : Nat) (ls : List (Option Value)) (st : List Value) (w : jm_W) : Prop :=
  match κ with
  | (p, e, s, m, args, below, meth, c, A, Q) => jm_C g M p s m args meth c A → ∀ (H : Heap) (locs : List Loc) (la : Array Slot), va_P g.2.1 vwCl (jm_conc g w) H → va_D A (jm_conc g w) → va_S A s.heap H locs → lv_has la M.2.2.1 (jm_ls g.2.2.2.1 w.2.1 ls) → W p g.1 e M.2.2.2.2 s m args below meth c H locs k n Q (F0 m pc la (st.map (jm_tr g.2.2.2.1 w.2.1)))
def jm_Qc (g : jm_G) (P : Option Value → jm_W → Prop) (A : Nat → Prop) : Array Value → State → Outcome → State → Prop := fun _ st oc t =>
  (∃ (v : Option Value) (w : jm_W), oc = .returned (v.map (jm_tr g.2.2.2.1 w.2.1)) ∧ P v w ∧ va_P g.2.1 vwCl (jm_conc g w) t.heap ∧ va_D A (jm_conc g w)) ∧ va_F A st t
def jm_E (g : jm_G) (M : jm_M) (P : Option Value → jm_W → Prop) (κ : jm_K) : Prop :=
  match κ with
  | (_, _, s, _, args, below, _, _, A, Q) => Q = MQ below (jm_Qc g P A) args s M.2.2.2.2.cells M.2.2.2.2.slots A
def jm_Pre (g : jm_G) (w : jm_W) (A : Nat → Prop) (U : State) : Prop := va_P g.2.1 vwCl (jm_conc g w) U.heap ∧ va_D (fun _ => True) (jm_conc g w) ∧ jm_Sa g U ∧ jm_Ro g A U U.heap
/-- A CONTRACT: called with these arguments in this world, the method returns, and P holds of its answer and the world behind it -/
def jm_Cp (g : jm_G) (M : jm_M) (av : List Value) (w : jm_W) (P : Option Value → jm_W → Prop) : Prop :=
  ∀ sz : Nat, Met g.1 M.1 (jm_ws M) M.2.2.2.2 (va_Pc (av.map (jm_tr g.2.2.2.1 w.2.1)) (fun U => U.heap.size = sz ∧ jm_Pre g w (va_A (jm_conc g w) sz) U)) (jm_Qc g P (va_A (jm_conc g w) sz)) M.2.2.2.2.cells M.2.2.2.2.slots (va_A (jm_conc g w) sz)
def jm_l0 : List Value → List (Option Value)
  | [] => []
  | .long x :: vs => some (.long x) :: none :: jm_l0 vs
  | .int x :: vs => some (.int x) :: jm_l0 vs
  | .ref x :: vs => some (.ref x) :: jm_l0 vs
  | .null :: vs => some .null :: jm_l0 vs
  | _ :: _ => []
theorem jm_l0_in (ro ad : Nat → Nat) : ∀ (av : List Value) (i j : Nat) (v : Value), (jm_l0 av)[j]? = some (some v) → (i + j, jm_tr ro ad v) ∈ lv_args i (av.map (jm_tr ro ad)) := by
  intro av
  induction av with
  | nil => intro i j v h; simp [jm_l0] at h
  | cons a vs ih =>
    intro i j v h
    have one : jm_l0 (a :: vs) = some a :: jm_l0 vs → (jm_tr ro ad a).category = 1 → (i + j, jm_tr ro ad v) ∈ lv_args i ((a :: vs).map (jm_tr ro ad)) := by
      intro e hc
      rw [e] at h
      cases j with
      | zero =>
        simp at h
        subst h
        exact List.mem_cons_self
      | succ j =>
        simp only [List.getElem?_cons_succ] at h
        have h2 := ih (i + 1) j v h
        refine List.mem_cons_of_mem _ ?_
        show _ ∈ lv_args (if (jm_tr ro ad a).category = 2 then i + 2 else i + 1) _
        rw [if_neg (by omega), show i + (j + 1) = i + 1 + j by omega]
        exact h2
    cases a with
    | int x => exact one rfl rfl
    | ref x => exact one rfl rfl
    | null => exact one rfl rfl
    | long x =>
      cases j with
      | zero =>
        simp [jm_l0] at h
        subst h
        exact List.mem_cons_self
      | succ j =>
        cases j with
        | zero => simp [jm_l0] at h
        | succ j =>
          simp only [jm_l0, List.getElem?_cons_succ] at h
          have h2 := ih (i + 2) j v h
          refine List.mem_cons_of_mem _ ?_
          show _ ∈ lv_args (if (Value.long x).category = 2 then i + 2 else i + 1) _
          have e2 : (Value.long x).category = 2 := rfl
          rw [if_pos e2, show i + (j + 1 + 1) = i + 2 + j by omega]
          exact h2
    | float x => simp [jm_l0] at h
    | double x => simp [jm_l0] at h
    | retAddr x => simp [jm_l0] at h
def jm_ok0 : List Value → Nat → Bool
  | [], _ => true
  | .long _ :: vs, n => match n with
    | n + 2 => jm_ok0 vs n
    | _ => false
  | .int _ :: vs, n + 1 => jm_ok0 vs n
  | .ref _ :: vs, n + 1 => jm_ok0 vs n
  | .null :: vs, n + 1 => jm_ok0 vs n
  | _ :: _, _ => false
theorem jm_sl_len (ro ad : Nat → Nat) : ∀ (av : List Value) (n : Nat), jm_ok0 av n = true → (lg_sl (av.map (jm_tr ro ad))).length ≤ n := by
  intro av
  induction av with
  | nil => intro n _; simp [lg_sl]
  | cons a vs ih =>
    intro n h
    have e : ∀ v : Value, lg_sl ((v :: vs).map (jm_tr ro ad)) = lg_sl [jm_tr ro ad v] ++ lg_sl (vs.map (jm_tr ro ad)) := fun v => by simp [lg_sl]
    rw [e, List.length_append]
    cases a with
    | long x =>
      match n, h with
      | n + 2, h =>
        have h2 := ih n h
        have h3 : (lg_sl [jm_tr ro ad (.long x)]).length = 2 := rfl
        omega
    | int x =>
      match n, h with
      | n + 1, h =>
        have h2 := ih n h
        have h3 : (lg_sl [jm_tr ro ad (.int x)]).length = 1 := rfl
        omega
    | ref x =>
      match n, h with
      | n + 1, h =>
        have h2 := ih n h
        have h3 : (lg_sl [jm_tr ro ad (.ref x)]).length = 1 := rfl
        omega
    | null =>
      match n, h with
      | n + 1, h =>
        have h2 := ih n h
        have h3 : (lg_sl [jm_tr ro ad .null]).length = 1 := rfl
        omega
    | float x => cases n <;> simp [jm_ok0] at h
    | double x => cases n <;> simp [jm_ok0] at h
    | retAddr x => cases n <;> simp [jm_ok0] at h
theorem jm_intro {g : jm_G} {M : jm_M} {av : List Value} {w : jm_W} {P : Option Value → jm_W → Prop} (ls : List (Option Value)) (hy : plainName M.1.cls = true) (hav : jm_ok0 av M.2.2.1 = true) (hls : jm_l0 av ++ List.replicate (M.2.2.1 - (jm_l0 av).length) none = ls)
    (body : ∀ κ : jm_K, jm_E g M P κ → jm_R g M κ 0 0 0 ls [] w) : jm_Cp g M av w P := by
  intro sz
  refine Met.ofW (cc := M.2.1) (maxL := M.2.2.1) (ret := M.2.2.2.1) hy rfl ?_
  intro p e s m args below meth c s₁ B hml hv
  obtain ⟨hargs, hsz, hP, hD0, hSt, hRo⟩ := hv
  have hx := B.exec
  have hb := B.bytes
  have hr := B.returns
  have hts := atoms_spec (ws := jm_ws M) B.pre
  have hown : s.vm.findClass M.1.cls = some m.cls := findClass_of_methodNamed B.named
  have hin : meth.name = M.1.name := (name_of_methodNamed B.named B.method).1
  have hlocks := B.notSynchronized
  subst hsz
  have hD := hD0.self (sz := s.heap.size)
  have hA : ∀ q : Nat, s.heap.size ≤ q → va_A (jm_conc g w) s.heap.size q := fun q h => Or.inr h
  have hl := lv_entry (av.map (jm_tr g.2.2.2.1 w.2.1)) (n := M.2.2.1) (jm_sl_len _ _ av _ hav)
  subst hargs
  rw [lg_entry_eq]
  have hb2 := body (p, e, s, m, (av.map (jm_tr g.2.2.2.1 w.2.1)).toArray, below, meth, c, va_A (jm_conc g w) s.heap.size, MQ below (jm_Qc g P (va_A (jm_conc g w) s.heap.size)) (av.map (jm_tr g.2.2.2.1 w.2.1)).toArray s M.2.2.2.2.cells M.2.2.2.2.slots (va_A (jm_conc g w) s.heap.size)) rfl
  refine hb2 ⟨hx, hb, hml, hr, hown, fun w hw => hts w (List.mem_cons_of_mem _ hw), hlocks, hin, hSt, hRo, hA⟩ s.heap [] _ hP hD va_S.rf (jm_has hl ?_)
  intro q hq
  obtain ⟨v, h1, h2⟩ := jm_ls_in.mp hq
  rw [← hls] at h1
  by_cases hlen : q.1 < (jm_l0 av).length
  · rw [List.getElem?_append_left hlen] at h1
    have h3 := jm_l0_in g.2.2.2.1 w.2.1 av 0 q.1 v h1
    rw [Nat.zero_add, ← h2] at h3
    exact h3
  · rw [List.getElem?_append_right (by omega)] at h1
    have h4 := List.eq_of_mem_replicate (List.mem_of_getElem? h1)
    cases h4
end JMK
end
section
section JMR
variable {g : jm_G} {M : jm_M} {κ : jm_K} {k n pc : Nat} {ls : List (Option Value)} {st : List Value} {w : jm_W}
/-! rows that touch locals and stack alone -/
theorem jr_iconst {z : Int} (v : Int32) (hdg : decode M.2.1 pc = .ok (.iconst z, 1)) (hv : Int32.ofInt z = v) (kk : jm_R g M κ k n (pc + 1) ls (.int v :: st) w) : jm_R g M κ k n pc ls st w := by
  obtain ⟨p, e, s, m, args, below, meth, c, A, Q⟩ := κ
  intro C H locs la hP hD hS hl
  exact lv_iconst C.1 C.2.1 hdg hv (kk C H locs la hP hD hS hl)
theorem jr_bipush {z : Int} (v : Int32) (hdg : decode M.2.1 pc = .ok (.bipush z, 2)) (hv : (Int8.ofInt z).toInt32 = v) (kk : jm_R g M κ k n (pc + 2) ls (.int v :: st) w) : jm_R g M κ k n pc ls st w := by
  obtain ⟨p, e, s, m, args, below, meth, c, A, Q⟩ := κ
  intro C H locs la hP hD hS hl
  exact lv_bipush C.1 C.2.1 hdg hv (kk C H locs la hP hD hS hl)
theorem jr_sipush {z : Int} (v : Int32) (hdg : decode M.2.1 pc = .ok (.sipush z, 3)) (hv : (Int16.ofInt z).toInt32 = v) (kk : jm_R g M κ k n (pc + 3) ls (.int v :: st) w) : jm_R g M κ k n pc ls st w := by
  obtain ⟨p, e, s, m, args, below, meth, c, A, Q⟩ := κ
  intro C H locs la hP hD hS hl
  exact lv_sipush C.1 C.2.1 hdg hv (kk C H locs la hP hD hS hl)
theorem jr_ldc {index : Nat} (v : Int32) (hdg : decode M.2.1 pc = .ok (.ldc index, 2)) (hw : Cond.constant M.1.cls index v ∈ jm_TB) (kk : jm_R g M κ k n (pc + 2) ls (.int v :: st) w) : jm_R g M κ k n pc ls st w := by
  obtain ⟨p, e, s, m, args, below, meth, c, A, Q⟩ := κ
  intro C H locs la hP hD hS hl
  exact lv_ldc C.1 C.2.1 C.2.2.2.2.1 (C.2.2.2.2.2.1 _ hw) hdg (kk C H locs la hP hD hS hl)
theorem jr_ldc2 {index : Nat} (v : Int64) (hdg : decode M.2.1 pc = .ok (.ldc2_w index, 3)) (hw : Cond.constantLong M.1.cls index v ∈ jm_TB) (kk : jm_R g M κ k n (pc + 3) ls (.long v :: st) w) : jm_R g M κ k n pc ls st w := by
  obtain ⟨p, e, s, m, args, below, meth, c, A, Q⟩ := κ
  intro C H locs la hP hD hS hl
  exact lv_ldc2 C.1 C.2.1 C.2.2.2.2.1 (C.2.2.2.2.2.1 _ hw) hdg (kk C H locs la hP hD hS hl)
theorem jr_lconst {z : Fin 2} (v : Int64) (hdg : decode M.2.1 pc = .ok (.lconst z, 1)) (hv : Int64.ofNat (z : Nat) = v) (kk : jm_R g M κ k n (pc + 1) ls (.long v :: st) w) : jm_R g M κ k n pc ls st w := by
  obtain ⟨p, e, s, m, args, below, meth, c, A, Q⟩ := κ
  intro C H locs la hP hD hS hl
  exact lv_lconst C.1 C.2.1 hdg hv (kk C H locs la hP hD hS hl)
theorem jm_at {ro ad : Nat → Nat} {la : Array Slot} {nL i : Nat} {v : Value} (hl : lv_has la nL (jm_ls ro ad ls)) (h : ls[i]? = some (some v)) : la[i]? = some (.val (jm_tr ro ad v)) := hl.2.2 (i, jm_tr ro ad v) (jm_ls_in.mpr ⟨v, h, rfl⟩)
theorem jr_iload {i : Nat} {x : Int32} (hdg : decode M.2.1 pc = .ok (.iload i, 2)) (h : ls[i]? = some (some (.int x))) (kk : jm_R g M κ k n (pc + 2) ls (.int x :: st) w) : jm_R g M κ k n pc ls st w := by
  obtain ⟨p, e, s, m, args, below, meth, c, A, Q⟩ := κ
  intro C H locs la hP hD hS hl
  exact lv_iload C.1 C.2.1 hdg (jm_at hl h) (kk C H locs la hP hD hS hl)
theorem jr_iload_n {i : Fin 4} {x : Int32} (hdg : decode M.2.1 pc = .ok (.iload_n i, 1)) (h : ls[(i : Nat)]? = some (some (.int x))) (kk : jm_R g M κ k n (pc + 1) ls (.int x :: st) w) : jm_R g M κ k n pc ls st w := by
  obtain ⟨p, e, s, m, args, below, meth, c, A, Q⟩ := κ
  intro C H locs la hP hD hS hl
  exact lv_iload_n C.1 C.2.1 hdg rfl (jm_at hl h) (kk C H locs la hP hD hS hl)
theorem jr_lload {i : Nat} {x : Int64} (hdg : decode M.2.1 pc = .ok (.lload i, 2)) (h : ls[i]? = some (some (.long x))) (kk : jm_R g M κ k n (pc + 2) ls (.long x :: st) w) : jm_R g M κ k n pc ls st w := by
  obtain ⟨p, e, s, m, args, below, meth, c, A, Q⟩ := κ
  intro C H locs la hP hD hS hl
  exact lv_lload C.1 C.2.1 hdg (jm_at hl h) (kk C H locs la hP hD hS hl)
theorem jr_lload_n {i : Fin 4} {x : Int64} (hdg : decode M.2.1 pc = .ok (.lload_n i, 1)) (h : ls[(i : Nat)]? = some (some (.long x))) (kk : jm_R g M κ k n (pc + 1) ls (.long x :: st) w) : jm_R g M κ k n pc ls st w := by
  obtain ⟨p, e, s, m, args, below, meth, c, A, Q⟩ := κ
  intro C H locs la hP hD hS hl
  exact lv_lload_n C.1 C.2.1 hdg rfl (jm_at hl h) (kk C H locs la hP hD hS hl)
theorem jr_aload {i : Nat} {x : Nat} (hdg : decode M.2.1 pc = .ok (.aload i, 2)) (h : ls[i]? = some (some (.ref x))) (kk : jm_R g M κ k n (pc + 2) ls (.ref x :: st) w) : jm_R g M κ k n pc ls st w := by
  obtain ⟨p, e, s, m, args, below, meth, c, A, Q⟩ := κ
  intro C H locs la hP hD hS hl
  exact lv_aload C.1 C.2.1 hdg (jm_at hl h) (kk C H locs la hP hD hS hl)
theorem jr_aload_n {i : Fin 4} {x : Nat} (hdg : decode M.2.1 pc = .ok (.aload_n i, 1)) (h : ls[(i : Nat)]? = some (some (.ref x))) (kk : jm_R g M κ k n (pc + 1) ls (.ref x :: st) w) : jm_R g M κ k n pc ls st w := by
  obtain ⟨p, e, s, m, args, below, meth, c, A, Q⟩ := κ
  intro C H locs la hP hD hS hl
  exact lv_aload_n C.1 C.2.1 hdg rfl (jm_at hl h) (kk C H locs la hP hD hS hl)
/-- the law's script: an array that is only read -/
theorem jr_aload_r {i : Fin 4} {x : Nat} (hdg : decode M.2.1 pc = .ok (.aload_n i, 1)) (h : ls[(i : Nat)]? = some (some (.retAddr x))) (kk : jm_R g M κ k n (pc + 1) ls (.retAddr x :: st) w) : jm_R g M κ k n pc ls st w := by
  obtain ⟨p, e, s, m, args, below, meth, c, A, Q⟩ := κ
  intro C H locs la hP hD hS hl
  exact lv_aload_n C.1 C.2.1 hdg rfl (jm_at hl h) (kk C H locs la hP hD hS hl)
theorem jr_istore {i : Nat} {x : Int32} (ls' : List (Option Value)) (hdg : decode M.2.1 pc = .ok (.istore i, 2)) (hi : decide (i < M.2.2.1) = true) (hn : jm_nl ls i = true) (h : ls.set i (some (.int x)) = ls') (kk : jm_R g M κ k n (pc + 2) ls' st w) : jm_R g M κ k n pc ls (.int x :: st) w := by
  obtain ⟨p, e, s, m, args, below, meth, c, A, Q⟩ := κ
  intro C H locs la hP hD hS hl
  subst h
  exact lv_istore C.1 C.2.1 hdg hl (of_decide_eq_true hi) rfl (fun la' hl' => kk C H locs la' hP hD hS (jm_has hl' (jm_ls_set (.int x) hn)))
theorem jr_istore_n {i : Fin 4} {x : Int32} (ls' : List (Option Value)) (hdg : decode M.2.1 pc = .ok (.istore_n i, 1)) (hi : decide ((i : Nat) < M.2.2.1) = true) (hn : jm_nl ls i = true) (h : ls.set i (some (.int x)) = ls') (kk : jm_R g M κ k n (pc + 1) ls' st w) : jm_R g M κ k n pc ls (.int x :: st) w := by
  obtain ⟨p, e, s, m, args, below, meth, c, A, Q⟩ := κ
  intro C H locs la hP hD hS hl
  subst h
  exact lv_istore_n C.1 C.2.1 hdg rfl hl (of_decide_eq_true hi) rfl (fun la' hl' => kk C H locs la' hP hD hS (jm_has hl' (jm_ls_set (.int x) hn)))
theorem jr_astore {i : Nat} {x : Nat} (ls' : List (Option Value)) (hdg : decode M.2.1 pc = .ok (.astore i, 2)) (hi : decide (i < M.2.2.1) = true) (hn : jm_nl ls i = true) (h : ls.set i (some (.ref x)) = ls') (kk : jm_R g M κ k n (pc + 2) ls' st w) : jm_R g M κ k n pc ls (.ref x :: st) w := by
  obtain ⟨p, e, s, m, args, below, meth, c, A, Q⟩ := κ
  intro C H locs la hP hD hS hl
  subst h
  exact lv_astore C.1 C.2.1 hdg hl (of_decide_eq_true hi) rfl (fun la' hl' => kk C H locs la' hP hD hS (jm_has hl' (jm_ls_set (.ref x) hn)))
theorem jr_astore_n {i : Fin 4} {x : Nat} (ls' : List (Option Value)) (hdg : decode M.2.1 pc = .ok (.astore_n i, 1)) (hi : decide ((i : Nat) < M.2.2.1) = true) (hn : jm_nl ls i = true) (h : ls.set i (some (.ref x)) = ls') (kk : jm_R g M κ k n (pc + 1) ls' st w) : jm_R g M κ k n pc ls (.ref x :: st) w := by
  obtain ⟨p, e, s, m, args, below, meth, c, A, Q⟩ := κ
  intro C H locs la hP hD hS hl
  subst h
  exact lv_astore_n C.1 C.2.1 hdg rfl hl (of_decide_eq_true hi) rfl (fun la' hl' => kk C H locs la' hP hD hS (jm_has hl' (jm_ls_set (.ref x) hn)))
theorem jr_lstore {i : Nat} {x : Int64} (ls' : List (Option Value)) (hdg : decode M.2.1 pc = .ok (.lstore i, 2)) (hi : decide (i + 1 < M.2.2.1) = true) (hn : jm_nl ls i = true) (h : (ls.set i (some (.long x))).set (i + 1) none = ls') (kk : jm_R g M κ k n (pc + 2) ls' st w) : jm_R g M κ k n pc ls (.long x :: st) w := by
  obtain ⟨p, e, s, m, args, below, meth, c, A, Q⟩ := κ
  intro C H locs la hP hD hS hl
  subst h
  exact lv_lstore C.1 C.2.1 hdg hl (of_decide_eq_true hi) rfl (fun la' hl' => kk C H locs la' hP hD hS (jm_has hl' (jm_ls_set2 x hn)))
theorem jr_iinc {i : Nat} {z : Int} {x v : Int32} (ls' : List (Option Value)) (hdg : decode M.2.1 pc = .ok (.iinc i z, 3)) (hg : ls[i]? = some (some (.int x))) (hv : x + Int32.ofInt z = v) (hi : decide (i < M.2.2.1) = true) (hn : jm_nl ls i = true) (h : ls.set i (some (.int v)) = ls') (kk : jm_R g M κ k n (pc + 3) ls' st w) : jm_R g M κ k n pc ls st w := by
  obtain ⟨p, e, s, m, args, below, meth, c, A, Q⟩ := κ
  intro C H locs la hP hD hS hl
  subst h
  obtain ⟨q, hq⟩ := List.mem_iff_getElem?.mp (jm_ls_in.mpr ⟨.int x, hg, rfl⟩ : (i, jm_tr g.2.2.2.1 w.2.1 (.int x)) ∈ jm_ls g.2.2.2.1 w.2.1 ls)
  exact lv_iinc C.1 C.2.1 hdg hl hq hv (of_decide_eq_true hi) rfl (fun la' hl' => kk C H locs la' hP hD hS (jm_has hl' (jm_ls_set (.int v) hn)))
theorem jr_iadd {x y : Int32} (hdg : decode M.2.1 pc = .ok (.iadd, 1)) (kk : jm_R g M κ k n (pc + 1) ls (.int (x + y) :: st) w) : jm_R g M κ k n pc ls (.int y :: .int x :: st) w := by
  obtain ⟨p, e, s, m, args, below, meth, c, A, Q⟩ := κ
  intro C H locs la hP hD hS hl
  exact lv_iadd C.1 C.2.1 hdg (kk C H locs la hP hD hS hl)
theorem jr_isub {x y : Int32} (hdg : decode M.2.1 pc = .ok (.isub, 1)) (kk : jm_R g M κ k n (pc + 1) ls (.int (x - y) :: st) w) : jm_R g M κ k n pc ls (.int y :: .int x :: st) w := by
  obtain ⟨p, e, s, m, args, below, meth, c, A, Q⟩ := κ
  intro C H locs la hP hD hS hl
  exact lv_isub C.1 C.2.1 hdg (kk C H locs la hP hD hS hl)
theorem jr_imul {x y : Int32} (hdg : decode M.2.1 pc = .ok (.imul, 1)) (kk : jm_R g M κ k n (pc + 1) ls (.int (x * y) :: st) w) : jm_R g M κ k n pc ls (.int y :: .int x :: st) w := by
  obtain ⟨p, e, s, m, args, below, meth, c, A, Q⟩ := κ
  intro C H locs la hP hD hS hl
  exact lv_imul C.1 C.2.1 hdg (kk C H locs la hP hD hS hl)
theorem jr_idiv {x y : Int32} (hdg : decode M.2.1 pc = .ok (.idiv, 1)) (hne : y ≠ 0) (kk : jm_R g M κ k n (pc + 1) ls (.int (x / y) :: st) w) : jm_R g M κ k n pc ls (.int y :: .int x :: st) w := by
  obtain ⟨p, e, s, m, args, below, meth, c, A, Q⟩ := κ
  intro C H locs la hP hD hS hl
  exact lv_idiv C.1 C.2.1 hdg hne (kk C H locs la hP hD hS hl)
theorem jr_iand {x y : Int32} (hdg : decode M.2.1 pc = .ok (.iand, 1)) (kk : jm_R g M κ k n (pc + 1) ls (.int (x &&& y) :: st) w) : jm_R g M κ k n pc ls (.int y :: .int x :: st) w := by
  obtain ⟨p, e, s, m, args, below, meth, c, A, Q⟩ := κ
  intro C H locs la hP hD hS hl
  exact lv_iand C.1 C.2.1 hdg (kk C H locs la hP hD hS hl)
theorem jr_ixor {x y : Int32} (hdg : decode M.2.1 pc = .ok (.ixor, 1)) (kk : jm_R g M κ k n (pc + 1) ls (.int (x ^^^ y) :: st) w) : jm_R g M κ k n pc ls (.int y :: .int x :: st) w := by
  obtain ⟨p, e, s, m, args, below, meth, c, A, Q⟩ := κ
  intro C H locs la hP hD hS hl
  exact lv_ixor C.1 C.2.1 hdg (kk C H locs la hP hD hS hl)
theorem jr_land {x y : Int64} (hdg : decode M.2.1 pc = .ok (.land, 1)) (kk : jm_R g M κ k n (pc + 1) ls (.long (x &&& y) :: st) w) : jm_R g M κ k n pc ls (.long y :: .long x :: st) w := by
  obtain ⟨p, e, s, m, args, below, meth, c, A, Q⟩ := κ
  intro C H locs la hP hD hS hl
  exact lv_land C.1 C.2.1 hdg (kk C H locs la hP hD hS hl)
theorem jr_lor {x y : Int64} (hdg : decode M.2.1 pc = .ok (.lor, 1)) (kk : jm_R g M κ k n (pc + 1) ls (.long (x ||| y) :: st) w) : jm_R g M κ k n pc ls (.long y :: .long x :: st) w := by
  obtain ⟨p, e, s, m, args, below, meth, c, A, Q⟩ := κ
  intro C H locs la hP hD hS hl
  exact lv_lor C.1 C.2.1 hdg (kk C H locs la hP hD hS hl)
theorem jr_ishr {x y : Int32} (hdg : decode M.2.1 pc = .ok (.ishr, 1)) (kk : jm_R g M κ k n (pc + 1) ls (.int (x >>> (y &&& 31)) :: st) w) : jm_R g M κ k n pc ls (.int y :: .int x :: st) w := by
  obtain ⟨p, e, s, m, args, below, meth, c, A, Q⟩ := κ
  intro C H locs la hP hD hS hl
  exact lv_ishr C.1 C.2.1 hdg (kk C H locs la hP hD hS hl)
theorem jr_ineg {x : Int32} (hdg : decode M.2.1 pc = .ok (.ineg, 1)) (kk : jm_R g M κ k n (pc + 1) ls (.int (-x) :: st) w) : jm_R g M κ k n pc ls (.int x :: st) w := by
  obtain ⟨p, e, s, m, args, below, meth, c, A, Q⟩ := κ
  intro C H locs la hP hD hS hl
  exact lv_ineg C.1 C.2.1 hdg (kk C H locs la hP hD hS hl)
theorem jr_irem {x y : Int32} (hdg : decode M.2.1 pc = .ok (.irem, 1)) (hne : y ≠ 0) (kk : jm_R g M κ k n (pc + 1) ls (.int (x - x / y * y) :: st) w) : jm_R g M κ k n pc ls (.int y :: .int x :: st) w := by
  obtain ⟨p, e, s, m, args, below, meth, c, A, Q⟩ := κ
  intro C H locs la hP hD hS hl
  exact lv_irem C.1 C.2.1 hdg hne (kk C H locs la hP hD hS hl)
theorem jr_i2l {x : Int32} (v : Int64) (hdg : decode M.2.1 pc = .ok (.i2l, 1)) (hv : x.toInt64 = v) (kk : jm_R g M κ k n (pc + 1) ls (.long v :: st) w) : jm_R g M κ k n pc ls (.int x :: st) w := by
  obtain ⟨p, e, s, m, args, below, meth, c, A, Q⟩ := κ
  intro C H locs la hP hD hS hl
  exact lv_i2l C.1 C.2.1 hdg hv (kk C H locs la hP hD hS hl)
theorem jr_l2i {x : Int64} (v : Int32) (hdg : decode M.2.1 pc = .ok (.l2i, 1)) (hv : x.toInt32 = v) (kk : jm_R g M κ k n (pc + 1) ls (.int v :: st) w) : jm_R g M κ k n pc ls (.long x :: st) w := by
  obtain ⟨p, e, s, m, args, below, meth, c, A, Q⟩ := κ
  intro C H locs la hP hD hS hl
  exact lv_l2i C.1 C.2.1 hdg hv (kk C H locs la hP hD hS hl)
theorem jr_i2c {x : Int32} (hdg : decode M.2.1 pc = .ok (.i2c, 1)) (kk : jm_R g M κ k n (pc + 1) ls (.int ((x.toUInt32 % 65536).toInt32) :: st) w) : jm_R g M κ k n pc ls (.int x :: st) w := by
  obtain ⟨p, e, s, m, args, below, meth, c, A, Q⟩ := κ
  intro C H locs la hP hD hS hl
  exact lv_i2c C.1 C.2.1 hdg rfl (kk C H locs la hP hD hS hl)
theorem jr_lushr {x : Int64} {y : Int32} (hdg : decode M.2.1 pc = .ok (.lushr, 1)) (kk : jm_R g M κ k n (pc + 1) ls (.long ((x.toUInt64 >>> (y.toInt64.toUInt64 &&& Int64.toUInt64 63)).toInt64) :: st) w) : jm_R g M κ k n pc ls (.int y :: .long x :: st) w := by
  obtain ⟨p, e, s, m, args, below, meth, c, A, Q⟩ := κ
  intro C H locs la hP hD hS hl
  exact lv_lushr C.1 C.2.1 hdg rfl (kk C H locs la hP hD hS hl)
theorem jr_lshl {x : Int64} {y : Int32} (hdg : decode M.2.1 pc = .ok (.lshl, 1)) (kk : jm_R g M κ k n (pc + 1) ls (.long (x <<< (y.toInt64 &&& 63)) :: st) w) : jm_R g M κ k n pc ls (.int y :: .long x :: st) w := by
  obtain ⟨p, e, s, m, args, below, meth, c, A, Q⟩ := κ
  intro C H locs la hP hD hS hl
  exact lv_lshl C.1 C.2.1 hdg rfl (kk C H locs la hP hD hS hl)
end JMR
end
section
section JMB
variable {g : jm_G} {M : jm_M} {κ : jm_K} {k n pc : Nat} {ls : List (Option Value)} {st : List Value} {w : jm_W}
theorem jr_if_eq {x : Int32} {off : Int} (tgt : Nat) (hdg : decode M.2.1 pc = .ok (.ifCond .eq off, 3)) (ht : decide ((pc : Int) + off = (tgt : Int)) = true) (kt : x = 0 → jm_R g M κ k n tgt ls st w) (kf : ¬ x = 0 → jm_R g M κ k n (pc + 3) ls st w) : jm_R g M κ k n pc ls (.int x :: st) w := by
  obtain ⟨p, e, s, m, args, below, meth, c, A, Q⟩ := κ
  intro C H locs la hP hD hS hl
  exact lv_if_eq C.1 C.2.1 hdg (of_decide_eq_true ht) (fun q => kt q C H locs la hP hD hS hl) (fun q => kf q C H locs la hP hD hS hl)
theorem jr_if_ne {x : Int32} {off : Int} (tgt : Nat) (hdg : decode M.2.1 pc = .ok (.ifCond .ne off, 3)) (ht : decide ((pc : Int) + off = (tgt : Int)) = true) (kt : ¬ x = 0 → jm_R g M κ k n tgt ls st w) (kf : x = 0 → jm_R g M κ k n (pc + 3) ls st w) : jm_R g M κ k n pc ls (.int x :: st) w := by
  obtain ⟨p, e, s, m, args, below, meth, c, A, Q⟩ := κ
  intro C H locs la hP hD hS hl
  exact lv_if_ne C.1 C.2.1 hdg (of_decide_eq_true ht) (fun q => kt q C H locs la hP hD hS hl) (fun q => kf q C H locs la hP hD hS hl)
theorem jr_if_lt {x : Int32} {off : Int} (tgt : Nat) (hdg : decode M.2.1 pc = .ok (.ifCond .lt off, 3)) (ht : decide ((pc : Int) + off = (tgt : Int)) = true) (kt : x < 0 → jm_R g M κ k n tgt ls st w) (kf : ¬ x < 0 → jm_R g M κ k n (pc + 3) ls st w) : jm_R g M κ k n pc ls (.int x :: st) w := by
  obtain ⟨p, e, s, m, args, below, meth, c, A, Q⟩ := κ
  intro C H locs la hP hD hS hl
  exact lv_if_lt C.1 C.2.1 hdg (of_decide_eq_true ht) (fun q => kt q C H locs la hP hD hS hl) (fun q => kf q C H locs la hP hD hS hl)
theorem jr_if_ge {x : Int32} {off : Int} (tgt : Nat) (hdg : decode M.2.1 pc = .ok (.ifCond .ge off, 3)) (ht : decide ((pc : Int) + off = (tgt : Int)) = true) (kt : 0 ≤ x → jm_R g M κ k n tgt ls st w) (kf : ¬ 0 ≤ x → jm_R g M κ k n (pc + 3) ls st w) : jm_R g M κ k n pc ls (.int x :: st) w := by
  obtain ⟨p, e, s, m, args, below, meth, c, A, Q⟩ := κ
  intro C H locs la hP hD hS hl
  exact lv_if_ge C.1 C.2.1 hdg (of_decide_eq_true ht) (fun q => kt q C H locs la hP hD hS hl) (fun q => kf q C H locs la hP hD hS hl)
theorem jr_if_gt {x : Int32} {off : Int} (tgt : Nat) (hdg : decode M.2.1 pc = .ok (.ifCond .gt off, 3)) (ht : decide ((pc : Int) + off = (tgt : Int)) = true) (kt : 0 < x → jm_R g M κ k n tgt ls st w) (kf : ¬ 0 < x → jm_R g M κ k n (pc + 3) ls st w) : jm_R g M κ k n pc ls (.int x :: st) w := by
  obtain ⟨p, e, s, m, args, below, meth, c, A, Q⟩ := κ
  intro C H locs la hP hD hS hl
  exact lv_if_gt C.1 C.2.1 hdg (of_decide_eq_true ht) (fun q => kt q C H locs la hP hD hS hl) (fun q => kf q C H locs la hP hD hS hl)
theorem jr_if_le {x : Int32} {off : Int} (tgt : Nat) (hdg : decode M.2.1 pc = .ok (.ifCond .le off, 3)) (ht : decide ((pc : Int) + off = (tgt : Int)) = true) (kt : x ≤ 0 → jm_R g M κ k n tgt ls st w) (kf : ¬ x ≤ 0 → jm_R g M κ k n (pc + 3) ls st w) : jm_R g M κ k n pc ls (.int x :: st) w := by
  obtain ⟨p, e, s, m, args, below, meth, c, A, Q⟩ := κ
  intro C H locs la hP hD hS hl
  exact lv_if_le C.1 C.2.1 hdg (of_decide_eq_true ht) (fun q => kt q C H locs la hP hD hS hl) (fun q => kf q C H locs la hP hD hS hl)
theorem jr_icmp_eq {x y : Int32} {off : Int} (tgt : Nat) (hdg : decode M.2.1 pc = .ok (.if_icmp .eq off, 3)) (ht : decide ((pc : Int) + off = (tgt : Int)) = true) (kt : x = y → jm_R g M κ k n tgt ls st w) (kf : ¬ x = y → jm_R g M κ k n (pc + 3) ls st w) : jm_R g M κ k n pc ls (.int y :: .int x :: st) w := by
  obtain ⟨p, e, s, m, args, below, meth, c, A, Q⟩ := κ
  intro C H locs la hP hD hS hl
  exact lv_icmp_eq C.1 C.2.1 hdg (of_decide_eq_true ht) (fun q => kt q C H locs la hP hD hS hl) (fun q => kf q C H locs la hP hD hS hl)
theorem jr_icmp_ne {x y : Int32} {off : Int} (tgt : Nat) (hdg : decode M.2.1 pc = .ok (.if_icmp .ne off, 3)) (ht : decide ((pc : Int) + off = (tgt : Int)) = true) (kt : ¬ x = y → jm_R g M κ k n tgt ls st w) (kf : x = y → jm_R g M κ k n (pc + 3) ls st w) : jm_R g M κ k n pc ls (.int y :: .int x :: st) w := by
  obtain ⟨p, e, s, m, args, below, meth, c, A, Q⟩ := κ
  intro C H locs la hP hD hS hl
  exact lv_icmp_ne C.1 C.2.1 hdg (of_decide_eq_true ht) (fun q => kt q C H locs la hP hD hS hl) (fun q => kf q C H locs la hP hD hS hl)
theorem jr_icmp_lt {x y : Int32} {off : Int} (tgt : Nat) (hdg : decode M.2.1 pc = .ok (.if_icmp .lt off, 3)) (ht : decide ((pc : Int) + off = (tgt : Int)) = true) (kt : x < y → jm_R g M κ k n tgt ls st w) (kf : ¬ x < y → jm_R g M κ k n (pc + 3) ls st w) : jm_R g M κ k n pc ls (.int y :: .int x :: st) w := by
  obtain ⟨p, e, s, m, args, below, meth, c, A, Q⟩ := κ
  intro C H locs la hP hD hS hl
  exact lv_icmp_lt C.1 C.2.1 hdg (of_decide_eq_true ht) (fun q => kt q C H locs la hP hD hS hl) (fun q => kf q C H locs la hP hD hS hl)
theorem jr_icmp_ge {x y : Int32} {off : Int} (tgt : Nat) (hdg : decode M.2.1 pc = .ok (.if_icmp .ge off, 3)) (ht : decide ((pc : Int) + off = (tgt : Int)) = true) (kt : y ≤ x → jm_R g M κ k n tgt ls st w) (kf : ¬ y ≤ x → jm_R g M κ k n (pc + 3) ls st w) : jm_R g M κ k n pc ls (.int y :: .int x :: st) w := by
  obtain ⟨p, e, s, m, args, below, meth, c, A, Q⟩ := κ
  intro C H locs la hP hD hS hl
  exact lv_icmp_ge C.1 C.2.1 hdg (of_decide_eq_true ht) (fun q => kt q C H locs la hP hD hS hl) (fun q => kf q C H locs la hP hD hS hl)
theorem jr_icmp_gt {x y : Int32} {off : Int} (tgt : Nat) (hdg : decode M.2.1 pc = .ok (.if_icmp .gt off, 3)) (ht : decide ((pc : Int) + off = (tgt : Int)) = true) (kt : y < x → jm_R g M κ k n tgt ls st w) (kf : ¬ y < x → jm_R g M κ k n (pc + 3) ls st w) : jm_R g M κ k n pc ls (.int y :: .int x :: st) w := by
  obtain ⟨p, e, s, m, args, below, meth, c, A, Q⟩ := κ
  intro C H locs la hP hD hS hl
  exact lv_icmp_gt C.1 C.2.1 hdg (of_decide_eq_true ht) (fun q => kt q C H locs la hP hD hS hl) (fun q => kf q C H locs la hP hD hS hl)
theorem jr_icmp_le {x y : Int32} {off : Int} (tgt : Nat) (hdg : decode M.2.1 pc = .ok (.if_icmp .le off, 3)) (ht : decide ((pc : Int) + off = (tgt : Int)) = true) (kt : x ≤ y → jm_R g M κ k n tgt ls st w) (kf : ¬ x ≤ y → jm_R g M κ k n (pc + 3) ls st w) : jm_R g M κ k n pc ls (.int y :: .int x :: st) w := by
  obtain ⟨p, e, s, m, args, below, meth, c, A, Q⟩ := κ
  intro C H locs la hP hD hS hl
  exact lv_icmp_le C.1 C.2.1 hdg (of_decide_eq_true ht) (fun q => kt q C H locs la hP hD hS hl) (fun q => kf q C H locs la hP hD hS hl)
theorem jr_goto {off : Int} (tgt : Nat) (hdg : decode M.2.1 pc = .ok (.goto off, 3)) (ht : decide ((pc : Int) + off = (tgt : Int)) = true) (kk : jm_R g M κ k n tgt ls st w) : jm_R g M κ k n pc ls st w := by
  obtain ⟨p, e, s, m, args, below, meth, c, A, Q⟩ := κ
  intro C H locs la hP hD hS hl
  exact lv_goto C.1 C.2.1 hdg (of_decide_eq_true ht) (kk C H locs la hP hD hS hl)
theorem jm_tr1 {ro ad : Nat → Nat} {v : Value} (h : v.category = 1) : (jm_tr ro ad v).category = 1 := by
  cases v <;> simp_all [jm_tr, Value.category]
theorem jr_dup {v : Value} (hdg : decode M.2.1 pc = .ok (.dup, 1)) (hv : v.category = 1) (kk : jm_R g M κ k n (pc + 1) ls (v :: v :: st) w) : jm_R g M κ k n pc ls (v :: st) w := by
  obtain ⟨p, e, s, m, args, below, meth, c, A, Q⟩ := κ
  intro C H locs la hP hD hS hl
  exact lv_dup C.1 C.2.1 hdg (jm_tr1 hv) (kk C H locs la hP hD hS hl)
theorem jr_pop {v : Value} (hdg : decode M.2.1 pc = .ok (.pop, 1)) (hv : v.category = 1) (kk : jm_R g M κ k n (pc + 1) ls st w) : jm_R g M κ k n pc ls (v :: st) w := by
  obtain ⟨p, e, s, m, args, below, meth, c, A, Q⟩ := κ
  intro C H locs la hP hD hS hl
  exact lv_pop C.1 C.2.1 hdg (jm_tr1 hv) (kk C H locs la hP hD hS hl)
theorem jr_dup2 {v u : Value} (hdg : decode M.2.1 pc = .ok (.dup2, 1)) (hv : v.category = 1) (hu : u.category = 1) (kk : jm_R g M κ k n (pc + 1) ls (v :: u :: v :: u :: st) w) : jm_R g M κ k n pc ls (v :: u :: st) w := by
  obtain ⟨p, e, s, m, args, below, meth, c, A, Q⟩ := κ
  intro C H locs la hP hD hS hl
  exact lv_dup2_11 C.1 C.2.1 hdg (jm_tr1 hv) (jm_tr1 hu) (kk C H locs la hP hD hS hl)
theorem jr_lcmp {x y : Int64} (hdg : decode M.2.1 pc = .ok (.lcmp, 1)) (kk : jm_R g M κ k n (pc + 1) ls (.int (lg_cmp x y) :: st) w) : jm_R g M κ k n pc ls (.long y :: .long x :: st) w := by
  obtain ⟨p, e, s, m, args, below, meth, c, A, Q⟩ := κ
  intro C H locs la hP hD hS hl
  exact W.lcmp C.1 C.2.1 hdg (kk C H locs la hP hD hS hl)
/-- a name for what stands on top -/
theorem jr_top {x : Int32} (kk : ∀ y : Int32, y = x → jm_R g M κ k n pc ls (.int y :: st) w) : jm_R g M κ k n pc ls (.int x :: st) w := kk x rfl
theorem jr_tableOut {dflt lo hi : Int} {offs : Array Int} {len : Nat} {x : Int32} (tgt : Nat) (hdg : decode M.2.1 pc = .ok (.tableswitch dflt lo hi offs, len)) (h : x.toInt < lo ∨ hi < x.toInt) (ht : decide ((pc : Int) + dflt = (tgt : Int)) = true) (kk : jm_R g M κ k n tgt ls st w) : jm_R g M κ k n pc ls (.int x :: st) w := by
  obtain ⟨p, e, s, m, args, below, meth, c, A, Q⟩ := κ
  intro C H locs la hP hD hS hl
  exact lv_tableOut C.1 C.2.1 hdg h (of_decide_eq_true ht) (kk C H locs la hP hD hS hl)
theorem jr_tableIn {dflt lo hi : Int} {offs : Array Int} {len : Nat} {x : Int32} (z off : Int) (tgt : Nat) (hdg : decode M.2.1 pc = .ok (.tableswitch dflt lo hi offs, len)) (hz : x.toInt = z) (h : decide (lo ≤ z ∧ z ≤ hi) = true) (ho : offs[(z - lo).toNat]? = some off) (ht : decide ((pc : Int) + off = (tgt : Int)) = true) (kk : jm_R g M κ k n tgt ls st w) : jm_R g M κ k n pc ls (.int x :: st) w := by
  obtain ⟨p, e, s, m, args, below, meth, c, A, Q⟩ := κ
  intro C H locs la hP hD hS hl
  subst hz
  have h2 := of_decide_eq_true h
  exact lv_tableIn C.1 C.2.1 hdg (Int.not_lt.mpr h2.1) (Int.not_lt.mpr h2.2) ho (of_decide_eq_true ht) (kk C H locs la hP hD hS hl)
theorem jr_lookup {dflt : Int} {ps : Array (Int × Int)} {len : Nat} {x : Int32} (off : Int) (tgt : Nat) (hdg : decode M.2.1 pc = .ok (.lookupswitch dflt ps, len)) (hp : (ps.toList.zip (ps.toList.drop 1)).all (fun (a, next) => a.1 < next.1) = true) (ho : Op.lookupswitch.offset ps.toList dflt x.toInt = off) (ht : decide ((pc : Int) + off = (tgt : Int)) = true) (kk : jm_R g M κ k n tgt ls st w) : jm_R g M κ k n pc ls (.int x :: st) w := by
  obtain ⟨p, e, s, m, args, below, meth, c, A, Q⟩ := κ
  intro C H locs la hP hD hS hl
  exact lv_lookup C.1 C.2.1 hdg hp ho (of_decide_eq_true ht) (kk C H locs la hP hD hS hl)
/-! rows that touch the world -/
/-- a class's facts: its number in vwCl -/
def jm_Cls (ci : Nat) (r : vw_C) (t0 : Nat → FieldType) : Prop := vwCl[ci]? = some r ∧ (∀ w ∈ u_ws r.1 r.2.1 r.2.2, w ∈ jm_TB) ∧ (∀ k, k < r.2.2 → parseFieldDescriptor (r.2.1 k).2.2.1 = some (t0 k)) ∧ (∀ a, a < r.2.2 → ∀ b, b < r.2.2 → a ≠ b → (r.2.1 a).2.1 ≠ (r.2.1 b).2.1)
/-- a field's link in a class own at a place of its pool: field j of class ci -/
def jm_F (own : String) (idx ci j : Nat) (fin : Bool) (ty : FieldType) : Prop := ∃ (r : vw_C) (t0 : Nat → FieldType), jm_Cls ci r t0 ∧ j < r.2.2 ∧ Cond.fieldLink own idx (r.2.1 j).1 (r.2.1 j).2.1 (r.2.1 j).2.2.1 ∈ jm_TB ∧ (r.2.1 j).2.2.2 = fin ∧ t0 j = ty ∧ (r.2.1 j).1 = r.1
theorem jm_fs_at {ad : Nat → Nat} {fs : List (Option (Option Nat))} {f : Nat → Int32} {j : Nat} {x : Option (Option Nat)} (h : fs[j]? = some x) : (jm_fs ad fs f)[j]? = some (jm_fv ad f j x) := by
  simp [jm_fs, List.getElem?_mapIdx, h]
theorem jr_get {idx : Nat} {q : Nat} (ci j : Nat) {fin : Bool} {ty : FieldType} {fs : List (Option (Option Nat))} {x : Option (Option Nat)} (hf : jm_F M.1.cls idx ci j fin ty) (hdg : decode M.2.1 pc = .ok (.getfield idx, 3)) (hg : w.1[q]? = some (.inl (ci, fs))) (hx : fs[j]? = some x) (v : Value) (hv : (match x with | none => Value.int (w.2.2 q j) | some none => .null | some (some r) => .ref r) = v) (kk : jm_R g M κ k n (pc + 3) ls (v :: st) w) : jm_R g M κ k n pc ls (.ref q :: st) w := by
  obtain ⟨p, e, s, m, args, below, meth, c, A, Q⟩ := κ
  intro C H locs la hP hD hS hl
  have kk := kk C H locs la hP hD hS hl
  obtain ⟨hx1, hb, hml, hr, hown, hts, hlk, hnm, hSa, hRo, hA⟩ := C
  obtain ⟨⟨CN, T, N⟩, t0, ⟨hc, hin, hty, hnd⟩, hj, hl1, hfin, hty0, hcl⟩ := hf
  subst hv
  refine va_get (D := g.2.1) (cl := vwCl) (ws := jm_conc g w) (a := w.2.1 q) (C := CN) (T := T) (N := N) (ci := ci) hx1 hb hts hin hown hSa.1 hP q (jm_conc_at g w hg) hc j hj (hts _ hl1) (fun _ h => h) (jm_fs_at hx) hdg ?_
  cases x with
  | none => exact kk
  | some r => cases r <;> exact kk
theorem jm_fs_set {ad : Nat → Nat} {fs : List (Option (Option Nat))} {f : Nat → Int32} {j : Nat} {x : Int32} (h : fs[j]? = some none) : (jm_fs ad fs f).set j (.int x) = jm_fs ad fs (upd f j x) := by
  have hl := (List.getElem?_eq_some_iff.mp h).1
  apply List.ext_getElem?
  intro i
  rw [List.getElem?_set]
  by_cases hi : j = i
  · subst hi
    simp [jm_fs, List.getElem?_mapIdx, hl, (List.getElem?_eq_some_iff.mp h).2, jm_fv, upd]
  · have hi2 : ¬ i = j := fun e => hi e.symm
    rw [if_neg hi]
    simp only [jm_fs, List.getElem?_mapIdx]
    cases hz : fs[i]? with
    | none => rfl
    | some o =>
      simp only [Option.map_some]
      cases o with
      | none => simp [jm_fv, upd, hi2]
      | some r => cases r <;> rfl
theorem jm_fs_setR {ad : Nat → Nat} {fs : List (Option (Option Nat))} {f : Nat → Int32} {j : Nat} {r : Nat} (hl : j < fs.length) : (jm_fs ad fs f).set j (.ref (ad r)) = jm_fs ad (fs.set j (some (some r))) f := by
  apply List.ext_getElem?
  intro i
  rw [List.getElem?_set]
  by_cases hi : j = i
  · subst hi
    simp [jm_fs, List.getElem?_mapIdx, hl, jm_fv]
  · rw [if_neg hi]
    simp only [jm_fs, List.getElem?_mapIdx, List.getElem?_set_ne hi]
theorem jm_fs_len {ad : Nat → Nat} {fs : List (Option (Option Nat))} {f : Nat → Int32} : (jm_fs ad fs f).length = fs.length := by simp [jm_fs]
/-- a number is put into a field -/
theorem jr_put {idx : Nat} {q : Nat} (ci j : Nat) {ty : FieldType} {fs : List (Option (Option Nat))} {x : Int32} {Γ : List jm_Sh} {ad : Nat → Nat} {μ : Nat → Nat → Int32} (hf : jm_F M.1.cls idx ci j false ty) (hdg : decode M.2.1 pc = .ok (.putfield idx, 3)) (hg : Γ[q]? = some (.inl (ci, fs))) (hx : fs[j]? = some none) (hn : narrow ty (.int x) = .int x) (hfit : fits ty (.int x) = true) (kk : jm_R g M κ k n (pc + 3) ls st (Γ, ad, jm_st μ q j x)) : jm_R g M κ k n pc ls (.int x :: .ref q :: st) (Γ, ad, μ) := by
  obtain ⟨p, e, s, m, args, below, meth, c, A, Q⟩ := κ
  intro C H locs la hP hD hS hl
  have hl9 := (List.getElem?_eq_some_iff.mp hx).1
  have kk := fun H1 locs1 hP1 hD1 hS1 => kk C H1 locs1 la hP1 hD1 hS1 hl
  obtain ⟨hx1, hb, hml, hr, hown, hts, hlk, hnm, hSa, hRo, hA⟩ := C
  obtain ⟨⟨CN, T, N⟩, t0, ⟨hc, hin, hty, hnd⟩, hj, hl1, hfin, hty0, hcl⟩ := hf
  have e9 : (jm_conc g (Γ, ad, μ)).set q (ad q, .inr (ci, (jm_fs ad fs (μ q)).set j (.int x))) = jm_conc g (Γ, ad, jm_st μ q j x) := by
    rw [jm_fs_set hx]
    exact jm_conc_set g Γ ad μ (upd (μ q) j x) hg
  have h9 := jm_conc_at g (Γ, ad, μ) hg
  refine va_put (D := g.2.1) (cl := vwCl) (ws := jm_conc g (Γ, ad, μ)) (a := ad q) (C := CN) (T := T) (N := N) (ci := ci) (v := .int x) (ty := ty) hx1 hb hts hin t0 hty hnd hown hSa.1 hP hD hS q h9 hc j hj (hts _ hl1) (fun _ h => h) hfin (by rw [← hty0]; exact hty j hj) hn hfit (by rw [jm_fs_len]; exact hl9) hdg (fun H1 locs1 hP1 hD1 hS1 => ?_)
  dsimp only at hP1 hD1
  rw [e9] at hP1 hD1
  exact kk H1 locs1 hP1 hD1 hS1
theorem jr_putI {idx : Nat} {q : Nat} (ci j : Nat) {fs : List (Option (Option Nat))} {x : Int32} {Γ : List jm_Sh} {ad : Nat → Nat} {μ : Nat → Nat → Int32} (hf : jm_F M.1.cls idx ci j false .int) (hdg : decode M.2.1 pc = .ok (.putfield idx, 3)) (hg : Γ[q]? = some (.inl (ci, fs))) (hx : fs[j]? = some none) (kk : jm_R g M κ k n (pc + 3) ls st (Γ, ad, jm_st μ q j x)) : jm_R g M κ k n pc ls (.int x :: .ref q :: st) (Γ, ad, μ) := jr_put ci j hf hdg hg hx rfl rfl kk
/-- a reference is put into a final field, in a constructor -/
theorem jr_putF {idx : Nat} {q r : Nat} (ci j : Nat) {ty : FieldType} {fs : List (Option (Option Nat))} {Γ : List jm_Sh} {ad : Nat → Nat} {μ : Nat → Nat → Int32} (Γ' : List jm_Sh) (hf : jm_F M.1.cls idx ci j true ty) (hown2 : (vwCl[ci]?).map (fun r => r.1) = some M.1.cls) (hinit : M.1.name = "<init>") (hdg : decode M.2.1 pc = .ok (.putfield idx, 3)) (hg : Γ[q]? = some (.inl (ci, fs))) (hj : j < fs.length) (hn : ∀ a : Nat, narrow ty (.ref a) = .ref a) (hfit : ∀ a : Nat, fits ty (.ref a) = true) (hG : Γ.set q (.inl (ci, fs.set j (some (some r)))) = Γ') (kk : jm_R g M κ k n (pc + 3) ls st (Γ', ad, μ)) : jm_R g M κ k n pc ls (.ref r :: .ref q :: st) (Γ, ad, μ) := by
  obtain ⟨p, e, s, m, args, below, meth, c, A, Q⟩ := κ
  intro C H locs la hP hD hS hl
  subst hG
  have kk := fun H1 locs1 hP1 hD1 hS1 => kk C H1 locs1 la hP1 hD1 hS1 hl
  obtain ⟨hx1, hb, hml, hr, hown, hts, hlk, hnm, hSa, hRo, hA⟩ := C
  obtain ⟨⟨CN, T, N⟩, t0, ⟨hc, hin, hty, hnd⟩, hjN, hl1, hfin, hty0, hcl⟩ := hf
  have e9 : (jm_conc g (Γ, ad, μ)).set q (ad q, .inr (ci, (jm_fs ad fs (μ q)).set j (.ref (ad r)))) = jm_conc g (Γ.set q (.inl (ci, fs.set j (some (some r)))), ad, μ) := by
    rw [jm_fs_setR hj]
    exact jm_conc_shape g Γ ad μ (.inl (ci, fs.set j (some (some r)))) (List.getElem?_eq_some_iff.mp hg).1
  have h9 := jm_conc_at g (Γ, ad, μ) hg
  have hdecl : (T j).1 = M.1.cls := by
    rw [hc] at hown2
    have h5 : CN = M.1.cls := by simpa using hown2
    rw [← h5]; exact hcl
  refine va_putF (D := g.2.1) (cl := vwCl) (ws := jm_conc g (Γ, ad, μ)) (a := ad q) (C := CN) (T := T) (N := N) (ci := ci) (v := .ref (ad r)) (ty := ty) hx1 hb hts hin t0 hty hnd hown hSa.1 hP hD hS q h9 hc j hjN (hts _ hl1) (fun _ h => h) hfin (by rw [hnm]; exact hinit) hdecl (by rw [← hty0]; exact hty j hjN) (hn _) (hfit _) (by rw [jm_fs_len]; exact hj) hdg (fun H1 locs1 hP1 hD1 hS1 => ?_)
  dsimp only at hP1 hD1
  rw [e9] at hP1 hD1
  exact kk H1 locs1 hP1 hD1 hS1
theorem jr_iald {q : Nat} {len : Nat} {i : Int32} (hdg : decode M.2.1 pc = .ok (.iaload, 1)) (hg : w.1[q]? = some (.inr (0, len, none))) (hi : vp_in i len) (kk : jm_R g M κ k n (pc + 1) ls (.int (w.2.2 q i.toNatClampNeg) :: st) w) : jm_R g M κ k n pc ls (.int i :: .ref q :: st) w := by
  obtain ⟨p, e, s, m, args, below, meth, c, A, Q⟩ := κ
  intro C H locs la hP hD hS hl
  exact va_iald C.1 C.2.1 C.2.2.2.2.2.2.2.2.1.1 hP q 0 (jm_conc_at g w hg) rfl hi hdg (kk C H locs la hP hD hS hl)
theorem jr_cald {q : Nat} {len : Nat} {i : Int32} (hdg : decode M.2.1 pc = .ok (.caload, 1)) (hg : w.1[q]? = some (.inr (1, len, none))) (hi : vp_in i len) (kk : jm_R g M κ k n (pc + 1) ls (.int (w.2.2 q i.toNatClampNeg) :: st) w) : jm_R g M κ k n pc ls (.int i :: .ref q :: st) w := by
  obtain ⟨p, e, s, m, args, below, meth, c, A, Q⟩ := κ
  intro C H locs la hP hD hS hl
  exact va_cald C.1 C.2.1 C.2.2.2.2.2.2.2.2.1.1 hP q 1 (jm_conc_at g w hg) rfl hi hdg (kk C H locs la hP hD hS hl)
theorem jr_zald {q : Nat} {len : Nat} {i : Int32} (hdg : decode M.2.1 pc = .ok (.baload, 1)) (hg : w.1[q]? = some (.inr (2, len, none))) (hi : vp_in i len) (kk : jm_R g M κ k n (pc + 1) ls (.int (w.2.2 q i.toNatClampNeg) :: st) w) : jm_R g M κ k n pc ls (.int i :: .ref q :: st) w := by
  obtain ⟨p, e, s, m, args, below, meth, c, A, Q⟩ := κ
  intro C H locs la hP hD hS hl
  exact va_zald C.1 C.2.1 C.2.2.2.2.2.2.2.2.1.1 hP q 2 (jm_conc_at g w hg) rfl hi hdg (kk C H locs la hP hD hS hl)
theorem jr_aald {q : Nat} {len kd : Nat} {i : Int32} {f : Nat → Option Nat} (hdg : decode M.2.1 pc = .ok (.aaload, 1)) (hg : w.1[q]? = some (.inr (kd, len, some f))) (hkd : kd = 3 ∨ kd = 4) (hi : vp_in i len) (r : Nat) (hr : f i.toNatClampNeg = some r) (kk : jm_R g M κ k n (pc + 1) ls (.ref r :: st) w) : jm_R g M κ k n pc ls (.int i :: .ref q :: st) w := by
  obtain ⟨p, e, s, m, args, below, meth, c, A, Q⟩ := κ
  intro C H locs la hP hD hS hl
  rcases hkd with rfl | rfl
  · refine va_aldq C.1 C.2.1 C.2.2.2.2.2.2.2.2.1.1 hP q 3 (jm_conc_at g w hg) rfl hi hdg ?_
    rw [hr]
    exact kk C H locs la hP hD hS hl
  · refine va_aldq C.1 C.2.1 C.2.2.2.2.2.2.2.2.1.1 hP q 4 (jm_conc_at g w hg) rfl hi hdg ?_
    rw [hr]
    exact kk C H locs la hP hD hS hl
/-- a read of an array that is only read -/
theorem jr_rald {i : Int32} {r : Nat} (hr : r < 3) (hdg : decode M.2.1 pc = .ok (.iaload, 1)) (hi : vp_in i (g.2.2.2.2.1 r)) (kk : jm_R g M κ k n (pc + 1) ls (.int (g.2.2.2.2.2 r i.toNatClampNeg) :: st) w) : jm_R g M κ k n pc ls (.int i :: .retAddr r :: st) w := by
  obtain ⟨p, e, s, m, args, below, meth, c, A, Q⟩ := κ
  intro C H locs la hP hD hS hl
  exact va_ti C.1 C.2.1 (C.2.2.2.2.2.2.2.2.2.1.1 r hr) hS hi rfl hdg (kk C H locs la hP hD hS hl)
theorem jr_rlen {r : Nat} (hr : r < 3) (hdg : decode M.2.1 pc = .ok (.arraylength, 1)) (kk : jm_R g M κ k n (pc + 1) ls (.int (Int32.ofNat (g.2.2.2.2.1 r)) :: st) w) : jm_R g M κ k n pc ls (.retAddr r :: st) w := by
  obtain ⟨p, e, s, m, args, below, meth, c, A, Q⟩ := κ
  intro C H locs la hP hD hS hl
  exact va_tlen C.1 C.2.1 (C.2.2.2.2.2.2.2.2.2.1.1 r hr) hS rfl hdg (kk C H locs la hP hD hS hl)
theorem jr_lowest {idx : Nat} (hdg : decode M.2.1 pc = .ok (.getstatic idx, 3)) (hw : Cond.fieldLink M.1.cls idx RX8 "LOWEST" "[I" ∈ jm_TB) (kk : jm_R g M κ k n (pc + 3) ls (.retAddr 0 :: st) w) : jm_R g M κ k n pc ls st w := by
  obtain ⟨p, e, s, m, args, below, meth, c, A, Q⟩ := κ
  intro C H locs la hP hD hS hl
  exact va_gets C.1 C.2.1 C.2.2.2.2.2.2.2.2.2.1.2.1 hS C.2.2.2.2.1 (C.2.2.2.2.2.1 _ hw) (fun _ h => h) hdg (kk C H locs la hP hD hS hl)
theorem jr_highest {idx : Nat} (hdg : decode M.2.1 pc = .ok (.getstatic idx, 3)) (hw : Cond.fieldLink M.1.cls idx RX8 "HIGHEST" "[I" ∈ jm_TB) (kk : jm_R g M κ k n (pc + 3) ls (.retAddr 1 :: st) w) : jm_R g M κ k n pc ls st w := by
  obtain ⟨p, e, s, m, args, below, meth, c, A, Q⟩ := κ
  intro C H locs la hP hD hS hl
  exact va_gets C.1 C.2.1 C.2.2.2.2.2.2.2.2.2.1.2.2 hS C.2.2.2.2.1 (C.2.2.2.2.2.1 _ hw) (fun _ h => h) hdg (kk C H locs la hP hD hS hl)
theorem jr_alen {q : Nat} {len kd : Nat} (hdg : decode M.2.1 pc = .ok (.arraylength, 1)) (hg : w.1[q]? = some (.inr (kd, len, none))) (hkd : kd < 3) (v : Int32) (hv : Int32.ofNat len = v) (kk : jm_R g M κ k n (pc + 1) ls (.int v :: st) w) : jm_R g M κ k n pc ls (.ref q :: st) w := by
  obtain ⟨p, e, s, m, args, below, meth, c, A, Q⟩ := κ
  intro C H locs la hP hD hS hl
  subst hv
  have h9 := jm_conc_at g w hg
  rcases (show kd = 0 ∨ kd = 1 ∨ kd = 2 by omega) with rfl | rfl | rfl
  · exact va_alen C.1 C.2.1 C.2.2.2.2.2.2.2.2.1.1 hP q 0 h9 rfl rfl hdg (kk C H locs la hP hD hS hl)
  · exact va_alen C.1 C.2.1 C.2.2.2.2.2.2.2.2.1.1 hP q 1 h9 rfl rfl hdg (kk C H locs la hP hD hS hl)
  · exact va_alen C.1 C.2.1 C.2.2.2.2.2.2.2.2.1.1 hP q 2 h9 rfl rfl hdg (kk C H locs la hP hD hS hl)
theorem jr_iast {q : Nat} {len : Nat} {i x : Int32} {Γ : List jm_Sh} {ad : Nat → Nat} {μ : Nat → Nat → Int32} (hdg : decode M.2.1 pc = .ok (.iastore, 1)) (hg : Γ[q]? = some (.inr (0, len, none))) (hi : vp_in i len) (kk : jm_R g M κ k n (pc + 1) ls st (Γ, ad, jm_st μ q i.toNatClampNeg x)) : jm_R g M κ k n pc ls (.int x :: .int i :: .ref q :: st) (Γ, ad, μ) := by
  obtain ⟨p, e, s, m, args, below, meth, c, A, Q⟩ := κ
  intro C H locs la hP hD hS hl
  have e9 : (jm_conc g (Γ, ad, μ)).set q (ad q, .inl (g.2.2.1 0, len, .inl (upd (μ q) i.toNatClampNeg x))) = jm_conc g (Γ, ad, jm_st μ q i.toNatClampNeg x) := jm_conc_set g Γ ad μ (upd (μ q) i.toNatClampNeg x) hg
  refine va_iast C.1 C.2.1 C.2.2.2.2.2.2.2.2.1.1 hP hD hS q 0 (jm_conc_at g (Γ, ad, μ) hg) rfl hi hdg (fun H1 locs1 hP1 hD1 hS1 => ?_)
  dsimp only at hP1 hD1
  rw [e9] at hP1 hD1
  exact kk C H1 locs1 la hP1 hD1 hS1 hl
theorem jr_cast {q : Nat} {len : Nat} {i x : Int32} {Γ : List jm_Sh} {ad : Nat → Nat} {μ : Nat → Nat → Int32} (hdg : decode M.2.1 pc = .ok (.castore, 1)) (hg : Γ[q]? = some (.inr (1, len, none))) (hi : vp_in i len) (kk : jm_R g M κ k n (pc + 1) ls st (Γ, ad, jm_st μ q i.toNatClampNeg (vp_nar .char x))) : jm_R g M κ k n pc ls (.int x :: .int i :: .ref q :: st) (Γ, ad, μ) := by
  obtain ⟨p, e, s, m, args, below, meth, c, A, Q⟩ := κ
  intro C H locs la hP hD hS hl
  have e9 : (jm_conc g (Γ, ad, μ)).set q (ad q, .inl (g.2.2.1 1, len, .inl (upd (μ q) i.toNatClampNeg (vp_nar .char x)))) = jm_conc g (Γ, ad, jm_st μ q i.toNatClampNeg (vp_nar .char x)) := jm_conc_set g Γ ad μ (upd (μ q) i.toNatClampNeg (vp_nar .char x)) hg
  refine va_cast C.1 C.2.1 C.2.2.2.2.2.2.2.2.1.1 hP hD hS q 1 (jm_conc_at g (Γ, ad, μ) hg) rfl hi hdg (fun H1 locs1 hP1 hD1 hS1 => ?_)
  dsimp only at hP1 hD1
  rw [e9] at hP1 hD1
  exact kk C H1 locs1 la hP1 hD1 hS1 hl
theorem jr_zast {q : Nat} {len : Nat} {i x : Int32} {Γ : List jm_Sh} {ad : Nat → Nat} {μ : Nat → Nat → Int32} (hdg : decode M.2.1 pc = .ok (.bastore, 1)) (hg : Γ[q]? = some (.inr (2, len, none))) (hi : vp_in i len) (kk : jm_R g M κ k n (pc + 1) ls st (Γ, ad, jm_st μ q i.toNatClampNeg (vp_nar .boolean x))) : jm_R g M κ k n pc ls (.int x :: .int i :: .ref q :: st) (Γ, ad, μ) := by
  obtain ⟨p, e, s, m, args, below, meth, c, A, Q⟩ := κ
  intro C H locs la hP hD hS hl
  have e9 : (jm_conc g (Γ, ad, μ)).set q (ad q, .inl (g.2.2.1 2, len, .inl (upd (μ q) i.toNatClampNeg (vp_nar .boolean x)))) = jm_conc g (Γ, ad, jm_st μ q i.toNatClampNeg (vp_nar .boolean x)) := jm_conc_set g Γ ad μ (upd (μ q) i.toNatClampNeg (vp_nar .boolean x)) hg
  refine va_zast C.1 C.2.1 C.2.2.2.2.2.2.2.2.1.1 hP hD hS q 2 (jm_conc_at g (Γ, ad, μ) hg) rfl hi hdg (fun H1 locs1 hP1 hD1 hS1 => ?_)
  dsimp only at hP1 hD1
  rw [e9] at hP1 hD1
  exact kk C H1 locs1 la hP1 hD1 hS1 hl
end JMB
end
section
section JMD
variable {g : jm_G} {M M2 : jm_M} {κ : jm_K} {k n pc : Nat} {ls : List (Option Value)} {st : List Value} {w : jm_W}
abbrev jm_ps (v : Option Value) (st : List Value) : List Value := match v with
  | none => st
  | some x => x :: st
theorem jm_ps_map {ro ad : Nat → Nat} (v : Option Value) (st : List Value) : (jm_ps v st).map (jm_tr ro ad) = jm_ps (v.map (jm_tr ro ad)) (st.map (jm_tr ro ad)) := by cases v <;> rfl
theorem jm_back {p : Program} {e : Env} {R : Room} {s : State} {m : MethodId} {args : Array Value} {below : List Frame} {meth : Method} {c : Code} {H : Heap} {locs : List Loc} {cells slots mc ms : Nat} {Q : State → Prop} {la : Array Slot} {st0 rest : List Value} {a : Array Value} {A A1 free : Nat → Prop} {P : Option Value → jm_W → Prop}
    (hr : va_Run p g.1 e R s m args below meth c H locs cells slots mc ms (F0 m pc la st0) rest (jm_Qc g P A1 a) free) (hS : va_S A s.heap H locs) (hA : ∀ q, q < H.size → A1 q → A q) (hf : ∀ q, free q → A q)
    (kk : ∀ (v : Option Value) (w' : jm_W) (H1 : Heap) (locs1 : List Loc), P v w' → va_P g.2.1 vwCl (jm_conc g w') H1 → va_D A1 (jm_conc g w') → va_S A s.heap H1 locs1 → W p g.1 e R s m args below meth c H1 locs1 (cells + mc) (slots + ms) Q (F0 m (pc + 3) la (jm_ps (v.map (jm_tr g.2.2.2.1 w'.2.1)) rest))) : W p g.1 e R s m args below meth c H locs cells slots Q (F0 m pc la st0) := by
  intro T hT X
  obtain ⟨v0, st₀, t, T', L, h0, X', hL, e1, e2, ⟨⟨v, w', hv, hp, hP1, hD1⟩, hz, hk⟩, st⟩ := hr T hT X
  have hv2 : v0 = v.map (jm_tr g.2.2.2.1 w'.2.1) := by injection hv
  subst hv2
  rw [h0] at hz hk
  obtain ⟨t2, a1, b1⟩ := kk v w' T'.heap (locs ++ L) hp (by rw [e1]; exact hP1) hD1
    ⟨Nat.le_trans hS.1 (by rw [e1]; exact hz), fun q h1 h2 => by rw [e1, hk q (Nat.lt_of_lt_of_le h1 hS.1) (fun z => h2 (hA q (Nat.lt_of_lt_of_le h1 hS.1) z))]; exact hS.2.1 q h1 h2, fun q hq => by
      rcases List.mem_append.mp hq with h | h
      · exact hS.2.2 q h
      · exact hf _ (hL q h)⟩ T' rfl X'
  refine ⟨t2, st t2 ?_, b1⟩
  have e9 : (v.map (jm_tr g.2.2.2.1 w'.2.1)).toList ++ rest = jm_ps (v.map (jm_tr g.2.2.2.1 w'.2.1)) rest := by cases v <;> rfl
  show Steps p.tables e below (T'.setTop (F0 m (pc + 3) la ((v.map (jm_tr g.2.2.2.1 w'.2.1)).toList ++ rest))) t2
  rw [e9]
  exact a1
theorem jm_blind {av : List Value} {A : Nat → Prop} {sz : Nat} : FrameBlind (va_Pc av (fun U => U.heap.size = sz ∧ jm_Pre g w A U)) := by
  intro a U fr mk q
  obtain ⟨q0, q1, qP, qD, qS, qR⟩ := q
  exact ⟨q0, q1, qP, qD, qS.same (u := U) (U := U.calling fr mk a) rfl, qR.moved (U := U.calling fr mk a) (Vm.Alike.refl U.vm)⟩
/-- the callee's start, out of the caller's state -/
theorem jm_enter {p : Program} {s : State} {m : MethodId} {args : Array Value} {meth : Method} {c : Code} {A : Nat → Prop} {H : Heap} {locs : List Loc} (C : jm_C g M p s m args meth c A) (hP : va_P g.2.1 vwCl (jm_conc g w) H) (hD : va_D A (jm_conc g w)) (hS : va_S A s.heap H locs) (av : List Value) : ∀ U : State, U.heap = H → s.WarmedH U.vm → va_Pc (av.map (jm_tr g.2.2.2.1 w.2.1)) (fun U => U.heap.size = H.size ∧ jm_Pre g w (va_A (jm_conc g w) H.size) U) (av.map (jm_tr g.2.2.2.1 w.2.1)).toArray U := by
  intro U hU hW
  obtain ⟨hx1, hb, hml, hr, hown, hts, hlk, hnm, hSa, hRo, hA⟩ := C
  refine ⟨rfl, by rw [hU], by rw [hU]; exact hP, hD.weaken (fun _ _ _ _ => trivial), hSa.warm hW, ?_⟩
  rw [hU]
  refine jm_Ro.narrow ((hRo.moved hW.alike).kept (fun a ha hna => hS.2.1 a ha hna)) (fun q hq => ?_)
  rcases hq with ⟨i, e, h⟩ | h
  · exact hD.2 i _ h
  · exact hA q (Nat.le_trans hS.1 h)
theorem jm_AA {A : Nat → Prop} {H0 H : Heap} {locs : List Loc} (hA : ∀ q, H0.size ≤ q → A q) (hD : va_D A (jm_conc g w)) (hS : va_S A H0 H locs) : ∀ q, va_A (jm_conc g w) H.size q → A q := by
  intro q hq
  rcases hq with ⟨i, e, h⟩ | h
  · exact hD.2 i _ h
  · exact hA q (Nat.le_trans hS.1 h)
/-- the rooms fit: caller, callee -/
def jm_fit (M M2 : jm_M) : Bool := decide (M2.2.2.2.2.frames + 1 ≤ M.2.2.2.2.frames) && decide (8 + (M2.2.2.1 + 11) + M2.2.2.2.2.locals ≤ M.2.2.2.2.locals)
theorem jm_fit_of (h : jm_fit M M2 = true) : M2.2.2.2.2.frames + 1 ≤ M.2.2.2.2.frames ∧ 8 + (M2.2.2.1 + 11) + M2.2.2.2.2.locals ≤ M.2.2.2.2.locals := by
  simpa [jm_fit] using h
def jm_desc (y : MethodName) (np : Nat) : Prop := y.cls ≠ "java/lang/invoke/MethodHandle" ∧ y.cls ≠ "java/lang/invoke/VarHandle" ∧ (parseMethodDescriptor y.desc).map (fun d => d.parameters.length) = some np
/-- links of calls: own, place in its pool, the method, how many arguments -/
def jm_LV (own : String) (idx : Nat) (M2 : jm_M) (np : Nat) : Prop := (Cond.methodLink own idx M2.1 ∈ jm_TB ∧ Cond.instanceMethod M2.1 ∈ jm_TB ∧ Cond.selects M2.1.cls M2.1 M2.1 ∈ jm_TB ∧ Cond.initialized M2.1.cls ∈ jm_TB ∧ Cond.code M2.1 M2.2.1 M2.2.2.1 M2.2.2.2.1 ∈ jm_TB) ∧ jm_desc M2.1 np
def jm_LS (own : String) (idx : Nat) (M2 : jm_M) (np : Nat) : Prop := (Cond.methodLink own idx M2.1 ∈ jm_TB ∧ Cond.static M2.1 ∈ jm_TB ∧ Cond.initialized M2.1.cls ∈ jm_TB ∧ Cond.code M2.1 M2.2.1 M2.2.2.1 M2.2.2.2.1 ∈ jm_TB) ∧ jm_desc M2.1 np
def jm_LI (own : String) (idx : Nat) (M2 : jm_M) (np : Nat) : Prop := (Cond.methodLink own idx M2.1 ∈ jm_TB ∧ Cond.instanceMethod M2.1 ∈ jm_TB ∧ Cond.initialized M2.1.cls ∈ jm_TB ∧ Cond.code M2.1 M2.2.1 M2.2.2.1 none ∈ jm_TB ∧ M2.1.name = "<init>" ∧ M2.2.2.2.1 = none) ∧ jm_desc M2.1 np
def jm_LNS (own : String) (idx : Nat) (M2 : jm_M) (np : Nat) : Prop := (∃ host, Cond.methodLinkNest own idx M2.1 host ∈ jm_NB) ∧ (Cond.static M2.1 ∈ jm_TB ∧ Cond.initialized M2.1.cls ∈ jm_TB ∧ Cond.code M2.1 M2.2.1 M2.2.2.1 M2.2.2.2.1 ∈ jm_TB) ∧ jm_desc M2.1 np
def jm_LNI (own : String) (idx : Nat) (M2 : jm_M) (np : Nat) : Prop := (∃ host, Cond.methodLinkNest own idx M2.1 host ∈ jm_NB) ∧ (Cond.instanceMethod M2.1 ∈ jm_TB ∧ Cond.initialized M2.1.cls ∈ jm_TB ∧ Cond.code M2.1 M2.2.1 M2.2.2.1 none ∈ jm_TB ∧ M2.1.name = "<init>" ∧ M2.2.2.2.1 = none) ∧ jm_desc M2.1 np
theorem jm_gpre {pre : List Cond} (h1 : ∀ w ∈ pre, w ∈ jm_TB) (hc : Cond.code M2.1 M2.2.1 M2.2.2.1 M2.2.2.2.1 ∈ jm_TB) : GoodIn jm_TB (pre ++ jm_ws M2) := by
  intro w hw
  rcases List.mem_append.mp hw with h | h
  · exact jm_good w (h1 w h)
  · exact jm_gws hc w h
theorem jm_cat {ro ad : Nat → Nat} : ∀ st : List Value, (st.all fun v => match v with | .retAddr _ => false | _ => true) = true → ((st.map (jm_tr ro ad)).map fun v => v.category) = st.map fun v => v.category := by
  intro st
  induction st with
  | nil => intro _; rfl
  | cons v st ih =>
    intro h
    simp only [List.all_cons, Bool.and_eq_true] at h
    simp only [List.map_cons]
    rw [ih h.2]
    congr 1
    cases v <;> first | rfl | simp at h
/-- the stack below the arguments is small -/
def jm_low (st : List Value) : Bool := (st.all fun v => match v with | .retAddr _ => false | _ => true) && decide ((st.map fun v => v.category).sum ≤ 8)
theorem jm_low_of {ro ad : Nat → Nat} (h : jm_low st = true) : ((st.map (jm_tr ro ad)).map fun v => v.category).sum ≤ 8 := by
  simp only [jm_low, Bool.and_eq_true, decide_eq_true_eq] at h
  rw [jm_cat st h.1]
  exact h.2
theorem jr_callV {idx np q : Nat} {st0 : List Value} (As : List Value) {ci : Nat} {fs : List (Option (Option Nat))} (hL : jm_LV M.1.cls idx M2 np) (hfit : jm_fit M M2 = true) (hdg : decode M.2.1 pc = .ok (.invokevirtual idx, 3)) (hg : w.1[q]? = some (.inl (ci, fs))) (hci : (vwCl[ci]?).map (fun r => r.1) = some M2.1.cls) (hst : st0 = As.reverse ++ .ref q :: st) (hnp : As.length = np) (hlow : jm_low st = true) (hmc : decide (k + M2.2.2.2.2.cells ≤ M.2.2.2.2.cells ∧ n + M2.2.2.2.2.slots ≤ M.2.2.2.2.slots) = true)
    (kk : jm_Cp g M2 (.ref q :: As) w (fun v w' => w'.2.1 = w.2.1 ∧ jm_R g M κ (k + M2.2.2.2.2.cells) (n + M2.2.2.2.2.slots) (pc + 3) ls (jm_ps v st) w')) : jm_R g M κ k n pc ls st0 w := by
  subst hst
  obtain ⟨p, e, s, m, args, below, meth, c, A, Q⟩ := κ
  intro C H locs la hP hD hS hl
  have C2 := C
  obtain ⟨hx1, hb, hml, hr, hown, hts, hlk, hnm, hSa, hRo, hA⟩ := C2
  obtain ⟨⟨b1, b2, b3, b4, b5⟩, hd1, hd2, hd3⟩ := hL
  have hgood : GoodIn jm_TB (wsV M.1.cls idx M2.1.cls M2.1 (jm_ws M2)) := jm_gpre (fun w hw => by
    rcases List.mem_cons.mp hw with rfl | hw
    · exact b1
    rcases List.mem_cons.mp hw with rfl | hw
    · exact b2
    rcases List.mem_cons.mp hw with rfl | hw
    · exact b3
    rcases List.mem_cons.mp hw with rfl | hw
    · exact b4
    cases hw) b5
  have hrecv : ∃ cellB : Cell, H[w.2.1 q]? = some cellB ∧ cellB.vm.isStatics = false ∧ s.vm.findClass M2.1.cls = some cellB.cls := by
    cases hz : vwCl[ci]? with
    | none => rw [hz] at hci; cases hci
    | some r =>
      rw [hz] at hci
      have e1 : r.1 = M2.1.cls := by simpa using hci
      rw [← e1]
      exact va_recv hSa.1 hP hz (jm_conc_at g w hg)
  have hAA := jm_AA hA hD hS
  refine jm_back (A := A) (va_runV (C := M2.1.cls) (As := As.map (jm_tr g.2.2.2.1 w.2.1)) (rest := st.map (jm_tr g.2.2.2.1 w.2.1)) ⟨hx1, hb, hml, hown, hts⟩ (kk H.size) (cwV np hts hgood rfl rfl rfl ⟨rfl, hd1, hd2, hd3⟩ (jm_fit_of hfit)) ⟨jm_blind, hrecv, jm_enter C hP hD hS (.ref q :: As)⟩ rfl (by rw [List.length_map]; exact hnp) hl.1 (by simp [jm_tr]) (lv_room (jm_low_of hlow)) hdg (of_decide_eq_true hmc)) hS (fun q _ h => hAA q h) hAA (fun v w' H1 locs1 hp hP1 hD1 hS1 => ?_)
  obtain ⟨hw', hR⟩ := hp
  have h9 := hR C H1 locs1 la hP1 (hD1.weaken (fun _ _ _ h => hAA _ h)) hS1 (by rw [hw']; exact hl)
  rw [jm_ps_map, hw'] at h9
  rw [hw']
  exact h9
theorem jr_callS {idx np : Nat} {st0 : List Value} (As : List Value) (hL : jm_LS M.1.cls idx M2 np) (hfit : jm_fit M M2 = true) (hdg : decode M.2.1 pc = .ok (.invokestatic idx, 3)) (hst : st0 = As.reverse ++ st) (hnp : As.length = np) (hlow : jm_low st = true) (hmc : decide (k + M2.2.2.2.2.cells ≤ M.2.2.2.2.cells ∧ n + M2.2.2.2.2.slots ≤ M.2.2.2.2.slots) = true)
    (kk : jm_Cp g M2 As w (fun v w' => w'.2.1 = w.2.1 ∧ jm_R g M κ (k + M2.2.2.2.2.cells) (n + M2.2.2.2.2.slots) (pc + 3) ls (jm_ps v st) w')) : jm_R g M κ k n pc ls st0 w := by
  subst hst
  obtain ⟨p, e, s, m, args, below, meth, c, A, Q⟩ := κ
  intro C H locs la hP hD hS hl
  have C2 := C
  obtain ⟨hx1, hb, hml, hr, hown, hts, hlk, hnm, hSa, hRo, hA⟩ := C2
  obtain ⟨⟨b1, b2, b4, b5⟩, hd1, hd2, hd3⟩ := hL
  have hgood : GoodIn jm_TB (va_wsS M.1.cls idx M2.1 (jm_ws M2)) := jm_gpre (fun w hw => by
    rcases List.mem_cons.mp hw with rfl | hw
    · exact b1
    rcases List.mem_cons.mp hw with rfl | hw
    · exact b2
    rcases List.mem_cons.mp hw with rfl | hw
    · exact b4
    cases hw) b5
  have hAA := jm_AA hA hD hS
  refine jm_back (A := A) (va_runS (As := As.map (jm_tr g.2.2.2.1 w.2.1)) (rest := st.map (jm_tr g.2.2.2.1 w.2.1)) ⟨hx1, hb, hml, hown, hts⟩ (kk H.size) (va_cwS np hts hgood rfl rfl rfl ⟨hd1, hd2, hd3⟩ (jm_fit_of hfit)) ⟨jm_blind, jm_enter C hP hD hS As⟩ rfl (by rw [List.length_map]; exact hnp) hl.1 (by simp) (lv_room (jm_low_of hlow)) hdg (of_decide_eq_true hmc)) hS (fun q _ h => hAA q h) hAA (fun v w' H1 locs1 hp hP1 hD1 hS1 => ?_)
  obtain ⟨hw', hR⟩ := hp
  have h9 := hR C H1 locs1 la hP1 (hD1.weaken (fun _ _ _ h => hAA _ h)) hS1 (by rw [hw']; exact hl)
  rw [jm_ps_map, hw'] at h9
  rw [hw']
  exact h9
theorem jr_callNS {idx np : Nat} {st0 : List Value} (As : List Value) (hL : jm_LNS M.1.cls idx M2 np) (hfit : jm_fit M M2 = true) (hdg : decode M.2.1 pc = .ok (.invokestatic idx, 3)) (hst : st0 = As.reverse ++ st) (hnp : As.length = np) (hlow : jm_low st = true) (hmc : decide (k + M2.2.2.2.2.cells ≤ M.2.2.2.2.cells ∧ n + M2.2.2.2.2.slots ≤ M.2.2.2.2.slots) = true)
    (kk : jm_Cp g M2 As w (fun v w' => w'.2.1 = w.2.1 ∧ jm_R g M κ (k + M2.2.2.2.2.cells) (n + M2.2.2.2.2.slots) (pc + 3) ls (jm_ps v st) w')) : jm_R g M κ k n pc ls st0 w := by
  subst hst
  obtain ⟨p, e, s, m, args, below, meth, c, A, Q⟩ := κ
  intro C H locs la hP hD hS hl
  have C2 := C
  obtain ⟨hx1, hb, hml, hr, hown, hts, hlk, hnm, hSa, hRo, hA⟩ := C2
  obtain ⟨⟨host, b1⟩, ⟨b2, b4, b5⟩, hd1, hd2, hd3⟩ := hL
  have hAA := jm_AA hA hD hS
  refine jm_back (A := A) (va_runSN (As := As.map (jm_tr g.2.2.2.1 w.2.1)) (rest := st.map (jm_tr g.2.2.2.1 w.2.1)) ⟨hx1, hb, hml, hown, hts⟩ (kk H.size) ⟨va_cnB np hts (jm_gws b5) rfl rfl rfl (hSa.2.1 _ b1) (hts _ b4) ⟨hd1, hd2, hd3⟩ (jm_fit_of hfit), hts _ b2, trivial⟩ ⟨jm_blind, jm_enter C hP hD hS As⟩ rfl (by rw [List.length_map]; exact hnp) hl.1 (by simp) (lv_room (jm_low_of hlow)) hdg (of_decide_eq_true hmc)) hS (fun q _ h => hAA q h) hAA (fun v w' H1 locs1 hp hP1 hD1 hS1 => ?_)
  obtain ⟨hw', hR⟩ := hp
  have h9 := hR C H1 locs1 la hP1 (hD1.weaken (fun _ _ _ h => hAA _ h)) hS1 (by rw [hw']; exact hl)
  rw [jm_ps_map, hw'] at h9
  rw [hw']
  exact h9
/-! returns -/
theorem jr_iret {P : Option Value → jm_W → Prop} {v : Int32} (hE : jm_E g M P κ) (hret : M.2.2.2.1 = some .int) (hdg : decode M.2.1 pc = .ok (.ireturn, 1)) (hkn : decide (k ≤ M.2.2.2.2.cells ∧ n ≤ M.2.2.2.2.slots) = true) (hp : P (some (.int v)) w) : jm_R g M κ k n pc ls [.int v] w := by
  obtain ⟨p, e, s, m, args, below, meth, c, A, Q⟩ := κ
  intro C H locs la hP hD hS hl
  obtain ⟨hx1, hb, hml, hr, hown, hts, hlk, hnm, hSa, hRo, hA⟩ := C
  have hkn := of_decide_eq_true hkn
  have hE : Q = _ := hE
  subst hE
  refine W.widen hkn.1 hkn.2 ?_
  exact W.iret (v := v) hx1 hb (by rw [hr]; exact hret) (fun t ht hW => ⟨⟨some (.int v), w, rfl, hp, by rw [ht]; exact hP, hD⟩, hS.F ht⟩) hS.2.2 hdg
theorem jr_zret {P : Option Value → jm_W → Prop} {v : Int32} (hE : jm_E g M P κ) (hret : M.2.2.2.1 = some .boolean) (hdg : decode M.2.1 pc = .ok (.ireturn, 1)) (hkn : decide (k ≤ M.2.2.2.2.cells ∧ n ≤ M.2.2.2.2.slots) = true) (hv : v = 0 ∨ v = 1) (hp : P (some (.int v)) w) : jm_R g M κ k n pc ls [.int v] w := by
  obtain ⟨p, e, s, m, args, below, meth, c, A, Q⟩ := κ
  intro C H locs la hP hD hS hl
  obtain ⟨hx1, hb, hml, hr, hown, hts, hlk, hnm, hSa, hRo, hA⟩ := C
  have hkn := of_decide_eq_true hkn
  have hE : Q = _ := hE
  subst hE
  refine W.widen hkn.1 hkn.2 ?_
  exact W.zret (v := v) (ty := .boolean) hx1 hb (by rw [hr]; exact hret) (by rcases hv with rfl | rfl <;> rfl) (fun t ht hW => ⟨⟨some (.int v), w, rfl, hp, by rw [ht]; exact hP, hD⟩, hS.F ht⟩) hS.2.2 hdg
theorem jr_vret {P : Option Value → jm_W → Prop} (hE : jm_E g M P κ) (hret : M.2.2.2.1 = none) (hdg : decode M.2.1 pc = .ok (.return_, 1)) (hkn : decide (k ≤ M.2.2.2.2.cells ∧ n ≤ M.2.2.2.2.slots) = true) (hp : P none w) : jm_R g M κ k n pc ls [] w := by
  obtain ⟨p, e, s, m, args, below, meth, c, A, Q⟩ := κ
  intro C H locs la hP hD hS hl
  obtain ⟨hx1, hb, hml, hr, hown, hts, hlk, hnm, hSa, hRo, hA⟩ := C
  have hkn := of_decide_eq_true hkn
  have hE : Q = _ := hE
  subst hE
  refine W.widen hkn.1 hkn.2 ?_
  exact W.vret hx1 hb (by rw [hr]; exact hret) (fun t ht hW => ⟨⟨none, w, rfl, hp, by rw [ht]; exact hP, hD⟩, hS.F ht⟩) hS.2.2 hdg
theorem jr_aret {P : Option Value → jm_W → Prop} {q : Nat} {rt : FieldType} (hE : jm_E g M P κ) (hret : M.2.2.2.1 = some rt) (hrt : (∃ nm, rt = .object nm) ∨ ∃ t, rt = .array t) (hdg : decode M.2.1 pc = .ok (.areturn, 1)) (hkn : decide (k ≤ M.2.2.2.2.cells ∧ n ≤ M.2.2.2.2.slots) = true) (hp : P (some (.ref q)) w) : jm_R g M κ k n pc ls [.ref q] w := by
  obtain ⟨p, e, s, m, args, below, meth, c, A, Q⟩ := κ
  intro C H locs la hP hD hS hl
  obtain ⟨hx1, hb, hml, hr, hown, hts, hlk, hnm, hSa, hRo, hA⟩ := C
  have hkn := of_decide_eq_true hkn
  have hE : Q = _ := hE
  subst hE
  refine W.widen hkn.1 hkn.2 ?_
  exact W.aret (v := .ref (w.2.1 q)) hx1 hb (by rw [hr]; exact hret) hrt (Or.inr ⟨_, rfl⟩) (fun t ht hW => ⟨⟨some (.ref q), w, rfl, hp, by rw [ht]; exact hP, hD⟩, hS.F ht⟩) hS.2.2 hdg
/-! Math and System -/
def jm_LM (own : String) (idx : Nat) (y : MethodName) (code9 : ByteArray) (mx : Nat) : Prop := Cond.methodLink own idx y ∈ jm_TB ∧ Cond.static y ∈ jm_TB ∧ Cond.initialized "java/lang/Math" ∈ jm_TB ∧ Cond.code y code9 mx (some .int) ∈ jm_TB
theorem jr_max {idx : Nat} {x y : Int32} (hL : jm_LM M.1.cls idx Lib.Math.max.name Lib.Math.max.code 2) (hdg : decode M.2.1 pc = .ok (.invokestatic idx, 3)) (hR : decide (1 ≤ M.2.2.2.2.frames ∧ 21 ≤ M.2.2.2.2.locals) = true) (hlow : jm_low st = true) (hkn : decide (k ≤ M.2.2.2.2.cells ∧ n ≤ M.2.2.2.2.slots) = true) (kk : jm_R g M κ k n (pc + 3) ls (.int (if x < y then y else x) :: st) w) : jm_R g M κ k n pc ls (.int y :: .int x :: st) w := by
  obtain ⟨p, e, s, m, args, below, meth, c, A, Q⟩ := κ
  intro C H locs la hP hD hS hl
  have kk := kk C H locs la hP hD hS hl
  obtain ⟨hx1, hb, hml, hr, hown, hts, hlk, hnm, hSa, hRo, hA⟩ := C
  have hkn := of_decide_eq_true hkn
  have hR := of_decide_eq_true hR
  have hlow := jm_low_of (ro := g.2.2.2.1) (ad := w.2.1) hlow
  exact va_mmax hx1 hb (by rw [hml, hl.1]) hown (hts _ hL.1) (hts _ hL.2.1) (hts _ hL.2.2.1) (hts _ hL.2.2.2) hR.1 (by omega) hkn.1 hkn.2 hdg kk
theorem jr_min {idx : Nat} {x y : Int32} (hL : jm_LM M.1.cls idx Lib.Math.min.name Lib.Math.min.code 2) (hdg : decode M.2.1 pc = .ok (.invokestatic idx, 3)) (hR : decide (1 ≤ M.2.2.2.2.frames ∧ 21 ≤ M.2.2.2.2.locals) = true) (hlow : jm_low st = true) (hkn : decide (k ≤ M.2.2.2.2.cells ∧ n ≤ M.2.2.2.2.slots) = true) (kk : jm_R g M κ k n (pc + 3) ls (.int (if y < x then y else x) :: st) w) : jm_R g M κ k n pc ls (.int y :: .int x :: st) w := by
  obtain ⟨p, e, s, m, args, below, meth, c, A, Q⟩ := κ
  intro C H locs la hP hD hS hl
  have kk := kk C H locs la hP hD hS hl
  obtain ⟨hx1, hb, hml, hr, hown, hts, hlk, hnm, hSa, hRo, hA⟩ := C
  have hkn := of_decide_eq_true hkn
  have hR := of_decide_eq_true hR
  have hlow := jm_low_of (ro := g.2.2.2.1) (ad := w.2.1) hlow
  exact va_mmin hx1 hb (by rw [hml, hl.1]) hown (hts _ hL.1) (hts _ hL.2.1) (hts _ hL.2.2.1) (hts _ hL.2.2.2) hR.1 (by omega) hkn.1 hkn.2 hdg kk
theorem jr_abs {idx : Nat} {x : Int32} (hL : jm_LM M.1.cls idx Lib.Math.abs.name Lib.Math.abs.code 1) (hdg : decode M.2.1 pc = .ok (.invokestatic idx, 3)) (hR : decide (1 ≤ M.2.2.2.2.frames ∧ 21 ≤ M.2.2.2.2.locals) = true) (hlow : jm_low st = true) (hkn : decide (k ≤ M.2.2.2.2.cells ∧ n ≤ M.2.2.2.2.slots) = true) (kk : jm_R g M κ k n (pc + 3) ls (.int (if 0 ≤ x then x else 0 - x) :: st) w) : jm_R g M κ k n pc ls (.int x :: st) w := by
  obtain ⟨p, e, s, m, args, below, meth, c, A, Q⟩ := κ
  intro C H locs la hP hD hS hl
  have kk := kk C H locs la hP hD hS hl
  obtain ⟨hx1, hb, hml, hr, hown, hts, hlk, hnm, hSa, hRo, hA⟩ := C
  have hkn := of_decide_eq_true hkn
  have hR := of_decide_eq_true hR
  have hlow := jm_low_of (ro := g.2.2.2.1) (ad := w.2.1) hlow
  exact va_mabs hx1 hb (by rw [hml, hl.1]) hown (hts _ hL.1) (hts _ hL.2.1) (hts _ hL.2.2.1) (hts _ hL.2.2.2) hR.1 (by omega) hkn.1 hkn.2 hdg kk
def jm_LC (own : String) (idx : Nat) : Prop := Cond.methodLink own idx arraycopyName ∈ jm_TB ∧ Cond.native arraycopyName ∈ jm_TB ∧ Cond.static arraycopyName ∈ jm_TB ∧ Cond.initialized "java/lang/System" ∈ jm_TB
theorem jr_copy {idx q1 q0 n0 n1 : Nat} {sp dp ln : Int32} {Γ : List jm_Sh} {ad : Nat → Nat} {μ : Nat → Nat → Int32} (hL : jm_LC M.1.cls idx) (hdg : decode M.2.1 pc = .ok (.invokestatic idx, 3)) (hR : decide (1 ≤ M.2.2.2.2.frames ∧ nativeFrameWords "java/lang/System" "arraycopy" 5 + 19 ≤ M.2.2.2.2.locals) = true) (hlow : jm_low st = true) (hg0 : Γ[q0]? = some (.inr (0, n0, none))) (hg1 : Γ[q1]? = some (.inr (0, n1, none)))
    (h1 : ¬ sp < 0) (h2 : ¬ dp < 0) (h3 : ¬ ln < 0) (h4 : sp.toNatClampNeg + ln.toNatClampNeg ≤ n0) (h5 : dp.toNatClampNeg + ln.toNatClampNeg ≤ n1)
    (kk : jm_R g M κ k n (pc + 3) ls st (Γ, ad, jm_up μ q1 (va_cpy (μ q0) (μ q1) sp.toNatClampNeg dp.toNatClampNeg ln.toNatClampNeg))) : jm_R g M κ k n pc ls (.int ln :: .int dp :: .ref q1 :: .int sp :: .ref q0 :: st) (Γ, ad, μ) := by
  obtain ⟨p, e, s, m, args, below, meth, c, A, Q⟩ := κ
  intro C H locs la hP hD hS hl
  have kk := kk C
  obtain ⟨hx1, hb, hml, hr, hown, hts, hlk, hnm, hSa, hRo, hA⟩ := C
  have hR := of_decide_eq_true hR
  have hlow := jm_low_of (ro := g.2.2.2.1) (ad := (Γ, ad, μ).2.1) hlow
  have e9 : (jm_conc g (Γ, ad, μ)).set q1 (ad q1, .inl (g.2.2.1 0, n1, .inl (va_cpy (μ q0) (μ q1) sp.toNatClampNeg dp.toNatClampNeg ln.toNatClampNeg))) = jm_conc g (Γ, ad, jm_up μ q1 (va_cpy (μ q0) (μ q1) sp.toNatClampNeg dp.toNatClampNeg ln.toNatClampNeg)) := jm_conc_set g Γ ad μ _ hg1
  refine va_copyi hx1 hb (by rw [hml, hl.1]) hown (hts _ hL.1) (hts _ hL.2.1) (hts _ hL.2.2.1) (hts _ hL.2.2.2) hSa.1 hP hD hS q0 q1 0 0 (ty := .int) (jm_conc_at g (Γ, ad, μ) hg0) (jm_conc_at g (Γ, ad, μ) hg1) rfl rfl rfl h1 h2 h3 h4 h5 (fun i _ => rfl) hR.1 (by omega) hdg (fun H1 locs1 hP1 hD1 hS1 => ?_)
  dsimp only at hP1 hD1
  rw [e9] at hP1 hD1
  exact kk H1 locs1 la hP1 hD1 hS1 hl
end JMD
end
section
section JMA
variable {g : jm_G} {M M2 : jm_M} {κ : jm_K} {k n pc : Nat} {ls : List (Option Value)} {st : List Value}
/-- references in locals and stack are below b -/
def jm_rok (b : Nat) (ls : List (Option Value)) (st : List Value) : Prop := (∀ r : Nat, some (Value.ref r) ∈ ls → r < b) ∧ ∀ r : Nat, Value.ref r ∈ st → r < b
def jm_shok (b : Nat) (sh : jm_Sh) : Prop := match sh with
  | .inl o => ∀ r : Nat, some (some r) ∈ o.2 → r < b
  | .inr (_, _, none) => True
  | .inr (_, _, some f) => ∀ j r : Nat, f j = some r → r < b
def jm_wf (Γ : List jm_Sh) : Prop := ∀ sh ∈ Γ, jm_shok Γ.length sh
theorem jm_shok.mono {b b' : Nat} {sh : jm_Sh} (h : jm_shok b sh) (hb : b ≤ b') : jm_shok b' sh := by
  match sh, h with
  | .inl o, h => exact fun r hr => Nat.lt_of_lt_of_le (h r hr) hb
  | .inr (_, _, none), _ => exact trivial
  | .inr (_, _, some f), h => exact fun j r hr => Nat.lt_of_lt_of_le (h j r hr) hb
theorem jm_wf.push {Γ : List jm_Sh} {sh : jm_Sh} (h : jm_wf Γ) (hs : jm_shok (Γ.length + 1) sh) : jm_wf (Γ ++ [sh]) := by
  intro x hx
  rw [List.length_append]
  rcases List.mem_append.mp hx with hx | hx
  · exact (h x hx).mono (Nat.le_add_right _ _)
  · rw [List.mem_singleton.mp hx]; exact hs
theorem jm_wf.set {Γ : List jm_Sh} {k : Nat} {sh : jm_Sh} (h : jm_wf Γ) (hs : jm_shok Γ.length sh) : jm_wf (Γ.set k sh) := by
  intro x hx
  rw [List.length_set]
  rcases List.mem_or_eq_of_mem_set hx with hx | hx
  · exact h x hx
  · rw [hx]; exact hs
/-- addresses with one more cell -/
def jm_adn (ad : Nat → Nat) (b q : Nat) : Nat → Nat := fun x => if x = b then q else ad x
theorem jm_adn_lt {ad : Nat → Nat} {b q r : Nat} (h : r < b) : jm_adn ad b q r = ad r := by simp [jm_adn, Nat.ne_of_lt h]
theorem jm_adn_self {ad : Nat → Nat} {b q : Nat} : jm_adn ad b q b = q := by simp [jm_adn]
theorem jm_fs_eq {ad ad' : Nat → Nat} {fs : List (Option (Option Nat))} {f : Nat → Int32} (h : ∀ r : Nat, some (some r) ∈ fs → ad' r = ad r) : jm_fs ad' fs f = jm_fs ad fs f := by
  unfold jm_fs
  apply List.ext_getElem?
  intro i
  simp only [List.getElem?_mapIdx]
  cases hz : fs[i]? with
  | none => rfl
  | some o =>
    match o, hz with
    | none, _ => rfl
    | some none, _ => rfl
    | some (some r), hz =>
      simp only [Option.map_some, jm_fv]
      rw [h r (List.mem_of_getElem? hz)]
theorem jm_ent_eq {cA : Nat → ClassId} {ad ad' : Nat → Nat} {b : Nat} {sh : jm_Sh} {f : Nat → Int32} (h : jm_shok b sh) (ha : ∀ r, r < b → ad' r = ad r) : jm_ent cA ad' sh f = jm_ent cA ad sh f := by
  match sh, h with
  | .inl o, h => simp only [jm_ent]; rw [jm_fs_eq (fun r hr => ha r (h r hr))]
  | .inr (_, _, none), _ => rfl
  | .inr (_, _, some r), h =>
    simp only [jm_ent]
    have e : (fun j => (r j).map ad') = fun j => (r j).map ad := by
      funext j
      cases hz : r j with
      | none => rfl
      | some x => simp [ha x (h j x hz)]
    rw [e]
theorem jm_conc_push {Γ : List jm_Sh} {ad : Nat → Nat} {μ : Nat → Nat → Int32} (hwf : jm_wf Γ) (q : Nat) (sh : jm_Sh) (hs : jm_shok Γ.length sh) : jm_conc g (Γ ++ [sh], jm_adn ad Γ.length q, jm_up μ Γ.length (fun _ => 0)) = jm_conc g (Γ, ad, μ) ++ [(q, jm_ent g.2.2.1 ad sh (fun _ => 0))] := by
  apply List.ext_getElem?
  intro i
  have hlen : (jm_conc g (Γ, ad, μ)).length = Γ.length := by simp [jm_conc]
  have ha : ∀ r, r < Γ.length → jm_adn ad Γ.length q r = ad r := fun r hr => jm_adn_lt hr
  by_cases hi : i < Γ.length
  · rw [List.getElem?_append_left (by rw [hlen]; exact hi)]
    have hz : (Γ ++ [sh])[i]? = some Γ[i] := by rw [List.getElem?_append_left hi]; exact List.getElem?_eq_getElem hi
    rw [jm_conc_at g (Γ ++ [sh], jm_adn ad Γ.length q, jm_up μ Γ.length (fun _ => 0)) hz, jm_conc_at g (Γ, ad, μ) (List.getElem?_eq_getElem hi)]
    dsimp only
    rw [jm_adn_lt hi, jm_ent_eq (hwf _ (List.getElem_mem hi)) ha, jm_up_n _ _ (Nat.ne_of_lt hi)]
  · rw [List.getElem?_append_right (by rw [hlen]; omega), hlen]
    by_cases hi2 : i = Γ.length
    · subst hi2
      have hz : (Γ ++ [sh])[Γ.length]? = some sh := by simp
      rw [jm_conc_at g (Γ ++ [sh], jm_adn ad Γ.length q, jm_up μ Γ.length (fun _ => 0)) hz]
      dsimp only
      rw [jm_adn_self, jm_up_s, jm_ent_eq hs ha]
      simp
    · have hz : (Γ ++ [sh])[i]? = none := by rw [List.getElem?_eq_none]; simp; omega
      have h1 : (jm_conc g (Γ ++ [sh], jm_adn ad Γ.length q, jm_up μ Γ.length (fun _ => 0)))[i]? = none := by simp [jm_conc, List.getElem?_mapIdx]; omega
      rw [h1]
      exact (List.getElem?_eq_none (by simp; omega)).symm
theorem jm_ls_eq {ro ad ad' : Nat → Nat} {ls : List (Option Value)} (h : ∀ r : Nat, some (Value.ref r) ∈ ls → ad' r = ad r) : ∀ q ∈ jm_ls ro ad' ls, q ∈ jm_ls ro ad ls := by
  intro q hq
  obtain ⟨v, h1, h2⟩ := jm_ls_in.mp hq
  refine jm_ls_in.mpr ⟨v, h1, ?_⟩
  rw [h2]
  cases v <;> first | rfl | (simp only [jm_tr]; rw [h _ (List.mem_of_getElem? h1)])
theorem jm_st_eq {ro ad ad' : Nat → Nat} {st : List Value} (h : ∀ r : Nat, Value.ref r ∈ st → ad' r = ad r) : st.map (jm_tr ro ad') = st.map (jm_tr ro ad) := by
  apply List.map_congr_left
  intro v hv
  cases v <;> first | rfl | (simp only [jm_tr]; rw [h _ hv])
/-- Object's own constructor -/
def jm_LO (own : String) (idx : Nat) : Prop := Cond.methodLink own idx objectInit ∈ jm_TB ∧ Cond.instanceMethod objectInit ∈ jm_TB ∧ Cond.code objectInit ⟨#[0xb1]⟩ 1 none ∈ jm_TB
theorem jr_objInit {w : jm_W} {idx q : Nat} (hL : jm_LO M.1.cls idx) (hdg : decode M.2.1 pc = .ok (.invokespecial idx, 3)) (hR : decide (1 ≤ M.2.2.2.2.frames ∧ 20 ≤ M.2.2.2.2.locals) = true) (hlow : jm_low st = true) (kk : jm_R g M κ k n (pc + 3) ls st w) : jm_R g M κ k n pc ls (.ref q :: st) w := by
  obtain ⟨p, e, s, m, args, below, meth, c, A, Q⟩ := κ
  intro C H locs la hP hD hS hl
  have kk := kk C H locs la hP hD hS hl
  obtain ⟨hx1, hb, hml, hr, hown, hts, hlk, hnm, hSa, hRo, hA⟩ := C
  have hR := of_decide_eq_true hR
  have hlow := jm_low_of (ro := g.2.2.2.1) (ad := w.2.1) hlow
  refine W.objInit hx1 hb hown (hts _ hL.1) (hts _ hL.2.1) (hts _ hL.2.2) rfl (by rw [hml]; exact hl.1) (rest := st.map (jm_tr g.2.2.2.1 w.2.1)) rfl hdg hR.1 ?_ ?_
  · show 2 * 0 + _ + 12 ≤ _
    omega
  · exact kk
/-- a new object -/
def jm_LN (own : String) (idx ci : Nat) (fs : List (Option (Option Nat))) (N : Nat) : Prop := ∃ (r : vw_C) (t0 : Nat → FieldType), jm_Cls ci r t0 ∧ r.2.2 = N ∧ Cond.classLink own idx r.1 ∈ jm_TB ∧ Cond.instantiable r.1 r.2.2 ∈ jm_TB ∧ Cond.initialized r.1 ∈ jm_TB ∧ (∀ ad : Nat → Nat, ∀ j : Nat, j < r.2.2 → defaultValue (t0 j) = vp_V (jm_fs ad fs (fun _ => 0)) j) ∧ ∀ r : Nat, some (some r) ∉ fs
theorem jr_new {Γ : List jm_Sh} {ad : Nat → Nat} {μ : Nat → Nat → Int32} {idx N : Nat} (ci : Nat) (fs : List (Option (Option Nat))) (hL : jm_LN M.1.cls idx ci fs N) (hdg : decode M.2.1 pc = .ok (.new idx, 3)) (hwf : jm_wf Γ) (hok : jm_rok Γ.length ls st) (hkn : decide (k + 1 ≤ M.2.2.2.2.cells ∧ n + N ≤ M.2.2.2.2.slots) = true)
    (kk : ∀ q : Nat, jm_R g M κ (k + 1) (n + N) (pc + 3) ls (.ref Γ.length :: st) (Γ ++ [.inl (ci, fs)], jm_adn ad Γ.length q, jm_up μ Γ.length (fun _ => 0))) : jm_R g M κ k n pc ls st (Γ, ad, μ) := by
  obtain ⟨p, e, s, m, args, below, meth, c, A, Q⟩ := κ
  intro C H locs la hP hD hS hl
  have kk := fun q => kk q C
  obtain ⟨hx1, hb, hml, hr, hown, hts, hlk, hnm, hSa, hRo, hA⟩ := C
  obtain ⟨⟨CN, T, N'⟩, t0, ⟨hc, hin, hty, hnd⟩, hN, w1, w2, w3, hdf, hnr⟩ := hL
  have hN : N' = N := hN
  subst hN
  have hkn := of_decide_eq_true hkn
  have hsok : jm_shok Γ.length (.inl (ci, fs)) := fun r hr => absurd hr (hnr r)
  refine va_new (D := g.2.1) (cl := vwCl) (ci := ci) (fs := jm_fs ad fs (fun _ => 0)) (C := CN) (T := T) (N := N') hx1 hb hts hin t0 hty hown (hts _ w1) (hts _ w2) (hts _ w3) hSa.1 hP hD hS hA hc (hdf ad) hkn.1 hkn.2 hdg (fun q H1 hP1 hD1 hS1 => ?_)
  have e9 := jm_conc_push (g := g) (ad := ad) (μ := μ) hwf q (.inl (ci, fs)) hsok
  have h9 := kk q H1 locs la (by rw [e9]; exact hP1) (by rw [e9]; exact hD1) hS1 (jm_has hl (jm_ls_eq (fun r hr => jm_adn_lt (hok.1 r hr))))
  have e8 : (Value.ref Γ.length :: st).map (jm_tr g.2.2.2.1 (jm_adn ad Γ.length q)) = .ref q :: st.map (jm_tr g.2.2.2.1 ad) := by
    rw [List.map_cons, jm_st_eq (fun r hr => jm_adn_lt (hok.2 r hr))]
    show Value.ref (jm_adn ad Γ.length q Γ.length) :: _ = _
    rw [jm_adn_self]
  dsimp only at h9
  rw [e8] at h9
  exact h9
/-- all arrays of one class have one class: from the tables -/
theorem jm_same_cls {U : State} {D : va_G} {cl : List vw_C} {tys : List (ClassId × FieldType)} {cA c1 : ClassId} {ty : FieldType} {i : Nat} (h : va_K D cl (tys ++ [(cA, ty)]) U) (hi : tys[i]? = some (c1, ty)) : cA = c1 := by
  have hl := (List.getElem?_eq_some_iff.mp hi).1
  have h1 := (h.2 i (c1, ty) (by rw [List.getElem?_append_left hl]; exact hi)).2
  have h2 := (h.2 tys.length (cA, ty) (by simp)).2
  cases ty with
  | object C =>
    obtain ⟨_, _, _, _, _, a4⟩ := h1
    obtain ⟨_, _, _, _, _, b4⟩ := h2
    exact Option.some.inj (b4.symm.trans a4)
  | _ => exact Option.some.inj (h2.symm.trans h1)
/-- a new array of numbers -/
theorem jr_newa {Γ : List jm_Sh} {ad : Nat → Nat} {μ : Nat → Nat → Int32} {atype : ArrayType} {x : Int32} (kd len : Nat) {ty : FieldType} (hdg : decode M.2.1 pc = .ok (.newarray atype, 2)) (hty : newarray.typeOf atype = ty) (hkd : (jm_tys g)[kd]? = some (g.2.2.1 kd, ty)) (hdef : defaultValue ty = .int 0) (hw : Cond.arrayClass (newarray.typeOf atype) ∈ jm_TB) (hx : x = Int32.ofNat len) (hlen : decide (len < 100000) = true) (hcb : componentBytes ty ≤ 8) (hwf : jm_wf Γ) (hok : jm_rok Γ.length ls st) (hkn : decide (k + 1 ≤ M.2.2.2.2.cells ∧ n + len ≤ M.2.2.2.2.slots) = true)
    (kk : ∀ q : Nat, jm_R g M κ (k + 1) (n + len) (pc + 2) ls (.ref Γ.length :: st) (Γ ++ [.inr (kd, len, none)], jm_adn ad Γ.length q, jm_up μ Γ.length (fun _ => 0))) : jm_R g M κ k n pc ls (.int x :: st) (Γ, ad, μ) := by
  obtain ⟨p, e, s, m, args, below, meth, c, A, Q⟩ := κ
  intro C H locs la hP hD hS hl
  have kk := fun q => kk q C
  obtain ⟨hx1, hb, hml, hr, hown, hts, hlk, hnm, hSa, hRo, hA⟩ := C
  have hkn := of_decide_eq_true hkn
  have hlen := of_decide_eq_true hlen
  subst hx
  have hsok : jm_shok Γ.length (.inr (kd, len, none)) := trivial
  have e7 : (Int32.ofNat len).toNatClampNeg = len := Int32.toNatClampNeg_ofNat_of_lt (by omega)
  refine va_newa (D := g.2.1) (cl := vwCl) (a0 := (len, .inl (fun _ => 0))) (N' := len) hx1 hb (hts _ hw) hty hSa.1 hP hD hS hA (fun cA => by rw [vp_cell_i, hdef]) (nI_pos (n := len) (by omega)) e7 (by have := Nat.mul_le_mul (Nat.le_of_lt hlen) hcb; omega) hkn.1 hkn.2 hdg (fun q cA H1 hK1 hP1 hD1 hS1 => ?_)
  have hcA := jm_same_cls hK1 hkd
  subst hcA
  have e9 := jm_conc_push (g := g) (ad := ad) (μ := μ) hwf q (.inr (kd, len, none)) hsok
  have h9 := kk q H1 locs la (by rw [e9]; exact hP1) (by rw [e9]; exact hD1) hS1 (jm_has hl (jm_ls_eq (fun r hr => jm_adn_lt (hok.1 r hr))))
  have e8 : (Value.ref Γ.length :: st).map (jm_tr g.2.2.2.1 (jm_adn ad Γ.length q)) = .ref q :: st.map (jm_tr g.2.2.2.1 ad) := by
    rw [List.map_cons, jm_st_eq (fun r hr => jm_adn_lt (hok.2 r hr))]
    show Value.ref (jm_adn ad Γ.length q Γ.length) :: _ = _
    rw [jm_adn_self]
  dsimp only at h9
  rw [e8] at h9
  exact h9
/-- a new array of references -/
theorem jr_newq {Γ : List jm_Sh} {ad : Nat → Nat} {μ : Nat → Nat → Int32} {idx : Nat} {x : Int32} (kd len : Nat) {CN : String} (hdg : decode M.2.1 pc = .ok (.anewarray idx, 3)) (hkd : (kd = 3 ∧ CN = RX3) ∨ (kd = 4 ∧ CN = RX6)) (hw : Cond.classLink M.1.cls idx CN ∈ jm_TB) (hx : x = Int32.ofNat len) (hlen : decide (len < 100000) = true) (hwf : jm_wf Γ) (hok : jm_rok Γ.length ls st) (hkn : decide (k + 1 ≤ M.2.2.2.2.cells ∧ n + len ≤ M.2.2.2.2.slots) = true)
    (kk : ∀ q : Nat, jm_R g M κ (k + 1) (n + len) (pc + 3) ls (.ref Γ.length :: st) (Γ ++ [.inr (kd, len, some (fun _ => none))], jm_adn ad Γ.length q, jm_up μ Γ.length (fun _ => 0))) : jm_R g M κ k n pc ls (.int x :: st) (Γ, ad, μ) := by
  obtain ⟨p, e, s, m, args, below, meth, c, A, Q⟩ := κ
  intro C H locs la hP hD hS hl
  have kk := fun q => kk q C
  obtain ⟨hx1, hb, hml, hr, hown, hts, hlk, hnm, hSa, hRo, hA⟩ := C
  have hkn := of_decide_eq_true hkn
  have hlen := of_decide_eq_true hlen
  subst hx
  have hsok : jm_shok Γ.length (.inr (kd, len, some (fun _ => none))) := fun j r hr => by cases hr
  have e7 : (Int32.ofNat len).toNatClampNeg = len := Int32.toNatClampNeg_ofNat_of_lt (by omega)
  have hAO : va_AO CN s := by
    rcases hkd with ⟨-, rfl⟩ | ⟨-, rfl⟩
    · exact hSa.2.2.1
    · exact hSa.2.2.2
  refine va_newq (D := g.2.1) (cl := vwCl) (N' := len) hx1 hb hown (hts _ hw) hAO hSa.1 hP hD hS hA (nI_pos (n := len) (by omega)) e7 (by omega) hkn.1 hkn.2 hdg (fun q cA H1 hK1 hP1 hD1 hS1 => ?_)
  have hcA : cA = g.2.2.1 kd := by
    rcases hkd with ⟨rfl, rfl⟩ | ⟨rfl, rfl⟩
    · exact jm_same_cls (i := 3) hK1 rfl
    · exact jm_same_cls (i := 4) hK1 rfl
  subst hcA
  have e9 := jm_conc_push (g := g) (ad := ad) (μ := μ) hwf q (.inr (kd, len, some (fun _ => none))) hsok
  have h9 := kk q H1 locs la (by rw [e9]; exact hP1) (by rw [e9]; exact hD1) hS1 (jm_has hl (jm_ls_eq (fun r hr => jm_adn_lt (hok.1 r hr))))
  have e8 : (Value.ref Γ.length :: st).map (jm_tr g.2.2.2.1 (jm_adn ad Γ.length q)) = .ref q :: st.map (jm_tr g.2.2.2.1 ad) := by
    rw [List.map_cons, jm_st_eq (fun r hr => jm_adn_lt (hok.2 r hr))]
    show Value.ref (jm_adn ad Γ.length q Γ.length) :: _ = _
    rw [jm_adn_self]
  dsimp only at h9
  rw [e8] at h9
  exact h9
/-- a reference is put into an array of references -/
theorem jr_aast {Γ : List jm_Sh} {ad : Nat → Nat} {μ : Nat → Nat → Int32} {q r len kd ci : Nat} {i : Int32} {f : Nat → Option Nat} {fs : List (Option (Option Nat))} (Γ' : List jm_Sh) (hdg : decode M.2.1 pc = .ok (.aastore, 1)) (hkd : (kd = 3 ∧ ci = 3) ∨ (kd = 4 ∧ ci = 6)) (hg : Γ[q]? = some (.inr (kd, len, some f))) (hr : Γ[r]? = some (.inl (ci, fs))) (hi : vp_in i len) (hG : Γ.set q (.inr (kd, len, some (va_up f i.toNatClampNeg (some r)))) = Γ') (kk : jm_R g M κ k n (pc + 1) ls st (Γ', ad, μ)) : jm_R g M κ k n pc ls (.ref r :: .int i :: .ref q :: st) (Γ, ad, μ) := by
  obtain ⟨p, e, s, m, args, below, meth, c, A, Q⟩ := κ
  intro C H locs la hP hD hS hl
  subst hG
  have kk := kk C
  obtain ⟨hx1, hb, hml, hr1, hown, hts, hlk, hnm, hSa, hRo, hA⟩ := C
  have e9 : (jm_conc g (Γ, ad, μ)).set q (ad q, .inl (g.2.2.1 kd, len, .inr (.inr (.inr (.inr (va_up (fun j => (f j).map ad) i.toNatClampNeg (some (ad r)))))))) = jm_conc g (Γ.set q (.inr (kd, len, some (va_up f i.toNatClampNeg (some r)))), ad, μ) := by
    have e7 := jm_conc_shape g Γ ad μ (.inr (kd, len, some (va_up f i.toNatClampNeg (some r)))) (List.getElem?_eq_some_iff.mp hg).1
    rw [← e7]
    congr 1
    simp only [jm_ent]
    congr 8
    funext j
    by_cases hj : j = i.toNatClampNeg <;> simp [va_up, hj]
  rcases hkd with ⟨rfl, rfl⟩ | ⟨rfl, rfl⟩
  · refine va_astq hx1 hb hSa.1 hP hD hS q 3 r 3 (r := (RX3, TX3, 3)) (jm_conc_at g (Γ, ad, μ) hg) rfl (jm_conc_at g (Γ, ad, μ) hr) rfl hi hdg (fun H1 locs1 hP1 hD1 hS1 => ?_)
    dsimp only at hP1 hD1
    rw [e9] at hP1 hD1
    exact kk H1 locs1 la hP1 hD1 hS1 hl
  · refine va_astq hx1 hb hSa.1 hP hD hS q 4 r 6 (r := (RX6, TX6, 6)) (jm_conc_at g (Γ, ad, μ) hg) rfl (jm_conc_at g (Γ, ad, μ) hr) rfl hi hdg (fun H1 locs1 hP1 hD1 hS1 => ?_)
    dsimp only at hP1 hD1
    rw [e9] at hP1 hD1
    exact kk H1 locs1 la hP1 hD1 hS1 hl
/-- a constructor's call; the callee may make cells -/
theorem jr_callI {w : jm_W} {idx q : Nat} (hL : jm_LI M.1.cls idx M2 0) (hfit : jm_fit M M2 = true) (hdg : decode M.2.1 pc = .ok (.invokespecial idx, 3)) (hlow : jm_low st = true) (hok : jm_rok w.1.length ls st) (hmc : decide (k + M2.2.2.2.2.cells ≤ M.2.2.2.2.cells ∧ n + M2.2.2.2.2.slots ≤ M.2.2.2.2.slots) = true)
    (kk : jm_Cp g M2 [.ref q] w (fun v w' => v = none ∧ (∀ r, r < w.1.length → w'.2.1 r = w.2.1 r) ∧ jm_R g M κ (k + M2.2.2.2.2.cells) (n + M2.2.2.2.2.slots) (pc + 3) ls st w')) : jm_R g M κ k n pc ls (.ref q :: st) w := by
  obtain ⟨p, e, s, m, args, below, meth, c, A, Q⟩ := κ
  intro C H locs la hP hD hS hl
  have C2 := C
  obtain ⟨hx1, hb, hml, hr, hown, hts, hlk, hnm, hSa, hRo, hA⟩ := C2
  obtain ⟨⟨b1, b2, b4, b5, b6, b7⟩, hd1, hd2, hd3⟩ := hL
  have hAA := jm_AA hA hD hS
  refine jm_back (A := A) (va_runI (As := []) (rest := st.map (jm_tr g.2.2.2.1 w.2.1)) ⟨hx1, hb, hml, hown, hts⟩ (kk H.size) (cwI 0 hts (jm_gws (by rw [b7]; exact b5)) (by rw [jm_ws, b7]) rfl rfl (hts _ b4) (hts _ b1) (hts _ b2) b6 ⟨hd1, hd2, hd3⟩ (jm_fit_of hfit)) ⟨jm_blind, jm_enter C hP hD hS [.ref q]⟩ rfl rfl hl.1 rfl (lv_room (jm_low_of hlow)) hdg (of_decide_eq_true hmc)) hS (fun q _ h => hAA q h) hAA (fun v w' H1 locs1 hp hP1 hD1 hS1 => ?_)
  obtain ⟨rfl, hw', hR⟩ := hp
  have h9 := hR C H1 locs1 la hP1 (hD1.weaken (fun _ _ _ h => hAA _ h)) hS1 (jm_has hl (jm_ls_eq (fun r hr => hw' r (hok.1 r hr))))
  rw [jm_st_eq (fun r hr => hw' r (hok.2 r hr))] at h9
  exact h9
theorem jr_callNI {w : jm_W} {idx q : Nat} (hL : jm_LNI M.1.cls idx M2 0) (hfit : jm_fit M M2 = true) (hdg : decode M.2.1 pc = .ok (.invokespecial idx, 3)) (hlow : jm_low st = true) (hok : jm_rok w.1.length ls st) (hmc : decide (k + M2.2.2.2.2.cells ≤ M.2.2.2.2.cells ∧ n + M2.2.2.2.2.slots ≤ M.2.2.2.2.slots) = true)
    (kk : jm_Cp g M2 [.ref q] w (fun v w' => v = none ∧ (∀ r, r < w.1.length → w'.2.1 r = w.2.1 r) ∧ jm_R g M κ (k + M2.2.2.2.2.cells) (n + M2.2.2.2.2.slots) (pc + 3) ls st w')) : jm_R g M κ k n pc ls (.ref q :: st) w := by
  obtain ⟨p, e, s, m, args, below, meth, c, A, Q⟩ := κ
  intro C H locs la hP hD hS hl
  have C2 := C
  obtain ⟨hx1, hb, hml, hr, hown, hts, hlk, hnm, hSa, hRo, hA⟩ := C2
  obtain ⟨⟨host, b1⟩, ⟨b2, b4, b5, b6, b7⟩, hd1, hd2, hd3⟩ := hL
  have hAA := jm_AA hA hD hS
  refine jm_back (A := A) (va_runIN (As := []) (rest := st.map (jm_tr g.2.2.2.1 w.2.1)) ⟨hx1, hb, hml, hown, hts⟩ (kk H.size) ⟨va_cnB 0 hts (jm_gws (by rw [b7]; exact b5)) (by rw [jm_ws, b7]) rfl rfl (hSa.2.1 _ b1) (hts _ b4) ⟨hd1, hd2, hd3⟩ (jm_fit_of hfit), b6, hts _ b2⟩ ⟨jm_blind, jm_enter C hP hD hS [.ref q]⟩ rfl rfl hl.1 rfl (lv_room (jm_low_of hlow)) hdg (of_decide_eq_true hmc)) hS (fun q _ h => hAA q h) hAA (fun v w' H1 locs1 hp hP1 hD1 hS1 => ?_)
  obtain ⟨rfl, hw', hR⟩ := hp
  have h9 := hR C H1 locs1 la hP1 (hD1.weaken (fun _ _ _ h => hAA _ h)) hS1 (jm_has hl (jm_ls_eq (fun r hr => hw' r (hok.1 r hr))))
  rw [jm_st_eq (fun r hr => hw' r (hok.2 r hr))] at h9
  exact h9
end JMA
end
