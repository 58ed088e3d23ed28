section
-- ===== PART A: goes FIRST, ahead of the names: the tables' words, and 'selects' of the private methods out of them =====
/-- a private method of a class that the tables say can be made, by its rows of tables_1 -/
def lw_okq (q : MethodName × Nat) : Prop := (q.1.cls ≠ "java/lang/invoke/MethodHandle" ∧ q.1.cls ≠ "java/lang/invoke/VarHandle") ∧ Cond.instantiable q.1.cls q.2 ∈ tables_1 ∧ Cond.privateMethod q.1 ∈ tables_1 ∧ Cond.instanceMethod q.1 ∈ tables_1
theorem lw_p0 : lw_okq (⟨"CrackTarget", "beginChange", "()V"⟩, 10) := ⟨⟨by decide +kernel, by decide +kernel⟩, List.mem_of_getElem? (i := 14) (by decide +kernel), List.mem_of_getElem? (i := 247) (by decide +kernel), List.mem_of_getElem? (i := 248) (by decide +kernel)⟩
theorem lw_p1 : lw_okq (⟨"CrackTarget$Heard", "placeOf", "(I)I"⟩, 3) := ⟨⟨by decide +kernel, by decide +kernel⟩, List.mem_of_getElem? (i := 22) (by decide +kernel), List.mem_of_getElem? (i := 281) (by decide +kernel), List.mem_of_getElem? (i := 282) (by decide +kernel)⟩
theorem lw_p2 : lw_okq (⟨"CrackTarget$Pad", "step", "(IC)I"⟩, 6) := ⟨⟨by decide +kernel, by decide +kernel⟩, List.mem_of_getElem? (i := 63) (by decide +kernel), List.mem_of_getElem? (i := 320) (by decide +kernel), List.mem_of_getElem? (i := 321) (by decide +kernel)⟩
theorem lw_p3 : lw_okq (⟨"CrackTarget$Pad", "note", "()V"⟩, 6) := ⟨⟨by decide +kernel, by decide +kernel⟩, List.mem_of_getElem? (i := 63) (by decide +kernel), List.mem_of_getElem? (i := 325) (by decide +kernel), List.mem_of_getElem? (i := 326) (by decide +kernel)⟩
theorem lw_p4 : lw_okq (⟨"CrackTarget", "current", "()LCrackTarget$Shots;"⟩, 10) := ⟨⟨by decide +kernel, by decide +kernel⟩, List.mem_of_getElem? (i := 14) (by decide +kernel), List.mem_of_getElem? (i := 364) (by decide +kernel), List.mem_of_getElem? (i := 365) (by decide +kernel)⟩
theorem lw_p5 : lw_okq (⟨"CrackTarget$Finder", "judge", "(LCrackTarget$Frame;LCrackTarget$Heard;ILCrackTarget$Shots;)V"⟩, 4) := ⟨⟨by decide +kernel, by decide +kernel⟩, List.mem_of_getElem? (i := 112) (by decide +kernel), List.mem_of_getElem? (i := 377) (by decide +kernel), List.mem_of_getElem? (i := 378) (by decide +kernel)⟩
theorem lw_p6 : lw_okq (⟨"CrackTarget$Finder", "gather", "(LCrackTarget$Heard;I[I)V"⟩, 4) := ⟨⟨by decide +kernel, by decide +kernel⟩, List.mem_of_getElem? (i := 112) (by decide +kernel), List.mem_of_getElem? (i := 381) (by decide +kernel), List.mem_of_getElem? (i := 382) (by decide +kernel)⟩
theorem lw_p7 : lw_okq (⟨"CrackTarget$Finder", "choose", "(LCrackTarget$Heard;I)Z"⟩, 4) := ⟨⟨by decide +kernel, by decide +kernel⟩, List.mem_of_getElem? (i := 112) (by decide +kernel), List.mem_of_getElem? (i := 387) (by decide +kernel), List.mem_of_getElem? (i := 388) (by decide +kernel)⟩
theorem lw_p8 : lw_okq (⟨"CrackTarget", "tryOut", "(II)V"⟩, 10) := ⟨⟨by decide +kernel, by decide +kernel⟩, List.mem_of_getElem? (i := 14) (by decide +kernel), List.mem_of_getElem? (i := 495) (by decide +kernel), List.mem_of_getElem? (i := 496) (by decide +kernel)⟩
theorem lw_p9 : lw_okq (⟨"CrackTargetModel", "record", "()V"⟩, 27) := ⟨⟨by decide +kernel, by decide +kernel⟩, List.mem_of_getElem? (i := 543) (by decide +kernel), List.mem_of_getElem? (i := 644) (by decide +kernel), List.mem_of_getElem? (i := 645) (by decide +kernel)⟩
theorem lw_p10 : lw_okq (⟨"CrackTargetModel", "whyNotHeard", "(II)I"⟩, 27) := ⟨⟨by decide +kernel, by decide +kernel⟩, List.mem_of_getElem? (i := 543) (by decide +kernel), List.mem_of_getElem? (i := 655) (by decide +kernel), List.mem_of_getElem? (i := 656) (by decide +kernel)⟩
theorem lw_p11 : lw_okq (⟨"CrackTargetModel", "isThere", "(II)Z"⟩, 27) := ⟨⟨by decide +kernel, by decide +kernel⟩, List.mem_of_getElem? (i := 543) (by decide +kernel), List.mem_of_getElem? (i := 663) (by decide +kernel), List.mem_of_getElem? (i := 664) (by decide +kernel)⟩
theorem lw_p12 : lw_okq (⟨"CrackTargetModel", "earOf", "(I)I"⟩, 27) := ⟨⟨by decide +kernel, by decide +kernel⟩, List.mem_of_getElem? (i := 543) (by decide +kernel), List.mem_of_getElem? (i := 667) (by decide +kernel), List.mem_of_getElem? (i := 668) (by decide +kernel)⟩
theorem lw_p13 : lw_okq (⟨"CrackTargetModel", "timeOf", "(I)I"⟩, 27) := ⟨⟨by decide +kernel, by decide +kernel⟩, List.mem_of_getElem? (i := 543) (by decide +kernel), List.mem_of_getElem? (i := 671) (by decide +kernel), List.mem_of_getElem? (i := 672) (by decide +kernel)⟩
theorem lw_p14 : lw_okq (⟨"CrackTargetModel", "comes", "(II)I"⟩, 27) := ⟨⟨by decide +kernel, by decide +kernel⟩, List.mem_of_getElem? (i := 543) (by decide +kernel), List.mem_of_getElem? (i := 675) (by decide +kernel), List.mem_of_getElem? (i := 676) (by decide +kernel)⟩
theorem lw_p15 : lw_okq (⟨"CrackTargetModel", "takesBy", "(IIII)I"⟩, 27) := ⟨⟨by decide +kernel, by decide +kernel⟩, List.mem_of_getElem? (i := 543) (by decide +kernel), List.mem_of_getElem? (i := 690) (by decide +kernel), List.mem_of_getElem? (i := 691) (by decide +kernel)⟩
def lw_privs_1 : List (MethodName × Nat) := [(⟨"CrackTarget", "beginChange", "()V"⟩, 10), (⟨"CrackTarget$Heard", "placeOf", "(I)I"⟩, 3), (⟨"CrackTarget$Pad", "step", "(IC)I"⟩, 6), (⟨"CrackTarget$Pad", "note", "()V"⟩, 6), (⟨"CrackTarget", "current", "()LCrackTarget$Shots;"⟩, 10), (⟨"CrackTarget$Finder", "judge", "(LCrackTarget$Frame;LCrackTarget$Heard;ILCrackTarget$Shots;)V"⟩, 4), (⟨"CrackTarget$Finder", "gather", "(LCrackTarget$Heard;I[I)V"⟩, 4), (⟨"CrackTarget$Finder", "choose", "(LCrackTarget$Heard;I)Z"⟩, 4), (⟨"CrackTarget", "tryOut", "(II)V"⟩, 10), (⟨"CrackTargetModel", "record", "()V"⟩, 27), (⟨"CrackTargetModel", "whyNotHeard", "(II)I"⟩, 27), (⟨"CrackTargetModel", "isThere", "(II)Z"⟩, 27), (⟨"CrackTargetModel", "earOf", "(I)I"⟩, 27), (⟨"CrackTargetModel", "timeOf", "(I)I"⟩, 27), (⟨"CrackTargetModel", "comes", "(II)I"⟩, 27), (⟨"CrackTargetModel", "takesBy", "(IIII)I"⟩, 27)]
theorem lw_r1 : ∀ q ∈ lw_privs_1, lw_okq q := List.forall_mem_cons.mpr ⟨lw_p0, List.forall_mem_cons.mpr ⟨lw_p1, List.forall_mem_cons.mpr ⟨lw_p2, List.forall_mem_cons.mpr ⟨lw_p3, List.forall_mem_cons.mpr ⟨lw_p4, List.forall_mem_cons.mpr ⟨lw_p5, List.forall_mem_cons.mpr ⟨lw_p6, List.forall_mem_cons.mpr ⟨lw_p7, List.forall_mem_cons.mpr ⟨lw_p8, List.forall_mem_cons.mpr ⟨lw_p9, List.forall_mem_cons.mpr ⟨lw_p10, List.forall_mem_cons.mpr ⟨lw_p11, List.forall_mem_cons.mpr ⟨lw_p12, List.forall_mem_cons.mpr ⟨lw_p13, List.forall_mem_cons.mpr ⟨lw_p14, List.forall_mem_cons.mpr ⟨lw_p15, fun _ h => absurd h List.not_mem_nil⟩⟩⟩⟩⟩⟩⟩⟩⟩⟩⟩⟩⟩⟩⟩⟩
theorem lw_p16 : lw_okq (⟨"CrackTargetModel", "distance", "(IIII)I"⟩, 27) := ⟨⟨by decide +kernel, by decide +kernel⟩, List.mem_of_getElem? (i := 543) (by decide +kernel), List.mem_of_getElem? (i := 694) (by decide +kernel), List.mem_of_getElem? (i := 695) (by decide +kernel)⟩
theorem lw_p17 : lw_okq (⟨"CrackTargetModel", "isPulse", "(I)Z"⟩, 27) := ⟨⟨by decide +kernel, by decide +kernel⟩, List.mem_of_getElem? (i := 543) (by decide +kernel), List.mem_of_getElem? (i := 705) (by decide +kernel), List.mem_of_getElem? (i := 706) (by decide +kernel)⟩
theorem lw_p18 : lw_okq (⟨"CrackTargetModel", "goes", "(I)V"⟩, 27) := ⟨⟨by decide +kernel, by decide +kernel⟩, List.mem_of_getElem? (i := 543) (by decide +kernel), List.mem_of_getElem? (i := 709) (by decide +kernel), List.mem_of_getElem? (i := 710) (by decide +kernel)⟩
theorem lw_p19 : lw_okq (⟨"CrackTargetModel", "find", "()V"⟩, 27) := ⟨⟨by decide +kernel, by decide +kernel⟩, List.mem_of_getElem? (i := 543) (by decide +kernel), List.mem_of_getElem? (i := 725) (by decide +kernel), List.mem_of_getElem? (i := 726) (by decide +kernel)⟩
theorem lw_p20 : lw_okq (⟨"CrackTargetModel", "findShots", "(I)V"⟩, 27) := ⟨⟨by decide +kernel, by decide +kernel⟩, List.mem_of_getElem? (i := 543) (by decide +kernel), List.mem_of_getElem? (i := 729) (by decide +kernel), List.mem_of_getElem? (i := 730) (by decide +kernel)⟩
theorem lw_p21 : lw_okq (⟨"CrackTargetModel", "reckon", "(I)V"⟩, 27) := ⟨⟨by decide +kernel, by decide +kernel⟩, List.mem_of_getElem? (i := 543) (by decide +kernel), List.mem_of_getElem? (i := 733) (by decide +kernel), List.mem_of_getElem? (i := 734) (by decide +kernel)⟩
theorem lw_p22 : lw_okq (⟨"CrackTargetModel", "findCandidates", "(I)Z"⟩, 27) := ⟨⟨by decide +kernel, by decide +kernel⟩, List.mem_of_getElem? (i := 543) (by decide +kernel), List.mem_of_getElem? (i := 737) (by decide +kernel), List.mem_of_getElem? (i := 738) (by decide +kernel)⟩
theorem lw_p23 : lw_okq (⟨"CrackTargetModel", "findBest", "()V"⟩, 27) := ⟨⟨by decide +kernel, by decide +kernel⟩, List.mem_of_getElem? (i := 543) (by decide +kernel), List.mem_of_getElem? (i := 741) (by decide +kernel), List.mem_of_getElem? (i := 742) (by decide +kernel)⟩
theorem lw_p24 : lw_okq (⟨"CrackTargetModel", "takeRow", "(I)V"⟩, 27) := ⟨⟨by decide +kernel, by decide +kernel⟩, List.mem_of_getElem? (i := 543) (by decide +kernel), List.mem_of_getElem? (i := 745) (by decide +kernel), List.mem_of_getElem? (i := 746) (by decide +kernel)⟩
theorem lw_p25 : lw_okq (⟨"CrackTargetModel", "isRow", "()Z"⟩, 27) := ⟨⟨by decide +kernel, by decide +kernel⟩, List.mem_of_getElem? (i := 543) (by decide +kernel), List.mem_of_getElem? (i := 749) (by decide +kernel), List.mem_of_getElem? (i := 750) (by decide +kernel)⟩
theorem lw_p26 : lw_okq (⟨"CrackTargetModel", "findPlace", "()V"⟩, 27) := ⟨⟨by decide +kernel, by decide +kernel⟩, List.mem_of_getElem? (i := 543) (by decide +kernel), List.mem_of_getElem? (i := 753) (by decide +kernel), List.mem_of_getElem? (i := 754) (by decide +kernel)⟩
theorem lw_p27 : lw_okq (⟨"CrackTargetModel", "spreadAt", "(I)I"⟩, 27) := ⟨⟨by decide +kernel, by decide +kernel⟩, List.mem_of_getElem? (i := 543) (by decide +kernel), List.mem_of_getElem? (i := 757) (by decide +kernel), List.mem_of_getElem? (i := 758) (by decide +kernel)⟩
theorem lw_p28 : lw_okq (⟨"CrackTargetModel", "becomesShot", "()V"⟩, 27) := ⟨⟨by decide +kernel, by decide +kernel⟩, List.mem_of_getElem? (i := 543) (by decide +kernel), List.mem_of_getElem? (i := 762) (by decide +kernel), List.mem_of_getElem? (i := 763) (by decide +kernel)⟩
theorem lw_p29 : lw_okq (⟨"CrackTargetModel", "momentAt", "(I)I"⟩, 27) := ⟨⟨by decide +kernel, by decide +kernel⟩, List.mem_of_getElem? (i := 543) (by decide +kernel), List.mem_of_getElem? (i := 766) (by decide +kernel), List.mem_of_getElem? (i := 767) (by decide +kernel)⟩
theorem lw_p30 : lw_okq (⟨"CrackTargetModel", "isShot", "(I)Z"⟩, 27) := ⟨⟨by decide +kernel, by decide +kernel⟩, List.mem_of_getElem? (i := 543) (by decide +kernel), List.mem_of_getElem? (i := 774) (by decide +kernel), List.mem_of_getElem? (i := 775) (by decide +kernel)⟩
theorem lw_p31 : lw_okq (⟨"CrackTargetModel", "ringOf", "(I)I"⟩, 27) := ⟨⟨by decide +kernel, by decide +kernel⟩, List.mem_of_getElem? (i := 543) (by decide +kernel), List.mem_of_getElem? (i := 778) (by decide +kernel), List.mem_of_getElem? (i := 779) (by decide +kernel)⟩
def lw_privs_2 : List (MethodName × Nat) := [(⟨"CrackTargetModel", "distance", "(IIII)I"⟩, 27), (⟨"CrackTargetModel", "isPulse", "(I)Z"⟩, 27), (⟨"CrackTargetModel", "goes", "(I)V"⟩, 27), (⟨"CrackTargetModel", "find", "()V"⟩, 27), (⟨"CrackTargetModel", "findShots", "(I)V"⟩, 27), (⟨"CrackTargetModel", "reckon", "(I)V"⟩, 27), (⟨"CrackTargetModel", "findCandidates", "(I)Z"⟩, 27), (⟨"CrackTargetModel", "findBest", "()V"⟩, 27), (⟨"CrackTargetModel", "takeRow", "(I)V"⟩, 27), (⟨"CrackTargetModel", "isRow", "()Z"⟩, 27), (⟨"CrackTargetModel", "findPlace", "()V"⟩, 27), (⟨"CrackTargetModel", "spreadAt", "(I)I"⟩, 27), (⟨"CrackTargetModel", "becomesShot", "()V"⟩, 27), (⟨"CrackTargetModel", "momentAt", "(I)I"⟩, 27), (⟨"CrackTargetModel", "isShot", "(I)Z"⟩, 27), (⟨"CrackTargetModel", "ringOf", "(I)I"⟩, 27)]
theorem lw_r2 : ∀ q ∈ lw_privs_2, lw_okq q := List.forall_mem_cons.mpr ⟨lw_p16, List.forall_mem_cons.mpr ⟨lw_p17, List.forall_mem_cons.mpr ⟨lw_p18, List.forall_mem_cons.mpr ⟨lw_p19, List.forall_mem_cons.mpr ⟨lw_p20, List.forall_mem_cons.mpr ⟨lw_p21, List.forall_mem_cons.mpr ⟨lw_p22, List.forall_mem_cons.mpr ⟨lw_p23, List.forall_mem_cons.mpr ⟨lw_p24, List.forall_mem_cons.mpr ⟨lw_p25, List.forall_mem_cons.mpr ⟨lw_p26, List.forall_mem_cons.mpr ⟨lw_p27, List.forall_mem_cons.mpr ⟨lw_p28, List.forall_mem_cons.mpr ⟨lw_p29, List.forall_mem_cons.mpr ⟨lw_p30, List.forall_mem_cons.mpr ⟨lw_p31, fun _ h => absurd h List.not_mem_nil⟩⟩⟩⟩⟩⟩⟩⟩⟩⟩⟩⟩⟩⟩⟩⟩
theorem lw_p32 : lw_okq (⟨"CrackTargetModel", "sumOfRings", "()I"⟩, 27) := ⟨⟨by decide +kernel, by decide +kernel⟩, List.mem_of_getElem? (i := 543) (by decide +kernel), List.mem_of_getElem? (i := 786) (by decide +kernel), List.mem_of_getElem? (i := 787) (by decide +kernel)⟩
theorem lw_p33 : lw_okq (⟨"CrackTargetModel", "bestShot", "()I"⟩, 27) := ⟨⟨by decide +kernel, by decide +kernel⟩, List.mem_of_getElem? (i := 543) (by decide +kernel), List.mem_of_getElem? (i := 790) (by decide +kernel), List.mem_of_getElem? (i := 791) (by decide +kernel)⟩
theorem lw_p34 : lw_okq (⟨"CrackTargetModel", "sumOfSpreads", "()I"⟩, 27) := ⟨⟨by decide +kernel, by decide +kernel⟩, List.mem_of_getElem? (i := 543) (by decide +kernel), List.mem_of_getElem? (i := 794) (by decide +kernel), List.mem_of_getElem? (i := 795) (by decide +kernel)⟩
theorem lw_p35 : lw_okq (⟨"CrackTargetModel", "widest", "()I"⟩, 27) := ⟨⟨by decide +kernel, by decide +kernel⟩, List.mem_of_getElem? (i := 543) (by decide +kernel), List.mem_of_getElem? (i := 798) (by decide +kernel), List.mem_of_getElem? (i := 799) (by decide +kernel)⟩
theorem lw_p36 : lw_okq (⟨"CrackTargetModel", "findFault", "()I"⟩, 27) := ⟨⟨by decide +kernel, by decide +kernel⟩, List.mem_of_getElem? (i := 543) (by decide +kernel), List.mem_of_getElem? (i := 835) (by decide +kernel), List.mem_of_getElem? (i := 836) (by decide +kernel)⟩
theorem lw_p37 : lw_okq (⟨"CrackTargetModel", "readsPulse", "()Z"⟩, 27) := ⟨⟨by decide +kernel, by decide +kernel⟩, List.mem_of_getElem? (i := 543) (by decide +kernel), List.mem_of_getElem? (i := 839) (by decide +kernel), List.mem_of_getElem? (i := 840) (by decide +kernel)⟩
theorem lw_p38 : lw_okq (⟨"CrackTargetModel", "takeDigit", "(I)I"⟩, 27) := ⟨⟨by decide +kernel, by decide +kernel⟩, List.mem_of_getElem? (i := 543) (by decide +kernel), List.mem_of_getElem? (i := 843) (by decide +kernel), List.mem_of_getElem? (i := 844) (by decide +kernel)⟩
theorem lw_p39 : lw_okq (⟨"CrackTargetModel", "character", "(I)I"⟩, 27) := ⟨⟨by decide +kernel, by decide +kernel⟩, List.mem_of_getElem? (i := 543) (by decide +kernel), List.mem_of_getElem? (i := 847) (by decide +kernel), List.mem_of_getElem? (i := 848) (by decide +kernel)⟩
theorem lw_p40 : lw_okq (⟨"CrackTargetModel", "isNext", "(I)Z"⟩, 27) := ⟨⟨by decide +kernel, by decide +kernel⟩, List.mem_of_getElem? (i := 543) (by decide +kernel), List.mem_of_getElem? (i := 851) (by decide +kernel), List.mem_of_getElem? (i := 852) (by decide +kernel)⟩
theorem lw_p41 : lw_okq (⟨"CrackTargetModel", "takeNumber", "()I"⟩, 27) := ⟨⟨by decide +kernel, by decide +kernel⟩, List.mem_of_getElem? (i := 543) (by decide +kernel), List.mem_of_getElem? (i := 855) (by decide +kernel), List.mem_of_getElem? (i := 856) (by decide +kernel)⟩
def lw_privs_3 : List (MethodName × Nat) := [(⟨"CrackTargetModel", "sumOfRings", "()I"⟩, 27), (⟨"CrackTargetModel", "bestShot", "()I"⟩, 27), (⟨"CrackTargetModel", "sumOfSpreads", "()I"⟩, 27), (⟨"CrackTargetModel", "widest", "()I"⟩, 27), (⟨"CrackTargetModel", "findFault", "()I"⟩, 27), (⟨"CrackTargetModel", "readsPulse", "()Z"⟩, 27), (⟨"CrackTargetModel", "takeDigit", "(I)I"⟩, 27), (⟨"CrackTargetModel", "character", "(I)I"⟩, 27), (⟨"CrackTargetModel", "isNext", "(I)Z"⟩, 27), (⟨"CrackTargetModel", "takeNumber", "()I"⟩, 27)]
theorem lw_r3 : ∀ q ∈ lw_privs_3, lw_okq q := List.forall_mem_cons.mpr ⟨lw_p32, List.forall_mem_cons.mpr ⟨lw_p33, List.forall_mem_cons.mpr ⟨lw_p34, List.forall_mem_cons.mpr ⟨lw_p35, List.forall_mem_cons.mpr ⟨lw_p36, List.forall_mem_cons.mpr ⟨lw_p37, List.forall_mem_cons.mpr ⟨lw_p38, List.forall_mem_cons.mpr ⟨lw_p39, List.forall_mem_cons.mpr ⟨lw_p40, List.forall_mem_cons.mpr ⟨lw_p41, fun _ h => absurd h List.not_mem_nil⟩⟩⟩⟩⟩⟩⟩⟩⟩⟩
def lw_privs : List (MethodName × Nat) := lw_privs_1 ++ (lw_privs_2 ++ (lw_privs_3))
def lw_tbl : List Cond := k2_sels lw_privs ++ tables_1
theorem lw_privs_ok : ∀ q ∈ lw_privs, lw_okq q := by
  show ∀ q ∈ lw_privs_1 ++ (lw_privs_2 ++ (lw_privs_3)), lw_okq q
  exact List.forall_mem_append.mpr ⟨lw_r1, List.forall_mem_append.mpr ⟨lw_r2, lw_r3⟩⟩
end
section
def RX0 : String := "CrackTarget$Finder"
def TX0 : u_T := fun k => match k with
  | 0 => ("CrackTarget$Finder", "fit", "LCrackTarget$Fit;", true)
  | 1 => ("CrackTarget$Finder", "near", "[I", true)
  | 2 => ("CrackTarget$Finder", "nearSizes", "[I", true)
  | _ => ("CrackTarget$Finder", "row", "[I", true)
def tyX0 : Nat → FieldType := fun k => match k with
  | 0 => .object "CrackTarget$Fit"
  | 1 => .array .int
  | 2 => .array .int
  | _ => .array .int
abbrev wsX00 : List Cond := u_ws RX0 TX0 4
theorem nmX0 : ∀ a, a < 4 → ∀ b, b < 4 → a ≠ b → (TX0 a).2.1 ≠ (TX0 b).2.1 := by decide +kernel
theorem tyX0_ok : ∀ k, k < 4 → parseFieldDescriptor (TX0 k).2.2.1 = some (tyX0 k) := by decide +kernel
abbrev cX0_init : ByteArray := prog_2_method_1_code
def yX0_init : MethodName := ⟨RX0, "<init>", "()V"⟩
abbrev cX0_find : ByteArray := prog_2_method_2_code
def yX0_find : MethodName := ⟨RX0, "find", "(LCrackTarget$Frame;LCrackTarget$Heard;ILCrackTarget$Shots;)V"⟩
abbrev cX0_spreadOf : ByteArray := prog_2_method_3_code
def yX0_spreadOf : MethodName := ⟨RX0, "spreadOf", "(LCrackTarget$Frame;LCrackTarget$Heard;LCrackTarget$Shot;II)I"⟩
abbrev cX0_judge : ByteArray := prog_2_method_4_code
def yX0_judge : MethodName := ⟨RX0, "judge", "(LCrackTarget$Frame;LCrackTarget$Heard;ILCrackTarget$Shots;)V"⟩
abbrev cX0_gather : ByteArray := prog_2_method_5_code
def yX0_gather : MethodName := ⟨RX0, "gather", "(LCrackTarget$Heard;I[I)V"⟩
abbrev cX0_choose : ByteArray := prog_2_method_6_code
def yX0_choose : MethodName := ⟨RX0, "choose", "(LCrackTarget$Heard;I)Z"⟩
def RX1 : String := "CrackTarget$Fit"
def TX1 : u_T := fun k => match k with
  | 0 => ("CrackTarget$Fit", "times", "[I", true)
  | 1 => ("CrackTarget$Fit", "x", "I", false)
  | 2 => ("CrackTarget$Fit", "y", "I", false)
  | _ => ("CrackTarget$Fit", "spread", "I", false)
def tyX1 : Nat → FieldType := fun k => match k with
  | 0 => .array .int
  | 1 => .int
  | 2 => .int
  | _ => .int
abbrev wsX10 : List Cond := u_ws RX1 TX1 4
theorem nmX1 : ∀ a, a < 4 → ∀ b, b < 4 → a ≠ b → (TX1 a).2.1 ≠ (TX1 b).2.1 := by decide +kernel
theorem tyX1_ok : ∀ k, k < 4 → parseFieldDescriptor (TX1 k).2.2.1 = some (tyX1 k) := by decide +kernel
abbrev cX1_init : ByteArray := prog_3_method_1_code
def yX1_init : MethodName := ⟨RX1, "<init>", "()V"⟩
abbrev cX1_search : ByteArray := prog_3_method_2_code
def yX1_search : MethodName := ⟨RX1, "search", "(LCrackTarget$Frame;I)Z"⟩
abbrev cX1_spreadAt : ByteArray := prog_3_method_3_code
def yX1_spreadAt : MethodName := ⟨RX1, "spreadAt", "(LCrackTarget$Frame;II)I"⟩
abbrev cX1_leastStart : ByteArray := prog_3_method_4_code
def yX1_leastStart : MethodName := ⟨RX1, "leastStart", "(LCrackTarget$Frame;)I"⟩
def RX2 : String := "CrackTarget$Frame"
def TX2 : u_T := fun k => match k with
  | 0 => ("CrackTarget$Frame", "distances", "[I", true)
  | 1 => ("CrackTarget$Frame", "times", "[I", true)
  | _ => ("CrackTarget$Frame", "speed", "I", false)
def tyX2 : Nat → FieldType := fun k => match k with
  | 0 => .array .int
  | 1 => .array .int
  | _ => .int
abbrev wsX20 : List Cond := u_ws RX2 TX2 3
theorem nmX2 : ∀ a, a < 3 → ∀ b, b < 3 → a ≠ b → (TX2 a).2.1 ≠ (TX2 b).2.1 := by decide +kernel
theorem tyX2_ok : ∀ k, k < 3 → parseFieldDescriptor (TX2 k).2.2.1 = some (tyX2 k) := by decide +kernel
abbrev cX2_init : ByteArray := prog_4_method_1_code
def yX2_init : MethodName := ⟨RX2, "<init>", "()V"⟩
abbrev cX2_speedAt : ByteArray := prog_4_method_2_code
def yX2_speedAt : MethodName := ⟨RX2, "speedAt", "(I)I"⟩
abbrev cX2_tune : ByteArray := prog_4_method_3_code
def yX2_tune : MethodName := ⟨RX2, "tune", "(I)V"⟩
abbrev cX2_distance : ByteArray := prog_4_method_4_code
def yX2_distance : MethodName := ⟨RX2, "distance", "(IIII)I"⟩
abbrev cX2_crackTime : ByteArray := prog_4_method_5_code
def yX2_crackTime : MethodName := ⟨RX2, "crackTime", "(III)I"⟩
abbrev cX2_lag : ByteArray := prog_4_method_6_code
def yX2_lag : MethodName := ⟨RX2, "lag", "(II)I"⟩
abbrev cX2_rootOf : ByteArray := prog_4_method_7_code
def yX2_rootOf : MethodName := ⟨RX2, "rootOf", "(I)I"⟩
def RX3 : String := "CrackTarget$Heard"
def TX3 : u_T := fun k => match k with
  | 0 => ("CrackTarget$Heard", "settings", "[I", true)
  | 1 => ("CrackTarget$Heard", "marks", "[I", true)
  | _ => ("CrackTarget$Heard", "size", "I", false)
def tyX3 : Nat → FieldType := fun k => match k with
  | 0 => .array .int
  | 1 => .array .int
  | _ => .int
abbrev wsX30 : List Cond := u_ws RX3 TX3 3
theorem nmX3 : ∀ a, a < 3 → ∀ b, b < 3 → a ≠ b → (TX3 a).2.1 ≠ (TX3 b).2.1 := by decide +kernel
theorem tyX3_ok : ∀ k, k < 3 → parseFieldDescriptor (TX3 k).2.2.1 = some (tyX3 k) := by decide +kernel
abbrev cX3_init : ByteArray := prog_5_method_1_code
def yX3_init : MethodName := ⟨RX3, "<init>", "()V"⟩
abbrev cX3_isPulse : ByteArray := prog_5_method_2_code
def yX3_isPulse : MethodName := ⟨RX3, "isPulse", "(I)Z"⟩
abbrev cX3_earOf : ByteArray := prog_5_method_3_code
def yX3_earOf : MethodName := ⟨RX3, "earOf", "(I)I"⟩
abbrev cX3_timeOf : ByteArray := prog_5_method_4_code
def yX3_timeOf : MethodName := ⟨RX3, "timeOf", "(I)I"⟩
abbrev cX3_has : ByteArray := prog_5_method_5_code
def yX3_has : MethodName := ⟨RX3, "has", "(I)Z"⟩
abbrev cX3_refusalOf : ByteArray := prog_5_method_6_code
def yX3_refusalOf : MethodName := ⟨RX3, "refusalOf", "(I)I"⟩
abbrev cX3_add : ByteArray := prog_5_method_7_code
def yX3_add : MethodName := ⟨RX3, "add", "(I)I"⟩
abbrev cX3_remove : ByteArray := prog_5_method_8_code
def yX3_remove : MethodName := ⟨RX3, "remove", "(I)V"⟩
abbrev cX3_become : ByteArray := prog_5_method_9_code
def yX3_become : MethodName := ⟨RX3, "become", "(LCrackTarget$Heard;)V"⟩
abbrev cX3_placeOf : ByteArray := prog_5_method_10_code
def yX3_placeOf : MethodName := ⟨RX3, "placeOf", "(I)I"⟩
def RX4 : String := "CrackTarget$History"
def TX4 : u_T := fun k => match k with
  | 0 => ("CrackTarget$History", "states", "[LCrackTarget$Heard;", true)
  | 1 => ("CrackTarget$History", "oldest", "I", false)
  | _ => ("CrackTarget$History", "size", "I", false)
def tyX4 : Nat → FieldType := fun k => match k with
  | 0 => .array (.object "CrackTarget$Heard")
  | 1 => .int
  | _ => .int
abbrev wsX40 : List Cond := u_ws RX4 TX4 3
theorem nmX4 : ∀ a, a < 3 → ∀ b, b < 3 → a ≠ b → (TX4 a).2.1 ≠ (TX4 b).2.1 := by decide +kernel
theorem tyX4_ok : ∀ k, k < 3 → parseFieldDescriptor (TX4 k).2.2.1 = some (tyX4 k) := by decide +kernel
abbrev cX4_init : ByteArray := prog_6_method_1_code
def yX4_init : MethodName := ⟨RX4, "<init>", "()V"⟩
abbrev cX4_record : ByteArray := prog_6_method_2_code
def yX4_record : MethodName := ⟨RX4, "record", "(LCrackTarget$Heard;)V"⟩
abbrev cX4_takeBack : ByteArray := prog_6_method_3_code
def yX4_takeBack : MethodName := ⟨RX4, "takeBack", "(LCrackTarget$Heard;)V"⟩
def RX5 : String := "CrackTarget$Pad"
def TX5 : u_T := fun k => match k with
  | 0 => ("CrackTarget$Pad", "signs", "[C", true)
  | 1 => ("CrackTarget$Pad", "marks", "[I", true)
  | 2 => ("CrackTarget$Pad", "length", "I", false)
  | 3 => ("CrackTarget$Pad", "pulses", "I", false)
  | 4 => ("CrackTarget$Pad", "ear", "I", false)
  | _ => ("CrackTarget$Pad", "time", "I", false)
def tyX5 : Nat → FieldType := fun k => match k with
  | 0 => .array .char
  | 1 => .array .int
  | 2 => .int
  | 3 => .int
  | 4 => .int
  | _ => .int
abbrev wsX50 : List Cond := u_ws RX5 TX5 6
theorem nmX5 : ∀ a, a < 6 → ∀ b, b < 6 → a ≠ b → (TX5 a).2.1 ≠ (TX5 b).2.1 := by decide +kernel
theorem tyX5_ok : ∀ k, k < 6 → parseFieldDescriptor (TX5 k).2.2.1 = some (tyX5 k) := by decide +kernel
abbrev cX5_init : ByteArray := prog_7_method_1_code
def yX5_init : MethodName := ⟨RX5, "<init>", "()V"⟩
abbrev cX5_append : ByteArray := prog_7_method_2_code
def yX5_append : MethodName := ⟨RX5, "append", "(C)V"⟩
abbrev cX5_read : ByteArray := prog_7_method_3_code
def yX5_read : MethodName := ⟨RX5, "read", "()I"⟩
abbrev cX5_step : ByteArray := prog_7_method_4_code
def yX5_step : MethodName := ⟨RX5, "step", "(IC)I"⟩
abbrev cX5_note : ByteArray := prog_7_method_5_code
def yX5_note : MethodName := ⟨RX5, "note", "()V"⟩
def RX6 : String := "CrackTarget$Shot"
def TX6 : u_T := fun k => match k with
  | 0 => ("CrackTarget$Shot", "pulses", "[I", true)
  | 1 => ("CrackTarget$Shot", "x", "I", false)
  | 2 => ("CrackTarget$Shot", "y", "I", false)
  | 3 => ("CrackTarget$Shot", "spread", "I", false)
  | 4 => ("CrackTarget$Shot", "moment", "I", false)
  | _ => ("CrackTarget$Shot", "ring", "I", false)
def tyX6 : Nat → FieldType := fun k => match k with
  | 0 => .array .int
  | 1 => .int
  | 2 => .int
  | 3 => .int
  | 4 => .int
  | _ => .int
abbrev wsX60 : List Cond := u_ws RX6 TX6 6
theorem nmX6 : ∀ a, a < 6 → ∀ b, b < 6 → a ≠ b → (TX6 a).2.1 ≠ (TX6 b).2.1 := by decide +kernel
theorem tyX6_ok : ∀ k, k < 6 → parseFieldDescriptor (TX6 k).2.2.1 = some (tyX6 k) := by decide +kernel
abbrev cX6_init : ByteArray := prog_8_method_1_code
def yX6_init : MethodName := ⟨RX6, "<init>", "()V"⟩
abbrev cX6_become : ByteArray := prog_8_method_2_code
def yX6_become : MethodName := ⟨RX6, "become", "(LCrackTarget$Frame;LCrackTarget$Fit;[I)V"⟩
abbrev cX6_tell : ByteArray := prog_8_method_3_code
def yX6_tell : MethodName := ⟨RX6, "tell", "(I)I"⟩
def RX7 : String := "CrackTarget$Shots"
def TX7 : u_T := fun k => match k with
  | 0 => ("CrackTarget$Shots", "list", "[LCrackTarget$Shot;", true)
  | 1 => ("CrackTarget$Shots", "owners", "[I", true)
  | _ => ("CrackTarget$Shots", "size", "I", false)
def tyX7 : Nat → FieldType := fun k => match k with
  | 0 => .array (.object "CrackTarget$Shot")
  | 1 => .array .int
  | _ => .int
abbrev wsX70 : List Cond := u_ws RX7 TX7 3
theorem nmX7 : ∀ a, a < 3 → ∀ b, b < 3 → a ≠ b → (TX7 a).2.1 ≠ (TX7 b).2.1 := by decide +kernel
theorem tyX7_ok : ∀ k, k < 3 → parseFieldDescriptor (TX7 k).2.2.1 = some (tyX7 k) := by decide +kernel
abbrev cX7_init : ByteArray := prog_9_method_1_code
def yX7_init : MethodName := ⟨RX7, "<init>", "()V"⟩
abbrev cX7_reset : ByteArray := prog_9_method_2_code
def yX7_reset : MethodName := ⟨RX7, "reset", "()V"⟩
abbrev cX7_isShot : ByteArray := prog_9_method_3_code
def yX7_isShot : MethodName := ⟨RX7, "isShot", "(I)Z"⟩
abbrev cX7_draft : ByteArray := prog_9_method_4_code
def yX7_draft : MethodName := ⟨RX7, "draft", "(LCrackTarget$Frame;LCrackTarget$Fit;[I)V"⟩
abbrev cX7_accept : ByteArray := prog_9_method_5_code
def yX7_accept : MethodName := ⟨RX7, "accept", "()V"⟩
abbrev cX7_sumOfRings : ByteArray := prog_9_method_6_code
def yX7_sumOfRings : MethodName := ⟨RX7, "sumOfRings", "()I"⟩
abbrev cX7_sumOfSpreads : ByteArray := prog_9_method_7_code
def yX7_sumOfSpreads : MethodName := ⟨RX7, "sumOfSpreads", "()I"⟩
abbrev cX7_sumOfX : ByteArray := prog_9_method_8_code
def yX7_sumOfX : MethodName := ⟨RX7, "sumOfX", "()I"⟩
abbrev cX7_sumOfY : ByteArray := prog_9_method_9_code
def yX7_sumOfY : MethodName := ⟨RX7, "sumOfY", "()I"⟩
abbrev cX7_withGreatestRing : ByteArray := prog_9_method_10_code
def yX7_withGreatestRing : MethodName := ⟨RX7, "withGreatestRing", "()I"⟩
abbrev cX7_widest : ByteArray := prog_9_method_11_code
def yX7_widest : MethodName := ⟨RX7, "widest", "(LCrackTarget$Frame;)I"⟩
def RX8 : String := "CrackTarget"
def TX8 : u_T := fun k => match k with
  | 0 => ("CrackTarget", "now", "LCrackTarget$Heard;", true)
  | 1 => ("CrackTarget", "history", "LCrackTarget$History;", true)
  | 2 => ("CrackTarget", "slots", "[LCrackTarget$Heard;", true)
  | 3 => ("CrackTarget", "saved", "[Z", true)
  | 4 => ("CrackTarget", "pad", "LCrackTarget$Pad;", true)
  | 5 => ("CrackTarget", "frame", "LCrackTarget$Frame;", true)
  | 6 => ("CrackTarget", "finder", "LCrackTarget$Finder;", true)
  | 7 => ("CrackTarget", "found", "LCrackTarget$Shots;", true)
  | 8 => ("CrackTarget", "tried", "LCrackTarget$Shots;", true)
  | _ => ("CrackTarget", "stale", "Z", false)
def tyX8 : Nat → FieldType := fun k => match k with
  | 0 => .object "CrackTarget$Heard"
  | 1 => .object "CrackTarget$History"
  | 2 => .array (.object "CrackTarget$Heard")
  | 3 => .array .boolean
  | 4 => .object "CrackTarget$Pad"
  | 5 => .object "CrackTarget$Frame"
  | 6 => .object "CrackTarget$Finder"
  | 7 => .object "CrackTarget$Shots"
  | 8 => .object "CrackTarget$Shots"
  | _ => .boolean
abbrev wsX80 : List Cond := u_ws RX8 TX8 10
theorem nmX8 : ∀ a, a < 10 → ∀ b, b < 10 → a ≠ b → (TX8 a).2.1 ≠ (TX8 b).2.1 := by decide +kernel
theorem tyX8_ok : ∀ k, k < 10 → parseFieldDescriptor (TX8 k).2.2.1 = some (tyX8 k) := by decide +kernel
abbrev cX8_init : ByteArray := prog_1_method_1_code
def yX8_init : MethodName := ⟨RX8, "<init>", "()V"⟩
abbrev cX8_set : ByteArray := prog_1_method_2_code
def yX8_set : MethodName := ⟨RX8, "set", "(II)I"⟩
abbrev cX8_hear : ByteArray := prog_1_method_3_code
def yX8_hear : MethodName := ⟨RX8, "hear", "(II)I"⟩
abbrev cX8_fire : ByteArray := prog_1_method_4_code
def yX8_fire : MethodName := ⟨RX8, "fire", "(III)I"⟩
abbrev cX8_hearAll : ByteArray := prog_1_method_5_code
def yX8_hearAll : MethodName := ⟨RX8, "hearAll", "()I"⟩
abbrev cX8_forget : ByteArray := prog_1_method_6_code
def yX8_forget : MethodName := ⟨RX8, "forget", "(I)I"⟩
abbrev cX8_clear : ByteArray := prog_1_method_7_code
def yX8_clear : MethodName := ⟨RX8, "clear", "()I"⟩
abbrev cX8_takes : ByteArray := prog_1_method_8_code
def yX8_takes : MethodName := ⟨RX8, "takes", "(III)I"⟩
abbrev cX8_pulse : ByteArray := prog_1_method_9_code
def yX8_pulse : MethodName := ⟨RX8, "pulse", "(II)I"⟩
abbrev cX8_shot : ByteArray := prog_1_method_10_code
def yX8_shot : MethodName := ⟨RX8, "shot", "(II)I"⟩
abbrev cX8_count : ByteArray := prog_1_method_11_code
def yX8_count : MethodName := ⟨RX8, "count", "(I)I"⟩
abbrev cX8_fits : ByteArray := prog_1_method_12_code
def yX8_fits : MethodName := ⟨RX8, "fits", "(III)I"⟩
abbrev cX8_mean : ByteArray := prog_1_method_13_code
def yX8_mean : MethodName := ⟨RX8, "mean", "(I)I"⟩
abbrev cX8_ifHeat : ByteArray := prog_1_method_14_code
def yX8_ifHeat : MethodName := ⟨RX8, "ifHeat", "(II)I"⟩
abbrev cX8_bestHeat : ByteArray := prog_1_method_15_code
def yX8_bestHeat : MethodName := ⟨RX8, "bestHeat", "()I"⟩
abbrev cX8_ifForgot : ByteArray := prog_1_method_16_code
def yX8_ifForgot : MethodName := ⟨RX8, "ifForgot", "(I)I"⟩
abbrev cX8_put : ByteArray := prog_1_method_17_code
def yX8_put : MethodName := ⟨RX8, "put", "(J)I"⟩
abbrev cX8_wipe : ByteArray := prog_1_method_18_code
def yX8_wipe : MethodName := ⟨RX8, "wipe", "()I"⟩
abbrev cX8_fault : ByteArray := prog_1_method_19_code
def yX8_fault : MethodName := ⟨RX8, "fault", "()I"⟩
abbrev cX8_undo : ByteArray := prog_1_method_20_code
def yX8_undo : MethodName := ⟨RX8, "undo", "()I"⟩
abbrev cX8_save : ByteArray := prog_1_method_21_code
def yX8_save : MethodName := ⟨RX8, "save", "(I)I"⟩
abbrev cX8_restore : ByteArray := prog_1_method_22_code
def yX8_restore : MethodName := ⟨RX8, "restore", "(I)I"⟩
abbrev cX8_beginChange : ByteArray := prog_1_method_23_code
def yX8_beginChange : MethodName := ⟨RX8, "beginChange", "()V"⟩
abbrev cX8_current : ByteArray := prog_1_method_24_code
def yX8_current : MethodName := ⟨RX8, "current", "()LCrackTarget$Shots;"⟩
abbrev cX8_tryOut : ByteArray := prog_1_method_25_code
def yX8_tryOut : MethodName := ⟨RX8, "tryOut", "(II)V"⟩
abbrev cX8_isEar : ByteArray := prog_1_method_26_code
def yX8_isEar : MethodName := ⟨RX8, "isEar", "(I)Z"⟩
abbrev cX8_isPoint : ByteArray := prog_1_method_27_code
def yX8_isPoint : MethodName := ⟨RX8, "isPoint", "(II)Z"⟩
abbrev cX8_markOf : ByteArray := prog_1_method_28_code
def yX8_markOf : MethodName := ⟨RX8, "markOf", "(II)I"⟩
def RX9 : String := "CrackTargetModel"
def TX9 : u_T := fun k => match k with
  | 0 => ("CrackTargetModel", "state", "[I", true)
  | 1 => ("CrackTargetModel", "kept", "[I", true)
  | 2 => ("CrackTargetModel", "history", "[I", true)
  | 3 => ("CrackTargetModel", "recorded", "I", false)
  | 4 => ("CrackTargetModel", "slots", "[I", true)
  | 5 => ("CrackTargetModel", "isSaved", "[I", true)
  | 6 => ("CrackTargetModel", "pad", "[I", true)
  | 7 => ("CrackTargetModel", "padLength", "I", false)
  | 8 => ("CrackTargetModel", "distances", "[I", true)
  | 9 => ("CrackTargetModel", "taken", "[I", true)
  | 10 => ("CrackTargetModel", "takenBy", "I", false)
  | 11 => ("CrackTargetModel", "shots", "I", false)
  | 12 => ("CrackTargetModel", "shotOf", "[I", true)
  | 13 => ("CrackTargetModel", "places", "[I", true)
  | 14 => ("CrackTargetModel", "spreads", "[I", true)
  | 15 => ("CrackTargetModel", "moments", "[I", true)
  | 16 => ("CrackTargetModel", "pulsesOf", "[I", true)
  | 17 => ("CrackTargetModel", "tried", "[I", true)
  | 18 => ("CrackTargetModel", "candidates", "[I", true)
  | 19 => ("CrackTargetModel", "best", "[I", true)
  | 20 => ("CrackTargetModel", "bestPlace", "I", false)
  | 21 => ("CrackTargetModel", "bestSpread", "I", false)
  | 22 => ("CrackTargetModel", "place", "I", false)
  | 23 => ("CrackTargetModel", "spread", "I", false)
  | 24 => ("CrackTargetModel", "at", "I", false)
  | 25 => ("CrackTargetModel", "earTold", "I", false)
  | _ => ("CrackTargetModel", "timeTold", "I", false)
def tyX9 : Nat → FieldType := fun k => match k with
  | 0 => .array .int
  | 1 => .array .int
  | 2 => .array .int
  | 3 => .int
  | 4 => .array .int
  | 5 => .array .int
  | 6 => .array .int
  | 7 => .int
  | 8 => .array .int
  | 9 => .array .int
  | 10 => .int
  | 11 => .int
  | 12 => .array .int
  | 13 => .array .int
  | 14 => .array .int
  | 15 => .array .int
  | 16 => .array .int
  | 17 => .array .int
  | 18 => .array .int
  | 19 => .array .int
  | 20 => .int
  | 21 => .int
  | 22 => .int
  | 23 => .int
  | 24 => .int
  | 25 => .int
  | _ => .int
abbrev wsX90 : List Cond := u_ws RX9 TX9 27
theorem nmX9 : ∀ a, a < 27 → ∀ b, b < 27 → a ≠ b → (TX9 a).2.1 ≠ (TX9 b).2.1 := by decide +kernel
theorem tyX9_ok : ∀ k, k < 27 → parseFieldDescriptor (TX9 k).2.2.1 = some (tyX9 k) := by decide +kernel
abbrev cX9_init : ByteArray := prog_11_method_1_code
def yX9_init : MethodName := ⟨RX9, "<init>", "()V"⟩
abbrev cX9_moves : ByteArray := prog_11_method_3_code
def yX9_moves : MethodName := ⟨RX9, "moves", "([II[II)V"⟩
abbrev cX9_within : ByteArray := prog_11_method_4_code
def yX9_within : MethodName := ⟨RX9, "within", "(III)Z"⟩
abbrev cX9_size : ByteArray := prog_11_method_5_code
def yX9_size : MethodName := ⟨RX9, "size", "(I)I"⟩
abbrev cX9_root : ByteArray := prog_11_method_6_code
def yX9_root : MethodName := ⟨RX9, "root", "(I)I"⟩
abbrev cX9_record : ByteArray := prog_11_method_7_code
def yX9_record : MethodName := ⟨RX9, "record", "()V"⟩
abbrev cX9_isPoint : ByteArray := prog_11_method_8_code
def yX9_isPoint : MethodName := ⟨RX9, "isPoint", "(II)Z"⟩
abbrev cX9_isEar : ByteArray := prog_11_method_9_code
def yX9_isEar : MethodName := ⟨RX9, "isEar", "(I)Z"⟩
abbrev cX9_distance : ByteArray := prog_11_method_10_code
def yX9_distance : MethodName := ⟨RX9, "distance", "(IIII)I"⟩
abbrev cX9_speedBy : ByteArray := prog_11_method_11_code
def yX9_speedBy : MethodName := ⟨RX9, "speedBy", "(I)I"⟩
abbrev cX9_takesBy : ByteArray := prog_11_method_12_code
def yX9_takesBy : MethodName := ⟨RX9, "takesBy", "(IIII)I"⟩
abbrev cX9_reckon : ByteArray := prog_11_method_13_code
def yX9_reckon : MethodName := ⟨RX9, "reckon", "(I)V"⟩
abbrev cX9_isPulse : ByteArray := prog_11_method_14_code
def yX9_isPulse : MethodName := ⟨RX9, "isPulse", "(I)Z"⟩
abbrev cX9_earOf : ByteArray := prog_11_method_15_code
def yX9_earOf : MethodName := ⟨RX9, "earOf", "(I)I"⟩
abbrev cX9_timeOf : ByteArray := prog_11_method_16_code
def yX9_timeOf : MethodName := ⟨RX9, "timeOf", "(I)I"⟩
abbrev cX9_isThere : ByteArray := prog_11_method_17_code
def yX9_isThere : MethodName := ⟨RX9, "isThere", "(II)Z"⟩
abbrev cX9_comes : ByteArray := prog_11_method_18_code
def yX9_comes : MethodName := ⟨RX9, "comes", "(II)I"⟩
abbrev cX9_goes : ByteArray := prog_11_method_19_code
def yX9_goes : MethodName := ⟨RX9, "goes", "(I)V"⟩
abbrev cX9_spreadAt : ByteArray := prog_11_method_20_code
def yX9_spreadAt : MethodName := ⟨RX9, "spreadAt", "(I)I"⟩
abbrev cX9_momentAt : ByteArray := prog_11_method_21_code
def yX9_momentAt : MethodName := ⟨RX9, "momentAt", "(I)I"⟩
abbrev cX9_findPlace : ByteArray := prog_11_method_22_code
def yX9_findPlace : MethodName := ⟨RX9, "findPlace", "()V"⟩
abbrev cX9_findCandidates : ByteArray := prog_11_method_23_code
def yX9_findCandidates : MethodName := ⟨RX9, "findCandidates", "(I)Z"⟩
abbrev cX9_takeRow : ByteArray := prog_11_method_24_code
def yX9_takeRow : MethodName := ⟨RX9, "takeRow", "(I)V"⟩
abbrev cX9_isRow : ByteArray := prog_11_method_25_code
def yX9_isRow : MethodName := ⟨RX9, "isRow", "()Z"⟩
abbrev cX9_findBest : ByteArray := prog_11_method_26_code
def yX9_findBest : MethodName := ⟨RX9, "findBest", "()V"⟩
abbrev cX9_becomesShot : ByteArray := prog_11_method_27_code
def yX9_becomesShot : MethodName := ⟨RX9, "becomesShot", "()V"⟩
abbrev cX9_findShots : ByteArray := prog_11_method_28_code
def yX9_findShots : MethodName := ⟨RX9, "findShots", "(I)V"⟩
abbrev cX9_find : ByteArray := prog_11_method_29_code
def yX9_find : MethodName := ⟨RX9, "find", "()V"⟩
abbrev cX9_ringOf : ByteArray := prog_11_method_30_code
def yX9_ringOf : MethodName := ⟨RX9, "ringOf", "(I)I"⟩
abbrev cX9_sumOfRings : ByteArray := prog_11_method_31_code
def yX9_sumOfRings : MethodName := ⟨RX9, "sumOfRings", "()I"⟩
abbrev cX9_sumOfSpreads : ByteArray := prog_11_method_32_code
def yX9_sumOfSpreads : MethodName := ⟨RX9, "sumOfSpreads", "()I"⟩
abbrev cX9_isValue : ByteArray := prog_11_method_33_code
def yX9_isValue : MethodName := ⟨RX9, "isValue", "(II)Z"⟩
abbrev cX9_set : ByteArray := prog_11_method_34_code
def yX9_set : MethodName := ⟨RX9, "set", "(II)I"⟩
abbrev cX9_whyNotHeard : ByteArray := prog_11_method_35_code
def yX9_whyNotHeard : MethodName := ⟨RX9, "whyNotHeard", "(II)I"⟩
abbrev cX9_hear : ByteArray := prog_11_method_36_code
def yX9_hear : MethodName := ⟨RX9, "hear", "(II)I"⟩
abbrev cX9_fire : ByteArray := prog_11_method_37_code
def yX9_fire : MethodName := ⟨RX9, "fire", "(III)I"⟩
abbrev cX9_forget : ByteArray := prog_11_method_38_code
def yX9_forget : MethodName := ⟨RX9, "forget", "(I)I"⟩
abbrev cX9_clear : ByteArray := prog_11_method_39_code
def yX9_clear : MethodName := ⟨RX9, "clear", "()I"⟩
abbrev cX9_takes : ByteArray := prog_11_method_40_code
def yX9_takes : MethodName := ⟨RX9, "takes", "(III)I"⟩
abbrev cX9_pulse : ByteArray := prog_11_method_41_code
def yX9_pulse : MethodName := ⟨RX9, "pulse", "(II)I"⟩
abbrev cX9_isShot : ByteArray := prog_11_method_42_code
def yX9_isShot : MethodName := ⟨RX9, "isShot", "(I)Z"⟩
abbrev cX9_shot : ByteArray := prog_11_method_43_code
def yX9_shot : MethodName := ⟨RX9, "shot", "(II)I"⟩
abbrev cX9_bestShot : ByteArray := prog_11_method_44_code
def yX9_bestShot : MethodName := ⟨RX9, "bestShot", "()I"⟩
abbrev cX9_widest : ByteArray := prog_11_method_45_code
def yX9_widest : MethodName := ⟨RX9, "widest", "()I"⟩
abbrev cX9_count : ByteArray := prog_11_method_46_code
def yX9_count : MethodName := ⟨RX9, "count", "(I)I"⟩
abbrev cX9_fits : ByteArray := prog_11_method_47_code
def yX9_fits : MethodName := ⟨RX9, "fits", "(III)I"⟩
abbrev cX9_mean : ByteArray := prog_11_method_48_code
def yX9_mean : MethodName := ⟨RX9, "mean", "(I)I"⟩
abbrev cX9_ifHeat : ByteArray := prog_11_method_49_code
def yX9_ifHeat : MethodName := ⟨RX9, "ifHeat", "(II)I"⟩
abbrev cX9_bestHeat : ByteArray := prog_11_method_50_code
def yX9_bestHeat : MethodName := ⟨RX9, "bestHeat", "()I"⟩
abbrev cX9_ifForgot : ByteArray := prog_11_method_51_code
def yX9_ifForgot : MethodName := ⟨RX9, "ifForgot", "(I)I"⟩
abbrev cX9_put : ByteArray := prog_11_method_52_code
def yX9_put : MethodName := ⟨RX9, "put", "(J)I"⟩
abbrev cX9_wipe : ByteArray := prog_11_method_53_code
def yX9_wipe : MethodName := ⟨RX9, "wipe", "()I"⟩
abbrev cX9_character : ByteArray := prog_11_method_54_code
def yX9_character : MethodName := ⟨RX9, "character", "(I)I"⟩
abbrev cX9_isNext : ByteArray := prog_11_method_55_code
def yX9_isNext : MethodName := ⟨RX9, "isNext", "(I)Z"⟩
abbrev cX9_takeDigit : ByteArray := prog_11_method_56_code
def yX9_takeDigit : MethodName := ⟨RX9, "takeDigit", "(I)I"⟩
abbrev cX9_takeNumber : ByteArray := prog_11_method_57_code
def yX9_takeNumber : MethodName := ⟨RX9, "takeNumber", "()I"⟩
abbrev cX9_readsPulse : ByteArray := prog_11_method_58_code
def yX9_readsPulse : MethodName := ⟨RX9, "readsPulse", "()Z"⟩
abbrev cX9_findFault : ByteArray := prog_11_method_59_code
def yX9_findFault : MethodName := ⟨RX9, "findFault", "()I"⟩
abbrev cX9_fault : ByteArray := prog_11_method_60_code
def yX9_fault : MethodName := ⟨RX9, "fault", "()I"⟩
abbrev cX9_hearAll : ByteArray := prog_11_method_61_code
def yX9_hearAll : MethodName := ⟨RX9, "hearAll", "()I"⟩
abbrev cX9_undo : ByteArray := prog_11_method_62_code
def yX9_undo : MethodName := ⟨RX9, "undo", "()I"⟩
abbrev cX9_save : ByteArray := prog_11_method_63_code
def yX9_save : MethodName := ⟨RX9, "save", "(I)I"⟩
abbrev cX9_restore : ByteArray := prog_11_method_64_code
def yX9_restore : MethodName := ⟨RX9, "restore", "(I)I"⟩
def RJ9 : String := "java/lang/Math"
abbrev cJ9_floorDiv_7cf53 : ByteArray := prog_12_method_47_code
def yJ9_floorDiv_7cf53 : MethodName := ⟨RJ9, "floorDiv", "(II)I"⟩
abbrev cJ9_abs_0f7a4 : ByteArray := prog_12_method_59_code
def yJ9_abs_0f7a4 : MethodName := ⟨RJ9, "abs", "(I)I"⟩
abbrev cJ9_max_7cf53 : ByteArray := prog_12_method_65_code
def yJ9_max_7cf53 : MethodName := ⟨RJ9, "max", "(II)I"⟩
abbrev cJ9_min_7cf53 : ByteArray := prog_12_method_69_code
def yJ9_min_7cf53 : MethodName := ⟨RJ9, "min", "(II)I"⟩
def RJ10 : String := "java/lang/System"
def RL : String := "CrackTargetLaw"
abbrev cL_law : ByteArray := code
def yL_law : MethodName := ⟨RL, "law", "([I)Z"⟩
abbrev vwCl : List vw_C := [(RX0, TX0, 4), (RX1, TX1, 4), (RX2, TX2, 3), (RX3, TX3, 3), (RX4, TX4, 3), (RX5, TX5, 6), (RX6, TX6, 6), (RX7, TX7, 3), (RX8, TX8, 10), (RX9, TX9, 27)]
end
section
section JMK
/-! ===== the walker: an abstract machine over a world of cells by index; each row is proved once over the kit ===== -/
/-- a method: name, code, locals, answer's type, room -/
abbrev jm_M : Type := MethodName × ByteArray × Nat × Option FieldType × Room
/-- a cell's shape: an object (its class by number; its fields: none = a number, some r = a reference), or an array (its kind, its length; none = numbers) -/
abbrev jm_Sh : Type := (Nat × List (Option (Option Nat))) ⊕ (Nat × Nat × Option (Nat → Option Nat))
/-- a world: shapes, addresses, numbers by cell and place -/
abbrev jm_W : Type := List jm_Sh × (Nat → Nat) × (Nat → Nat → Int32)
/-- what stays over the whole run: launch, places of the classes, array classes by kind, the arrays that are only read -/
abbrev jm_G : Type := Launch × va_G × (Nat → ClassId) × (Nat → Nat) × (Nat → Nat) × (Nat → Nat → Int32)
abbrev jm_K : Type := Program × Env × State × MethodId × Array Value × List Frame × Method × Code × (Nat → Prop) × (State → Prop)
def jm_TB : List Cond := lw_tbl.filter goodWord
def jm_isN : Cond → Bool
  | .methodLinkNest .. => true
  | _ => false
def jm_NB : List Cond := lw_tbl.filter jm_isN
theorem jm_tb {w : Cond} (i : Nat) (h : lw_tbl[i]? = some w) (hg : goodWord w = true) : w ∈ jm_TB := List.mem_filter.mpr ⟨List.mem_of_getElem? h, hg⟩
theorem jm_nb {w : Cond} (i : Nat) (h : lw_tbl[i]? = some w) (hg : jm_isN w = true) : w ∈ jm_NB := List.mem_filter.mpr ⟨List.mem_of_getElem? h, hg⟩
def jm_ws (M : jm_M) : List Cond := .code M.1 M.2.1 M.2.2.1 M.2.2.2.1 :: jm_TB
theorem jm_good : GoodIn jm_TB jm_TB := fun _ h => ⟨h, good_of_word (List.mem_filter.mp h).2⟩
theorem jm_gws {M : jm_M} (h : Cond.code M.1 M.2.1 M.2.2.1 M.2.2.2.1 ∈ jm_TB) : GoodIn jm_TB (jm_ws M) := by
  intro w hw
  rcases List.mem_cons.mp hw with rfl | hw
  · exact jm_good _ h
  · exact jm_good _ hw
def jm_tr (ro ad : Nat → Nat) : Value → Value
  | .ref k => .ref (ad k)
  | .retAddr i => .ref (ro i)
  | .int x => .int x
  | .long x => .long x
  | .float x => .float x
  | .double x => .double x
  | .null => .null
theorem jm_trc (ro ad : Nat → Nat) (v : Value) (h : ∀ i, v ≠ .retAddr i) : (jm_tr ro ad v).category = v.category := by
  cases v <;> first | rfl | exact absurd rfl (h _)
def jm_fv (ad : Nat → Nat) (f : Nat → Int32) (j : Nat) : Option (Option Nat) → Value
  | none => .int (f j)
  | some none => .null
  | some (some r) => .ref (ad r)
def jm_fs (ad : Nat → Nat) (fs : List (Option (Option Nat))) (f : Nat → Int32) : List Value := fs.mapIdx (fun j x => jm_fv ad f j x)
def jm_ent (cA : Nat → ClassId) (ad : Nat → Nat) (sh : jm_Sh) (f : Nat → Int32) : va_E := match sh with
  | .inl o => .inr (o.1, jm_fs ad o.2 f)
  | .inr (kd, n, none) => .inl (cA kd, n, .inl f)
  | .inr (kd, n, some r) => .inl (cA kd, n, .inr (.inr (.inr (.inr (fun j => (r j).map ad)))))
def jm_conc (g : jm_G) (w : jm_W) : va_W := w.1.mapIdx (fun k sh => (w.2.1 k, jm_ent g.2.2.1 w.2.1 sh (w.2.2 k)))
theorem jm_conc_at (g : jm_G) (w : jm_W) {k : Nat} {sh : jm_Sh} (h : w.1[k]? = some sh) : (jm_conc g w)[k]? = some (w.2.1 k, jm_ent g.2.2.1 w.2.1 sh (w.2.2 k)) := by
  simp [jm_conc, List.getElem?_mapIdx, h]
/-- a cell's numbers anew -/
def jm_up (μ : Nat → Nat → Int32) (k : Nat) (f : Nat → Int32) : Nat → Nat → Int32 := fun c => if c = k then f else μ c
/-- one number anew -/
def jm_st (μ : Nat → Nat → Int32) (k j : Nat) (x : Int32) : Nat → Nat → Int32 := jm_up μ k (upd (μ k) j x)
theorem jm_up_s (μ : Nat → Nat → Int32) (k : Nat) (f : Nat → Int32) : jm_up μ k f k = f := by simp [jm_up]
theorem jm_up_n (μ : Nat → Nat → Int32) {k c : Nat} (f : Nat → Int32) (h : c ≠ k) : jm_up μ k f c = μ c := by simp [jm_up, h]
theorem jm_st_s (μ : Nat → Nat → Int32) (k j : Nat) (x : Int32) : jm_st μ k j x k j = x := by simp [jm_st, jm_up, upd]
theorem jm_st_e (μ : Nat → Nat → Int32) (k j : Nat) (x : Int32) (c i : Nat) : jm_st μ k j x c i = if c = k ∧ i = j then x else μ c i := by
  by_cases h : c = k
  · subst h
    by_cases h2 : i = j <;> simp [jm_st, jm_up, upd, h2]
  · simp [jm_st, jm_up, h]
theorem jm_st_nc (μ : Nat → Nat → Int32) {k c : Nat} (j : Nat) (x : Int32) (h : c ≠ k) : jm_st μ k j x c = μ c := by simp [jm_st, jm_up, h]
theorem jm_st_ni (μ : Nat → Nat → Int32) (k : Nat) {j i : Nat} (x : Int32) (h : i ≠ j) : jm_st μ k j x k i = μ k i := by simp [jm_st, jm_up, upd, h]
theorem jm_conc_set (g : jm_G) (Γ : List jm_Sh) (ad : Nat → Nat) (μ : Nat → Nat → Int32) {k : Nat} {sh : jm_Sh} (f : Nat → Int32) (h : Γ[k]? = some sh) : (jm_conc g (Γ, ad, μ)).set k (ad k, jm_ent g.2.2.1 ad sh f) = jm_conc g (Γ, ad, jm_up μ k f) := by
  have hl : k < Γ.length := (List.getElem?_eq_some_iff.mp h).1
  apply List.ext_getElem?
  intro i
  rw [List.getElem?_set]
  by_cases hi : k = i
  · subst hi
    simp [jm_conc, List.getElem?_mapIdx, jm_up, hl, (List.getElem?_eq_some_iff.mp h).2]
  · have hi2 : ¬ i = k := fun q => hi q.symm
    simp [jm_conc, List.getElem?_mapIdx, hi, jm_up, hi2]
theorem jm_conc_shape (g : jm_G) (Γ : List jm_Sh) (ad : Nat → Nat) (μ : Nat → Nat → Int32) {k : Nat} (sh : jm_Sh) (h : k < Γ.length) : (jm_conc g (Γ, ad, μ)).set k (ad k, jm_ent g.2.2.1 ad sh (μ k)) = jm_conc g (Γ.set k sh, ad, μ) := by
  apply List.ext_getElem?
  intro i
  rw [List.getElem?_set]
  by_cases hi : k = i
  · subst hi
    simp [jm_conc, List.getElem?_mapIdx, h, List.getElem?_set]
  · simp [jm_conc, List.getElem?_mapIdx, hi, List.getElem?_set]
/-- the locals as the kit lists them -/
def jm_ls (ro ad : Nat → Nat) (ls : List (Option Value)) : List (Nat × Value) := ls.zipIdx.filterMap (fun q => q.1.map (fun v => (q.2, jm_tr ro ad v)))
theorem jm_ls_in {ro ad : Nat → Nat} {ls : List (Option Value)} {q : Nat × Value} : q ∈ jm_ls ro ad ls ↔ ∃ v, ls[q.1]? = some (some v) ∧ q.2 = jm_tr ro ad v := by
  constructor
  · intro h
    obtain ⟨⟨o, i⟩, h1, h2⟩ := List.mem_filterMap.mp h
    rw [List.mem_zipIdx_iff_getElem?] at h1
    cases o with
    | none => simp at h2
    | some v =>
      simp at h2
      subst h2
      exact ⟨v, h1, rfl⟩
  · rintro ⟨v, h1, h2⟩
    refine List.mem_filterMap.mpr ⟨(some v, q.1), ?_, ?_⟩
    · rw [List.mem_zipIdx_iff_getElem?]
      exact h1
    · simp only [Option.map_some]
      rw [← h2]
theorem jm_has {la : Array Slot} {n : Nat} {l l' : List (Nat × Value)} (h : lv_has la n l) (hs : ∀ q ∈ l', q ∈ l) : lv_has la n l' := ⟨h.1, h.2.1, fun q hq => h.2.2 q (hs q hq)⟩
/-- no long ends just before place i -/
def jm_nl (ls : List (Option Value)) (i : Nat) : Bool := match i with
  | 0 => true
  | j + 1 => match ls[j]? with
    | some (some (.long _)) => false
    | some (some (.double _)) => false
    | some (some (.retAddr _)) => false
    | _ => true
theorem jm_ls_set {ro ad : Nat → Nat} {ls : List (Option Value)} {i : Nat} (v : Value) (h : jm_nl ls i = true) : ∀ q ∈ jm_ls ro ad (ls.set i (some v)), q ∈ (i, jm_tr ro ad v) :: (jm_ls ro ad ls).filter (fun q => !(q.1 == i) && !(q.1 + 1 == i && q.2.category == 2)) := by
  intro q hq
  obtain ⟨u, h1, h2⟩ := jm_ls_in.mp hq
  by_cases hi : i = q.1
  · subst hi
    rw [List.getElem?_set_self'] at h1
    have : u = v := by
      cases hz : ls[q.1]? with
      | none => simp [hz] at h1
      | some z => simp [hz] at h1; exact h1.symm
    subst this
    refine List.mem_cons.mpr (Or.inl ?_)
    rw [← h2]
  · rw [List.getElem?_set_ne hi] at h1
    refine List.mem_cons.mpr (Or.inr (List.mem_filter.mpr ⟨jm_ls_in.mpr ⟨u, h1, h2⟩, ?_⟩))
    have hi2 : (q.1 == i) = false := by simp; exact fun e => hi e.symm
    rw [hi2]
    by_cases hj : q.1 + 1 = i
    · subst hj
      simp only [jm_nl, h1] at h
      rw [h2]
      cases u <;> simp_all [jm_tr, Value.category]
    · have hj2 : (q.1 + 1 == i) = false := by simp; exact hj
      rw [hj2]; rfl
theorem jm_ls_set2 {ro ad : Nat → Nat} {ls : List (Option Value)} {i : Nat} (v : Int64) (h : jm_nl ls i = true) : ∀ q ∈ jm_ls ro ad ((ls.set i (some (.long v))).set (i + 1) none), q ∈ (i, Value.long v) :: (jm_ls ro ad ls).filter (fun q => !(q.1 == i) && (!(q.1 == i + 1) && !(q.1 + 1 == i && q.2.category == 2))) := by
  intro q hq
  obtain ⟨u, h1, h2⟩ := jm_ls_in.mp hq
  by_cases hk : i + 1 = q.1
  · exfalso
    rw [← hk, List.getElem?_set_self'] at h1
    cases hz : (ls.set i (some (.long v)))[i + 1]? with
    | none => simp [hz] at h1
    | some z => simp [hz] at h1
  · rw [List.getElem?_set_ne hk] at h1
    by_cases hi : i = q.1
    · subst hi
      rw [List.getElem?_set_self'] at h1
      have : u = .long v := by
        cases hz : ls[q.1]? with
        | none => simp [hz] at h1
        | some z => simp [hz] at h1; exact h1.symm
      subst this
      refine List.mem_cons.mpr (Or.inl ?_)
      show q = (q.1, jm_tr ro ad (.long v))
      rw [← h2]
    · rw [List.getElem?_set_ne hi] at h1
      refine List.mem_cons.mpr (Or.inr (List.mem_filter.mpr ⟨jm_ls_in.mpr ⟨u, h1, h2⟩, ?_⟩))
      have hi2 : (q.1 == i) = false := by simp; exact fun e => hi e.symm
      have hk2 : (q.1 == i + 1) = false := by simp; exact fun e => hk e.symm
      rw [hi2, hk2]
      by_cases hj : q.1 + 1 = i
      · subst hj
        simp only [jm_nl, h1] at h
        rw [h2]
        cases u <;> simp_all [jm_tr, Value.category]
      · have hj2 : (q.1 + 1 == i) = false := by simp; exact hj
        rw [hj2]; rfl
def jm_tys (g : jm_G) : List (ClassId × FieldType) := [(g.2.2.1 0, .int), (g.2.2.1 1, .char), (g.2.2.1 2, .boolean), (g.2.2.1 3, .object RX3), (g.2.2.1 4, .object RX6)]
/-- what the tables say, in any state of the run -/
def jm_Sa (g : jm_G) (U : State) : Prop := va_K g.2.1 vwCl (jm_tys g) U ∧ (∀ w ∈ jm_NB, va_Nw w U) ∧ va_AO RX3 U ∧ va_AO RX6 U
/-- the arrays that are only read -/
def jm_Ro (g : jm_G) (A : Nat → Prop) (U : State) (H : Heap) : Prop := (∀ i : Nat, i < 3 → va_T .int (g.2.2.2.1 i) (g.2.2.2.2.1 i) (fun j => .int (g.2.2.2.2.2 i j)) A U H) ∧ va_Z RX8 "LOWEST" "[I" (.ref (g.2.2.2.1 0)) A U H ∧ va_Z RX8 "HIGHEST" "[I" (.ref (g.2.2.2.1 1)) A U H
theorem jm_Ro.moved {g : jm_G} {A : Nat → Prop} {u U : State} {H : Heap} (hvm : u.vm.Alike U.vm) (h : jm_Ro g A u H) : jm_Ro g A U H := ⟨fun i hi => (h.1 i hi).moved hvm, h.2.1.moved hvm, h.2.2.moved hvm⟩
theorem jm_Ro.kept {g : jm_G} {A : Nat → Prop} {U : State} {H H1 : Heap} (h : jm_Ro g A U H) (hq : ∀ a : Nat, a < H.size → ¬ A a → H1[a]? = H[a]?) : jm_Ro g A U H1 := ⟨fun i hi => (h.1 i hi).kept hq, h.2.1.kept hq, h.2.2.kept hq⟩
theorem jm_Ro.narrow {g : jm_G} {A B : Nat → Prop} {U : State} {H : Heap} (h : jm_Ro g A U H) (hAB : ∀ q, B q → A q) : jm_Ro g B U H := ⟨fun i hi => (h.1 i hi).narrow hAB, h.2.1.narrow hAB, h.2.2.narrow hAB⟩
theorem jm_Sa.same {g : jm_G} {u U : State} (hvm : u.vm = U.vm) (h : jm_Sa g u) : jm_Sa g U := by
  have ha : u.vm.Alike U.vm := by rw [hvm]; exact Vm.Alike.refl U.vm
  refine ⟨va_K.moved ha h.1, fun w hw => ?_, h.2.2.1.moved ha, h.2.2.2.moved ha⟩
  have h1 := h.2.1 w hw
  have h2 := (List.mem_filter.mp hw).2
  cases w <;> simp [jm_isN] at h2
  exact va_Nw.same rfl hvm h1
theorem jm_Sa.warm {g : jm_G} {s U : State} (hW : s.WarmedH U.vm) (h : jm_Sa g s) : jm_Sa g U := by
  refine ⟨va_K.moved hW.alike h.1, fun w hw => ?_, h.2.2.1.moved hW.alike, h.2.2.2.moved hW.alike⟩
  have h1 := h.2.1 w hw
  have h2 := (List.mem_filter.mp hw).2
  cases w <;> simp [jm_isN] at h2
  exact va_Nw.warmM hW h1
/-- what holds of a method while it runs -/
def jm_C (g : jm_G) (M : jm_M) (p : Program) (s : State) (m : MethodId) (args : Array Value) (meth : Method) (c : Code) (A : Nat → Prop) : Prop :=
  p.tables.exec = Jvm.exec ∧ c.code = M.2.1 ∧ c.maxLocals = M.2.2.1 ∧ meth.sig.returnType = M.2.2.2.1 ∧ s.vm.findClass M.1.cls = some m.cls ∧ (∀ w ∈ jm_TB, w.before args s = true) ∧ meth.locks = false ∧ meth.name = M.1.name ∧ jm_Sa g s ∧ jm_Ro g A s s.heap ∧ (∀ q, s.heap.size ≤ q → A q)
/-- THE JUDGEMENT: from this place, with these locals, this stack and this world, the method comes to its end -/
def jm_R (g : jm_G) (M : jm_M) (κ : jm_K) (k n pc : Nat) (ls : List (Option Value)) (st : List Value) (w : jm_W) : Prop :=
  match κ with
  | (p, e, s, m, args, below, meth, c, A, Q) => jm_C g M p s m args meth c A → ∀ (H : Heap) (locs : List Loc) (la : Array Slot), va_P g.2.1 vwCl (jm_conc g w) H → va_D A (jm_conc g w) → va_S A s.heap H locs → lv_has la M.2.2.1 (jm_ls g.2.2.2.1 w.2.1 ls) → W p g.1 e M.2.2.2.2 s m args below meth c H locs k n Q (F0 m pc la (st.map (jm_tr g.2.2.2.1 w.2.1)))
def jm_Qc (g : jm_G) (P : Option Value → jm_W → Prop) (A : Nat → Prop) : Array Value → State → Outcome → State → Prop := fun _ st oc t =>
  (∃ (v : Option Value) (w : jm_W), oc = .returned (v.map (jm_tr g.2.2.2.1 w.2.1)) ∧ P v w ∧ va_P g.2.1 vwCl (jm_conc g w) t.heap ∧ va_D A (jm_conc g w)) ∧ va_F A st t
def jm_E (g : jm_G) (M : jm_M) (P : Option Value → jm_W → Prop) (κ : jm_K) : Prop :=
  match κ with
  | (_, _, s, _, args, below, _, _, A, Q) => Q = MQ below (jm_Qc g P A) args s M.2.2.2.2.cells M.2.2.2.2.slots A
def jm_Pre (g : jm_G) (w : jm_W) (A : Nat → Prop) (U : State) : Prop := va_P g.2.1 vwCl (jm_conc g w) U.heap ∧ va_D (fun _ => True) (jm_conc g w) ∧ jm_Sa g U ∧ jm_Ro g A U U.heap
/-- A CONTRACT: called with these arguments in this world, the method returns, and P holds of its answer and the world behind it -/
def jm_Cp (g : jm_G) (M : jm_M) (av : List Value) (w : jm_W) (P : Option Value → jm_W → Prop) : Prop :=
  ∀ sz : Nat, Met g.1 M.1 (jm_ws M) M.2.2.2.2 (va_Pc (av.map (jm_tr g.2.2.2.1 w.2.1)) (fun U => U.heap.size = sz ∧ jm_Pre g w (va_A (jm_conc g w) sz) U)) (jm_Qc g P (va_A (jm_conc g w) sz)) M.2.2.2.2.cells M.2.2.2.2.slots (va_A (jm_conc g w) sz)
def jm_l0 : List Value → List (Option Value)
  | [] => []
  | .long x :: vs => some (.long x) :: none :: jm_l0 vs
  | .int x :: vs => some (.int x) :: jm_l0 vs
  | .ref x :: vs => some (.ref x) :: jm_l0 vs
  | .null :: vs => some .null :: jm_l0 vs
  | _ :: _ => []
theorem jm_l0_in (ro ad : Nat → Nat) : ∀ (av : List Value) (i j : Nat) (v : Value), (jm_l0 av)[j]? = some (some v) → (i + j, jm_tr ro ad v) ∈ lv_args i (av.map (jm_tr ro ad)) := by
  intro av
  induction av with
  | nil => intro i j v h; simp [jm_l0] at h
  | cons a vs ih =>
    intro i j v h
    have one : jm_l0 (a :: vs) = some a :: jm_l0 vs → (jm_tr ro ad a).category = 1 → (i + j, jm_tr ro ad v) ∈ lv_args i ((a :: vs).map (jm_tr ro ad)) := by
      intro e hc
      rw [e] at h
      cases j with
      | zero =>
        simp at h
        subst h
        exact List.mem_cons_self
      | succ j =>
        simp only [List.getElem?_cons_succ] at h
        have h2 := ih (i + 1) j v h
        refine List.mem_cons_of_mem _ ?_
        show _ ∈ lv_args (if (jm_tr ro ad a).category = 2 then i + 2 else i + 1) _
        rw [if_neg (by omega), show i + (j + 1) = i + 1 + j by omega]
        exact h2
    cases a with
    | int x => exact one rfl rfl
    | ref x => exact one rfl rfl
    | null => exact one rfl rfl
    | long x =>
      cases j with
      | zero =>
        simp [jm_l0] at h
        subst h
        exact List.mem_cons_self
      | succ j =>
        cases j with
        | zero => simp [jm_l0] at h
        | succ j =>
          simp only [jm_l0, List.getElem?_cons_succ] at h
          have h2 := ih (i + 2) j v h
          refine List.mem_cons_of_mem _ ?_
          show _ ∈ lv_args (if (Value.long x).category = 2 then i + 2 else i + 1) _
          have e2 : (Value.long x).category = 2 := rfl
          rw [if_pos e2, show i + (j + 1 + 1) = i + 2 + j by omega]
          exact h2
    | float x => simp [jm_l0] at h
    | double x => simp [jm_l0] at h
    | retAddr x => simp [jm_l0] at h
def jm_ok0 : List Value → Nat → Bool
  | [], _ => true
  | .long _ :: vs, n => match n with
    | n + 2 => jm_ok0 vs n
    | _ => false
  | .int _ :: vs, n + 1 => jm_ok0 vs n
  | .ref _ :: vs, n + 1 => jm_ok0 vs n
  | .null :: vs, n + 1 => jm_ok0 vs n
  | _ :: _, _ => false
theorem jm_sl_len (ro ad : Nat → Nat) : ∀ (av : List Value) (n : Nat), jm_ok0 av n = true → (lg_sl (av.map (jm_tr ro ad))).length ≤ n := by
  intro av
  induction av with
  | nil => intro n _; simp [lg_sl]
  | cons a vs ih =>
    intro n h
    have e : ∀ v : Value, lg_sl ((v :: vs).map (jm_tr ro ad)) = lg_sl [jm_tr ro ad v] ++ lg_sl (vs.map (jm_tr ro ad)) := fun v => by simp [lg_sl]
    rw [e, List.length_append]
    cases a with
    | long x =>
      match n, h with
      | n + 2, h =>
        have h2 := ih n h
        have h3 : (lg_sl [jm_tr ro ad (.long x)]).length = 2 := rfl
        omega
    | int x =>
      match n, h with
      | n + 1, h =>
        have h2 := ih n h
        have h3 : (lg_sl [jm_tr ro ad (.int x)]).length = 1 := rfl
        omega
    | ref x =>
      match n, h with
      | n + 1, h =>
        have h2 := ih n h
        have h3 : (lg_sl [jm_tr ro ad (.ref x)]).length = 1 := rfl
        omega
    | null =>
      match n, h with
      | n + 1, h =>
        have h2 := ih n h
        have h3 : (lg_sl [jm_tr ro ad .null]).length = 1 := rfl
        omega
    | float x => cases n <;> simp [jm_ok0] at h
    | double x => cases n <;> simp [jm_ok0] at h
    | retAddr x => cases n <;> simp [jm_ok0] at h
theorem jm_intro {g : jm_G} {M : jm_M} {av : List Value} {w : jm_W} {P : Option Value → jm_W → Prop} (ls : List (Option Value)) (hy : plainName M.1.cls = true) (hav : jm_ok0 av M.2.2.1 = true) (hls : jm_l0 av ++ List.replicate (M.2.2.1 - (jm_l0 av).length) none = ls)
    (body : ∀ κ : jm_K, jm_E g M P κ → jm_R g M κ 0 0 0 ls [] w) : jm_Cp g M av w P := by
  intro sz
  refine Met.ofW (cc := M.2.1) (maxL := M.2.2.1) (ret := M.2.2.2.1) hy rfl ?_
  intro p e s m args below meth c s₁ B hml hv
  obtain ⟨hargs, hsz, hP, hD0, hSt, hRo⟩ := hv
  have hx := B.exec
  have hb := B.bytes
  have hr := B.returns
  have hts := atoms_spec (ws := jm_ws M) B.pre
  have hown : s.vm.findClass M.1.cls = some m.cls := findClass_of_methodNamed B.named
  have hin : meth.name = M.1.name := (name_of_methodNamed B.named B.method).1
  have hlocks := B.notSynchronized
  subst hsz
  have hD := hD0.self (sz := s.heap.size)
  have hA : ∀ q : Nat, s.heap.size ≤ q → va_A (jm_conc g w) s.heap.size q := fun q h => Or.inr h
  have hl := lv_entry (av.map (jm_tr g.2.2.2.1 w.2.1)) (n := M.2.2.1) (jm_sl_len _ _ av _ hav)
  subst hargs
  rw [lg_entry_eq]
  have hb2 := body (p, e, s, m, (av.map (jm_tr g.2.2.2.1 w.2.1)).toArray, below, meth, c, va_A (jm_conc g w) s.heap.size, MQ below (jm_Qc g P (va_A (jm_conc g w) s.heap.size)) (av.map (jm_tr g.2.2.2.1 w.2.1)).toArray s M.2.2.2.2.cells M.2.2.2.2.slots (va_A (jm_conc g w) s.heap.size)) rfl
  refine hb2 ⟨hx, hb, hml, hr, hown, fun w hw => hts w (List.mem_cons_of_mem _ hw), hlocks, hin, hSt, hRo, hA⟩ s.heap [] _ hP hD va_S.rf (jm_has hl ?_)
  intro q hq
  obtain ⟨v, h1, h2⟩ := jm_ls_in.mp hq
  rw [← hls] at h1
  by_cases hlen : q.1 < (jm_l0 av).length
  · rw [List.getElem?_append_left hlen] at h1
    have h3 := jm_l0_in g.2.2.2.1 w.2.1 av 0 q.1 v h1
    rw [Nat.zero_add, ← h2] at h3
    exact h3
  · rw [List.getElem?_append_right (by omega)] at h1
    have h4 := List.eq_of_mem_replicate (List.mem_of_getElem? h1)
    cases h4
end JMK
end
section
section JMR
variable {g : jm_G} {M : jm_M} {κ : jm_K} {k n pc : Nat} {ls : List (Option Value)} {st : List Value} {w : jm_W}
/-! rows that touch locals and stack alone -/
theorem jr_iconst {z : Int} (v : Int32) (hdg : decode M.2.1 pc = .ok (.iconst z, 1)) (hv : Int32.ofInt z = v) (kk : jm_R g M κ k n (pc + 1) ls (.int v :: st) w) : jm_R g M κ k n pc ls st w := by
  obtain ⟨p, e, s, m, args, below, meth, c, A, Q⟩ := κ
  intro C H locs la hP hD hS hl
  exact lv_iconst C.1 C.2.1 hdg hv (kk C H locs la hP hD hS hl)
theorem jr_bipush {z : Int} (v : Int32) (hdg : decode M.2.1 pc = .ok (.bipush z, 2)) (hv : (Int8.ofInt z).toInt32 = v) (kk : jm_R g M κ k n (pc + 2) ls (.int v :: st) w) : jm_R g M κ k n pc ls st w := by
  obtain ⟨p, e, s, m, args, below, meth, c, A, Q⟩ := κ
  intro C H locs la hP hD hS hl
  exact lv_bipush C.1 C.2.1 hdg hv (kk C H locs la hP hD hS hl)
theorem jr_sipush {z : Int} (v : Int32) (hdg : decode M.2.1 pc = .ok (.sipush z, 3)) (hv : (Int16.ofInt z).toInt32 = v) (kk : jm_R g M κ k n (pc + 3) ls (.int v :: st) w) : jm_R g M κ k n pc ls st w := by
  obtain ⟨p, e, s, m, args, below, meth, c, A, Q⟩ := κ
  intro C H locs la hP hD hS hl
  exact lv_sipush C.1 C.2.1 hdg hv (kk C H locs la hP hD hS hl)
theorem jr_ldc {index : Nat} (v : Int32) (hdg : decode M.2.1 pc = .ok (.ldc index, 2)) (hw : Cond.constant M.1.cls index v ∈ jm_TB) (kk : jm_R g M κ k n (pc + 2) ls (.int v :: st) w) : jm_R g M κ k n pc ls st w := by
  obtain ⟨p, e, s, m, args, below, meth, c, A, Q⟩ := κ
  intro C H locs la hP hD hS hl
  exact lv_ldc C.1 C.2.1 C.2.2.2.2.1 (C.2.2.2.2.2.1 _ hw) hdg (kk C H locs la hP hD hS hl)
theorem jr_ldc2 {index : Nat} (v : Int64) (hdg : decode M.2.1 pc = .ok (.ldc2_w index, 3)) (hw : Cond.constantLong M.1.cls index v ∈ jm_TB) (kk : jm_R g M κ k n (pc + 3) ls (.long v :: st) w) : jm_R g M κ k n pc ls st w := by
  obtain ⟨p, e, s, m, args, below, meth, c, A, Q⟩ := κ
  intro C H locs la hP hD hS hl
  exact lv_ldc2 C.1 C.2.1 C.2.2.2.2.1 (C.2.2.2.2.2.1 _ hw) hdg (kk C H locs la hP hD hS hl)
theorem jr_lconst {z : Fin 2} (v : Int64) (hdg : decode M.2.1 pc = .ok (.lconst z, 1)) (hv : Int64.ofNat (z : Nat) = v) (kk : jm_R g M κ k n (pc + 1) ls (.long v :: st) w) : jm_R g M κ k n pc ls st w := by
  obtain ⟨p, e, s, m, args, below, meth, c, A, Q⟩ := κ
  intro C H locs la hP hD hS hl
  exact lv_lconst C.1 C.2.1 hdg hv (kk C H locs la hP hD hS hl)
theorem jm_at {ro ad : Nat → Nat} {la : Array Slot} {nL i : Nat} {v : Value} (hl : lv_has la nL (jm_ls ro ad ls)) (h : ls[i]? = some (some v)) : la[i]? = some (.val (jm_tr ro ad v)) := hl.2.2 (i, jm_tr ro ad v) (jm_ls_in.mpr ⟨v, h, rfl⟩)
theorem jr_iload {i : Nat} {x : Int32} (hdg : decode M.2.1 pc = .ok (.iload i, 2)) (h : ls[i]? = some (some (.int x))) (kk : jm_R g M κ k n (pc + 2) ls (.int x :: st) w) : jm_R g M κ k n pc ls st w := by
  obtain ⟨p, e, s, m, args, below, meth, c, A, Q⟩ := κ
  intro C H locs la hP hD hS hl
  exact lv_iload C.1 C.2.1 hdg (jm_at hl h) (kk C H locs la hP hD hS hl)
theorem jr_iload_n {i : Fin 4} {x : Int32} (hdg : decode M.2.1 pc = .ok (.iload_n i, 1)) (h : ls[(i : Nat)]? = some (some (.int x))) (kk : jm_R g M κ k n (pc + 1) ls (.int x :: st) w) : jm_R g M κ k n pc ls st w := by
  obtain ⟨p, e, s, m, args, below, meth, c, A, Q⟩ := κ
  intro C H locs la hP hD hS hl
  exact lv_iload_n C.1 C.2.1 hdg rfl (jm_at hl h) (kk C H locs la hP hD hS hl)
theorem jr_lload {i : Nat} {x : Int64} (hdg : decode M.2.1 pc = .ok (.lload i, 2)) (h : ls[i]? = some (some (.long x))) (kk : jm_R g M κ k n (pc + 2) ls (.long x :: st) w) : jm_R g M κ k n pc ls st w := by
  obtain ⟨p, e, s, m, args, below, meth, c, A, Q⟩ := κ
  intro C H locs la hP hD hS hl
  exact lv_lload C.1 C.2.1 hdg (jm_at hl h) (kk C H locs la hP hD hS hl)
theorem jr_lload_n {i : Fin 4} {x : Int64} (hdg : decode M.2.1 pc = .ok (.lload_n i, 1)) (h : ls[(i : Nat)]? = some (some (.long x))) (kk : jm_R g M κ k n (pc + 1) ls (.long x :: st) w) : jm_R g M κ k n pc ls st w := by
  obtain ⟨p, e, s, m, args, below, meth, c, A, Q⟩ := κ
  intro C H locs la hP hD hS hl
  exact lv_lload_n C.1 C.2.1 hdg rfl (jm_at hl h) (kk C H locs la hP hD hS hl)
theorem jr_aload {i : Nat} {x : Nat} (hdg : decode M.2.1 pc = .ok (.aload i, 2)) (h : ls[i]? = some (some (.ref x))) (kk : jm_R g M κ k n (pc + 2) ls (.ref x :: st) w) : jm_R g M κ k n pc ls st w := by
  obtain ⟨p, e, s, m, args, below, meth, c, A, Q⟩ := κ
  intro C H locs la hP hD hS hl
  exact lv_aload C.1 C.2.1 hdg (jm_at hl h) (kk C H locs la hP hD hS hl)
theorem jr_aload_n {i : Fin 4} {x : Nat} (hdg : decode M.2.1 pc = .ok (.aload_n i, 1)) (h : ls[(i : Nat)]? = some (some (.ref x))) (kk : jm_R g M κ k n (pc + 1) ls (.ref x :: st) w) : jm_R g M κ k n pc ls st w := by
  obtain ⟨p, e, s, m, args, below, meth, c, A, Q⟩ := κ
  intro C H locs la hP hD hS hl
  exact lv_aload_n C.1 C.2.1 hdg rfl (jm_at hl h) (kk C H locs la hP hD hS hl)
/-- the law's script: an array that is only read -/
theorem jr_aload_r {i : Fin 4} {x : Nat} (hdg : decode M.2.1 pc = .ok (.aload_n i, 1)) (h : ls[(i : Nat)]? = some (some (.retAddr x))) (kk : jm_R g M κ k n (pc + 1) ls (.retAddr x :: st) w) : jm_R g M κ k n pc ls st w := by
  obtain ⟨p, e, s, m, args, below, meth, c, A, Q⟩ := κ
  intro C H locs la hP hD hS hl
  exact lv_aload_n C.1 C.2.1 hdg rfl (jm_at hl h) (kk C H locs la hP hD hS hl)
theorem jr_istore {i : Nat} {x : Int32} (ls' : List (Option Value)) (hdg : decode M.2.1 pc = .ok (.istore i, 2)) (hi : decide (i < M.2.2.1) = true) (hn : jm_nl ls i = true) (h : ls.set i (some (.int x)) = ls') (kk : jm_R g M κ k n (pc + 2) ls' st w) : jm_R g M κ k n pc ls (.int x :: st) w := by
  obtain ⟨p, e, s, m, args, below, meth, c, A, Q⟩ := κ
  intro C H locs la hP hD hS hl
  subst h
  exact lv_istore C.1 C.2.1 hdg hl (of_decide_eq_true hi) rfl (fun la' hl' => kk C H locs la' hP hD hS (jm_has hl' (jm_ls_set (.int x) hn)))
theorem jr_istore_n {i : Fin 4} {x : Int32} (ls' : List (Option Value)) (hdg : decode M.2.1 pc = .ok (.istore_n i, 1)) (hi : decide ((i : Nat) < M.2.2.1) = true) (hn : jm_nl ls i = true) (h : ls.set i (some (.int x)) = ls') (kk : jm_R g M κ k n (pc + 1) ls' st w) : jm_R g M κ k n pc ls (.int x :: st) w := by
  obtain ⟨p, e, s, m, args, below, meth, c, A, Q⟩ := κ
  intro C H locs la hP hD hS hl
  subst h
  exact lv_istore_n C.1 C.2.1 hdg rfl hl (of_decide_eq_true hi) rfl (fun la' hl' => kk C H locs la' hP hD hS (jm_has hl' (jm_ls_set (.int x) hn)))
theorem jr_astore {i : Nat} {x : Nat} (ls' : List (Option Value)) (hdg : decode M.2.1 pc = .ok (.astore i, 2)) (hi : decide (i < M.2.2.1) = true) (hn : jm_nl ls i = true) (h : ls.set i (some (.ref x)) = ls') (kk : jm_R g M κ k n (pc + 2) ls' st w) : jm_R g M κ k n pc ls (.ref x :: st) w := by
  obtain ⟨p, e, s, m, args, below, meth, c, A, Q⟩ := κ
  intro C H locs la hP hD hS hl
  subst h
  exact lv_astore C.1 C.2.1 hdg hl (of_decide_eq_true hi) rfl (fun la' hl' => kk C H locs la' hP hD hS (jm_has hl' (jm_ls_set (.ref x) hn)))
theorem jr_astore_n {i : Fin 4} {x : Nat} (ls' : List (Option Value)) (hdg : decode M.2.1 pc = .ok (.astore_n i, 1)) (hi : decide ((i : Nat) < M.2.2.1) = true) (hn : jm_nl ls i = true) (h : ls.set i (some (.ref x)) = ls') (kk : jm_R g M κ k n (pc + 1) ls' st w) : jm_R g M κ k n pc ls (.ref x :: st) w := by
  obtain ⟨p, e, s, m, args, below, meth, c, A, Q⟩ := κ
  intro C H locs la hP hD hS hl
  subst h
  exact lv_astore_n C.1 C.2.1 hdg rfl hl (of_decide_eq_true hi) rfl (fun la' hl' => kk C H locs la' hP hD hS (jm_has hl' (jm_ls_set (.ref x) hn)))
theorem jr_lstore {i : Nat} {x : Int64} (ls' : List (Option Value)) (hdg : decode M.2.1 pc = .ok (.lstore i, 2)) (hi : decide (i + 1 < M.2.2.1) = true) (hn : jm_nl ls i = true) (h : (ls.set i (some (.long x))).set (i + 1) none = ls') (kk : jm_R g M κ k n (pc + 2) ls' st w) : jm_R g M κ k n pc ls (.long x :: st) w := by
  obtain ⟨p, e, s, m, args, below, meth, c, A, Q⟩ := κ
  intro C H locs la hP hD hS hl
  subst h
  exact lv_lstore C.1 C.2.1 hdg hl (of_decide_eq_true hi) rfl (fun la' hl' => kk C H locs la' hP hD hS (jm_has hl' (jm_ls_set2 x hn)))
theorem jr_iinc {i : Nat} {z : Int} {x v : Int32} (ls' : List (Option Value)) (hdg : decode M.2.1 pc = .ok (.iinc i z, 3)) (hg : ls[i]? = some (some (.int x))) (hv : x + Int32.ofInt z = v) (hi : decide (i < M.2.2.1) = true) (hn : jm_nl ls i = true) (h : ls.set i (some (.int v)) = ls') (kk : jm_R g M κ k n (pc + 3) ls' st w) : jm_R g M κ k n pc ls st w := by
  obtain ⟨p, e, s, m, args, below, meth, c, A, Q⟩ := κ
  intro C H locs la hP hD hS hl
  subst h
  obtain ⟨q, hq⟩ := List.mem_iff_getElem?.mp (jm_ls_in.mpr ⟨.int x, hg, rfl⟩ : (i, jm_tr g.2.2.2.1 w.2.1 (.int x)) ∈ jm_ls g.2.2.2.1 w.2.1 ls)
  exact lv_iinc C.1 C.2.1 hdg hl hq hv (of_decide_eq_true hi) rfl (fun la' hl' => kk C H locs la' hP hD hS (jm_has hl' (jm_ls_set (.int v) hn)))
theorem jr_iadd {x y : Int32} (hdg : decode M.2.1 pc = .ok (.iadd, 1)) (kk : jm_R g M κ k n (pc + 1) ls (.int (x + y) :: st) w) : jm_R g M κ k n pc ls (.int y :: .int x :: st) w := by
  obtain ⟨p, e, s, m, args, below, meth, c, A, Q⟩ := κ
  intro C H locs la hP hD hS hl
  exact lv_iadd C.1 C.2.1 hdg (kk C H locs la hP hD hS hl)
theorem jr_isub {x y : Int32} (hdg : decode M.2.1 pc = .ok (.isub, 1)) (kk : jm_R g M κ k n (pc + 1) ls (.int (x - y) :: st) w) : jm_R g M κ k n pc ls (.int y :: .int x :: st) w := by
  obtain ⟨p, e, s, m, args, below, meth, c, A, Q⟩ := κ
  intro C H locs la hP hD hS hl
  exact lv_isub C.1 C.2.1 hdg (kk C H locs la hP hD hS hl)
theorem jr_imul {x y : Int32} (hdg : decode M.2.1 pc = .ok (.imul, 1)) (kk : jm_R g M κ k n (pc + 1) ls (.int (x * y) :: st) w) : jm_R g M κ k n pc ls (.int y :: .int x :: st) w := by
  obtain ⟨p, e, s, m, args, below, meth, c, A, Q⟩ := κ
  intro C H locs la hP hD hS hl
  exact lv_imul C.1 C.2.1 hdg (kk C H locs la hP hD hS hl)
theorem jr_idiv {x y : Int32} (hdg : decode M.2.1 pc = .ok (.idiv, 1)) (hne : y ≠ 0) (kk : jm_R g M κ k n (pc + 1) ls (.int (x / y) :: st) w) : jm_R g M κ k n pc ls (.int y :: .int x :: st) w := by
  obtain ⟨p, e, s, m, args, below, meth, c, A, Q⟩ := κ
  intro C H locs la hP hD hS hl
  exact lv_idiv C.1 C.2.1 hdg hne (kk C H locs la hP hD hS hl)
theorem jr_iand {x y : Int32} (hdg : decode M.2.1 pc = .ok (.iand, 1)) (kk : jm_R g M κ k n (pc + 1) ls (.int (x &&& y) :: st) w) : jm_R g M κ k n pc ls (.int y :: .int x :: st) w := by
  obtain ⟨p, e, s, m, args, below, meth, c, A, Q⟩ := κ
  intro C H locs la hP hD hS hl
  exact lv_iand C.1 C.2.1 hdg (kk C H locs la hP hD hS hl)
theorem jr_ixor {x y : Int32} (hdg : decode M.2.1 pc = .ok (.ixor, 1)) (kk : jm_R g M κ k n (pc + 1) ls (.int (x ^^^ y) :: st) w) : jm_R g M κ k n pc ls (.int y :: .int x :: st) w := by
  obtain ⟨p, e, s, m, args, below, meth, c, A, Q⟩ := κ
  intro C H locs la hP hD hS hl
  exact lv_ixor C.1 C.2.1 hdg (kk C H locs la hP hD hS hl)
theorem jr_land {x y : Int64} (hdg : decode M.2.1 pc = .ok (.land, 1)) (kk : jm_R g M κ k n (pc + 1) ls (.long (x &&& y) :: st) w) : jm_R g M κ k n pc ls (.long y :: .long x :: st) w := by
  obtain ⟨p, e, s, m, args, below, meth, c, A, Q⟩ := κ
  intro C H locs la hP hD hS hl
  exact lv_land C.1 C.2.1 hdg (kk C H locs la hP hD hS hl)
theorem jr_lor {x y : Int64} (hdg : decode M.2.1 pc = .ok (.lor, 1)) (kk : jm_R g M κ k n (pc + 1) ls (.long (x ||| y) :: st) w) : jm_R g M κ k n pc ls (.long y :: .long x :: st) w := by
  obtain ⟨p, e, s, m, args, below, meth, c, A, Q⟩ := κ
  intro C H locs la hP hD hS hl
  exact lv_lor C.1 C.2.1 hdg (kk C H locs la hP hD hS hl)
theorem jr_ishr {x y : Int32} (hdg : decode M.2.1 pc = .ok (.ishr, 1)) (kk : jm_R g M κ k n (pc + 1) ls (.int (x >>> (y &&& 31)) :: st) w) : jm_R g M κ k n pc ls (.int y :: .int x :: st) w := by
  obtain ⟨p, e, s, m, args, below, meth, c, A, Q⟩ := κ
  intro C H locs la hP hD hS hl
  exact lv_ishr C.1 C.2.1 hdg (kk C H locs la hP hD hS hl)
theorem jr_ineg {x : Int32} (hdg : decode M.2.1 pc = .ok (.ineg, 1)) (kk : jm_R g M κ k n (pc + 1) ls (.int (-x) :: st) w) : jm_R g M κ k n pc ls (.int x :: st) w := by
  obtain ⟨p, e, s, m, args, below, meth, c, A, Q⟩ := κ
  intro C H locs la hP hD hS hl
  exact lv_ineg C.1 C.2.1 hdg (kk C H locs la hP hD hS hl)
theorem jr_irem {x y : Int32} (hdg : decode M.2.1 pc = .ok (.irem, 1)) (hne : y ≠ 0) (kk : jm_R g M κ k n (pc + 1) ls (.int (x - x / y * y) :: st) w) : jm_R g M κ k n pc ls (.int y :: .int x :: st) w := by
  obtain ⟨p, e, s, m, args, below, meth, c, A, Q⟩ := κ
  intro C H locs la hP hD hS hl
  exact lv_irem C.1 C.2.1 hdg hne (kk C H locs la hP hD hS hl)
theorem jr_i2l {x : Int32} (v : Int64) (hdg : decode M.2.1 pc = .ok (.i2l, 1)) (hv : x.toInt64 = v) (kk : jm_R g M κ k n (pc + 1) ls (.long v :: st) w) : jm_R g M κ k n pc ls (.int x :: st) w := by
  obtain ⟨p, e, s, m, args, below, meth, c, A, Q⟩ := κ
  intro C H locs la hP hD hS hl
  exact lv_i2l C.1 C.2.1 hdg hv (kk C H locs la hP hD hS hl)
theorem jr_l2i {x : Int64} (v : Int32) (hdg : decode M.2.1 pc = .ok (.l2i, 1)) (hv : x.toInt32 = v) (kk : jm_R g M κ k n (pc + 1) ls (.int v :: st) w) : jm_R g M κ k n pc ls (.long x :: st) w := by
  obtain ⟨p, e, s, m, args, below, meth, c, A, Q⟩ := κ
  intro C H locs la hP hD hS hl
  exact lv_l2i C.1 C.2.1 hdg hv (kk C H locs la hP hD hS hl)
theorem jr_i2c {x : Int32} (hdg : decode M.2.1 pc = .ok (.i2c, 1)) (kk : jm_R g M κ k n (pc + 1) ls (.int ((x.toUInt32 % 65536).toInt32) :: st) w) : jm_R g M κ k n pc ls (.int x :: st) w := by
  obtain ⟨p, e, s, m, args, below, meth, c, A, Q⟩ := κ
  intro C H locs la hP hD hS hl
  exact lv_i2c C.1 C.2.1 hdg rfl (kk C H locs la hP hD hS hl)
theorem jr_lushr {x : Int64} {y : Int32} (hdg : decode M.2.1 pc = .ok (.lushr, 1)) (kk : jm_R g M κ k n (pc + 1) ls (.long ((x.toUInt64 >>> (y.toInt64.toUInt64 &&& Int64.toUInt64 63)).toInt64) :: st) w) : jm_R g M κ k n pc ls (.int y :: .long x :: st) w := by
  obtain ⟨p, e, s, m, args, below, meth, c, A, Q⟩ := κ
  intro C H locs la hP hD hS hl
  exact lv_lushr C.1 C.2.1 hdg rfl (kk C H locs la hP hD hS hl)
theorem jr_lshl {x : Int64} {y : Int32} (hdg : decode M.2.1 pc = .ok (.lshl, 1)) (kk : jm_R g M κ k n (pc + 1) ls (.long (x <<< (y.toInt64 &&& 63)) :: st) w) : jm_R g M κ k n pc ls (.int y :: .long x :: st) w := by
  obtain ⟨p, e, s, m, args, below, meth, c, A, Q⟩ := κ
  intro C H locs la hP hD hS hl
  exact lv_lshl C.1 C.2.1 hdg rfl (kk C H locs la hP hD hS hl)
end JMR
end
section
section JMB
variable {g : jm_G} {M : jm_M} {κ : jm_K} {k n pc : Nat} {ls : List (Option Value)} {st : List Value} {w : jm_W}
theorem jr_if_eq {x : Int32} {off : Int} (tgt : Nat) (hdg : decode M.2.1 pc = .ok (.ifCond .eq off, 3)) (ht : decide ((pc : Int) + off = (tgt : Int)) = true) (kt : x = 0 → jm_R g M κ k n tgt ls st w) (kf : ¬ x = 0 → jm_R g M κ k n (pc + 3) ls st w) : jm_R g M κ k n pc ls (.int x :: st) w := by
  obtain ⟨p, e, s, m, args, below, meth, c, A, Q⟩ := κ
  intro C H locs la hP hD hS hl
  exact lv_if_eq C.1 C.2.1 hdg (of_decide_eq_true ht) (fun q => kt q C H locs la hP hD hS hl) (fun q => kf q C H locs la hP hD hS hl)
theorem jr_if_ne {x : Int32} {off : Int} (tgt : Nat) (hdg : decode M.2.1 pc = .ok (.ifCond .ne off, 3)) (ht : decide ((pc : Int) + off = (tgt : Int)) = true) (kt : ¬ x = 0 → jm_R g M κ k n tgt ls st w) (kf : x = 0 → jm_R g M κ k n (pc + 3) ls st w) : jm_R g M κ k n pc ls (.int x :: st) w := by
  obtain ⟨p, e, s, m, args, below, meth, c, A, Q⟩ := κ
  intro C H locs la hP hD hS hl
  exact lv_if_ne C.1 C.2.1 hdg (of_decide_eq_true ht) (fun q => kt q C H locs la hP hD hS hl) (fun q => kf q C H locs la hP hD hS hl)
theorem jr_if_lt {x : Int32} {off : Int} (tgt : Nat) (hdg : decode M.2.1 pc = .ok (.ifCond .lt off, 3)) (ht : decide ((pc : Int) + off = (tgt : Int)) = true) (kt : x < 0 → jm_R g M κ k n tgt ls st w) (kf : ¬ x < 0 → jm_R g M κ k n (pc + 3) ls st w) : jm_R g M κ k n pc ls (.int x :: st) w := by
  obtain ⟨p, e, s, m, args, below, meth, c, A, Q⟩ := κ
  intro C H locs la hP hD hS hl
  exact lv_if_lt C.1 C.2.1 hdg (of_decide_eq_true ht) (fun q => kt q C H locs la hP hD hS hl) (fun q => kf q C H locs la hP hD hS hl)
theorem jr_if_ge {x : Int32} {off : Int} (tgt : Nat) (hdg : decode M.2.1 pc = .ok (.ifCond .ge off, 3)) (ht : decide ((pc : Int) + off = (tgt : Int)) = true) (kt : 0 ≤ x → jm_R g M κ k n tgt ls st w) (kf : ¬ 0 ≤ x → jm_R g M κ k n (pc + 3) ls st w) : jm_R g M κ k n pc ls (.int x :: st) w := by
  obtain ⟨p, e, s, m, args, below, meth, c, A, Q⟩ := κ
  intro C H locs la hP hD hS hl
  exact lv_if_ge C.1 C.2.1 hdg (of_decide_eq_true ht) (fun q => kt q C H locs la hP hD hS hl) (fun q => kf q C H locs la hP hD hS hl)
theorem jr_if_gt {x : Int32} {off : Int} (tgt : Nat) (hdg : decode M.2.1 pc = .ok (.ifCond .gt off, 3)) (ht : decide ((pc : Int) + off = (tgt : Int)) = true) (kt : 0 < x → jm_R g M κ k n tgt ls st w) (kf : ¬ 0 < x → jm_R g M κ k n (pc + 3) ls st w) : jm_R g M κ k n pc ls (.int x :: st) w := by
  obtain ⟨p, e, s, m, args, below, meth, c, A, Q⟩ := κ
  intro C H locs la hP hD hS hl
  exact lv_if_gt C.1 C.2.1 hdg (of_decide_eq_true ht) (fun q => kt q C H locs la hP hD hS hl) (fun q => kf q C H locs la hP hD hS hl)
theorem jr_if_le {x : Int32} {off : Int} (tgt : Nat) (hdg : decode M.2.1 pc = .ok (.ifCond .le off, 3)) (ht : decide ((pc : Int) + off = (tgt : Int)) = true) (kt : x ≤ 0 → jm_R g M κ k n tgt ls st w) (kf : ¬ x ≤ 0 → jm_R g M κ k n (pc + 3) ls st w) : jm_R g M κ k n pc ls (.int x :: st) w := by
  obtain ⟨p, e, s, m, args, below, meth, c, A, Q⟩ := κ
  intro C H locs la hP hD hS hl
  exact lv_if_le C.1 C.2.1 hdg (of_decide_eq_true ht) (fun q => kt q C H locs la hP hD hS hl) (fun q => kf q C H locs la hP hD hS hl)
theorem jr_icmp_eq {x y : Int32} {off : Int} (tgt : Nat) (hdg : decode M.2.1 pc = .ok (.if_icmp .eq off, 3)) (ht : decide ((pc : Int) + off = (tgt : Int)) = true) (kt : x = y → jm_R g M κ k n tgt ls st w) (kf : ¬ x = y → jm_R g M κ k n (pc + 3) ls st w) : jm_R g M κ k n pc ls (.int y :: .int x :: st) w := by
  obtain ⟨p, e, s, m, args, below, meth, c, A, Q⟩ := κ
  intro C H locs la hP hD hS hl
  exact lv_icmp_eq C.1 C.2.1 hdg (of_decide_eq_true ht) (fun q => kt q C H locs la hP hD hS hl) (fun q => kf q C H locs la hP hD hS hl)
theorem jr_icmp_ne {x y : Int32} {off : Int} (tgt : Nat) (hdg : decode M.2.1 pc = .ok (.if_icmp .ne off, 3)) (ht : decide ((pc : Int) + off = (tgt : Int)) = true) (kt : ¬ x = y → jm_R g M κ k n tgt ls st w) (kf : x = y → jm_R g M κ k n (pc + 3) ls st w) : jm_R g M κ k n pc ls (.int y :: .int x :: st) w := by
  obtain ⟨p, e, s, m, args, below, meth, c, A, Q⟩ := κ
  intro C H locs la hP hD hS hl
  exact lv_icmp_ne C.1 C.2.1 hdg (of_decide_eq_true ht) (fun q => kt q C H locs la hP hD hS hl) (fun q => kf q C H locs la hP hD hS hl)
theorem jr_icmp_lt {x y : Int32} {off : Int} (tgt : Nat) (hdg : decode M.2.1 pc = .ok (.if_icmp .lt off, 3)) (ht : decide ((pc : Int) + off = (tgt : Int)) = true) (kt : x < y → jm_R g M κ k n tgt ls st w) (kf : ¬ x < y → jm_R g M κ k n (pc + 3) ls st w) : jm_R g M κ k n pc ls (.int y :: .int x :: st) w := by
  obtain ⟨p, e, s, m, args, below, meth, c, A, Q⟩ := κ
  intro C H locs la hP hD hS hl
  exact lv_icmp_lt C.1 C.2.1 hdg (of_decide_eq_true ht) (fun q => kt q C H locs la hP hD hS hl) (fun q => kf q C H locs la hP hD hS hl)
theorem jr_icmp_ge {x y : Int32} {off : Int} (tgt : Nat) (hdg : decode M.2.1 pc = .ok (.if_icmp .ge off, 3)) (ht : decide ((pc : Int) + off = (tgt : Int)) = true) (kt : y ≤ x → jm_R g M κ k n tgt ls st w) (kf : ¬ y ≤ x → jm_R g M κ k n (pc + 3) ls st w) : jm_R g M κ k n pc ls (.int y :: .int x :: st) w := by
  obtain ⟨p, e, s, m, args, below, meth, c, A, Q⟩ := κ
  intro C H locs la hP hD hS hl
  exact lv_icmp_ge C.1 C.2.1 hdg (of_decide_eq_true ht) (fun q => kt q C H locs la hP hD hS hl) (fun q => kf q C H locs la hP hD hS hl)
theorem jr_icmp_gt {x y : Int32} {off : Int} (tgt : Nat) (hdg : decode M.2.1 pc = .ok (.if_icmp .gt off, 3)) (ht : decide ((pc : Int) + off = (tgt : Int)) = true) (kt : y < x → jm_R g M κ k n tgt ls st w) (kf : ¬ y < x → jm_R g M κ k n (pc + 3) ls st w) : jm_R g M κ k n pc ls (.int y :: .int x :: st) w := by
  obtain ⟨p, e, s, m, args, below, meth, c, A, Q⟩ := κ
  intro C H locs la hP hD hS hl
  exact lv_icmp_gt C.1 C.2.1 hdg (of_decide_eq_true ht) (fun q => kt q C H locs la hP hD hS hl) (fun q => kf q C H locs la hP hD hS hl)
theorem jr_icmp_le {x y : Int32} {off : Int} (tgt : Nat) (hdg : decode M.2.1 pc = .ok (.if_icmp .le off, 3)) (ht : decide ((pc : Int) + off = (tgt : Int)) = true) (kt : x ≤ y → jm_R g M κ k n tgt ls st w) (kf : ¬ x ≤ y → jm_R g M κ k n (pc + 3) ls st w) : jm_R g M κ k n pc ls (.int y :: .int x :: st) w := by
  obtain ⟨p, e, s, m, args, below, meth, c, A, Q⟩ := κ
  intro C H locs la hP hD hS hl
  exact lv_icmp_le C.1 C.2.1 hdg (of_decide_eq_true ht) (fun q => kt q C H locs la hP hD hS hl) (fun q => kf q C H locs la hP hD hS hl)
theorem jr_goto {off : Int} (tgt : Nat) (hdg : decode M.2.1 pc = .ok (.goto off, 3)) (ht : decide ((pc : Int) + off = (tgt : Int)) = true) (kk : jm_R g M κ k n tgt ls st w) : jm_R g M κ k n pc ls st w := by
  obtain ⟨p, e, s, m, args, below, meth, c, A, Q⟩ := κ
  intro C H locs la hP hD hS hl
  exact lv_goto C.1 C.2.1 hdg (of_decide_eq_true ht) (kk C H locs la hP hD hS hl)
theorem jm_tr1 {ro ad : Nat → Nat} {v : Value} (h : v.category = 1) : (jm_tr ro ad v).category = 1 := by
  cases v <;> simp_all [jm_tr, Value.category]
theorem jr_dup {v : Value} (hdg : decode M.2.1 pc = .ok (.dup, 1)) (hv : v.category = 1) (kk : jm_R g M κ k n (pc + 1) ls (v :: v :: st) w) : jm_R g M κ k n pc ls (v :: st) w := by
  obtain ⟨p, e, s, m, args, below, meth, c, A, Q⟩ := κ
  intro C H locs la hP hD hS hl
  exact lv_dup C.1 C.2.1 hdg (jm_tr1 hv) (kk C H locs la hP hD hS hl)
theorem jr_pop {v : Value} (hdg : decode M.2.1 pc = .ok (.pop, 1)) (hv : v.category = 1) (kk : jm_R g M κ k n (pc + 1) ls st w) : jm_R g M κ k n pc ls (v :: st) w := by
  obtain ⟨p, e, s, m, args, below, meth, c, A, Q⟩ := κ
  intro C H locs la hP hD hS hl
  exact lv_pop C.1 C.2.1 hdg (jm_tr1 hv) (kk C H locs la hP hD hS hl)
theorem jr_dup2 {v u : Value} (hdg : decode M.2.1 pc = .ok (.dup2, 1)) (hv : v.category = 1) (hu : u.category = 1) (kk : jm_R g M κ k n (pc + 1) ls (v :: u :: v :: u :: st) w) : jm_R g M κ k n pc ls (v :: u :: st) w := by
  obtain ⟨p, e, s, m, args, below, meth, c, A, Q⟩ := κ
  intro C H locs la hP hD hS hl
  exact lv_dup2_11 C.1 C.2.1 hdg (jm_tr1 hv) (jm_tr1 hu) (kk C H locs la hP hD hS hl)
theorem jr_lcmp {x y : Int64} (hdg : decode M.2.1 pc = .ok (.lcmp, 1)) (kk : jm_R g M κ k n (pc + 1) ls (.int (lg_cmp x y) :: st) w) : jm_R g M κ k n pc ls (.long y :: .long x :: st) w := by
  obtain ⟨p, e, s, m, args, below, meth, c, A, Q⟩ := κ
  intro C H locs la hP hD hS hl
  exact W.lcmp C.1 C.2.1 hdg (kk C H locs la hP hD hS hl)
/-- a name for what stands on top -/
theorem jr_top {x : Int32} (kk : ∀ y : Int32, y = x → jm_R g M κ k n pc ls (.int y :: st) w) : jm_R g M κ k n pc ls (.int x :: st) w := kk x rfl
theorem jr_tableOut {dflt lo hi : Int} {offs : Array Int} {len : Nat} {x : Int32} (tgt : Nat) (hdg : decode M.2.1 pc = .ok (.tableswitch dflt lo hi offs, len)) (h : x.toInt < lo ∨ hi < x.toInt) (ht : decide ((pc : Int) + dflt = (tgt : Int)) = true) (kk : jm_R g M κ k n tgt ls st w) : jm_R g M κ k n pc ls (.int x :: st) w := by
  obtain ⟨p, e, s, m, args, below, meth, c, A, Q⟩ := κ
  intro C H locs la hP hD hS hl
  exact lv_tableOut C.1 C.2.1 hdg h (of_decide_eq_true ht) (kk C H locs la hP hD hS hl)
theorem jr_tableIn {dflt lo hi : Int} {offs : Array Int} {len : Nat} {x : Int32} (z off : Int) (tgt : Nat) (hdg : decode M.2.1 pc = .ok (.tableswitch dflt lo hi offs, len)) (hz : x.toInt = z) (h : decide (lo ≤ z ∧ z ≤ hi) = true) (ho : offs[(z - lo).toNat]? = some off) (ht : decide ((pc : Int) + off = (tgt : Int)) = true) (kk : jm_R g M κ k n tgt ls st w) : jm_R g M κ k n pc ls (.int x :: st) w := by
  obtain ⟨p, e, s, m, args, below, meth, c, A, Q⟩ := κ
  intro C H locs la hP hD hS hl
  subst hz
  have h2 := of_decide_eq_true h
  exact lv_tableIn C.1 C.2.1 hdg (Int.not_lt.mpr h2.1) (Int.not_lt.mpr h2.2) ho (of_decide_eq_true ht) (kk C H locs la hP hD hS hl)
theorem jr_lookup {dflt : Int} {ps : Array (Int × Int)} {len : Nat} {x : Int32} (off : Int) (tgt : Nat) (hdg : decode M.2.1 pc = .ok (.lookupswitch dflt ps, len)) (hp : (ps.toList.zip (ps.toList.drop 1)).all (fun (a, next) => a.1 < next.1) = true) (ho : Op.lookupswitch.offset ps.toList dflt x.toInt = off) (ht : decide ((pc : Int) + off = (tgt : Int)) = true) (kk : jm_R g M κ k n tgt ls st w) : jm_R g M κ k n pc ls (.int x :: st) w := by
  obtain ⟨p, e, s, m, args, below, meth, c, A, Q⟩ := κ
  intro C H locs la hP hD hS hl
  exact lv_lookup C.1 C.2.1 hdg hp ho (of_decide_eq_true ht) (kk C H locs la hP hD hS hl)
/-! rows that touch the world -/
/-- a class's facts: its number in vwCl -/
def jm_Cls (ci : Nat) (r : vw_C) (t0 : Nat → FieldType) : Prop := vwCl[ci]? = some r ∧ (∀ w ∈ u_ws r.1 r.2.1 r.2.2, w ∈ jm_TB) ∧ (∀ k, k < r.2.2 → parseFieldDescriptor (r.2.1 k).2.2.1 = some (t0 k)) ∧ (∀ a, a < r.2.2 → ∀ b, b < r.2.2 → a ≠ b → (r.2.1 a).2.1 ≠ (r.2.1 b).2.1)
/-- a field's link in a class own at a place of its pool: field j of class ci -/
def jm_F (own : String) (idx ci j : Nat) (fin : Bool) (ty : FieldType) : Prop := ∃ (r : vw_C) (t0 : Nat → FieldType), jm_Cls ci r t0 ∧ j < r.2.2 ∧ Cond.fieldLink own idx (r.2.1 j).1 (r.2.1 j).2.1 (r.2.1 j).2.2.1 ∈ jm_TB ∧ (r.2.1 j).2.2.2 = fin ∧ t0 j = ty ∧ (r.2.1 j).1 = r.1
theorem jm_fs_at {ad : Nat → Nat} {fs : List (Option (Option Nat))} {f : Nat → Int32} {j : Nat} {x : Option (Option Nat)} (h : fs[j]? = some x) : (jm_fs ad fs f)[j]? = some (jm_fv ad f j x) := by
  simp [jm_fs, List.getElem?_mapIdx, h]
theorem jr_get {idx : Nat} {q : Nat} (ci j : Nat) {fin : Bool} {ty : FieldType} {fs : List (Option (Option Nat))} {x : Option (Option Nat)} (hf : jm_F M.1.cls idx ci j fin ty) (hdg : decode M.2.1 pc = .ok (.getfield idx, 3)) (hg : w.1[q]? = some (.inl (ci, fs))) (hx : fs[j]? = some x) (v : Value) (hv : (match x with | none => Value.int (w.2.2 q j) | some none => .null | some (some r) => .ref r) = v) (kk : jm_R g M κ k n (pc + 3) ls (v :: st) w) : jm_R g M κ k n pc ls (.ref q :: st) w := by
  obtain ⟨p, e, s, m, args, below, meth, c, A, Q⟩ := κ
  intro C H locs la hP hD hS hl
  have kk := kk C H locs la hP hD hS hl
  obtain ⟨hx1, hb, hml, hr, hown, hts, hlk, hnm, hSa, hRo, hA⟩ := C
  obtain ⟨⟨CN, T, N⟩, t0, ⟨hc, hin, hty, hnd⟩, hj, hl1, hfin, hty0, hcl⟩ := hf
  subst hv
  refine va_get (D := g.2.1) (cl := vwCl) (ws := jm_conc g w) (a := w.2.1 q) (C := CN) (T := T) (N := N) (ci := ci) hx1 hb hts hin hown hSa.1 hP q (jm_conc_at g w hg) hc j hj (hts _ hl1) (fun _ h => h) (jm_fs_at hx) hdg ?_
  cases x with
  | none => exact kk
  | some r => cases r <;> exact kk
theorem jm_fs_set {ad : Nat → Nat} {fs : List (Option (Option Nat))} {f : Nat → Int32} {j : Nat} {x : Int32} (h : fs[j]? = some none) : (jm_fs ad fs f).set j (.int x) = jm_fs ad fs (upd f j x) := by
  have hl := (List.getElem?_eq_some_iff.mp h).1
  apply List.ext_getElem?
  intro i
  rw [List.getElem?_set]
  by_cases hi : j = i
  · subst hi
    simp [jm_fs, List.getElem?_mapIdx, hl, (List.getElem?_eq_some_iff.mp h).2, jm_fv, upd]
  · have hi2 : ¬ i = j := fun e => hi e.symm
    rw [if_neg hi]
    simp only [jm_fs, List.getElem?_mapIdx]
    cases hz : fs[i]? with
    | none => rfl
    | some o =>
      simp only [Option.map_some]
      cases o with
      | none => simp [jm_fv, upd, hi2]
      | some r => cases r <;> rfl
theorem jm_fs_setR {ad : Nat → Nat} {fs : List (Option (Option Nat))} {f : Nat → Int32} {j : Nat} {r : Nat} (hl : j < fs.length) : (jm_fs ad fs f).set j (.ref (ad r)) = jm_fs ad (fs.set j (some (some r))) f := by
  apply List.ext_getElem?
  intro i
  rw [List.getElem?_set]
  by_cases hi : j = i
  · subst hi
    simp [jm_fs, List.getElem?_mapIdx, hl, jm_fv]
  · rw [if_neg hi]
    simp only [jm_fs, List.getElem?_mapIdx, List.getElem?_set_ne hi]
theorem jm_fs_len {ad : Nat → Nat} {fs : List (Option (Option Nat))} {f : Nat → Int32} : (jm_fs ad fs f).length = fs.length := by simp [jm_fs]
/-- a number is put into a field -/
theorem jr_put {idx : Nat} {q : Nat} (ci j : Nat) {ty : FieldType} {fs : List (Option (Option Nat))} {x : Int32} {Γ : List jm_Sh} {ad : Nat → Nat} {μ : Nat → Nat → Int32} (hf : jm_F M.1.cls idx ci j false ty) (hdg : decode M.2.1 pc = .ok (.putfield idx, 3)) (hg : Γ[q]? = some (.inl (ci, fs))) (hx : fs[j]? = some none) (hn : narrow ty (.int x) = .int x) (hfit : fits ty (.int x) = true) (kk : jm_R g M κ k n (pc + 3) ls st (Γ, ad, jm_st μ q j x)) : jm_R g M κ k n pc ls (.int x :: .ref q :: st) (Γ, ad, μ) := by
  obtain ⟨p, e, s, m, args, below, meth, c, A, Q⟩ := κ
  intro C H locs la hP hD hS hl
  have hl9 := (List.getElem?_eq_some_iff.mp hx).1
  have kk := fun H1 locs1 hP1 hD1 hS1 => kk C H1 locs1 la hP1 hD1 hS1 hl
  obtain ⟨hx1, hb, hml, hr, hown, hts, hlk, hnm, hSa, hRo, hA⟩ := C
  obtain ⟨⟨CN, T, N⟩, t0, ⟨hc, hin, hty, hnd⟩, hj, hl1, hfin, hty0, hcl⟩ := hf
  have e9 : (jm_conc g (Γ, ad, μ)).set q (ad q, .inr (ci, (jm_fs ad fs (μ q)).set j (.int x))) = jm_conc g (Γ, ad, jm_st μ q j x) := by
    rw [jm_fs_set hx]
    exact jm_conc_set g Γ ad μ (upd (μ q) j x) hg
  have h9 := jm_conc_at g (Γ, ad, μ) hg
  refine va_put (D := g.2.1) (cl := vwCl) (ws := jm_conc g (Γ, ad, μ)) (a := ad q) (C := CN) (T := T) (N := N) (ci := ci) (v := .int x) (ty := ty) hx1 hb hts hin t0 hty hnd hown hSa.1 hP hD hS q h9 hc j hj (hts _ hl1) (fun _ h => h) hfin (by rw [← hty0]; exact hty j hj) hn hfit (by rw [jm_fs_len]; exact hl9) hdg (fun H1 locs1 hP1 hD1 hS1 => ?_)
  dsimp only at hP1 hD1
  rw [e9] at hP1 hD1
  exact kk H1 locs1 hP1 hD1 hS1
theorem jr_putI {idx : Nat} {q : Nat} (ci j : Nat) {fs : List (Option (Option Nat))} {x : Int32} {Γ : List jm_Sh} {ad : Nat → Nat} {μ : Nat → Nat → Int32} (hf : jm_F M.1.cls idx ci j false .int) (hdg : decode M.2.1 pc = .ok (.putfield idx, 3)) (hg : Γ[q]? = some (.inl (ci, fs))) (hx : fs[j]? = some none) (kk : jm_R g M κ k n (pc + 3) ls st (Γ, ad, jm_st μ q j x)) : jm_R g M κ k n pc ls (.int x :: .ref q :: st) (Γ, ad, μ) := jr_put ci j hf hdg hg hx rfl rfl kk
/-- a reference is put into a final field, in a constructor -/
theorem jr_putF {idx : Nat} {q r : Nat} (ci j : Nat) {ty : FieldType} {fs : List (Option (Option Nat))} {Γ : List jm_Sh} {ad : Nat → Nat} {μ : Nat → Nat → Int32} (Γ' : List jm_Sh) (hf : jm_F M.1.cls idx ci j true ty) (hown2 : (vwCl[ci]?).map (fun r => r.1) = some M.1.cls) (hinit : M.1.name = "<init>") (hdg : decode M.2.1 pc = .ok (.putfield idx, 3)) (hg : Γ[q]? = some (.inl (ci, fs))) (hj : j < fs.length) (hn : ∀ a : Nat, narrow ty (.ref a) = .ref a) (hfit : ∀ a : Nat, fits ty (.ref a) = true) (hG : Γ.set q (.inl (ci, fs.set j (some (some r)))) = Γ') (kk : jm_R g M κ k n (pc + 3) ls st (Γ', ad, μ)) : jm_R g M κ k n pc ls (.ref r :: .ref q :: st) (Γ, ad, μ) := by
  obtain ⟨p, e, s, m, args, below, meth, c, A, Q⟩ := κ
  intro C H locs la hP hD hS hl
  subst hG
  have kk := fun H1 locs1 hP1 hD1 hS1 => kk C H1 locs1 la hP1 hD1 hS1 hl
  obtain ⟨hx1, hb, hml, hr, hown, hts, hlk, hnm, hSa, hRo, hA⟩ := C
  obtain ⟨⟨CN, T, N⟩, t0, ⟨hc, hin, hty, hnd⟩, hjN, hl1, hfin, hty0, hcl⟩ := hf
  have e9 : (jm_conc g (Γ, ad, μ)).set q (ad q, .inr (ci, (jm_fs ad fs (μ q)).set j (.ref (ad r)))) = jm_conc g (Γ.set q (.inl (ci, fs.set j (some (some r)))), ad, μ) := by
    rw [jm_fs_setR hj]
    exact jm_conc_shape g Γ ad μ (.inl (ci, fs.set j (some (some r)))) (List.getElem?_eq_some_iff.mp hg).1
  have h9 := jm_conc_at g (Γ, ad, μ) hg
  have hdecl : (T j).1 = M.1.cls := by
    rw [hc] at hown2
    have h5 : CN = M.1.cls := by simpa using hown2
    rw [← h5]; exact hcl
  refine va_putF (D := g.2.1) (cl := vwCl) (ws := jm_conc g (Γ, ad, μ)) (a := ad q) (C := CN) (T := T) (N := N) (ci := ci) (v := .ref (ad r)) (ty := ty) hx1 hb hts hin t0 hty hnd hown hSa.1 hP hD hS q h9 hc j hjN (hts _ hl1) (fun _ h => h) hfin (by rw [hnm]; exact hinit) hdecl (by rw [← hty0]; exact hty j hjN) (hn _) (hfit _) (by rw [jm_fs_len]; exact hj) hdg (fun H1 locs1 hP1 hD1 hS1 => ?_)
  dsimp only at hP1 hD1
  rw [e9] at hP1 hD1
  exact kk H1 locs1 hP1 hD1 hS1
theorem jr_iald {q : Nat} {len : Nat} {i : Int32} (hdg : decode M.2.1 pc = .ok (.iaload, 1)) (hg : w.1[q]? = some (.inr (0, len, none))) (hi : vp_in i len) (kk : jm_R g M κ k n (pc + 1) ls (.int (w.2.2 q i.toNatClampNeg) :: st) w) : jm_R g M κ k n pc ls (.int i :: .ref q :: st) w := by
  obtain ⟨p, e, s, m, args, below, meth, c, A, Q⟩ := κ
  intro C H locs la hP hD hS hl
  exact va_iald C.1 C.2.1 C.2.2.2.2.2.2.2.2.1.1 hP q 0 (jm_conc_at g w hg) rfl hi hdg (kk C H locs la hP hD hS hl)
theorem jr_cald {q : Nat} {len : Nat} {i : Int32} (hdg : decode M.2.1 pc = .ok (.caload, 1)) (hg : w.1[q]? = some (.inr (1, len, none))) (hi : vp_in i len) (kk : jm_R g M κ k n (pc + 1) ls (.int (w.2.2 q i.toNatClampNeg) :: st) w) : jm_R g M κ k n pc ls (.int i :: .ref q :: st) w := by
  obtain ⟨p, e, s, m, args, below, meth, c, A, Q⟩ := κ
  intro C H locs la hP hD hS hl
  exact va_cald C.1 C.2.1 C.2.2.2.2.2.2.2.2.1.1 hP q 1 (jm_conc_at g w hg) rfl hi hdg (kk C H locs la hP hD hS hl)
theorem jr_zald {q : Nat} {len : Nat} {i : Int32} (hdg : decode M.2.1 pc = .ok (.baload, 1)) (hg : w.1[q]? = some (.inr (2, len, none))) (hi : vp_in i len) (kk : jm_R g M κ k n (pc + 1) ls (.int (w.2.2 q i.toNatClampNeg) :: st) w) : jm_R g M κ k n pc ls (.int i :: .ref q :: st) w := by
  obtain ⟨p, e, s, m, args, below, meth, c, A, Q⟩ := κ
  intro C H locs la hP hD hS hl
  exact va_zald C.1 C.2.1 C.2.2.2.2.2.2.2.2.1.1 hP q 2 (jm_conc_at g w hg) rfl hi hdg (kk C H locs la hP hD hS hl)
theorem jr_aald {q : Nat} {len kd : Nat} {i : Int32} {f : Nat → Option Nat} (hdg : decode M.2.1 pc = .ok (.aaload, 1)) (hg : w.1[q]? = some (.inr (kd, len, some f))) (hkd : kd = 3 ∨ kd = 4) (hi : vp_in i len) (r : Nat) (hr : f i.toNatClampNeg = some r) (kk : jm_R g M κ k n (pc + 1) ls (.ref r :: st) w) : jm_R g M κ k n pc ls (.int i :: .ref q :: st) w := by
  obtain ⟨p, e, s, m, args, below, meth, c, A, Q⟩ := κ
  intro C H locs la hP hD hS hl
  rcases hkd with rfl | rfl
  · refine va_aldq C.1 C.2.1 C.2.2.2.2.2.2.2.2.1.1 hP q 3 (jm_conc_at g w hg) rfl hi hdg ?_
    rw [hr]
    exact kk C H locs la hP hD hS hl
  · refine va_aldq C.1 C.2.1 C.2.2.2.2.2.2.2.2.1.1 hP q 4 (jm_conc_at g w hg) rfl hi hdg ?_
    rw [hr]
    exact kk C H locs la hP hD hS hl
/-- a read of an array that is only read -/
theorem jr_rald {i : Int32} {r : Nat} (hr : r < 3) (hdg : decode M.2.1 pc = .ok (.iaload, 1)) (hi : vp_in i (g.2.2.2.2.1 r)) (kk : jm_R g M κ k n (pc + 1) ls (.int (g.2.2.2.2.2 r i.toNatClampNeg) :: st) w) : jm_R g M κ k n pc ls (.int i :: .retAddr r :: st) w := by
  obtain ⟨p, e, s, m, args, below, meth, c, A, Q⟩ := κ
  intro C H locs la hP hD hS hl
  exact va_ti C.1 C.2.1 (C.2.2.2.2.2.2.2.2.2.1.1 r hr) hS hi rfl hdg (kk C H locs la hP hD hS hl)
theorem jr_rlen {r : Nat} (hr : r < 3) (hdg : decode M.2.1 pc = .ok (.arraylength, 1)) (kk : jm_R g M κ k n (pc + 1) ls (.int (Int32.ofNat (g.2.2.2.2.1 r)) :: st) w) : jm_R g M κ k n pc ls (.retAddr r :: st) w := by
  obtain ⟨p, e, s, m, args, below, meth, c, A, Q⟩ := κ
  intro C H locs la hP hD hS hl
  exact va_tlen C.1 C.2.1 (C.2.2.2.2.2.2.2.2.2.1.1 r hr) hS rfl hdg (kk C H locs la hP hD hS hl)
theorem jr_lowest {idx : Nat} (hdg : decode M.2.1 pc = .ok (.getstatic idx, 3)) (hw : Cond.fieldLink M.1.cls idx RX8 "LOWEST" "[I" ∈ jm_TB) (kk : jm_R g M κ k n (pc + 3) ls (.retAddr 0 :: st) w) : jm_R g M κ k n pc ls st w := by
  obtain ⟨p, e, s, m, args, below, meth, c, A, Q⟩ := κ
  intro C H locs la hP hD hS hl
  exact va_gets C.1 C.2.1 C.2.2.2.2.2.2.2.2.2.1.2.1 hS C.2.2.2.2.1 (C.2.2.2.2.2.1 _ hw) (fun _ h => h) hdg (kk C H locs la hP hD hS hl)
theorem jr_highest {idx : Nat} (hdg : decode M.2.1 pc = .ok (.getstatic idx, 3)) (hw : Cond.fieldLink M.1.cls idx RX8 "HIGHEST" "[I" ∈ jm_TB) (kk : jm_R g M κ k n (pc + 3) ls (.retAddr 1 :: st) w) : jm_R g M κ k n pc ls st w := by
  obtain ⟨p, e, s, m, args, below, meth, c, A, Q⟩ := κ
  intro C H locs la hP hD hS hl
  exact va_gets C.1 C.2.1 C.2.2.2.2.2.2.2.2.2.1.2.2 hS C.2.2.2.2.1 (C.2.2.2.2.2.1 _ hw) (fun _ h => h) hdg (kk C H locs la hP hD hS hl)
theorem jr_alen {q : Nat} {len kd : Nat} (hdg : decode M.2.1 pc = .ok (.arraylength, 1)) (hg : w.1[q]? = some (.inr (kd, len, none))) (hkd : kd < 3) (v : Int32) (hv : Int32.ofNat len = v) (kk : jm_R g M κ k n (pc + 1) ls (.int v :: st) w) : jm_R g M κ k n pc ls (.ref q :: st) w := by
  obtain ⟨p, e, s, m, args, below, meth, c, A, Q⟩ := κ
  intro C H locs la hP hD hS hl
  subst hv
  have h9 := jm_conc_at g w hg
  rcases (show kd = 0 ∨ kd = 1 ∨ kd = 2 by omega) with rfl | rfl | rfl
  · exact va_alen C.1 C.2.1 C.2.2.2.2.2.2.2.2.1.1 hP q 0 h9 rfl rfl hdg (kk C H locs la hP hD hS hl)
  · exact va_alen C.1 C.2.1 C.2.2.2.2.2.2.2.2.1.1 hP q 1 h9 rfl rfl hdg (kk C H locs la hP hD hS hl)
  · exact va_alen C.1 C.2.1 C.2.2.2.2.2.2.2.2.1.1 hP q 2 h9 rfl rfl hdg (kk C H locs la hP hD hS hl)
theorem jr_iast {q : Nat} {len : Nat} {i x : Int32} {Γ : List jm_Sh} {ad : Nat → Nat} {μ : Nat → Nat → Int32} (hdg : decode M.2.1 pc = .ok (.iastore, 1)) (hg : Γ[q]? = some (.inr (0, len, none))) (hi : vp_in i len) (kk : jm_R g M κ k n (pc + 1) ls st (Γ, ad, jm_st μ q i.toNatClampNeg x)) : jm_R g M κ k n pc ls (.int x :: .int i :: .ref q :: st) (Γ, ad, μ) := by
  obtain ⟨p, e, s, m, args, below, meth, c, A, Q⟩ := κ
  intro C H locs la hP hD hS hl
  have e9 : (jm_conc g (Γ, ad, μ)).set q (ad q, .inl (g.2.2.1 0, len, .inl (upd (μ q) i.toNatClampNeg x))) = jm_conc g (Γ, ad, jm_st μ q i.toNatClampNeg x) := jm_conc_set g Γ ad μ (upd (μ q) i.toNatClampNeg x) hg
  refine va_iast C.1 C.2.1 C.2.2.2.2.2.2.2.2.1.1 hP hD hS q 0 (jm_conc_at g (Γ, ad, μ) hg) rfl hi hdg (fun H1 locs1 hP1 hD1 hS1 => ?_)
  dsimp only at hP1 hD1
  rw [e9] at hP1 hD1
  exact kk C H1 locs1 la hP1 hD1 hS1 hl
theorem jr_cast {q : Nat} {len : Nat} {i x : Int32} {Γ : List jm_Sh} {ad : Nat → Nat} {μ : Nat → Nat → Int32} (hdg : decode M.2.1 pc = .ok (.castore, 1)) (hg : Γ[q]? = some (.inr (1, len, none))) (hi : vp_in i len) (kk : jm_R g M κ k n (pc + 1) ls st (Γ, ad, jm_st μ q i.toNatClampNeg (vp_nar .char x))) : jm_R g M κ k n pc ls (.int x :: .int i :: .ref q :: st) (Γ, ad, μ) := by
  obtain ⟨p, e, s, m, args, below, meth, c, A, Q⟩ := κ
  intro C H locs la hP hD hS hl
  have e9 : (jm_conc g (Γ, ad, μ)).set q (ad q, .inl (g.2.2.1 1, len, .inl (upd (μ q) i.toNatClampNeg (vp_nar .char x)))) = jm_conc g (Γ, ad, jm_st μ q i.toNatClampNeg (vp_nar .char x)) := jm_conc_set g Γ ad μ (upd (μ q) i.toNatClampNeg (vp_nar .char x)) hg
  refine va_cast C.1 C.2.1 C.2.2.2.2.2.2.2.2.1.1 hP hD hS q 1 (jm_conc_at g (Γ, ad, μ) hg) rfl hi hdg (fun H1 locs1 hP1 hD1 hS1 => ?_)
  dsimp only at hP1 hD1
  rw [e9] at hP1 hD1
  exact kk C H1 locs1 la hP1 hD1 hS1 hl
theorem jr_zast {q : Nat} {len : Nat} {i x : Int32} {Γ : List jm_Sh} {ad : Nat → Nat} {μ : Nat → Nat → Int32} (hdg : decode M.2.1 pc = .ok (.bastore, 1)) (hg : Γ[q]? = some (.inr (2, len, none))) (hi : vp_in i len) (kk : jm_R g M κ k n (pc + 1) ls st (Γ, ad, jm_st μ q i.toNatClampNeg (vp_nar .boolean x))) : jm_R g M κ k n pc ls (.int x :: .int i :: .ref q :: st) (Γ, ad, μ) := by
  obtain ⟨p, e, s, m, args, below, meth, c, A, Q⟩ := κ
  intro C H locs la hP hD hS hl
  have e9 : (jm_conc g (Γ, ad, μ)).set q (ad q, .inl (g.2.2.1 2, len, .inl (upd (μ q) i.toNatClampNeg (vp_nar .boolean x)))) = jm_conc g (Γ, ad, jm_st μ q i.toNatClampNeg (vp_nar .boolean x)) := jm_conc_set g Γ ad μ (upd (μ q) i.toNatClampNeg (vp_nar .boolean x)) hg
  refine va_zast C.1 C.2.1 C.2.2.2.2.2.2.2.2.1.1 hP hD hS q 2 (jm_conc_at g (Γ, ad, μ) hg) rfl hi hdg (fun H1 locs1 hP1 hD1 hS1 => ?_)
  dsimp only at hP1 hD1
  rw [e9] at hP1 hD1
  exact kk C H1 locs1 la hP1 hD1 hS1 hl
end JMB
end
section
section JMD
variable {g : jm_G} {M M2 : jm_M} {κ : jm_K} {k n pc : Nat} {ls : List (Option Value)} {st : List Value} {w : jm_W}
abbrev jm_ps (v : Option Value) (st : List Value) : List Value := match v with
  | none => st
  | some x => x :: st
theorem jm_ps_map {ro ad : Nat → Nat} (v : Option Value) (st : List Value) : (jm_ps v st).map (jm_tr ro ad) = jm_ps (v.map (jm_tr ro ad)) (st.map (jm_tr ro ad)) := by cases v <;> rfl
theorem jm_back {p : Program} {e : Env} {R : Room} {s : State} {m : MethodId} {args : Array Value} {below : List Frame} {meth : Method} {c : Code} {H : Heap} {locs : List Loc} {cells slots mc ms : Nat} {Q : State → Prop} {la : Array Slot} {st0 rest : List Value} {a : Array Value} {A A1 free : Nat → Prop} {P : Option Value → jm_W → Prop}
    (hr : va_Run p g.1 e R s m args below meth c H locs cells slots mc ms (F0 m pc la st0) rest (jm_Qc g P A1 a) free) (hS : va_S A s.heap H locs) (hA : ∀ q, q < H.size → A1 q → A q) (hf : ∀ q, free q → A q)
    (kk : ∀ (v : Option Value) (w' : jm_W) (H1 : Heap) (locs1 : List Loc), P v w' → va_P g.2.1 vwCl (jm_conc g w') H1 → va_D A1 (jm_conc g w') → va_S A s.heap H1 locs1 → W p g.1 e R s m args below meth c H1 locs1 (cells + mc) (slots + ms) Q (F0 m (pc + 3) la (jm_ps (v.map (jm_tr g.2.2.2.1 w'.2.1)) rest))) : W p g.1 e R s m args below meth c H locs cells slots Q (F0 m pc la st0) := by
  intro T hT X
  obtain ⟨v0, st₀, t, T', L, h0, X', hL, e1, e2, ⟨⟨v, w', hv, hp, hP1, hD1⟩, hz, hk⟩, st⟩ := hr T hT X
  have hv2 : v0 = v.map (jm_tr g.2.2.2.1 w'.2.1) := by injection hv
  subst hv2
  rw [h0] at hz hk
  obtain ⟨t2, a1, b1⟩ := kk v w' T'.heap (locs ++ L) hp (by rw [e1]; exact hP1) hD1
    ⟨Nat.le_trans hS.1 (by rw [e1]; exact hz), fun q h1 h2 => by rw [e1, hk q (Nat.lt_of_lt_of_le h1 hS.1) (fun z => h2 (hA q (Nat.lt_of_lt_of_le h1 hS.1) z))]; exact hS.2.1 q h1 h2, fun q hq => by
      rcases List.mem_append.mp hq with h | h
      · exact hS.2.2 q h
      · exact hf _ (hL q h)⟩ T' rfl X'
  refine ⟨t2, st t2 ?_, b1⟩
  have e9 : (v.map (jm_tr g.2.2.2.1 w'.2.1)).toList ++ rest = jm_ps (v.map (jm_tr g.2.2.2.1 w'.2.1)) rest := by cases v <;> rfl
  show Steps p.tables e below (T'.setTop (F0 m (pc + 3) la ((v.map (jm_tr g.2.2.2.1 w'.2.1)).toList ++ rest))) t2
  rw [e9]
  exact a1
theorem jm_blind {av : List Value} {A : Nat → Prop} {sz : Nat} : FrameBlind (va_Pc av (fun U => U.heap.size = sz ∧ jm_Pre g w A U)) := by
  intro a U fr mk q
  obtain ⟨q0, q1, qP, qD, qS, qR⟩ := q
  exact ⟨q0, q1, qP, qD, qS.same (u := U) (U := U.calling fr mk a) rfl, qR.moved (U := U.calling fr mk a) (Vm.Alike.refl U.vm)⟩
/-- the callee's start, out of the caller's state -/
theorem jm_enter {p : Program} {s : State} {m : MethodId} {args : Array Value} {meth : Method} {c : Code} {A : Nat → Prop} {H : Heap} {locs : List Loc} (C : jm_C g M p s m args meth c A) (hP : va_P g.2.1 vwCl (jm_conc g w) H) (hD : va_D A (jm_conc g w)) (hS : va_S A s.heap H locs) (av : List Value) : ∀ U : State, U.heap = H → s.WarmedH U.vm → va_Pc (av.map (jm_tr g.2.2.2.1 w.2.1)) (fun U => U.heap.size = H.size ∧ jm_Pre g w (va_A (jm_conc g w) H.size) U) (av.map (jm_tr g.2.2.2.1 w.2.1)).toArray U := by
  intro U hU hW
  obtain ⟨hx1, hb, hml, hr, hown, hts, hlk, hnm, hSa, hRo, hA⟩ := C
  refine ⟨rfl, by rw [hU], by rw [hU]; exact hP, hD.weaken (fun _ _ _ _ => trivial), hSa.warm hW, ?_⟩
  rw [hU]
  refine jm_Ro.narrow ((hRo.moved hW.alike).kept (fun a ha hna => hS.2.1 a ha hna)) (fun q hq => ?_)
  rcases hq with ⟨i, e, h⟩ | h
  · exact hD.2 i _ h
  · exact hA q (Nat.le_trans hS.1 h)
theorem jm_AA {A : Nat → Prop} {H0 H : Heap} {locs : List Loc} (hA : ∀ q, H0.size ≤ q → A q) (hD : va_D A (jm_conc g w)) (hS : va_S A H0 H locs) : ∀ q, va_A (jm_conc g w) H.size q → A q := by
  intro q hq
  rcases hq with ⟨i, e, h⟩ | h
  · exact hD.2 i _ h
  · exact hA q (Nat.le_trans hS.1 h)
/-- the rooms fit: caller, callee -/
def jm_fit (M M2 : jm_M) : Bool := decide (M2.2.2.2.2.frames + 1 ≤ M.2.2.2.2.frames) && decide (8 + (M2.2.2.1 + 11) + M2.2.2.2.2.locals ≤ M.2.2.2.2.locals)
theorem jm_fit_of (h : jm_fit M M2 = true) : M2.2.2.2.2.frames + 1 ≤ M.2.2.2.2.frames ∧ 8 + (M2.2.2.1 + 11) + M2.2.2.2.2.locals ≤ M.2.2.2.2.locals := by
  simpa [jm_fit] using h
def jm_desc (y : MethodName) (np : Nat) : Prop := y.cls ≠ "java/lang/invoke/MethodHandle" ∧ y.cls ≠ "java/lang/invoke/VarHandle" ∧ (parseMethodDescriptor y.desc).map (fun d => d.parameters.length) = some np
/-- links of calls: own, place in its pool, the method, how many arguments -/
def jm_LV (own : String) (idx : Nat) (M2 : jm_M) (np : Nat) : Prop := (Cond.methodLink own idx M2.1 ∈ jm_TB ∧ Cond.instanceMethod M2.1 ∈ jm_TB ∧ Cond.selects M2.1.cls M2.1 M2.1 ∈ jm_TB ∧ Cond.initialized M2.1.cls ∈ jm_TB ∧ Cond.code M2.1 M2.2.1 M2.2.2.1 M2.2.2.2.1 ∈ jm_TB) ∧ jm_desc M2.1 np
def jm_LS (own : String) (idx : Nat) (M2 : jm_M) (np : Nat) : Prop := (Cond.methodLink own idx M2.1 ∈ jm_TB ∧ Cond.static M2.1 ∈ jm_TB ∧ Cond.initialized M2.1.cls ∈ jm_TB ∧ Cond.code M2.1 M2.2.1 M2.2.2.1 M2.2.2.2.1 ∈ jm_TB) ∧ jm_desc M2.1 np
def jm_LI (own : String) (idx : Nat) (M2 : jm_M) (np : Nat) : Prop := (Cond.methodLink own idx M2.1 ∈ jm_TB ∧ Cond.instanceMethod M2.1 ∈ jm_TB ∧ Cond.initialized M2.1.cls ∈ jm_TB ∧ Cond.code M2.1 M2.2.1 M2.2.2.1 none ∈ jm_TB ∧ M2.1.name = "<init>" ∧ M2.2.2.2.1 = none) ∧ jm_desc M2.1 np
def jm_LNS (own : String) (idx : Nat) (M2 : jm_M) (np : Nat) : Prop := (∃ host, Cond.methodLinkNest own idx M2.1 host ∈ jm_NB) ∧ (Cond.static M2.1 ∈ jm_TB ∧ Cond.initialized M2.1.cls ∈ jm_TB ∧ Cond.code M2.1 M2.2.1 M2.2.2.1 M2.2.2.2.1 ∈ jm_TB) ∧ jm_desc M2.1 np
def jm_LNI (own : String) (idx : Nat) (M2 : jm_M) (np : Nat) : Prop := (∃ host, Cond.methodLinkNest own idx M2.1 host ∈ jm_NB) ∧ (Cond.instanceMethod M2.1 ∈ jm_TB ∧ Cond.initialized M2.1.cls ∈ jm_TB ∧ Cond.code M2.1 M2.2.1 M2.2.2.1 none ∈ jm_TB ∧ M2.1.name = "<init>" ∧ M2.2.2.2.1 = none) ∧ jm_desc M2.1 np
theorem jm_gpre {pre : List Cond} (h1 : ∀ w ∈ pre, w ∈ jm_TB) (hc : Cond.code M2.1 M2.2.1 M2.2.2.1 M2.2.2.2.1 ∈ jm_TB) : GoodIn jm_TB (pre ++ jm_ws M2) := by
  intro w hw
  rcases List.mem_append.mp hw with h | h
  · exact jm_good w (h1 w h)
  · exact jm_gws hc w h
theorem jm_cat {ro ad : Nat → Nat} : ∀ st : List Value, (st.all fun v => match v with | .retAddr _ => false | _ => true) = true → ((st.map (jm_tr ro ad)).map fun v => v.category) = st.map fun v => v.category := by
  intro st
  induction st with
  | nil => intro _; rfl
  | cons v st ih =>
    intro h
    simp only [List.all_cons, Bool.and_eq_true] at h
    simp only [List.map_cons]
    rw [ih h.2]
    congr 1
    cases v <;> first | rfl | simp at h
/-- the stack below the arguments is small -/
def jm_low (st : List Value) : Bool := (st.all fun v => match v with | .retAddr _ => false | _ => true) && decide ((st.map fun v => v.category).sum ≤ 8)
theorem jm_low_of {ro ad : Nat → Nat} (h : jm_low st = true) : ((st.map (jm_tr ro ad)).map fun v => v.category).sum ≤ 8 := by
  simp only [jm_low, Bool.and_eq_true, decide_eq_true_eq] at h
  rw [jm_cat st h.1]
  exact h.2
theorem jr_callV {idx np q : Nat} {st0 : List Value} (As : List Value) {ci : Nat} {fs : List (Option (Option Nat))} (hL : jm_LV M.1.cls idx M2 np) (hfit : jm_fit M M2 = true) (hdg : decode M.2.1 pc = .ok (.invokevirtual idx, 3)) (hg : w.1[q]? = some (.inl (ci, fs))) (hci : (vwCl[ci]?).map (fun r => r.1) = some M2.1.cls) (hst : st0 = As.reverse ++ .ref q :: st) (hnp : As.length = np) (hlow : jm_low st = true) (hmc : decide (k + M2.2.2.2.2.cells ≤ M.2.2.2.2.cells ∧ n + M2.2.2.2.2.slots ≤ M.2.2.2.2.slots) = true)
    (kk : jm_Cp g M2 (.ref q :: As) w (fun v w' => w'.2.1 = w.2.1 ∧ jm_R g M κ (k + M2.2.2.2.2.cells) (n + M2.2.2.2.2.slots) (pc + 3) ls (jm_ps v st) w')) : jm_R g M κ k n pc ls st0 w := by
  subst hst
  obtain ⟨p, e, s, m, args, below, meth, c, A, Q⟩ := κ
  intro C H locs la hP hD hS hl
  have C2 := C
  obtain ⟨hx1, hb, hml, hr, hown, hts, hlk, hnm, hSa, hRo, hA⟩ := C2
  obtain ⟨⟨b1, b2, b3, b4, b5⟩, hd1, hd2, hd3⟩ := hL
  have hgood : GoodIn jm_TB (wsV M.1.cls idx M2.1.cls M2.1 (jm_ws M2)) := jm_gpre (fun w hw => by
    rcases List.mem_cons.mp hw with rfl | hw
    · exact b1
    rcases List.mem_cons.mp hw with rfl | hw
    · exact b2
    rcases List.mem_cons.mp hw with rfl | hw
    · exact b3
    rcases List.mem_cons.mp hw with rfl | hw
    · exact b4
    cases hw) b5
  have hrecv : ∃ cellB : Cell, H[w.2.1 q]? = some cellB ∧ cellB.vm.isStatics = false ∧ s.vm.findClass M2.1.cls = some cellB.cls := by
    cases hz : vwCl[ci]? with
    | none => rw [hz] at hci; cases hci
    | some r =>
      rw [hz] at hci
      have e1 : r.1 = M2.1.cls := by simpa using hci
      rw [← e1]
      exact va_recv hSa.1 hP hz (jm_conc_at g w hg)
  have hAA := jm_AA hA hD hS
  refine jm_back (A := A) (va_runV (C := M2.1.cls) (As := As.map (jm_tr g.2.2.2.1 w.2.1)) (rest := st.map (jm_tr g.2.2.2.1 w.2.1)) ⟨hx1, hb, hml, hown, hts⟩ (kk H.size) (cwV np hts hgood rfl rfl rfl ⟨rfl, hd1, hd2, hd3⟩ (jm_fit_of hfit)) ⟨jm_blind, hrecv, jm_enter C hP hD hS (.ref q :: As)⟩ rfl (by rw [List.length_map]; exact hnp) hl.1 (by simp [jm_tr]) (lv_room (jm_low_of hlow)) hdg (of_decide_eq_true hmc)) hS (fun q _ h => hAA q h) hAA (fun v w' H1 locs1 hp hP1 hD1 hS1 => ?_)
  obtain ⟨hw', hR⟩ := hp
  have h9 := hR C H1 locs1 la hP1 (hD1.weaken (fun _ _ _ h => hAA _ h)) hS1 (by rw [hw']; exact hl)
  rw [jm_ps_map, hw'] at h9
  rw [hw']
  exact h9
theorem jr_callS {idx np : Nat} {st0 : List Value} (As : List Value) (hL : jm_LS M.1.cls idx M2 np) (hfit : jm_fit M M2 = true) (hdg : decode M.2.1 pc = .ok (.invokestatic idx, 3)) (hst : st0 = As.reverse ++ st) (hnp : As.length = np) (hlow : jm_low st = true) (hmc : decide (k + M2.2.2.2.2.cells ≤ M.2.2.2.2.cells ∧ n + M2.2.2.2.2.slots ≤ M.2.2.2.2.slots) = true)
    (kk : jm_Cp g M2 As w (fun v w' => w'.2.1 = w.2.1 ∧ jm_R g M κ (k + M2.2.2.2.2.cells) (n + M2.2.2.2.2.slots) (pc + 3) ls (jm_ps v st) w')) : jm_R g M κ k n pc ls st0 w := by
  subst hst
  obtain ⟨p, e, s, m, args, below, meth, c, A, Q⟩ := κ
  intro C H locs la hP hD hS hl
  have C2 := C
  obtain ⟨hx1, hb, hml, hr, hown, hts, hlk, hnm, hSa, hRo, hA⟩ := C2
  obtain ⟨⟨b1, b2, b4, b5⟩, hd1, hd2, hd3⟩ := hL
  have hgood : GoodIn jm_TB (va_wsS M.1.cls idx M2.1 (jm_ws M2)) := jm_gpre (fun w hw => by
    rcases List.mem_cons.mp hw with rfl | hw
    · exact b1
    rcases List.mem_cons.mp hw with rfl | hw
    · exact b2
    rcases List.mem_cons.mp hw with rfl | hw
    · exact b4
    cases hw) b5
  have hAA := jm_AA hA hD hS
  refine jm_back (A := A) (va_runS (As := As.map (jm_tr g.2.2.2.1 w.2.1)) (rest := st.map (jm_tr g.2.2.2.1 w.2.1)) ⟨hx1, hb, hml, hown, hts⟩ (kk H.size) (va_cwS np hts hgood rfl rfl rfl ⟨hd1, hd2, hd3⟩ (jm_fit_of hfit)) ⟨jm_blind, jm_enter C hP hD hS As⟩ rfl (by rw [List.length_map]; exact hnp) hl.1 (by simp) (lv_room (jm_low_of hlow)) hdg (of_decide_eq_true hmc)) hS (fun q _ h => hAA q h) hAA (fun v w' H1 locs1 hp hP1 hD1 hS1 => ?_)
  obtain ⟨hw', hR⟩ := hp
  have h9 := hR C H1 locs1 la hP1 (hD1.weaken (fun _ _ _ h => hAA _ h)) hS1 (by rw [hw']; exact hl)
  rw [jm_ps_map, hw'] at h9
  rw [hw']
  exact h9
theorem jr_callNS {idx np : Nat} {st0 : List Value} (As : List Value) (hL : jm_LNS M.1.cls idx M2 np) (hfit : jm_fit M M2 = true) (hdg : decode M.2.1 pc = .ok (.invokestatic idx, 3)) (hst : st0 = As.reverse ++ st) (hnp : As.length = np) (hlow : jm_low st = true) (hmc : decide (k + M2.2.2.2.2.cells ≤ M.2.2.2.2.cells ∧ n + M2.2.2.2.2.slots ≤ M.2.2.2.2.slots) = true)
    (kk : jm_Cp g M2 As w (fun v w' => w'.2.1 = w.2.1 ∧ jm_R g M κ (k + M2.2.2.2.2.cells) (n + M2.2.2.2.2.slots) (pc + 3) ls (jm_ps v st) w')) : jm_R g M κ k n pc ls st0 w := by
  subst hst
  obtain ⟨p, e, s, m, args, below, meth, c, A, Q⟩ := κ
  intro C H locs la hP hD hS hl
  have C2 := C
  obtain ⟨hx1, hb, hml, hr, hown, hts, hlk, hnm, hSa, hRo, hA⟩ := C2
  obtain ⟨⟨host, b1⟩, ⟨b2, b4, b5⟩, hd1, hd2, hd3⟩ := hL
  have hAA := jm_AA hA hD hS
  refine jm_back (A := A) (va_runSN (As := As.map (jm_tr g.2.2.2.1 w.2.1)) (rest := st.map (jm_tr g.2.2.2.1 w.2.1)) ⟨hx1, hb, hml, hown, hts⟩ (kk H.size) ⟨va_cnB np hts (jm_gws b5) rfl rfl rfl (hSa.2.1 _ b1) (hts _ b4) ⟨hd1, hd2, hd3⟩ (jm_fit_of hfit), hts _ b2, trivial⟩ ⟨jm_blind, jm_enter C hP hD hS As⟩ rfl (by rw [List.length_map]; exact hnp) hl.1 (by simp) (lv_room (jm_low_of hlow)) hdg (of_decide_eq_true hmc)) hS (fun q _ h => hAA q h) hAA (fun v w' H1 locs1 hp hP1 hD1 hS1 => ?_)
  obtain ⟨hw', hR⟩ := hp
  have h9 := hR C H1 locs1 la hP1 (hD1.weaken (fun _ _ _ h => hAA _ h)) hS1 (by rw [hw']; exact hl)
  rw [jm_ps_map, hw'] at h9
  rw [hw']
  exact h9
/-! returns -/
theorem jr_iret {P : Option Value → jm_W → Prop} {v : Int32} (hE : jm_E g M P κ) (hret : M.2.2.2.1 = some .int) (hdg : decode M.2.1 pc = .ok (.ireturn, 1)) (hkn : decide (k ≤ M.2.2.2.2.cells ∧ n ≤ M.2.2.2.2.slots) = true) (hp : P (some (.int v)) w) : jm_R g M κ k n pc ls [.int v] w := by
  obtain ⟨p, e, s, m, args, below, meth, c, A, Q⟩ := κ
  intro C H locs la hP hD hS hl
  obtain ⟨hx1, hb, hml, hr, hown, hts, hlk, hnm, hSa, hRo, hA⟩ := C
  have hkn := of_decide_eq_true hkn
  have hE : Q = _ := hE
  subst hE
  refine W.widen hkn.1 hkn.2 ?_
  exact W.iret (v := v) hx1 hb (by rw [hr]; exact hret) (fun t ht hW => ⟨⟨some (.int v), w, rfl, hp, by rw [ht]; exact hP, hD⟩, hS.F ht⟩) hS.2.2 hdg
theorem jr_zret {P : Option Value → jm_W → Prop} {v : Int32} (hE : jm_E g M P κ) (hret : M.2.2.2.1 = some .boolean) (hdg : decode M.2.1 pc = .ok (.ireturn, 1)) (hkn : decide (k ≤ M.2.2.2.2.cells ∧ n ≤ M.2.2.2.2.slots) = true) (hv : v = 0 ∨ v = 1) (hp : P (some (.int v)) w) : jm_R g M κ k n pc ls [.int v] w := by
  obtain ⟨p, e, s, m, args, below, meth, c, A, Q⟩ := κ
  intro C H locs la hP hD hS hl
  obtain ⟨hx1, hb, hml, hr, hown, hts, hlk, hnm, hSa, hRo, hA⟩ := C
  have hkn := of_decide_eq_true hkn
  have hE : Q = _ := hE
  subst hE
  refine W.widen hkn.1 hkn.2 ?_
  exact W.zret (v := v) (ty := .boolean) hx1 hb (by rw [hr]; exact hret) (by rcases hv with rfl | rfl <;> rfl) (fun t ht hW => ⟨⟨some (.int v), w, rfl, hp, by rw [ht]; exact hP, hD⟩, hS.F ht⟩) hS.2.2 hdg
theorem jr_vret {P : Option Value → jm_W → Prop} (hE : jm_E g M P κ) (hret : M.2.2.2.1 = none) (hdg : decode M.2.1 pc = .ok (.return_, 1)) (hkn : decide (k ≤ M.2.2.2.2.cells ∧ n ≤ M.2.2.2.2.slots) = true) (hp : P none w) : jm_R g M κ k n pc ls [] w := by
  obtain ⟨p, e, s, m, args, below, meth, c, A, Q⟩ := κ
  intro C H locs la hP hD hS hl
  obtain ⟨hx1, hb, hml, hr, hown, hts, hlk, hnm, hSa, hRo, hA⟩ := C
  have hkn := of_decide_eq_true hkn
  have hE : Q = _ := hE
  subst hE
  refine W.widen hkn.1 hkn.2 ?_
  exact W.vret hx1 hb (by rw [hr]; exact hret) (fun t ht hW => ⟨⟨none, w, rfl, hp, by rw [ht]; exact hP, hD⟩, hS.F ht⟩) hS.2.2 hdg
theorem jr_aret {P : Option Value → jm_W → Prop} {q : Nat} {rt : FieldType} (hE : jm_E g M P κ) (hret : M.2.2.2.1 = some rt) (hrt : (∃ nm, rt = .object nm) ∨ ∃ t, rt = .array t) (hdg : decode M.2.1 pc = .ok (.areturn, 1)) (hkn : decide (k ≤ M.2.2.2.2.cells ∧ n ≤ M.2.2.2.2.slots) = true) (hp : P (some (.ref q)) w) : jm_R g M κ k n pc ls [.ref q] w := by
  obtain ⟨p, e, s, m, args, below, meth, c, A, Q⟩ := κ
  intro C H locs la hP hD hS hl
  obtain ⟨hx1, hb, hml, hr, hown, hts, hlk, hnm, hSa, hRo, hA⟩ := C
  have hkn := of_decide_eq_true hkn
  have hE : Q = _ := hE
  subst hE
  refine W.widen hkn.1 hkn.2 ?_
  exact W.aret (v := .ref (w.2.1 q)) hx1 hb (by rw [hr]; exact hret) hrt (Or.inr ⟨_, rfl⟩) (fun t ht hW => ⟨⟨some (.ref q), w, rfl, hp, by rw [ht]; exact hP, hD⟩, hS.F ht⟩) hS.2.2 hdg
/-! Math and System -/
def jm_LM (own : String) (idx : Nat) (y : MethodName) (code9 : ByteArray) (mx : Nat) : Prop := Cond.methodLink own idx y ∈ jm_TB ∧ Cond.static y ∈ jm_TB ∧ Cond.initialized "java/lang/Math" ∈ jm_TB ∧ Cond.code y code9 mx (some .int) ∈ jm_TB
theorem jr_max {idx : Nat} {x y : Int32} (hL : jm_LM M.1.cls idx Lib.Math.max.name Lib.Math.max.code 2) (hdg : decode M.2.1 pc = .ok (.invokestatic idx, 3)) (hR : decide (1 ≤ M.2.2.2.2.frames ∧ 21 ≤ M.2.2.2.2.locals) = true) (hlow : jm_low st = true) (hkn : decide (k ≤ M.2.2.2.2.cells ∧ n ≤ M.2.2.2.2.slots) = true) (kk : jm_R g M κ k n (pc + 3) ls (.int (if x < y then y else x) :: st) w) : jm_R g M κ k n pc ls (.int y :: .int x :: st) w := by
  obtain ⟨p, e, s, m, args, below, meth, c, A, Q⟩ := κ
  intro C H locs la hP hD hS hl
  have kk := kk C H locs la hP hD hS hl
  obtain ⟨hx1, hb, hml, hr, hown, hts, hlk, hnm, hSa, hRo, hA⟩ := C
  have hkn := of_decide_eq_true hkn
  have hR := of_decide_eq_true hR
  have hlow := jm_low_of (ro := g.2.2.2.1) (ad := w.2.1) hlow
  exact va_mmax hx1 hb (by rw [hml, hl.1]) hown (hts _ hL.1) (hts _ hL.2.1) (hts _ hL.2.2.1) (hts _ hL.2.2.2) hR.1 (by omega) hkn.1 hkn.2 hdg kk
theorem jr_min {idx : Nat} {x y : Int32} (hL : jm_LM M.1.cls idx Lib.Math.min.name Lib.Math.min.code 2) (hdg : decode M.2.1 pc = .ok (.invokestatic idx, 3)) (hR : decide (1 ≤ M.2.2.2.2.frames ∧ 21 ≤ M.2.2.2.2.locals) = true) (hlow : jm_low st = true) (hkn : decide (k ≤ M.2.2.2.2.cells ∧ n ≤ M.2.2.2.2.slots) = true) (kk : jm_R g M κ k n (pc + 3) ls (.int (if y < x then y else x) :: st) w) : jm_R g M κ k n pc ls (.int y :: .int x :: st) w := by
  obtain ⟨p, e, s, m, args, below, meth, c, A, Q⟩ := κ
  intro C H locs la hP hD hS hl
  have kk := kk C H locs la hP hD hS hl
  obtain ⟨hx1, hb, hml, hr, hown, hts, hlk, hnm, hSa, hRo, hA⟩ := C
  have hkn := of_decide_eq_true hkn
  have hR := of_decide_eq_true hR
  have hlow := jm_low_of (ro := g.2.2.2.1) (ad := w.2.1) hlow
  exact va_mmin hx1 hb (by rw [hml, hl.1]) hown (hts _ hL.1) (hts _ hL.2.1) (hts _ hL.2.2.1) (hts _ hL.2.2.2) hR.1 (by omega) hkn.1 hkn.2 hdg kk
theorem jr_abs {idx : Nat} {x : Int32} (hL : jm_LM M.1.cls idx Lib.Math.abs.name Lib.Math.abs.code 1) (hdg : decode M.2.1 pc = .ok (.invokestatic idx, 3)) (hR : decide (1 ≤ M.2.2.2.2.frames ∧ 21 ≤ M.2.2.2.2.locals) = true) (hlow : jm_low st = true) (hkn : decide (k ≤ M.2.2.2.2.cells ∧ n ≤ M.2.2.2.2.slots) = true) (kk : jm_R g M κ k n (pc + 3) ls (.int (if 0 ≤ x then x else 0 - x) :: st) w) : jm_R g M κ k n pc ls (.int x :: st) w := by
  obtain ⟨p, e, s, m, args, below, meth, c, A, Q⟩ := κ
  intro C H locs la hP hD hS hl
  have kk := kk C H locs la hP hD hS hl
  obtain ⟨hx1, hb, hml, hr, hown, hts, hlk, hnm, hSa, hRo, hA⟩ := C
  have hkn := of_decide_eq_true hkn
  have hR := of_decide_eq_true hR
  have hlow := jm_low_of (ro := g.2.2.2.1) (ad := w.2.1) hlow
  exact va_mabs hx1 hb (by rw [hml, hl.1]) hown (hts _ hL.1) (hts _ hL.2.1) (hts _ hL.2.2.1) (hts _ hL.2.2.2) hR.1 (by omega) hkn.1 hkn.2 hdg kk
def jm_LC (own : String) (idx : Nat) : Prop := Cond.methodLink own idx arraycopyName ∈ jm_TB ∧ Cond.native arraycopyName ∈ jm_TB ∧ Cond.static arraycopyName ∈ jm_TB ∧ Cond.initialized "java/lang/System" ∈ jm_TB
theorem jr_copy {idx q1 q0 n0 n1 : Nat} {sp dp ln : Int32} {Γ : List jm_Sh} {ad : Nat → Nat} {μ : Nat → Nat → Int32} (hL : jm_LC M.1.cls idx) (hdg : decode M.2.1 pc = .ok (.invokestatic idx, 3)) (hR : decide (1 ≤ M.2.2.2.2.frames ∧ nativeFrameWords "java/lang/System" "arraycopy" 5 + 19 ≤ M.2.2.2.2.locals) = true) (hlow : jm_low st = true) (hg0 : Γ[q0]? = some (.inr (0, n0, none))) (hg1 : Γ[q1]? = some (.inr (0, n1, none)))
    (h1 : ¬ sp < 0) (h2 : ¬ dp < 0) (h3 : ¬ ln < 0) (h4 : sp.toNatClampNeg + ln.toNatClampNeg ≤ n0) (h5 : dp.toNatClampNeg + ln.toNatClampNeg ≤ n1)
    (kk : jm_R g M κ k n (pc + 3) ls st (Γ, ad, jm_up μ q1 (va_cpy (μ q0) (μ q1) sp.toNatClampNeg dp.toNatClampNeg ln.toNatClampNeg))) : jm_R g M κ k n pc ls (.int ln :: .int dp :: .ref q1 :: .int sp :: .ref q0 :: st) (Γ, ad, μ) := by
  obtain ⟨p, e, s, m, args, below, meth, c, A, Q⟩ := κ
  intro C H locs la hP hD hS hl
  have kk := kk C
  obtain ⟨hx1, hb, hml, hr, hown, hts, hlk, hnm, hSa, hRo, hA⟩ := C
  have hR := of_decide_eq_true hR
  have hlow := jm_low_of (ro := g.2.2.2.1) (ad := (Γ, ad, μ).2.1) hlow
  have e9 : (jm_conc g (Γ, ad, μ)).set q1 (ad q1, .inl (g.2.2.1 0, n1, .inl (va_cpy (μ q0) (μ q1) sp.toNatClampNeg dp.toNatClampNeg ln.toNatClampNeg))) = jm_conc g (Γ, ad, jm_up μ q1 (va_cpy (μ q0) (μ q1) sp.toNatClampNeg dp.toNatClampNeg ln.toNatClampNeg)) := jm_conc_set g Γ ad μ _ hg1
  refine va_copyi hx1 hb (by rw [hml, hl.1]) hown (hts _ hL.1) (hts _ hL.2.1) (hts _ hL.2.2.1) (hts _ hL.2.2.2) hSa.1 hP hD hS q0 q1 0 0 (ty := .int) (jm_conc_at g (Γ, ad, μ) hg0) (jm_conc_at g (Γ, ad, μ) hg1) rfl rfl rfl h1 h2 h3 h4 h5 (fun i _ => rfl) hR.1 (by omega) hdg (fun H1 locs1 hP1 hD1 hS1 => ?_)
  dsimp only at hP1 hD1
  rw [e9] at hP1 hD1
  exact kk H1 locs1 la hP1 hD1 hS1 hl
end JMD
end
section
section JMA
variable {g : jm_G} {M M2 : jm_M} {κ : jm_K} {k n pc : Nat} {ls : List (Option Value)} {st : List Value}
/-- references in locals and stack are below b -/
def jm_rok (b : Nat) (ls : List (Option Value)) (st : List Value) : Prop := (∀ r : Nat, some (Value.ref r) ∈ ls → r < b) ∧ ∀ r : Nat, Value.ref r ∈ st → r < b
def jm_shok (b : Nat) (sh : jm_Sh) : Prop := match sh with
  | .inl o => ∀ r : Nat, some (some r) ∈ o.2 → r < b
  | .inr (_, _, none) => True
  | .inr (_, _, some f) => ∀ j r : Nat, f j = some r → r < b
def jm_wf (Γ : List jm_Sh) : Prop := ∀ sh ∈ Γ, jm_shok Γ.length sh
theorem jm_shok.mono {b b' : Nat} {sh : jm_Sh} (h : jm_shok b sh) (hb : b ≤ b') : jm_shok b' sh := by
  match sh, h with
  | .inl o, h => exact fun r hr => Nat.lt_of_lt_of_le (h r hr) hb
  | .inr (_, _, none), _ => exact trivial
  | .inr (_, _, some f), h => exact fun j r hr => Nat.lt_of_lt_of_le (h j r hr) hb
theorem jm_wf.push {Γ : List jm_Sh} {sh : jm_Sh} (h : jm_wf Γ) (hs : jm_shok (Γ.length + 1) sh) : jm_wf (Γ ++ [sh]) := by
  intro x hx
  rw [List.length_append]
  rcases List.mem_append.mp hx with hx | hx
  · exact (h x hx).mono (Nat.le_add_right _ _)
  · rw [List.mem_singleton.mp hx]; exact hs
theorem jm_wf.set {Γ : List jm_Sh} {k : Nat} {sh : jm_Sh} (h : jm_wf Γ) (hs : jm_shok Γ.length sh) : jm_wf (Γ.set k sh) := by
  intro x hx
  rw [List.length_set]
  rcases List.mem_or_eq_of_mem_set hx with hx | hx
  · exact h x hx
  · rw [hx]; exact hs
/-- addresses with one more cell -/
def jm_adn (ad : Nat → Nat) (b q : Nat) : Nat → Nat := fun x => if x = b then q else ad x
theorem jm_adn_lt {ad : Nat → Nat} {b q r : Nat} (h : r < b) : jm_adn ad b q r = ad r := by simp [jm_adn, Nat.ne_of_lt h]
theorem jm_adn_self {ad : Nat → Nat} {b q : Nat} : jm_adn ad b q b = q := by simp [jm_adn]
theorem jm_fs_eq {ad ad' : Nat → Nat} {fs : List (Option (Option Nat))} {f : Nat → Int32} (h : ∀ r : Nat, some (some r) ∈ fs → ad' r = ad r) : jm_fs ad' fs f = jm_fs ad fs f := by
  unfold jm_fs
  apply List.ext_getElem?
  intro i
  simp only [List.getElem?_mapIdx]
  cases hz : fs[i]? with
  | none => rfl
  | some o =>
    match o, hz with
    | none, _ => rfl
    | some none, _ => rfl
    | some (some r), hz =>
      simp only [Option.map_some, jm_fv]
      rw [h r (List.mem_of_getElem? hz)]
theorem jm_ent_eq {cA : Nat → ClassId} {ad ad' : Nat → Nat} {b : Nat} {sh : jm_Sh} {f : Nat → Int32} (h : jm_shok b sh) (ha : ∀ r, r < b → ad' r = ad r) : jm_ent cA ad' sh f = jm_ent cA ad sh f := by
  match sh, h with
  | .inl o, h => simp only [jm_ent]; rw [jm_fs_eq (fun r hr => ha r (h r hr))]
  | .inr (_, _, none), _ => rfl
  | .inr (_, _, some r), h =>
    simp only [jm_ent]
    have e : (fun j => (r j).map ad') = fun j => (r j).map ad := by
      funext j
      cases hz : r j with
      | none => rfl
      | some x => simp [ha x (h j x hz)]
    rw [e]
theorem jm_conc_push {Γ : List jm_Sh} {ad : Nat → Nat} {μ : Nat → Nat → Int32} (hwf : jm_wf Γ) (q : Nat) (sh : jm_Sh) (hs : jm_shok Γ.length sh) : jm_conc g (Γ ++ [sh], jm_adn ad Γ.length q, jm_up μ Γ.length (fun _ => 0)) = jm_conc g (Γ, ad, μ) ++ [(q, jm_ent g.2.2.1 ad sh (fun _ => 0))] := by
  apply List.ext_getElem?
  intro i
  have hlen : (jm_conc g (Γ, ad, μ)).length = Γ.length := by simp [jm_conc]
  have ha : ∀ r, r < Γ.length → jm_adn ad Γ.length q r = ad r := fun r hr => jm_adn_lt hr
  by_cases hi : i < Γ.length
  · rw [List.getElem?_append_left (by rw [hlen]; exact hi)]
    have hz : (Γ ++ [sh])[i]? = some Γ[i] := by rw [List.getElem?_append_left hi]; exact List.getElem?_eq_getElem hi
    rw [jm_conc_at g (Γ ++ [sh], jm_adn ad Γ.length q, jm_up μ Γ.length (fun _ => 0)) hz, jm_conc_at g (Γ, ad, μ) (List.getElem?_eq_getElem hi)]
    dsimp only
    rw [jm_adn_lt hi, jm_ent_eq (hwf _ (List.getElem_mem hi)) ha, jm_up_n _ _ (Nat.ne_of_lt hi)]
  · rw [List.getElem?_append_right (by rw [hlen]; omega), hlen]
    by_cases hi2 : i = Γ.length
    · subst hi2
      have hz : (Γ ++ [sh])[Γ.length]? = some sh := by simp
      rw [jm_conc_at g (Γ ++ [sh], jm_adn ad Γ.length q, jm_up μ Γ.length (fun _ => 0)) hz]
      dsimp only
      rw [jm_adn_self, jm_up_s, jm_ent_eq hs ha]
      simp
    · have hz : (Γ ++ [sh])[i]? = none := by rw [List.getElem?_eq_none]; simp; omega
      have h1 : (jm_conc g (Γ ++ [sh], jm_adn ad Γ.length q, jm_up μ Γ.length (fun _ => 0)))[i]? = none := by simp [jm_conc, List.getElem?_mapIdx]; omega
      rw [h1]
      exact (List.getElem?_eq_none (by simp; omega)).symm
theorem jm_ls_eq {ro ad ad' : Nat → Nat} {ls : List (Option Value)} (h : ∀ r : Nat, some (Value.ref r) ∈ ls → ad' r = ad r) : ∀ q ∈ jm_ls ro ad' ls, q ∈ jm_ls ro ad ls := by
  intro q hq
  obtain ⟨v, h1, h2⟩ := jm_ls_in.mp hq
  refine jm_ls_in.mpr ⟨v, h1, ?_⟩
  rw [h2]
  cases v <;> first | rfl | (simp only [jm_tr]; rw [h _ (List.mem_of_getElem? h1)])
theorem jm_st_eq {ro ad ad' : Nat → Nat} {st : List Value} (h : ∀ r : Nat, Value.ref r ∈ st → ad' r = ad r) : st.map (jm_tr ro ad') = st.map (jm_tr ro ad) := by
  apply List.map_congr_left
  intro v hv
  cases v <;> first | rfl | (simp only [jm_tr]; rw [h _ hv])
/-- Object's own constructor -/
def jm_LO (own : String) (idx : Nat) : Prop := Cond.methodLink own idx objectInit ∈ jm_TB ∧ Cond.instanceMethod objectInit ∈ jm_TB ∧ Cond.code objectInit ⟨#[0xb1]⟩ 1 none ∈ jm_TB
theorem jr_objInit {w : jm_W} {idx q : Nat} (hL : jm_LO M.1.cls idx) (hdg : decode M.2.1 pc = .ok (.invokespecial idx, 3)) (hR : decide (1 ≤ M.2.2.2.2.frames ∧ 20 ≤ M.2.2.2.2.locals) = true) (hlow : jm_low st = true) (kk : jm_R g M κ k n (pc + 3) ls st w) : jm_R g M κ k n pc ls (.ref q :: st) w := by
  obtain ⟨p, e, s, m, args, below, meth, c, A, Q⟩ := κ
  intro C H locs la hP hD hS hl
  have kk := kk C H locs la hP hD hS hl
  obtain ⟨hx1, hb, hml, hr, hown, hts, hlk, hnm, hSa, hRo, hA⟩ := C
  have hR := of_decide_eq_true hR
  have hlow := jm_low_of (ro := g.2.2.2.1) (ad := w.2.1) hlow
  refine W.objInit hx1 hb hown (hts _ hL.1) (hts _ hL.2.1) (hts _ hL.2.2) rfl (by rw [hml]; exact hl.1) (rest := st.map (jm_tr g.2.2.2.1 w.2.1)) rfl hdg hR.1 ?_ ?_
  · show 2 * 0 + _ + 12 ≤ _
    omega
  · exact kk
/-- a new object -/
def jm_LN (own : String) (idx ci : Nat) (fs : List (Option (Option Nat))) (N : Nat) : Prop := ∃ (r : vw_C) (t0 : Nat → FieldType), jm_Cls ci r t0 ∧ r.2.2 = N ∧ Cond.classLink own idx r.1 ∈ jm_TB ∧ Cond.instantiable r.1 r.2.2 ∈ jm_TB ∧ Cond.initialized r.1 ∈ jm_TB ∧ (∀ ad : Nat → Nat, ∀ j : Nat, j < r.2.2 → defaultValue (t0 j) = vp_V (jm_fs ad fs (fun _ => 0)) j) ∧ ∀ r : Nat, some (some r) ∉ fs
theorem jr_new {Γ : List jm_Sh} {ad : Nat → Nat} {μ : Nat → Nat → Int32} {idx N : Nat} (ci : Nat) (fs : List (Option (Option Nat))) (hL : jm_LN M.1.cls idx ci fs N) (hdg : decode M.2.1 pc = .ok (.new idx, 3)) (hwf : jm_wf Γ) (hok : jm_rok Γ.length ls st) (hkn : decide (k + 1 ≤ M.2.2.2.2.cells ∧ n + N ≤ M.2.2.2.2.slots) = true)
    (kk : ∀ q : Nat, jm_R g M κ (k + 1) (n + N) (pc + 3) ls (.ref Γ.length :: st) (Γ ++ [.inl (ci, fs)], jm_adn ad Γ.length q, jm_up μ Γ.length (fun _ => 0))) : jm_R g M κ k n pc ls st (Γ, ad, μ) := by
  obtain ⟨p, e, s, m, args, below, meth, c, A, Q⟩ := κ
  intro C H locs la hP hD hS hl
  have kk := fun q => kk q C
  obtain ⟨hx1, hb, hml, hr, hown, hts, hlk, hnm, hSa, hRo, hA⟩ := C
  obtain ⟨⟨CN, T, N'⟩, t0, ⟨hc, hin, hty, hnd⟩, hN, w1, w2, w3, hdf, hnr⟩ := hL
  have hN : N' = N := hN
  subst hN
  have hkn := of_decide_eq_true hkn
  have hsok : jm_shok Γ.length (.inl (ci, fs)) := fun r hr => absurd hr (hnr r)
  refine va_new (D := g.2.1) (cl := vwCl) (ci := ci) (fs := jm_fs ad fs (fun _ => 0)) (C := CN) (T := T) (N := N') hx1 hb hts hin t0 hty hown (hts _ w1) (hts _ w2) (hts _ w3) hSa.1 hP hD hS hA hc (hdf ad) hkn.1 hkn.2 hdg (fun q H1 hP1 hD1 hS1 => ?_)
  have e9 := jm_conc_push (g := g) (ad := ad) (μ := μ) hwf q (.inl (ci, fs)) hsok
  have h9 := kk q H1 locs la (by rw [e9]; exact hP1) (by rw [e9]; exact hD1) hS1 (jm_has hl (jm_ls_eq (fun r hr => jm_adn_lt (hok.1 r hr))))
  have e8 : (Value.ref Γ.length :: st).map (jm_tr g.2.2.2.1 (jm_adn ad Γ.length q)) = .ref q :: st.map (jm_tr g.2.2.2.1 ad) := by
    rw [List.map_cons, jm_st_eq (fun r hr => jm_adn_lt (hok.2 r hr))]
    show Value.ref (jm_adn ad Γ.length q Γ.length) :: _ = _
    rw [jm_adn_self]
  dsimp only at h9
  rw [e8] at h9
  exact h9
/-- all arrays of one class have one class: from the tables -/
theorem jm_same_cls {U : State} {D : va_G} {cl : List vw_C} {tys : List (ClassId × FieldType)} {cA c1 : ClassId} {ty : FieldType} {i : Nat} (h : va_K D cl (tys ++ [(cA, ty)]) U) (hi : tys[i]? = some (c1, ty)) : cA = c1 := by
  have hl := (List.getElem?_eq_some_iff.mp hi).1
  have h1 := (h.2 i (c1, ty) (by rw [List.getElem?_append_left hl]; exact hi)).2
  have h2 := (h.2 tys.length (cA, ty) (by simp)).2
  cases ty with
  | object C =>
    obtain ⟨_, _, _, _, _, a4⟩ := h1
    obtain ⟨_, _, _, _, _, b4⟩ := h2
    exact Option.some.inj (b4.symm.trans a4)
  | _ => exact Option.some.inj (h2.symm.trans h1)
/-- a new array of numbers -/
theorem jr_newa {Γ : List jm_Sh} {ad : Nat → Nat} {μ : Nat → Nat → Int32} {atype : ArrayType} {x : Int32} (kd len : Nat) {ty : FieldType} (hdg : decode M.2.1 pc = .ok (.newarray atype, 2)) (hty : newarray.typeOf atype = ty) (hkd : (jm_tys g)[kd]? = some (g.2.2.1 kd, ty)) (hdef : defaultValue ty = .int 0) (hw : Cond.arrayClass (newarray.typeOf atype) ∈ jm_TB) (hx : x = Int32.ofNat len) (hlen : decide (len < 100000) = true) (hcb : componentBytes ty ≤ 8) (hwf : jm_wf Γ) (hok : jm_rok Γ.length ls st) (hkn : decide (k + 1 ≤ M.2.2.2.2.cells ∧ n + len ≤ M.2.2.2.2.slots) = true)
    (kk : ∀ q : Nat, jm_R g M κ (k + 1) (n + len) (pc + 2) ls (.ref Γ.length :: st) (Γ ++ [.inr (kd, len, none)], jm_adn ad Γ.length q, jm_up μ Γ.length (fun _ => 0))) : jm_R g M κ k n pc ls (.int x :: st) (Γ, ad, μ) := by
  obtain ⟨p, e, s, m, args, below, meth, c, A, Q⟩ := κ
  intro C H locs la hP hD hS hl
  have kk := fun q => kk q C
  obtain ⟨hx1, hb, hml, hr, hown, hts, hlk, hnm, hSa, hRo, hA⟩ := C
  have hkn := of_decide_eq_true hkn
  have hlen := of_decide_eq_true hlen
  subst hx
  have hsok : jm_shok Γ.length (.inr (kd, len, none)) := trivial
  have e7 : (Int32.ofNat len).toNatClampNeg = len := Int32.toNatClampNeg_ofNat_of_lt (by omega)
  refine va_newa (D := g.2.1) (cl := vwCl) (a0 := (len, .inl (fun _ => 0))) (N' := len) hx1 hb (hts _ hw) hty hSa.1 hP hD hS hA (fun cA => by rw [vp_cell_i, hdef]) (nI_pos (n := len) (by omega)) e7 (by have := Nat.mul_le_mul (Nat.le_of_lt hlen) hcb; omega) hkn.1 hkn.2 hdg (fun q cA H1 hK1 hP1 hD1 hS1 => ?_)
  have hcA := jm_same_cls hK1 hkd
  subst hcA
  have e9 := jm_conc_push (g := g) (ad := ad) (μ := μ) hwf q (.inr (kd, len, none)) hsok
  have h9 := kk q H1 locs la (by rw [e9]; exact hP1) (by rw [e9]; exact hD1) hS1 (jm_has hl (jm_ls_eq (fun r hr => jm_adn_lt (hok.1 r hr))))
  have e8 : (Value.ref Γ.length :: st).map (jm_tr g.2.2.2.1 (jm_adn ad Γ.length q)) = .ref q :: st.map (jm_tr g.2.2.2.1 ad) := by
    rw [List.map_cons, jm_st_eq (fun r hr => jm_adn_lt (hok.2 r hr))]
    show Value.ref (jm_adn ad Γ.length q Γ.length) :: _ = _
    rw [jm_adn_self]
  dsimp only at h9
  rw [e8] at h9
  exact h9
/-- a new array of references -/
theorem jr_newq {Γ : List jm_Sh} {ad : Nat → Nat} {μ : Nat → Nat → Int32} {idx : Nat} {x : Int32} (kd len : Nat) {CN : String} (hdg : decode M.2.1 pc = .ok (.anewarray idx, 3)) (hkd : (kd = 3 ∧ CN = RX3) ∨ (kd = 4 ∧ CN = RX6)) (hw : Cond.classLink M.1.cls idx CN ∈ jm_TB) (hx : x = Int32.ofNat len) (hlen : decide (len < 100000) = true) (hwf : jm_wf Γ) (hok : jm_rok Γ.length ls st) (hkn : decide (k + 1 ≤ M.2.2.2.2.cells ∧ n + len ≤ M.2.2.2.2.slots) = true)
    (kk : ∀ q : Nat, jm_R g M κ (k + 1) (n + len) (pc + 3) ls (.ref Γ.length :: st) (Γ ++ [.inr (kd, len, some (fun _ => none))], jm_adn ad Γ.length q, jm_up μ Γ.length (fun _ => 0))) : jm_R g M κ k n pc ls (.int x :: st) (Γ, ad, μ) := by
  obtain ⟨p, e, s, m, args, below, meth, c, A, Q⟩ := κ
  intro C H locs la hP hD hS hl
  have kk := fun q => kk q C
  obtain ⟨hx1, hb, hml, hr, hown, hts, hlk, hnm, hSa, hRo, hA⟩ := C
  have hkn := of_decide_eq_true hkn
  have hlen := of_decide_eq_true hlen
  subst hx
  have hsok : jm_shok Γ.length (.inr (kd, len, some (fun _ => none))) := fun j r hr => by cases hr
  have e7 : (Int32.ofNat len).toNatClampNeg = len := Int32.toNatClampNeg_ofNat_of_lt (by omega)
  have hAO : va_AO CN s := by
    rcases hkd with ⟨-, rfl⟩ | ⟨-, rfl⟩
    · exact hSa.2.2.1
    · exact hSa.2.2.2
  refine va_newq (D := g.2.1) (cl := vwCl) (N' := len) hx1 hb hown (hts _ hw) hAO hSa.1 hP hD hS hA (nI_pos (n := len) (by omega)) e7 (by omega) hkn.1 hkn.2 hdg (fun q cA H1 hK1 hP1 hD1 hS1 => ?_)
  have hcA : cA = g.2.2.1 kd := by
    rcases hkd with ⟨rfl, rfl⟩ | ⟨rfl, rfl⟩
    · exact jm_same_cls (i := 3) hK1 rfl
    · exact jm_same_cls (i := 4) hK1 rfl
  subst hcA
  have e9 := jm_conc_push (g := g) (ad := ad) (μ := μ) hwf q (.inr (kd, len, some (fun _ => none))) hsok
  have h9 := kk q H1 locs la (by rw [e9]; exact hP1) (by rw [e9]; exact hD1) hS1 (jm_has hl (jm_ls_eq (fun r hr => jm_adn_lt (hok.1 r hr))))
  have e8 : (Value.ref Γ.length :: st).map (jm_tr g.2.2.2.1 (jm_adn ad Γ.length q)) = .ref q :: st.map (jm_tr g.2.2.2.1 ad) := by
    rw [List.map_cons, jm_st_eq (fun r hr => jm_adn_lt (hok.2 r hr))]
    show Value.ref (jm_adn ad Γ.length q Γ.length) :: _ = _
    rw [jm_adn_self]
  dsimp only at h9
  rw [e8] at h9
  exact h9
/-- a reference is put into an array of references -/
theorem jr_aast {Γ : List jm_Sh} {ad : Nat → Nat} {μ : Nat → Nat → Int32} {q r len kd ci : Nat} {i : Int32} {f : Nat → Option Nat} {fs : List (Option (Option Nat))} (Γ' : List jm_Sh) (hdg : decode M.2.1 pc = .ok (.aastore, 1)) (hkd : (kd = 3 ∧ ci = 3) ∨ (kd = 4 ∧ ci = 6)) (hg : Γ[q]? = some (.inr (kd, len, some f))) (hr : Γ[r]? = some (.inl (ci, fs))) (hi : vp_in i len) (hG : Γ.set q (.inr (kd, len, some (va_up f i.toNatClampNeg (some r)))) = Γ') (kk : jm_R g M κ k n (pc + 1) ls st (Γ', ad, μ)) : jm_R g M κ k n pc ls (.ref r :: .int i :: .ref q :: st) (Γ, ad, μ) := by
  obtain ⟨p, e, s, m, args, below, meth, c, A, Q⟩ := κ
  intro C H locs la hP hD hS hl
  subst hG
  have kk := kk C
  obtain ⟨hx1, hb, hml, hr1, hown, hts, hlk, hnm, hSa, hRo, hA⟩ := C
  have e9 : (jm_conc g (Γ, ad, μ)).set q (ad q, .inl (g.2.2.1 kd, len, .inr (.inr (.inr (.inr (va_up (fun j => (f j).map ad) i.toNatClampNeg (some (ad r)))))))) = jm_conc g (Γ.set q (.inr (kd, len, some (va_up f i.toNatClampNeg (some r)))), ad, μ) := by
    have e7 := jm_conc_shape g Γ ad μ (.inr (kd, len, some (va_up f i.toNatClampNeg (some r)))) (List.getElem?_eq_some_iff.mp hg).1
    rw [← e7]
    congr 1
    simp only [jm_ent]
    congr 8
    funext j
    by_cases hj : j = i.toNatClampNeg <;> simp [va_up, hj]
  rcases hkd with ⟨rfl, rfl⟩ | ⟨rfl, rfl⟩
  · refine va_astq hx1 hb hSa.1 hP hD hS q 3 r 3 (r := (RX3, TX3, 3)) (jm_conc_at g (Γ, ad, μ) hg) rfl (jm_conc_at g (Γ, ad, μ) hr) rfl hi hdg (fun H1 locs1 hP1 hD1 hS1 => ?_)
    dsimp only at hP1 hD1
    rw [e9] at hP1 hD1
    exact kk H1 locs1 la hP1 hD1 hS1 hl
  · refine va_astq hx1 hb hSa.1 hP hD hS q 4 r 6 (r := (RX6, TX6, 6)) (jm_conc_at g (Γ, ad, μ) hg) rfl (jm_conc_at g (Γ, ad, μ) hr) rfl hi hdg (fun H1 locs1 hP1 hD1 hS1 => ?_)
    dsimp only at hP1 hD1
    rw [e9] at hP1 hD1
    exact kk H1 locs1 la hP1 hD1 hS1 hl
/-- a constructor's call; the callee may make cells -/
theorem jr_callI {w : jm_W} {idx q : Nat} (hL : jm_LI M.1.cls idx M2 0) (hfit : jm_fit M M2 = true) (hdg : decode M.2.1 pc = .ok (.invokespecial idx, 3)) (hlow : jm_low st = true) (hok : jm_rok w.1.length ls st) (hmc : decide (k + M2.2.2.2.2.cells ≤ M.2.2.2.2.cells ∧ n + M2.2.2.2.2.slots ≤ M.2.2.2.2.slots) = true)
    (kk : jm_Cp g M2 [.ref q] w (fun v w' => v = none ∧ (∀ r, r < w.1.length → w'.2.1 r = w.2.1 r) ∧ jm_R g M κ (k + M2.2.2.2.2.cells) (n + M2.2.2.2.2.slots) (pc + 3) ls st w')) : jm_R g M κ k n pc ls (.ref q :: st) w := by
  obtain ⟨p, e, s, m, args, below, meth, c, A, Q⟩ := κ
  intro C H locs la hP hD hS hl
  have C2 := C
  obtain ⟨hx1, hb, hml, hr, hown, hts, hlk, hnm, hSa, hRo, hA⟩ := C2
  obtain ⟨⟨b1, b2, b4, b5, b6, b7⟩, hd1, hd2, hd3⟩ := hL
  have hAA := jm_AA hA hD hS
  refine jm_back (A := A) (va_runI (As := []) (rest := st.map (jm_tr g.2.2.2.1 w.2.1)) ⟨hx1, hb, hml, hown, hts⟩ (kk H.size) (cwI 0 hts (jm_gws (by rw [b7]; exact b5)) (by rw [jm_ws, b7]) rfl rfl (hts _ b4) (hts _ b1) (hts _ b2) b6 ⟨hd1, hd2, hd3⟩ (jm_fit_of hfit)) ⟨jm_blind, jm_enter C hP hD hS [.ref q]⟩ rfl rfl hl.1 rfl (lv_room (jm_low_of hlow)) hdg (of_decide_eq_true hmc)) hS (fun q _ h => hAA q h) hAA (fun v w' H1 locs1 hp hP1 hD1 hS1 => ?_)
  obtain ⟨rfl, hw', hR⟩ := hp
  have h9 := hR C H1 locs1 la hP1 (hD1.weaken (fun _ _ _ h => hAA _ h)) hS1 (jm_has hl (jm_ls_eq (fun r hr => hw' r (hok.1 r hr))))
  rw [jm_st_eq (fun r hr => hw' r (hok.2 r hr))] at h9
  exact h9
theorem jr_callNI {w : jm_W} {idx q : Nat} (hL : jm_LNI M.1.cls idx M2 0) (hfit : jm_fit M M2 = true) (hdg : decode M.2.1 pc = .ok (.invokespecial idx, 3)) (hlow : jm_low st = true) (hok : jm_rok w.1.length ls st) (hmc : decide (k + M2.2.2.2.2.cells ≤ M.2.2.2.2.cells ∧ n + M2.2.2.2.2.slots ≤ M.2.2.2.2.slots) = true)
    (kk : jm_Cp g M2 [.ref q] w (fun v w' => v = none ∧ (∀ r, r < w.1.length → w'.2.1 r = w.2.1 r) ∧ jm_R g M κ (k + M2.2.2.2.2.cells) (n + M2.2.2.2.2.slots) (pc + 3) ls st w')) : jm_R g M κ k n pc ls (.ref q :: st) w := by
  obtain ⟨p, e, s, m, args, below, meth, c, A, Q⟩ := κ
  intro C H locs la hP hD hS hl
  have C2 := C
  obtain ⟨hx1, hb, hml, hr, hown, hts, hlk, hnm, hSa, hRo, hA⟩ := C2
  obtain ⟨⟨host, b1⟩, ⟨b2, b4, b5, b6, b7⟩, hd1, hd2, hd3⟩ := hL
  have hAA := jm_AA hA hD hS
  refine jm_back (A := A) (va_runIN (As := []) (rest := st.map (jm_tr g.2.2.2.1 w.2.1)) ⟨hx1, hb, hml, hown, hts⟩ (kk H.size) ⟨va_cnB 0 hts (jm_gws (by rw [b7]; exact b5)) (by rw [jm_ws, b7]) rfl rfl (hSa.2.1 _ b1) (hts _ b4) ⟨hd1, hd2, hd3⟩ (jm_fit_of hfit), b6, hts _ b2⟩ ⟨jm_blind, jm_enter C hP hD hS [.ref q]⟩ rfl rfl hl.1 rfl (lv_room (jm_low_of hlow)) hdg (of_decide_eq_true hmc)) hS (fun q _ h => hAA q h) hAA (fun v w' H1 locs1 hp hP1 hD1 hS1 => ?_)
  obtain ⟨rfl, hw', hR⟩ := hp
  have h9 := hR C H1 locs1 la hP1 (hD1.weaken (fun _ _ _ h => hAA _ h)) hS1 (jm_has hl (jm_ls_eq (fun r hr => hw' r (hok.1 r hr))))
  rw [jm_st_eq (fun r hr => hw' r (hok.2 r hr))] at h9
  exact h9
end JMA
end
section
section JML
theorem jl_in0 : ∀ w ∈ u_ws RX0 TX0 4, w ∈ jm_TB := by
  show ∀ w ∈ [u_lay RX0 TX0 0, u_lay RX0 TX0 1, u_lay RX0 TX0 2, u_lay RX0 TX0 3], w ∈ jm_TB
  exact List.forall_mem_cons.mpr ⟨jm_tb 187 (by decide +kernel) rfl, List.forall_mem_cons.mpr ⟨jm_tb 189 (by decide +kernel) rfl, List.forall_mem_cons.mpr ⟨jm_tb 191 (by decide +kernel) rfl, List.forall_mem_cons.mpr ⟨jm_tb 193 (by decide +kernel) rfl, fun _ h => absurd h List.not_mem_nil⟩⟩⟩⟩
theorem jl_cls0 : jm_Cls 0 (RX0, TX0, 4) tyX0 := ⟨rfl, jl_in0, tyX0_ok, nmX0⟩
theorem jl_in1 : ∀ w ∈ u_ws RX1 TX1 4, w ∈ jm_TB := by
  show ∀ w ∈ [u_lay RX1 TX1 0, u_lay RX1 TX1 1, u_lay RX1 TX1 2, u_lay RX1 TX1 3], w ∈ jm_TB
  exact List.forall_mem_cons.mpr ⟨jm_tb 174 (by decide +kernel) rfl, List.forall_mem_cons.mpr ⟨jm_tb 176 (by decide +kernel) rfl, List.forall_mem_cons.mpr ⟨jm_tb 178 (by decide +kernel) rfl, List.forall_mem_cons.mpr ⟨jm_tb 180 (by decide +kernel) rfl, fun _ h => absurd h List.not_mem_nil⟩⟩⟩⟩
theorem jl_cls1 : jm_Cls 1 (RX1, TX1, 4) tyX1 := ⟨rfl, jl_in1, tyX1_ok, nmX1⟩
theorem jl_in2 : ∀ w ∈ u_ws RX2 TX2 3, w ∈ jm_TB := by
  show ∀ w ∈ [u_lay RX2 TX2 0, u_lay RX2 TX2 1, u_lay RX2 TX2 2], w ∈ jm_TB
  exact List.forall_mem_cons.mpr ⟨jm_tb 146 (by decide +kernel) rfl, List.forall_mem_cons.mpr ⟨jm_tb 148 (by decide +kernel) rfl, List.forall_mem_cons.mpr ⟨jm_tb 150 (by decide +kernel) rfl, fun _ h => absurd h List.not_mem_nil⟩⟩⟩
theorem jl_cls2 : jm_Cls 2 (RX2, TX2, 3) tyX2 := ⟨rfl, jl_in2, tyX2_ok, nmX2⟩
theorem jl_in3 : ∀ w ∈ u_ws RX3 TX3 3, w ∈ jm_TB := by
  show ∀ w ∈ [u_lay RX3 TX3 0, u_lay RX3 TX3 1, u_lay RX3 TX3 2], w ∈ jm_TB
  exact List.forall_mem_cons.mpr ⟨jm_tb 76 (by decide +kernel) rfl, List.forall_mem_cons.mpr ⟨jm_tb 78 (by decide +kernel) rfl, List.forall_mem_cons.mpr ⟨jm_tb 80 (by decide +kernel) rfl, fun _ h => absurd h List.not_mem_nil⟩⟩⟩
theorem jl_cls3 : jm_Cls 3 (RX3, TX3, 3) tyX3 := ⟨rfl, jl_in3, tyX3_ok, nmX3⟩
theorem jl_in4 : ∀ w ∈ u_ws RX4 TX4 3, w ∈ jm_TB := by
  show ∀ w ∈ [u_lay RX4 TX4 0, u_lay RX4 TX4 1, u_lay RX4 TX4 2], w ∈ jm_TB
  exact List.forall_mem_cons.mpr ⟨jm_tb 97 (by decide +kernel) rfl, List.forall_mem_cons.mpr ⟨jm_tb 99 (by decide +kernel) rfl, List.forall_mem_cons.mpr ⟨jm_tb 101 (by decide +kernel) rfl, fun _ h => absurd h List.not_mem_nil⟩⟩⟩
theorem jl_cls4 : jm_Cls 4 (RX4, TX4, 3) tyX4 := ⟨rfl, jl_in4, tyX4_ok, nmX4⟩
theorem jl_in5 : ∀ w ∈ u_ws RX5 TX5 6, w ∈ jm_TB := by
  show ∀ w ∈ [u_lay RX5 TX5 0, u_lay RX5 TX5 1, u_lay RX5 TX5 2, u_lay RX5 TX5 3, u_lay RX5 TX5 4, u_lay RX5 TX5 5], w ∈ jm_TB
  exact List.forall_mem_cons.mpr ⟨jm_tb 119 (by decide +kernel) rfl, List.forall_mem_cons.mpr ⟨jm_tb 121 (by decide +kernel) rfl, List.forall_mem_cons.mpr ⟨jm_tb 123 (by decide +kernel) rfl, List.forall_mem_cons.mpr ⟨jm_tb 125 (by decide +kernel) rfl, List.forall_mem_cons.mpr ⟨jm_tb 127 (by decide +kernel) rfl, List.forall_mem_cons.mpr ⟨jm_tb 129 (by decide +kernel) rfl, fun _ h => absurd h List.not_mem_nil⟩⟩⟩⟩⟩⟩
theorem jl_cls5 : jm_Cls 5 (RX5, TX5, 6) tyX5 := ⟨rfl, jl_in5, tyX5_ok, nmX5⟩
theorem jl_in6 : ∀ w ∈ u_ws RX6 TX6 6, w ∈ jm_TB := by
  show ∀ w ∈ [u_lay RX6 TX6 0, u_lay RX6 TX6 1, u_lay RX6 TX6 2, u_lay RX6 TX6 3, u_lay RX6 TX6 4, u_lay RX6 TX6 5], w ∈ jm_TB
  exact List.forall_mem_cons.mpr ⟨jm_tb 221 (by decide +kernel) rfl, List.forall_mem_cons.mpr ⟨jm_tb 223 (by decide +kernel) rfl, List.forall_mem_cons.mpr ⟨jm_tb 225 (by decide +kernel) rfl, List.forall_mem_cons.mpr ⟨jm_tb 227 (by decide +kernel) rfl, List.forall_mem_cons.mpr ⟨jm_tb 229 (by decide +kernel) rfl, List.forall_mem_cons.mpr ⟨jm_tb 231 (by decide +kernel) rfl, fun _ h => absurd h List.not_mem_nil⟩⟩⟩⟩⟩⟩
theorem jl_cls6 : jm_Cls 6 (RX6, TX6, 6) tyX6 := ⟨rfl, jl_in6, tyX6_ok, nmX6⟩
theorem jl_in7 : ∀ w ∈ u_ws RX7 TX7 3, w ∈ jm_TB := by
  show ∀ w ∈ [u_lay RX7 TX7 0, u_lay RX7 TX7 1, u_lay RX7 TX7 2], w ∈ jm_TB
  exact List.forall_mem_cons.mpr ⟨jm_tb 242 (by decide +kernel) rfl, List.forall_mem_cons.mpr ⟨jm_tb 244 (by decide +kernel) rfl, List.forall_mem_cons.mpr ⟨jm_tb 246 (by decide +kernel) rfl, fun _ h => absurd h List.not_mem_nil⟩⟩⟩
theorem jl_cls7 : jm_Cls 7 (RX7, TX7, 3) tyX7 := ⟨rfl, jl_in7, tyX7_ok, nmX7⟩
theorem jl_in8 : ∀ w ∈ u_ws RX8 TX8 10, w ∈ jm_TB := by
  show ∀ w ∈ [u_lay RX8 TX8 0, u_lay RX8 TX8 1, u_lay RX8 TX8 2, u_lay RX8 TX8 3, u_lay RX8 TX8 4, u_lay RX8 TX8 5, u_lay RX8 TX8 6, u_lay RX8 TX8 7, u_lay RX8 TX8 8, u_lay RX8 TX8 9], w ∈ jm_TB
  exact List.forall_mem_cons.mpr ⟨jm_tb 259 (by decide +kernel) rfl, List.forall_mem_cons.mpr ⟨jm_tb 261 (by decide +kernel) rfl, List.forall_mem_cons.mpr ⟨jm_tb 263 (by decide +kernel) rfl, List.forall_mem_cons.mpr ⟨jm_tb 265 (by decide +kernel) rfl, List.forall_mem_cons.mpr ⟨jm_tb 267 (by decide +kernel) rfl, List.forall_mem_cons.mpr ⟨jm_tb 269 (by decide +kernel) rfl, List.forall_mem_cons.mpr ⟨jm_tb 271 (by decide +kernel) rfl, List.forall_mem_cons.mpr ⟨jm_tb 273 (by decide +kernel) rfl, List.forall_mem_cons.mpr ⟨jm_tb 275 (by decide +kernel) rfl, List.forall_mem_cons.mpr ⟨jm_tb 277 (by decide +kernel) rfl, fun _ h => absurd h List.not_mem_nil⟩⟩⟩⟩⟩⟩⟩⟩⟩⟩
theorem jl_cls8 : jm_Cls 8 (RX8, TX8, 10) tyX8 := ⟨rfl, jl_in8, tyX8_ok, nmX8⟩
theorem jl_in9 : ∀ w ∈ u_ws RX9 TX9 27, w ∈ jm_TB := by
  show ∀ w ∈ [u_lay RX9 TX9 0, u_lay RX9 TX9 1, u_lay RX9 TX9 2, u_lay RX9 TX9 3, u_lay RX9 TX9 4, u_lay RX9 TX9 5, u_lay RX9 TX9 6, u_lay RX9 TX9 7, u_lay RX9 TX9 8, u_lay RX9 TX9 9, u_lay RX9 TX9 10, u_lay RX9 TX9 11, u_lay RX9 TX9 12, u_lay RX9 TX9 13, u_lay RX9 TX9 14, u_lay RX9 TX9 15, u_lay RX9 TX9 16, u_lay RX9 TX9 17, u_lay RX9 TX9 18, u_lay RX9 TX9 19, u_lay RX9 TX9 20, u_lay RX9 TX9 21, u_lay RX9 TX9 22, u_lay RX9 TX9 23, u_lay RX9 TX9 24, u_lay RX9 TX9 25, u_lay RX9 TX9 26], w ∈ jm_TB
  exact List.forall_mem_cons.mpr ⟨jm_tb 620 (by decide +kernel) rfl, List.forall_mem_cons.mpr ⟨jm_tb 622 (by decide +kernel) rfl, List.forall_mem_cons.mpr ⟨jm_tb 624 (by decide +kernel) rfl, List.forall_mem_cons.mpr ⟨jm_tb 626 (by decide +kernel) rfl, List.forall_mem_cons.mpr ⟨jm_tb 628 (by decide +kernel) rfl, List.forall_mem_cons.mpr ⟨jm_tb 630 (by decide +kernel) rfl, List.forall_mem_cons.mpr ⟨jm_tb 632 (by decide +kernel) rfl, List.forall_mem_cons.mpr ⟨jm_tb 634 (by decide +kernel) rfl, List.forall_mem_cons.mpr ⟨jm_tb 636 (by decide +kernel) rfl, List.forall_mem_cons.mpr ⟨jm_tb 638 (by decide +kernel) rfl, List.forall_mem_cons.mpr ⟨jm_tb 640 (by decide +kernel) rfl, List.forall_mem_cons.mpr ⟨jm_tb 642 (by decide +kernel) rfl, List.forall_mem_cons.mpr ⟨jm_tb 644 (by decide +kernel) rfl, List.forall_mem_cons.mpr ⟨jm_tb 646 (by decide +kernel) rfl, List.forall_mem_cons.mpr ⟨jm_tb 648 (by decide +kernel) rfl, List.forall_mem_cons.mpr ⟨jm_tb 650 (by decide +kernel) rfl, List.forall_mem_cons.mpr ⟨jm_tb 652 (by decide +kernel) rfl, List.forall_mem_cons.mpr ⟨jm_tb 654 (by decide +kernel) rfl, List.forall_mem_cons.mpr ⟨jm_tb 656 (by decide +kernel) rfl, List.forall_mem_cons.mpr ⟨jm_tb 658 (by decide +kernel) rfl, List.forall_mem_cons.mpr ⟨jm_tb 660 (by decide +kernel) rfl, List.forall_mem_cons.mpr ⟨jm_tb 662 (by decide +kernel) rfl, List.forall_mem_cons.mpr ⟨jm_tb 664 (by decide +kernel) rfl, List.forall_mem_cons.mpr ⟨jm_tb 666 (by decide +kernel) rfl, List.forall_mem_cons.mpr ⟨jm_tb 668 (by decide +kernel) rfl, List.forall_mem_cons.mpr ⟨jm_tb 670 (by decide +kernel) rfl, List.forall_mem_cons.mpr ⟨jm_tb 672 (by decide +kernel) rfl, fun _ h => absurd h List.not_mem_nil⟩⟩⟩⟩⟩⟩⟩⟩⟩⟩⟩⟩⟩⟩⟩⟩⟩⟩⟩⟩⟩⟩⟩⟩⟩⟩⟩
theorem jl_cls9 : jm_Cls 9 (RX9, TX9, 27) tyX9 := ⟨rfl, jl_in9, tyX9_ok, nmX9⟩
theorem jf_RX8_12 : jm_F RX8 12 8 0 true (.object "CrackTarget$Heard") := ⟨(RX8, TX8, 10), tyX8, jl_cls8, Nat.le_of_ble_eq_true rfl, jm_tb 249 (by decide +kernel) rfl, rfl, rfl, rfl⟩
theorem jf_RX8_19 : jm_F RX8 19 8 1 true (.object "CrackTarget$History") := ⟨(RX8, TX8, 10), tyX8, jl_cls8, Nat.le_of_ble_eq_true rfl, jm_tb 250 (by decide +kernel) rfl, rfl, rfl, rfl⟩
theorem jf_RX8_23 : jm_F RX8 23 8 2 true (.array (.object "CrackTarget$Heard")) := ⟨(RX8, TX8, 10), tyX8, jl_cls8, Nat.le_of_ble_eq_true rfl, jm_tb 251 (by decide +kernel) rfl, rfl, rfl, rfl⟩
theorem jf_RX8_27 : jm_F RX8 27 8 3 true (.array .boolean) := ⟨(RX8, TX8, 10), tyX8, jl_cls8, Nat.le_of_ble_eq_true rfl, jm_tb 252 (by decide +kernel) rfl, rfl, rfl, rfl⟩
theorem jf_RX8_34 : jm_F RX8 34 8 4 true (.object "CrackTarget$Pad") := ⟨(RX8, TX8, 10), tyX8, jl_cls8, Nat.le_of_ble_eq_true rfl, jm_tb 253 (by decide +kernel) rfl, rfl, rfl, rfl⟩
theorem jf_RX8_41 : jm_F RX8 41 8 5 true (.object "CrackTarget$Frame") := ⟨(RX8, TX8, 10), tyX8, jl_cls8, Nat.le_of_ble_eq_true rfl, jm_tb 254 (by decide +kernel) rfl, rfl, rfl, rfl⟩
theorem jf_RX8_48 : jm_F RX8 48 8 6 true (.object "CrackTarget$Finder") := ⟨(RX8, TX8, 10), tyX8, jl_cls8, Nat.le_of_ble_eq_true rfl, jm_tb 255 (by decide +kernel) rfl, rfl, rfl, rfl⟩
theorem jf_RX8_55 : jm_F RX8 55 8 7 true (.object "CrackTarget$Shots") := ⟨(RX8, TX8, 10), tyX8, jl_cls8, Nat.le_of_ble_eq_true rfl, jm_tb 256 (by decide +kernel) rfl, rfl, rfl, rfl⟩
theorem jf_RX8_59 : jm_F RX8 59 8 8 true (.object "CrackTarget$Shots") := ⟨(RX8, TX8, 10), tyX8, jl_cls8, Nat.le_of_ble_eq_true rfl, jm_tb 257 (by decide +kernel) rfl, rfl, rfl, rfl⟩
theorem jf_RX8_62 : jm_F RX8 62 8 9 false .boolean := ⟨(RX8, TX8, 10), tyX8, jl_cls8, Nat.le_of_ble_eq_true rfl, jm_tb 258 (by decide +kernel) rfl, rfl, rfl, rfl⟩
theorem jw_RX8_66 : Cond.fieldLink RX8 66 RX8 "LOWEST" "[I" ∈ jm_TB := jm_tb 284 (by decide +kernel) rfl
theorem jw_RX8_70 : Cond.fieldLink RX8 70 RX8 "HIGHEST" "[I" ∈ jm_TB := jm_tb 286 (by decide +kernel) rfl
theorem jf_RX8_73 : jm_F RX8 73 3 0 true (.array .int) := ⟨(RX3, TX3, 3), tyX3, jl_cls3, Nat.le_of_ble_eq_true rfl, jm_tb 70 (by decide +kernel) rfl, rfl, rfl, rfl⟩
theorem jf_RX8_111 : jm_F RX8 111 3 2 false .int := ⟨(RX3, TX3, 3), tyX3, jl_cls3, Nat.le_of_ble_eq_true rfl, jm_tb 75 (by decide +kernel) rfl, rfl, rfl, rfl⟩
theorem jf_RX8_119 : jm_F RX8 119 5 3 false .int := ⟨(RX5, TX5, 6), tyX5, jl_cls5, Nat.le_of_ble_eq_true rfl, jm_tb 116 (by decide +kernel) rfl, rfl, rfl, rfl⟩
theorem jf_RX8_122 : jm_F RX8 122 5 1 true (.array .int) := ⟨(RX5, TX5, 6), tyX5, jl_cls5, Nat.le_of_ble_eq_true rfl, jm_tb 112 (by decide +kernel) rfl, rfl, rfl, rfl⟩
theorem jf_RX8_125 : jm_F RX8 125 5 2 false .int := ⟨(RX5, TX5, 6), tyX5, jl_cls5, Nat.le_of_ble_eq_true rfl, jm_tb 114 (by decide +kernel) rfl, rfl, rfl, rfl⟩
theorem jf_RX8_144 : jm_F RX8 144 7 1 true (.array .int) := ⟨(RX7, TX7, 3), tyX7, jl_cls7, Nat.le_of_ble_eq_true rfl, jm_tb 238 (by decide +kernel) rfl, rfl, rfl, rfl⟩
theorem jf_RX8_150 : jm_F RX8 150 7 0 true (.array (.object "CrackTarget$Shot")) := ⟨(RX7, TX7, 3), tyX7, jl_cls7, Nat.le_of_ble_eq_true rfl, jm_tb 235 (by decide +kernel) rfl, rfl, rfl, rfl⟩
theorem jf_RX8_159 : jm_F RX8 159 7 2 false .int := ⟨(RX7, TX7, 3), tyX7, jl_cls7, Nat.le_of_ble_eq_true rfl, jm_tb 241 (by decide +kernel) rfl, rfl, rfl, rfl⟩
theorem jf_RX8_176 : jm_F RX8 176 4 2 false .int := ⟨(RX4, TX4, 3), tyX4, jl_cls4, Nat.le_of_ble_eq_true rfl, jm_tb 96 (by decide +kernel) rfl, rfl, rfl, rfl⟩
theorem jf_RX0_12 : jm_F RX0 12 0 0 true (.object "CrackTarget$Fit") := ⟨(RX0, TX0, 4), tyX0, jl_cls0, Nat.le_of_ble_eq_true rfl, jm_tb 183 (by decide +kernel) rfl, rfl, rfl, rfl⟩
theorem jf_RX0_18 : jm_F RX0 18 0 1 true (.array .int) := ⟨(RX0, TX0, 4), tyX0, jl_cls0, Nat.le_of_ble_eq_true rfl, jm_tb 184 (by decide +kernel) rfl, rfl, rfl, rfl⟩
theorem jf_RX0_22 : jm_F RX0 22 0 2 true (.array .int) := ⟨(RX0, TX0, 4), tyX0, jl_cls0, Nat.le_of_ble_eq_true rfl, jm_tb 185 (by decide +kernel) rfl, rfl, rfl, rfl⟩
theorem jf_RX0_25 : jm_F RX0 25 0 3 true (.array .int) := ⟨(RX0, TX0, 4), tyX0, jl_cls0, Nat.le_of_ble_eq_true rfl, jm_tb 186 (by decide +kernel) rfl, rfl, rfl, rfl⟩
theorem jf_RX0_39 : jm_F RX0 39 7 1 true (.array .int) := ⟨(RX7, TX7, 3), tyX7, jl_cls7, Nat.le_of_ble_eq_true rfl, jm_tb 237 (by decide +kernel) rfl, rfl, rfl, rfl⟩
theorem jf_RX0_42 : jm_F RX0 42 3 2 false .int := ⟨(RX3, TX3, 3), tyX3, jl_cls3, Nat.le_of_ble_eq_true rfl, jm_tb 74 (by decide +kernel) rfl, rfl, rfl, rfl⟩
theorem jf_RX0_46 : jm_F RX0 46 7 2 false .int := ⟨(RX7, TX7, 3), tyX7, jl_cls7, Nat.le_of_ble_eq_true rfl, jm_tb 240 (by decide +kernel) rfl, rfl, rfl, rfl⟩
theorem jf_RX0_51 : jm_F RX0 51 1 0 true (.array .int) := ⟨(RX1, TX1, 4), tyX1, jl_cls1, Nat.le_of_ble_eq_true rfl, jm_tb 166 (by decide +kernel) rfl, rfl, rfl, rfl⟩
theorem jf_RX0_54 : jm_F RX0 54 6 0 true (.array .int) := ⟨(RX6, TX6, 6), tyX6, jl_cls6, Nat.le_of_ble_eq_true rfl, jm_tb 210 (by decide +kernel) rfl, rfl, rfl, rfl⟩
theorem jf_RX0_71 : jm_F RX0 71 3 0 true (.array .int) := ⟨(RX3, TX3, 3), tyX3, jl_cls3, Nat.le_of_ble_eq_true rfl, jm_tb 71 (by decide +kernel) rfl, rfl, rfl, rfl⟩
theorem jf_RX0_86 : jm_F RX0 86 1 3 false .int := ⟨(RX1, TX1, 4), tyX1, jl_cls1, Nat.le_of_ble_eq_true rfl, jm_tb 173 (by decide +kernel) rfl, rfl, rfl, rfl⟩
theorem jf_RX1_9 : jm_F RX1 9 1 0 true (.array .int) := ⟨(RX1, TX1, 4), tyX1, jl_cls1, Nat.le_of_ble_eq_true rfl, jm_tb 165 (by decide +kernel) rfl, rfl, rfl, rfl⟩
theorem jf_RX1_15 : jm_F RX1 15 1 3 false .int := ⟨(RX1, TX1, 4), tyX1, jl_cls1, Nat.le_of_ble_eq_true rfl, jm_tb 171 (by decide +kernel) rfl, rfl, rfl, rfl⟩
theorem jf_RX1_19 : jm_F RX1 19 1 2 false .int := ⟨(RX1, TX1, 4), tyX1, jl_cls1, Nat.le_of_ble_eq_true rfl, jm_tb 169 (by decide +kernel) rfl, rfl, rfl, rfl⟩
theorem jf_RX1_32 : jm_F RX1 32 1 1 false .int := ⟨(RX1, TX1, 4), tyX1, jl_cls1, Nat.le_of_ble_eq_true rfl, jm_tb 168 (by decide +kernel) rfl, rfl, rfl, rfl⟩
theorem jf_RX2_11 : jm_F RX2 11 2 0 true (.array .int) := ⟨(RX2, TX2, 3), tyX2, jl_cls2, Nat.le_of_ble_eq_true rfl, jm_tb 143 (by decide +kernel) rfl, rfl, rfl, rfl⟩
theorem jf_RX2_15 : jm_F RX2 15 2 1 true (.array .int) := ⟨(RX2, TX2, 3), tyX2, jl_cls2, Nat.le_of_ble_eq_true rfl, jm_tb 144 (by decide +kernel) rfl, rfl, rfl, rfl⟩
theorem jf_RX2_31 : jm_F RX2 31 2 2 false .int := ⟨(RX2, TX2, 3), tyX2, jl_cls2, Nat.le_of_ble_eq_true rfl, jm_tb 145 (by decide +kernel) rfl, rfl, rfl, rfl⟩
theorem jf_RX3_9 : jm_F RX3 9 3 0 true (.array .int) := ⟨(RX3, TX3, 3), tyX3, jl_cls3, Nat.le_of_ble_eq_true rfl, jm_tb 69 (by decide +kernel) rfl, rfl, rfl, rfl⟩
theorem jf_RX3_15 : jm_F RX3 15 3 1 true (.array .int) := ⟨(RX3, TX3, 3), tyX3, jl_cls3, Nat.le_of_ble_eq_true rfl, jm_tb 72 (by decide +kernel) rfl, rfl, rfl, rfl⟩
theorem jf_RX3_18 : jm_F RX3 18 3 2 false .int := ⟨(RX3, TX3, 3), tyX3, jl_cls3, Nat.le_of_ble_eq_true rfl, jm_tb 73 (by decide +kernel) rfl, rfl, rfl, rfl⟩
theorem jf_RX4_11 : jm_F RX4 11 4 0 true (.array (.object "CrackTarget$Heard")) := ⟨(RX4, TX4, 3), tyX4, jl_cls4, Nat.le_of_ble_eq_true rfl, jm_tb 93 (by decide +kernel) rfl, rfl, rfl, rfl⟩
theorem jf_RX4_16 : jm_F RX4 16 4 2 false .int := ⟨(RX4, TX4, 3), tyX4, jl_cls4, Nat.le_of_ble_eq_true rfl, jm_tb 95 (by decide +kernel) rfl, rfl, rfl, rfl⟩
theorem jf_RX4_20 : jm_F RX4 20 4 1 false .int := ⟨(RX4, TX4, 3), tyX4, jl_cls4, Nat.le_of_ble_eq_true rfl, jm_tb 94 (by decide +kernel) rfl, rfl, rfl, rfl⟩
theorem jf_RX5_11 : jm_F RX5 11 5 0 true (.array .char) := ⟨(RX5, TX5, 6), tyX5, jl_cls5, Nat.le_of_ble_eq_true rfl, jm_tb 110 (by decide +kernel) rfl, rfl, rfl, rfl⟩
theorem jf_RX5_15 : jm_F RX5 15 5 1 true (.array .int) := ⟨(RX5, TX5, 6), tyX5, jl_cls5, Nat.le_of_ble_eq_true rfl, jm_tb 111 (by decide +kernel) rfl, rfl, rfl, rfl⟩
theorem jf_RX5_19 : jm_F RX5 19 5 2 false .int := ⟨(RX5, TX5, 6), tyX5, jl_cls5, Nat.le_of_ble_eq_true rfl, jm_tb 113 (by decide +kernel) rfl, rfl, rfl, rfl⟩
theorem jf_RX5_23 : jm_F RX5 23 5 3 false .int := ⟨(RX5, TX5, 6), tyX5, jl_cls5, Nat.le_of_ble_eq_true rfl, jm_tb 115 (by decide +kernel) rfl, rfl, rfl, rfl⟩
theorem jf_RX5_33 : jm_F RX5 33 5 4 false .int := ⟨(RX5, TX5, 6), tyX5, jl_cls5, Nat.le_of_ble_eq_true rfl, jm_tb 117 (by decide +kernel) rfl, rfl, rfl, rfl⟩
theorem jf_RX5_40 : jm_F RX5 40 5 5 false .int := ⟨(RX5, TX5, 6), tyX5, jl_cls5, Nat.le_of_ble_eq_true rfl, jm_tb 118 (by decide +kernel) rfl, rfl, rfl, rfl⟩
theorem jf_RX6_9 : jm_F RX6 9 6 0 true (.array .int) := ⟨(RX6, TX6, 6), tyX6, jl_cls6, Nat.le_of_ble_eq_true rfl, jm_tb 209 (by decide +kernel) rfl, rfl, rfl, rfl⟩
theorem jf_RX6_21 : jm_F RX6 21 1 1 false .int := ⟨(RX1, TX1, 4), tyX1, jl_cls1, Nat.le_of_ble_eq_true rfl, jm_tb 167 (by decide +kernel) rfl, rfl, rfl, rfl⟩
theorem jf_RX6_27 : jm_F RX6 27 6 1 false .int := ⟨(RX6, TX6, 6), tyX6, jl_cls6, Nat.le_of_ble_eq_true rfl, jm_tb 212 (by decide +kernel) rfl, rfl, rfl, rfl⟩
theorem jf_RX6_28 : jm_F RX6 28 1 2 false .int := ⟨(RX1, TX1, 4), tyX1, jl_cls1, Nat.le_of_ble_eq_true rfl, jm_tb 170 (by decide +kernel) rfl, rfl, rfl, rfl⟩
theorem jf_RX6_31 : jm_F RX6 31 6 2 false .int := ⟨(RX6, TX6, 6), tyX6, jl_cls6, Nat.le_of_ble_eq_true rfl, jm_tb 214 (by decide +kernel) rfl, rfl, rfl, rfl⟩
theorem jf_RX6_32 : jm_F RX6 32 1 3 false .int := ⟨(RX1, TX1, 4), tyX1, jl_cls1, Nat.le_of_ble_eq_true rfl, jm_tb 172 (by decide +kernel) rfl, rfl, rfl, rfl⟩
theorem jf_RX6_35 : jm_F RX6 35 6 3 false .int := ⟨(RX6, TX6, 6), tyX6, jl_cls6, Nat.le_of_ble_eq_true rfl, jm_tb 216 (by decide +kernel) rfl, rfl, rfl, rfl⟩
theorem jf_RX6_40 : jm_F RX6 40 6 4 false .int := ⟨(RX6, TX6, 6), tyX6, jl_cls6, Nat.le_of_ble_eq_true rfl, jm_tb 218 (by decide +kernel) rfl, rfl, rfl, rfl⟩
theorem jf_RX6_55 : jm_F RX6 55 6 5 false .int := ⟨(RX6, TX6, 6), tyX6, jl_cls6, Nat.le_of_ble_eq_true rfl, jm_tb 219 (by decide +kernel) rfl, rfl, rfl, rfl⟩
theorem jf_RX7_11 : jm_F RX7 11 7 0 true (.array (.object "CrackTarget$Shot")) := ⟨(RX7, TX7, 3), tyX7, jl_cls7, Nat.le_of_ble_eq_true rfl, jm_tb 234 (by decide +kernel) rfl, rfl, rfl, rfl⟩
theorem jf_RX7_17 : jm_F RX7 17 7 1 true (.array .int) := ⟨(RX7, TX7, 3), tyX7, jl_cls7, Nat.le_of_ble_eq_true rfl, jm_tb 236 (by decide +kernel) rfl, rfl, rfl, rfl⟩
theorem jf_RX7_22 : jm_F RX7 22 7 2 false .int := ⟨(RX7, TX7, 3), tyX7, jl_cls7, Nat.le_of_ble_eq_true rfl, jm_tb 239 (by decide +kernel) rfl, rfl, rfl, rfl⟩
theorem jf_RX7_30 : jm_F RX7 30 6 0 true (.array .int) := ⟨(RX6, TX6, 6), tyX6, jl_cls6, Nat.le_of_ble_eq_true rfl, jm_tb 211 (by decide +kernel) rfl, rfl, rfl, rfl⟩
theorem jf_RX7_33 : jm_F RX7 33 6 5 false .int := ⟨(RX6, TX6, 6), tyX6, jl_cls6, Nat.le_of_ble_eq_true rfl, jm_tb 220 (by decide +kernel) rfl, rfl, rfl, rfl⟩
theorem jf_RX7_36 : jm_F RX7 36 6 3 false .int := ⟨(RX6, TX6, 6), tyX6, jl_cls6, Nat.le_of_ble_eq_true rfl, jm_tb 217 (by decide +kernel) rfl, rfl, rfl, rfl⟩
theorem jf_RX7_39 : jm_F RX7 39 6 1 false .int := ⟨(RX6, TX6, 6), tyX6, jl_cls6, Nat.le_of_ble_eq_true rfl, jm_tb 213 (by decide +kernel) rfl, rfl, rfl, rfl⟩
theorem jf_RX7_42 : jm_F RX7 42 6 2 false .int := ⟨(RX6, TX6, 6), tyX6, jl_cls6, Nat.le_of_ble_eq_true rfl, jm_tb 215 (by decide +kernel) rfl, rfl, rfl, rfl⟩
theorem jf_RX9_7 : jm_F RX9 7 9 0 true (.array .int) := ⟨(RX9, TX9, 27), tyX9, jl_cls9, Nat.le_of_ble_eq_true rfl, jm_tb 593 (by decide +kernel) rfl, rfl, rfl, rfl⟩
theorem jf_RX9_13 : jm_F RX9 13 9 1 true (.array .int) := ⟨(RX9, TX9, 27), tyX9, jl_cls9, Nat.le_of_ble_eq_true rfl, jm_tb 594 (by decide +kernel) rfl, rfl, rfl, rfl⟩
theorem jf_RX9_16 : jm_F RX9 16 9 2 true (.array .int) := ⟨(RX9, TX9, 27), tyX9, jl_cls9, Nat.le_of_ble_eq_true rfl, jm_tb 595 (by decide +kernel) rfl, rfl, rfl, rfl⟩
theorem jf_RX9_19 : jm_F RX9 19 9 4 true (.array .int) := ⟨(RX9, TX9, 27), tyX9, jl_cls9, Nat.le_of_ble_eq_true rfl, jm_tb 597 (by decide +kernel) rfl, rfl, rfl, rfl⟩
theorem jf_RX9_22 : jm_F RX9 22 9 5 true (.array .int) := ⟨(RX9, TX9, 27), tyX9, jl_cls9, Nat.le_of_ble_eq_true rfl, jm_tb 598 (by decide +kernel) rfl, rfl, rfl, rfl⟩
theorem jf_RX9_25 : jm_F RX9 25 9 6 true (.array .int) := ⟨(RX9, TX9, 27), tyX9, jl_cls9, Nat.le_of_ble_eq_true rfl, jm_tb 599 (by decide +kernel) rfl, rfl, rfl, rfl⟩
theorem jf_RX9_28 : jm_F RX9 28 9 8 true (.array .int) := ⟨(RX9, TX9, 27), tyX9, jl_cls9, Nat.le_of_ble_eq_true rfl, jm_tb 601 (by decide +kernel) rfl, rfl, rfl, rfl⟩
theorem jf_RX9_31 : jm_F RX9 31 9 9 true (.array .int) := ⟨(RX9, TX9, 27), tyX9, jl_cls9, Nat.le_of_ble_eq_true rfl, jm_tb 602 (by decide +kernel) rfl, rfl, rfl, rfl⟩
theorem jf_RX9_34 : jm_F RX9 34 9 12 true (.array .int) := ⟨(RX9, TX9, 27), tyX9, jl_cls9, Nat.le_of_ble_eq_true rfl, jm_tb 605 (by decide +kernel) rfl, rfl, rfl, rfl⟩
theorem jf_RX9_37 : jm_F RX9 37 9 13 true (.array .int) := ⟨(RX9, TX9, 27), tyX9, jl_cls9, Nat.le_of_ble_eq_true rfl, jm_tb 606 (by decide +kernel) rfl, rfl, rfl, rfl⟩
theorem jf_RX9_40 : jm_F RX9 40 9 14 true (.array .int) := ⟨(RX9, TX9, 27), tyX9, jl_cls9, Nat.le_of_ble_eq_true rfl, jm_tb 607 (by decide +kernel) rfl, rfl, rfl, rfl⟩
theorem jf_RX9_43 : jm_F RX9 43 9 15 true (.array .int) := ⟨(RX9, TX9, 27), tyX9, jl_cls9, Nat.le_of_ble_eq_true rfl, jm_tb 608 (by decide +kernel) rfl, rfl, rfl, rfl⟩
theorem jf_RX9_46 : jm_F RX9 46 9 16 true (.array .int) := ⟨(RX9, TX9, 27), tyX9, jl_cls9, Nat.le_of_ble_eq_true rfl, jm_tb 609 (by decide +kernel) rfl, rfl, rfl, rfl⟩
theorem jf_RX9_49 : jm_F RX9 49 9 17 true (.array .int) := ⟨(RX9, TX9, 27), tyX9, jl_cls9, Nat.le_of_ble_eq_true rfl, jm_tb 610 (by decide +kernel) rfl, rfl, rfl, rfl⟩
theorem jf_RX9_52 : jm_F RX9 52 9 18 true (.array .int) := ⟨(RX9, TX9, 27), tyX9, jl_cls9, Nat.le_of_ble_eq_true rfl, jm_tb 611 (by decide +kernel) rfl, rfl, rfl, rfl⟩
theorem jf_RX9_55 : jm_F RX9 55 9 19 true (.array .int) := ⟨(RX9, TX9, 27), tyX9, jl_cls9, Nat.le_of_ble_eq_true rfl, jm_tb 612 (by decide +kernel) rfl, rfl, rfl, rfl⟩
theorem jf_RX9_62 : jm_F RX9 62 9 3 false .int := ⟨(RX9, TX9, 27), tyX9, jl_cls9, Nat.le_of_ble_eq_true rfl, jm_tb 596 (by decide +kernel) rfl, rfl, rfl, rfl⟩
theorem jf_RX9_81 : jm_F RX9 81 9 10 false .int := ⟨(RX9, TX9, 27), tyX9, jl_cls9, Nat.le_of_ble_eq_true rfl, jm_tb 603 (by decide +kernel) rfl, rfl, rfl, rfl⟩
theorem jf_RX9_95 : jm_F RX9 95 9 22 false .int := ⟨(RX9, TX9, 27), tyX9, jl_cls9, Nat.le_of_ble_eq_true rfl, jm_tb 615 (by decide +kernel) rfl, rfl, rfl, rfl⟩
theorem jf_RX9_101 : jm_F RX9 101 9 23 false .int := ⟨(RX9, TX9, 27), tyX9, jl_cls9, Nat.le_of_ble_eq_true rfl, jm_tb 616 (by decide +kernel) rfl, rfl, rfl, rfl⟩
theorem jf_RX9_104 : jm_F RX9 104 9 21 false .int := ⟨(RX9, TX9, 27), tyX9, jl_cls9, Nat.le_of_ble_eq_true rfl, jm_tb 614 (by decide +kernel) rfl, rfl, rfl, rfl⟩
theorem jf_RX9_118 : jm_F RX9 118 9 20 false .int := ⟨(RX9, TX9, 27), tyX9, jl_cls9, Nat.le_of_ble_eq_true rfl, jm_tb 613 (by decide +kernel) rfl, rfl, rfl, rfl⟩
theorem jf_RX9_121 : jm_F RX9 121 9 11 false .int := ⟨(RX9, TX9, 27), tyX9, jl_cls9, Nat.le_of_ble_eq_true rfl, jm_tb 604 (by decide +kernel) rfl, rfl, rfl, rfl⟩
theorem jf_RX9_198 : jm_F RX9 198 9 7 false .int := ⟨(RX9, TX9, 27), tyX9, jl_cls9, Nat.le_of_ble_eq_true rfl, jm_tb 600 (by decide +kernel) rfl, rfl, rfl, rfl⟩
theorem jf_RX9_203 : jm_F RX9 203 9 24 false .int := ⟨(RX9, TX9, 27), tyX9, jl_cls9, Nat.le_of_ble_eq_true rfl, jm_tb 617 (by decide +kernel) rfl, rfl, rfl, rfl⟩
theorem jf_RX9_212 : jm_F RX9 212 9 25 false .int := ⟨(RX9, TX9, 27), tyX9, jl_cls9, Nat.le_of_ble_eq_true rfl, jm_tb 618 (by decide +kernel) rfl, rfl, rfl, rfl⟩
theorem jf_RX9_221 : jm_F RX9 221 9 26 false .int := ⟨(RX9, TX9, 27), tyX9, jl_cls9, Nat.le_of_ble_eq_true rfl, jm_tb 619 (by decide +kernel) rfl, rfl, rfl, rfl⟩
theorem ja_int : Cond.arrayClass .int ∈ jm_TB := jm_tb 83 (by decide +kernel) rfl
theorem ja_boolean : Cond.arrayClass .boolean ∈ jm_TB := jm_tb 132 (by decide +kernel) rfl
theorem ja_char : Cond.arrayClass .char ∈ jm_TB := jm_tb 133 (by decide +kernel) rfl
theorem jk_RX8_83 : Cond.constant RX8 83 (99999) ∈ jm_TB := jm_tb 310 (by decide +kernel) rfl
theorem jk_RX8_99 : Cond.constant RX8 99 (90000) ∈ jm_TB := jm_tb 337 (by decide +kernel) rfl
theorem jk_RX5_43 : Cond.constant RX5 43 (99999) ∈ jm_TB := jm_tb 371 (by decide +kernel) rfl
theorem jk_RX8_191 : Cond.constantLong RX8 191 (255) ∈ jm_TB := jm_tb 552 (by decide +kernel) rfl
theorem jk_RX8_193 : Cond.constantLong RX8 193 (33) ∈ jm_TB := jm_tb 553 (by decide +kernel) rfl
theorem jk_RX8_195 : Cond.constantLong RX8 195 (126) ∈ jm_TB := jm_tb 554 (by decide +kernel) rfl
theorem jk_RX9_93 : Cond.constant RX9 93 (99999) ∈ jm_TB := jm_tb 703 (by decide +kernel) rfl
theorem jk_RX9_172 : Cond.constant RX9 172 (90000) ∈ jm_TB := jm_tb 727 (by decide +kernel) rfl
theorem jk_RX9_94 : Cond.constant RX9 94 (-99999) ∈ jm_TB := jm_tb 802 (by decide +kernel) rfl
theorem jk_RX9_201 : Cond.constantLong RX9 201 (255) ∈ jm_TB := jm_tb 867 (by decide +kernel) rfl
theorem jk_RL_77 : Cond.constantLong RL 77 (4294967295) ∈ jm_TB := jm_tb 916 (by decide +kernel) rfl
end JML
end
section
section JMX
theorem tw_0 : Cond.selects RX8 yX8_beginChange yX8_beginChange ∈ jm_TB := jm_tb 0 (by decide +kernel) rfl
theorem tw_1 : Cond.selects RX3 yX3_placeOf yX3_placeOf ∈ jm_TB := jm_tb 1 (by decide +kernel) rfl
theorem tw_2 : Cond.selects RX5 yX5_step yX5_step ∈ jm_TB := jm_tb 2 (by decide +kernel) rfl
theorem tw_3 : Cond.selects RX5 yX5_note yX5_note ∈ jm_TB := jm_tb 3 (by decide +kernel) rfl
theorem tw_4 : Cond.selects RX8 yX8_current yX8_current ∈ jm_TB := jm_tb 4 (by decide +kernel) rfl
theorem tw_5 : Cond.selects RX0 yX0_judge yX0_judge ∈ jm_TB := jm_tb 5 (by decide +kernel) rfl
theorem tw_6 : Cond.selects RX0 yX0_gather yX0_gather ∈ jm_TB := jm_tb 6 (by decide +kernel) rfl
theorem tw_7 : Cond.selects RX0 yX0_choose yX0_choose ∈ jm_TB := jm_tb 7 (by decide +kernel) rfl
theorem tw_8 : Cond.selects RX8 yX8_tryOut yX8_tryOut ∈ jm_TB := jm_tb 8 (by decide +kernel) rfl
theorem tw_9 : Cond.selects RX9 yX9_record yX9_record ∈ jm_TB := jm_tb 9 (by decide +kernel) rfl
theorem tw_10 : Cond.selects RX9 yX9_whyNotHeard yX9_whyNotHeard ∈ jm_TB := jm_tb 10 (by decide +kernel) rfl
theorem tw_11 : Cond.selects RX9 yX9_isThere yX9_isThere ∈ jm_TB := jm_tb 11 (by decide +kernel) rfl
theorem tw_12 : Cond.selects RX9 yX9_earOf yX9_earOf ∈ jm_TB := jm_tb 12 (by decide +kernel) rfl
theorem tw_13 : Cond.selects RX9 yX9_timeOf yX9_timeOf ∈ jm_TB := jm_tb 13 (by decide +kernel) rfl
theorem tw_14 : Cond.selects RX9 yX9_comes yX9_comes ∈ jm_TB := jm_tb 14 (by decide +kernel) rfl
theorem tw_15 : Cond.selects RX9 yX9_takesBy yX9_takesBy ∈ jm_TB := jm_tb 15 (by decide +kernel) rfl
theorem tw_16 : Cond.selects RX9 yX9_distance yX9_distance ∈ jm_TB := jm_tb 16 (by decide +kernel) rfl
theorem tw_17 : Cond.selects RX9 yX9_isPulse yX9_isPulse ∈ jm_TB := jm_tb 17 (by decide +kernel) rfl
theorem tw_18 : Cond.selects RX9 yX9_goes yX9_goes ∈ jm_TB := jm_tb 18 (by decide +kernel) rfl
theorem tw_19 : Cond.selects RX9 yX9_find yX9_find ∈ jm_TB := jm_tb 19 (by decide +kernel) rfl
theorem tw_20 : Cond.selects RX9 yX9_findShots yX9_findShots ∈ jm_TB := jm_tb 20 (by decide +kernel) rfl
theorem tw_21 : Cond.selects RX9 yX9_reckon yX9_reckon ∈ jm_TB := jm_tb 21 (by decide +kernel) rfl
theorem tw_22 : Cond.selects RX9 yX9_findCandidates yX9_findCandidates ∈ jm_TB := jm_tb 22 (by decide +kernel) rfl
theorem tw_23 : Cond.selects RX9 yX9_findBest yX9_findBest ∈ jm_TB := jm_tb 23 (by decide +kernel) rfl
theorem tw_24 : Cond.selects RX9 yX9_takeRow yX9_takeRow ∈ jm_TB := jm_tb 24 (by decide +kernel) rfl
theorem tw_25 : Cond.selects RX9 yX9_isRow yX9_isRow ∈ jm_TB := jm_tb 25 (by decide +kernel) rfl
theorem tw_26 : Cond.selects RX9 yX9_findPlace yX9_findPlace ∈ jm_TB := jm_tb 26 (by decide +kernel) rfl
theorem tw_27 : Cond.selects RX9 yX9_spreadAt yX9_spreadAt ∈ jm_TB := jm_tb 27 (by decide +kernel) rfl
theorem tw_28 : Cond.selects RX9 yX9_becomesShot yX9_becomesShot ∈ jm_TB := jm_tb 28 (by decide +kernel) rfl
theorem tw_29 : Cond.selects RX9 yX9_momentAt yX9_momentAt ∈ jm_TB := jm_tb 29 (by decide +kernel) rfl
theorem tw_30 : Cond.selects RX9 yX9_isShot yX9_isShot ∈ jm_TB := jm_tb 30 (by decide +kernel) rfl
theorem tw_31 : Cond.selects RX9 yX9_ringOf yX9_ringOf ∈ jm_TB := jm_tb 31 (by decide +kernel) rfl
theorem tw_32 : Cond.selects RX9 yX9_sumOfRings yX9_sumOfRings ∈ jm_TB := jm_tb 32 (by decide +kernel) rfl
theorem tw_33 : Cond.selects RX9 yX9_bestShot yX9_bestShot ∈ jm_TB := jm_tb 33 (by decide +kernel) rfl
theorem tw_34 : Cond.selects RX9 yX9_sumOfSpreads yX9_sumOfSpreads ∈ jm_TB := jm_tb 34 (by decide +kernel) rfl
theorem tw_35 : Cond.selects RX9 yX9_widest yX9_widest ∈ jm_TB := jm_tb 35 (by decide +kernel) rfl
theorem tw_36 : Cond.selects RX9 yX9_findFault yX9_findFault ∈ jm_TB := jm_tb 36 (by decide +kernel) rfl
theorem tw_37 : Cond.selects RX9 yX9_readsPulse yX9_readsPulse ∈ jm_TB := jm_tb 37 (by decide +kernel) rfl
theorem tw_38 : Cond.selects RX9 yX9_takeDigit yX9_takeDigit ∈ jm_TB := jm_tb 38 (by decide +kernel) rfl
theorem tw_39 : Cond.selects RX9 yX9_character yX9_character ∈ jm_TB := jm_tb 39 (by decide +kernel) rfl
theorem tw_40 : Cond.selects RX9 yX9_isNext yX9_isNext ∈ jm_TB := jm_tb 40 (by decide +kernel) rfl
theorem tw_41 : Cond.selects RX9 yX9_takeNumber yX9_takeNumber ∈ jm_TB := jm_tb 41 (by decide +kernel) rfl
theorem tw_43 : Cond.initialized RX8 ∈ jm_TB := jm_tb 43 (by decide +kernel) rfl
theorem tw_44 : Cond.initialized RX3 ∈ jm_TB := jm_tb 44 (by decide +kernel) rfl
theorem tw_45 : Cond.initialized RX4 ∈ jm_TB := jm_tb 45 (by decide +kernel) rfl
theorem tw_46 : Cond.initialized RX5 ∈ jm_TB := jm_tb 46 (by decide +kernel) rfl
theorem tw_47 : Cond.initialized RX2 ∈ jm_TB := jm_tb 47 (by decide +kernel) rfl
theorem tw_48 : Cond.initialized RX0 ∈ jm_TB := jm_tb 48 (by decide +kernel) rfl
theorem tw_49 : Cond.initialized RX1 ∈ jm_TB := jm_tb 49 (by decide +kernel) rfl
theorem tw_50 : Cond.initialized RX7 ∈ jm_TB := jm_tb 50 (by decide +kernel) rfl
theorem tw_51 : Cond.initialized RX6 ∈ jm_TB := jm_tb 51 (by decide +kernel) rfl
theorem tw_52 : Cond.initialized RX9 ∈ jm_TB := jm_tb 52 (by decide +kernel) rfl
theorem tw_53 : Cond.initialized RJ10 ∈ jm_TB := jm_tb 53 (by decide +kernel) rfl
theorem tw_54 : Cond.initialized RJ9 ∈ jm_TB := jm_tb 54 (by decide +kernel) rfl
theorem tw_55 : Cond.classLink RL 7 RX8 ∈ jm_TB := jm_tb 55 (by decide +kernel) rfl
theorem tw_56 : Cond.instantiable RX8 10 ∈ jm_TB := jm_tb 56 (by decide +kernel) rfl
theorem tw_57 : Cond.methodLink RL 9 yX8_init ∈ jm_TB := jm_tb 57 (by decide +kernel) rfl
theorem tw_58 : Cond.instanceMethod yX8_init ∈ jm_TB := jm_tb 58 (by decide +kernel) rfl
theorem tw_59 : Cond.code yX8_init cX8_init 2 none ∈ jm_TB := jm_tb 59 (by decide +kernel) rfl
theorem tw_60 : Cond.methodLink RX8 3 objectInit ∈ jm_TB := jm_tb 60 (by decide +kernel) rfl
theorem tw_61 : Cond.instanceMethod objectInit ∈ jm_TB := jm_tb 61 (by decide +kernel) rfl
theorem tw_62 : Cond.code objectInit ⟨#[0xb1]⟩ 1 none ∈ jm_TB := jm_tb 62 (by decide +kernel) rfl
theorem tw_63 : Cond.classLink RX8 9 RX3 ∈ jm_TB := jm_tb 63 (by decide +kernel) rfl
theorem tw_64 : Cond.instantiable RX3 3 ∈ jm_TB := jm_tb 64 (by decide +kernel) rfl
theorem tw_66 : Cond.instanceMethod yX3_init ∈ jm_TB := jm_tb 66 (by decide +kernel) rfl
theorem tw_67 : Cond.code yX3_init cX3_init 1 none ∈ jm_TB := jm_tb 67 (by decide +kernel) rfl
theorem tw_68 : Cond.methodLink RX3 3 objectInit ∈ jm_TB := jm_tb 68 (by decide +kernel) rfl
theorem tw_84 : Cond.classLink RX8 16 RX4 ∈ jm_TB := jm_tb 84 (by decide +kernel) rfl
theorem tw_85 : Cond.instantiable RX4 3 ∈ jm_TB := jm_tb 85 (by decide +kernel) rfl
theorem tw_86 : Cond.methodLink RX8 18 yX4_init ∈ jm_TB := jm_tb 86 (by decide +kernel) rfl
theorem tw_87 : Cond.instanceMethod yX4_init ∈ jm_TB := jm_tb 87 (by decide +kernel) rfl
theorem tw_88 : Cond.code yX4_init cX4_init 2 none ∈ jm_TB := jm_tb 88 (by decide +kernel) rfl
theorem tw_89 : Cond.methodLink RX4 1 objectInit ∈ jm_TB := jm_tb 89 (by decide +kernel) rfl
theorem tw_90 : Cond.classLink RX4 9 RX3 ∈ jm_TB := jm_tb 90 (by decide +kernel) rfl
theorem tw_104 : Cond.classLink RX8 31 RX5 ∈ jm_TB := jm_tb 104 (by decide +kernel) rfl
theorem tw_105 : Cond.instantiable RX5 6 ∈ jm_TB := jm_tb 105 (by decide +kernel) rfl
theorem tw_107 : Cond.instanceMethod yX5_init ∈ jm_TB := jm_tb 107 (by decide +kernel) rfl
theorem tw_108 : Cond.code yX5_init cX5_init 1 none ∈ jm_TB := jm_tb 108 (by decide +kernel) rfl
theorem tw_109 : Cond.methodLink RX5 3 objectInit ∈ jm_TB := jm_tb 109 (by decide +kernel) rfl
theorem tw_134 : Cond.classLink RX8 38 RX2 ∈ jm_TB := jm_tb 134 (by decide +kernel) rfl
theorem tw_135 : Cond.instantiable RX2 3 ∈ jm_TB := jm_tb 135 (by decide +kernel) rfl
theorem tw_136 : Cond.methodLink RX8 40 yX2_init ∈ jm_TB := jm_tb 136 (by decide +kernel) rfl
theorem tw_137 : Cond.instanceMethod yX2_init ∈ jm_TB := jm_tb 137 (by decide +kernel) rfl
theorem tw_138 : Cond.code yX2_init cX2_init 3 none ∈ jm_TB := jm_tb 138 (by decide +kernel) rfl
theorem tw_139 : Cond.methodLink RX2 3 objectInit ∈ jm_TB := jm_tb 139 (by decide +kernel) rfl
theorem tw_140 : Cond.methodLink RX2 18 yX2_rootOf ∈ jm_TB := jm_tb 140 (by decide +kernel) rfl
theorem tw_141 : Cond.static yX2_rootOf ∈ jm_TB := jm_tb 141 (by decide +kernel) rfl
theorem tw_142 : Cond.code yX2_rootOf cX2_rootOf 3 (some .int) ∈ jm_TB := jm_tb 142 (by decide +kernel) rfl
theorem tw_153 : Cond.classLink RX8 45 RX0 ∈ jm_TB := jm_tb 153 (by decide +kernel) rfl
theorem tw_154 : Cond.instantiable RX0 4 ∈ jm_TB := jm_tb 154 (by decide +kernel) rfl
theorem tw_156 : Cond.instanceMethod yX0_init ∈ jm_TB := jm_tb 156 (by decide +kernel) rfl
theorem tw_157 : Cond.code yX0_init cX0_init 1 none ∈ jm_TB := jm_tb 157 (by decide +kernel) rfl
theorem tw_158 : Cond.methodLink RX0 3 objectInit ∈ jm_TB := jm_tb 158 (by decide +kernel) rfl
theorem tw_159 : Cond.classLink RX0 9 RX1 ∈ jm_TB := jm_tb 159 (by decide +kernel) rfl
theorem tw_160 : Cond.instantiable RX1 4 ∈ jm_TB := jm_tb 160 (by decide +kernel) rfl
theorem tw_162 : Cond.instanceMethod yX1_init ∈ jm_TB := jm_tb 162 (by decide +kernel) rfl
theorem tw_163 : Cond.code yX1_init cX1_init 1 none ∈ jm_TB := jm_tb 163 (by decide +kernel) rfl
theorem tw_164 : Cond.methodLink RX1 3 objectInit ∈ jm_TB := jm_tb 164 (by decide +kernel) rfl
theorem tw_196 : Cond.classLink RX8 52 RX7 ∈ jm_TB := jm_tb 196 (by decide +kernel) rfl
theorem tw_197 : Cond.instantiable RX7 3 ∈ jm_TB := jm_tb 197 (by decide +kernel) rfl
theorem tw_198 : Cond.methodLink RX8 54 yX7_init ∈ jm_TB := jm_tb 198 (by decide +kernel) rfl
theorem tw_199 : Cond.instanceMethod yX7_init ∈ jm_TB := jm_tb 199 (by decide +kernel) rfl
theorem tw_200 : Cond.code yX7_init cX7_init 2 none ∈ jm_TB := jm_tb 200 (by decide +kernel) rfl
theorem tw_201 : Cond.methodLink RX7 3 objectInit ∈ jm_TB := jm_tb 201 (by decide +kernel) rfl
theorem tw_202 : Cond.classLink RX7 9 RX6 ∈ jm_TB := jm_tb 202 (by decide +kernel) rfl
theorem tw_204 : Cond.instantiable RX6 6 ∈ jm_TB := jm_tb 204 (by decide +kernel) rfl
theorem tw_206 : Cond.instanceMethod yX6_init ∈ jm_TB := jm_tb 206 (by decide +kernel) rfl
theorem tw_207 : Cond.code yX6_init cX6_init 1 none ∈ jm_TB := jm_tb 207 (by decide +kernel) rfl
theorem tw_208 : Cond.methodLink RX6 3 objectInit ∈ jm_TB := jm_tb 208 (by decide +kernel) rfl
theorem tw_280 : Cond.methodLink RL 13 yX8_set ∈ jm_TB := jm_tb 280 (by decide +kernel) rfl
theorem tw_281 : Cond.instanceMethod yX8_set ∈ jm_TB := jm_tb 281 (by decide +kernel) rfl
theorem tw_282 : Cond.selects RX8 yX8_set yX8_set ∈ jm_TB := jm_tb 282 (by decide +kernel) rfl
theorem tw_283 : Cond.code yX8_set cX8_set 4 (some .int) ∈ jm_TB := jm_tb 283 (by decide +kernel) rfl
theorem tw_288 : Cond.methodLink RX8 76 yX8_beginChange ∈ jm_TB := jm_tb 288 (by decide +kernel) rfl
theorem tw_290 : Cond.instanceMethod yX8_beginChange ∈ jm_TB := jm_tb 290 (by decide +kernel) rfl
theorem tw_291 : Cond.code yX8_beginChange cX8_beginChange 1 none ∈ jm_TB := jm_tb 291 (by decide +kernel) rfl
theorem tw_292 : Cond.methodLink RX8 208 yX4_record ∈ jm_TB := jm_tb 292 (by decide +kernel) rfl
theorem tw_293 : Cond.instanceMethod yX4_record ∈ jm_TB := jm_tb 293 (by decide +kernel) rfl
theorem tw_294 : Cond.selects RX4 yX4_record yX4_record ∈ jm_TB := jm_tb 294 (by decide +kernel) rfl
theorem tw_295 : Cond.code yX4_record cX4_record 2 none ∈ jm_TB := jm_tb 295 (by decide +kernel) rfl
theorem tw_296 : Cond.methodLink RX4 23 yX3_become ∈ jm_TB := jm_tb 296 (by decide +kernel) rfl
theorem tw_297 : Cond.instanceMethod yX3_become ∈ jm_TB := jm_tb 297 (by decide +kernel) rfl
theorem tw_298 : Cond.selects RX3 yX3_become yX3_become ∈ jm_TB := jm_tb 298 (by decide +kernel) rfl
theorem tw_299 : Cond.code yX3_become cX3_become 2 none ∈ jm_TB := jm_tb 299 (by decide +kernel) rfl
theorem tw_300 : Cond.methodLink RX3 30 arraycopyName ∈ jm_TB := jm_tb 300 (by decide +kernel) rfl
theorem tw_301 : Cond.static arraycopyName ∈ jm_TB := jm_tb 301 (by decide +kernel) rfl
theorem tw_302 : Cond.native arraycopyName ∈ jm_TB := jm_tb 302 (by decide +kernel) rfl
theorem tw_303 : Cond.methodLink RL 18 yX8_hear ∈ jm_TB := jm_tb 303 (by decide +kernel) rfl
theorem tw_304 : Cond.instanceMethod yX8_hear ∈ jm_TB := jm_tb 304 (by decide +kernel) rfl
theorem tw_305 : Cond.selects RX8 yX8_hear yX8_hear ∈ jm_TB := jm_tb 305 (by decide +kernel) rfl
theorem tw_306 : Cond.code yX8_hear cX8_hear 5 (some .int) ∈ jm_TB := jm_tb 306 (by decide +kernel) rfl
theorem tw_307 : Cond.methodLink RX8 79 yX8_isEar ∈ jm_TB := jm_tb 307 (by decide +kernel) rfl
theorem tw_308 : Cond.static yX8_isEar ∈ jm_TB := jm_tb 308 (by decide +kernel) rfl
theorem tw_309 : Cond.code yX8_isEar cX8_isEar 1 (some .boolean) ∈ jm_TB := jm_tb 309 (by decide +kernel) rfl
theorem tw_311 : Cond.methodLink RX8 84 yX8_markOf ∈ jm_TB := jm_tb 311 (by decide +kernel) rfl
theorem tw_312 : Cond.static yX8_markOf ∈ jm_TB := jm_tb 312 (by decide +kernel) rfl
theorem tw_313 : Cond.code yX8_markOf cX8_markOf 2 (some .int) ∈ jm_TB := jm_tb 313 (by decide +kernel) rfl
theorem tw_314 : Cond.methodLink RX8 88 yX3_refusalOf ∈ jm_TB := jm_tb 314 (by decide +kernel) rfl
theorem tw_315 : Cond.instanceMethod yX3_refusalOf ∈ jm_TB := jm_tb 315 (by decide +kernel) rfl
theorem tw_316 : Cond.selects RX3 yX3_refusalOf yX3_refusalOf ∈ jm_TB := jm_tb 316 (by decide +kernel) rfl
theorem tw_317 : Cond.code yX3_refusalOf cX3_refusalOf 2 (some .int) ∈ jm_TB := jm_tb 317 (by decide +kernel) rfl
theorem tw_318 : Cond.methodLink RX3 26 yX3_has ∈ jm_TB := jm_tb 318 (by decide +kernel) rfl
theorem tw_319 : Cond.instanceMethod yX3_has ∈ jm_TB := jm_tb 319 (by decide +kernel) rfl
theorem tw_320 : Cond.selects RX3 yX3_has yX3_has ∈ jm_TB := jm_tb 320 (by decide +kernel) rfl
theorem tw_321 : Cond.code yX3_has cX3_has 3 (some .boolean) ∈ jm_TB := jm_tb 321 (by decide +kernel) rfl
theorem tw_322 : Cond.methodLink RX3 22 yX3_placeOf ∈ jm_TB := jm_tb 322 (by decide +kernel) rfl
theorem tw_324 : Cond.instanceMethod yX3_placeOf ∈ jm_TB := jm_tb 324 (by decide +kernel) rfl
theorem tw_325 : Cond.code yX3_placeOf cX3_placeOf 3 (some .int) ∈ jm_TB := jm_tb 325 (by decide +kernel) rfl
theorem tw_326 : Cond.methodLink RX8 92 yX3_add ∈ jm_TB := jm_tb 326 (by decide +kernel) rfl
theorem tw_327 : Cond.instanceMethod yX3_add ∈ jm_TB := jm_tb 327 (by decide +kernel) rfl
theorem tw_328 : Cond.selects RX3 yX3_add yX3_add ∈ jm_TB := jm_tb 328 (by decide +kernel) rfl
theorem tw_329 : Cond.code yX3_add cX3_add 3 (some .int) ∈ jm_TB := jm_tb 329 (by decide +kernel) rfl
theorem tw_330 : Cond.methodLink RL 22 yX8_fire ∈ jm_TB := jm_tb 330 (by decide +kernel) rfl
theorem tw_331 : Cond.instanceMethod yX8_fire ∈ jm_TB := jm_tb 331 (by decide +kernel) rfl
theorem tw_332 : Cond.selects RX8 yX8_fire yX8_fire ∈ jm_TB := jm_tb 332 (by decide +kernel) rfl
theorem tw_333 : Cond.code yX8_fire cX8_fire 5 (some .int) ∈ jm_TB := jm_tb 333 (by decide +kernel) rfl
theorem tw_334 : Cond.methodLink RX8 95 yX8_isPoint ∈ jm_TB := jm_tb 334 (by decide +kernel) rfl
theorem tw_335 : Cond.static yX8_isPoint ∈ jm_TB := jm_tb 335 (by decide +kernel) rfl
theorem tw_336 : Cond.code yX8_isPoint cX8_isPoint 2 (some .boolean) ∈ jm_TB := jm_tb 336 (by decide +kernel) rfl
theorem tw_338 : Cond.methodLink RX8 100 yX2_tune ∈ jm_TB := jm_tb 338 (by decide +kernel) rfl
theorem tw_339 : Cond.instanceMethod yX2_tune ∈ jm_TB := jm_tb 339 (by decide +kernel) rfl
theorem tw_340 : Cond.selects RX2 yX2_tune yX2_tune ∈ jm_TB := jm_tb 340 (by decide +kernel) rfl
theorem tw_341 : Cond.code yX2_tune cX2_tune 4 none ∈ jm_TB := jm_tb 341 (by decide +kernel) rfl
theorem tw_342 : Cond.methodLink RX2 28 yX2_speedAt ∈ jm_TB := jm_tb 342 (by decide +kernel) rfl
theorem tw_343 : Cond.static yX2_speedAt ∈ jm_TB := jm_tb 343 (by decide +kernel) rfl
theorem tw_344 : Cond.code yX2_speedAt cX2_speedAt 1 (some .int) ∈ jm_TB := jm_tb 344 (by decide +kernel) rfl
theorem tw_345 : Cond.methodLink RX2 22 yJ9_floorDiv_7cf53 ∈ jm_TB := jm_tb 345 (by decide +kernel) rfl
theorem tw_346 : Cond.static yJ9_floorDiv_7cf53 ∈ jm_TB := jm_tb 346 (by decide +kernel) rfl
theorem tw_347 : Cond.code yJ9_floorDiv_7cf53 cJ9_floorDiv_7cf53 3 (some .int) ∈ jm_TB := jm_tb 347 (by decide +kernel) rfl
theorem tw_348 : Cond.methodLink RX8 104 yX2_crackTime ∈ jm_TB := jm_tb 348 (by decide +kernel) rfl
theorem tw_349 : Cond.instanceMethod yX2_crackTime ∈ jm_TB := jm_tb 349 (by decide +kernel) rfl
theorem tw_350 : Cond.selects RX2 yX2_crackTime yX2_crackTime ∈ jm_TB := jm_tb 350 (by decide +kernel) rfl
theorem tw_351 : Cond.code yX2_crackTime cX2_crackTime 6 (some .int) ∈ jm_TB := jm_tb 351 (by decide +kernel) rfl
theorem tw_352 : Cond.methodLink RX8 108 yX3_has ∈ jm_TB := jm_tb 352 (by decide +kernel) rfl
theorem tw_353 : Cond.methodLink RL 27 yX8_hearAll ∈ jm_TB := jm_tb 353 (by decide +kernel) rfl
theorem tw_354 : Cond.instanceMethod yX8_hearAll ∈ jm_TB := jm_tb 354 (by decide +kernel) rfl
theorem tw_355 : Cond.selects RX8 yX8_hearAll yX8_hearAll ∈ jm_TB := jm_tb 355 (by decide +kernel) rfl
theorem tw_356 : Cond.code yX8_hearAll cX8_hearAll 2 (some .int) ∈ jm_TB := jm_tb 356 (by decide +kernel) rfl
theorem tw_357 : Cond.methodLink RX8 115 yX5_read ∈ jm_TB := jm_tb 357 (by decide +kernel) rfl
theorem tw_358 : Cond.instanceMethod yX5_read ∈ jm_TB := jm_tb 358 (by decide +kernel) rfl
theorem tw_359 : Cond.selects RX5 yX5_read yX5_read ∈ jm_TB := jm_tb 359 (by decide +kernel) rfl
theorem tw_360 : Cond.code yX5_read cX5_read 3 (some .int) ∈ jm_TB := jm_tb 360 (by decide +kernel) rfl
theorem tw_361 : Cond.methodLink RX5 26 yX5_step ∈ jm_TB := jm_tb 361 (by decide +kernel) rfl
theorem tw_363 : Cond.instanceMethod yX5_step ∈ jm_TB := jm_tb 363 (by decide +kernel) rfl
theorem tw_364 : Cond.code yX5_step cX5_step 5 (some .int) ∈ jm_TB := jm_tb 364 (by decide +kernel) rfl
theorem tw_366 : Cond.methodLink RX5 30 yX5_note ∈ jm_TB := jm_tb 366 (by decide +kernel) rfl
theorem tw_368 : Cond.instanceMethod yX5_note ∈ jm_TB := jm_tb 368 (by decide +kernel) rfl
theorem tw_369 : Cond.code yX5_note cX5_note 1 none ∈ jm_TB := jm_tb 369 (by decide +kernel) rfl
theorem tw_372 : Cond.methodLink RL 32 yX8_forget ∈ jm_TB := jm_tb 372 (by decide +kernel) rfl
theorem tw_373 : Cond.instanceMethod yX8_forget ∈ jm_TB := jm_tb 373 (by decide +kernel) rfl
theorem tw_374 : Cond.selects RX8 yX8_forget yX8_forget ∈ jm_TB := jm_tb 374 (by decide +kernel) rfl
theorem tw_375 : Cond.code yX8_forget cX8_forget 3 (some .int) ∈ jm_TB := jm_tb 375 (by decide +kernel) rfl
theorem tw_376 : Cond.methodLink RX8 128 yX3_isPulse ∈ jm_TB := jm_tb 376 (by decide +kernel) rfl
theorem tw_377 : Cond.instanceMethod yX3_isPulse ∈ jm_TB := jm_tb 377 (by decide +kernel) rfl
theorem tw_378 : Cond.selects RX3 yX3_isPulse yX3_isPulse ∈ jm_TB := jm_tb 378 (by decide +kernel) rfl
theorem tw_379 : Cond.code yX3_isPulse cX3_isPulse 2 (some .boolean) ∈ jm_TB := jm_tb 379 (by decide +kernel) rfl
theorem tw_380 : Cond.methodLink RX8 131 yX3_timeOf ∈ jm_TB := jm_tb 380 (by decide +kernel) rfl
theorem tw_381 : Cond.instanceMethod yX3_timeOf ∈ jm_TB := jm_tb 381 (by decide +kernel) rfl
theorem tw_382 : Cond.selects RX3 yX3_timeOf yX3_timeOf ∈ jm_TB := jm_tb 382 (by decide +kernel) rfl
theorem tw_383 : Cond.code yX3_timeOf cX3_timeOf 2 (some .int) ∈ jm_TB := jm_tb 383 (by decide +kernel) rfl
theorem tw_384 : Cond.methodLink RX8 134 yX3_remove ∈ jm_TB := jm_tb 384 (by decide +kernel) rfl
theorem tw_385 : Cond.instanceMethod yX3_remove ∈ jm_TB := jm_tb 385 (by decide +kernel) rfl
theorem tw_386 : Cond.selects RX3 yX3_remove yX3_remove ∈ jm_TB := jm_tb 386 (by decide +kernel) rfl
theorem tw_387 : Cond.code yX3_remove cX3_remove 2 none ∈ jm_TB := jm_tb 387 (by decide +kernel) rfl
theorem tw_388 : Cond.methodLink RX3 36 yX3_isPulse ∈ jm_TB := jm_tb 388 (by decide +kernel) rfl
theorem tw_389 : Cond.methodLink RL 37 yX8_clear ∈ jm_TB := jm_tb 389 (by decide +kernel) rfl
theorem tw_390 : Cond.instanceMethod yX8_clear ∈ jm_TB := jm_tb 390 (by decide +kernel) rfl
theorem tw_391 : Cond.selects RX8 yX8_clear yX8_clear ∈ jm_TB := jm_tb 391 (by decide +kernel) rfl
theorem tw_392 : Cond.code yX8_clear cX8_clear 2 (some .int) ∈ jm_TB := jm_tb 392 (by decide +kernel) rfl
theorem tw_393 : Cond.methodLink RL 41 yX8_takes ∈ jm_TB := jm_tb 393 (by decide +kernel) rfl
theorem tw_394 : Cond.instanceMethod yX8_takes ∈ jm_TB := jm_tb 394 (by decide +kernel) rfl
theorem tw_395 : Cond.selects RX8 yX8_takes yX8_takes ∈ jm_TB := jm_tb 395 (by decide +kernel) rfl
theorem tw_396 : Cond.code yX8_takes cX8_takes 4 (some .int) ∈ jm_TB := jm_tb 396 (by decide +kernel) rfl
theorem tw_397 : Cond.methodLink RL 45 yX8_pulse ∈ jm_TB := jm_tb 397 (by decide +kernel) rfl
theorem tw_398 : Cond.instanceMethod yX8_pulse ∈ jm_TB := jm_tb 398 (by decide +kernel) rfl
theorem tw_399 : Cond.selects RX8 yX8_pulse yX8_pulse ∈ jm_TB := jm_tb 399 (by decide +kernel) rfl
theorem tw_400 : Cond.code yX8_pulse cX8_pulse 3 (some .int) ∈ jm_TB := jm_tb 400 (by decide +kernel) rfl
theorem tw_401 : Cond.methodLink RX8 137 yX3_earOf ∈ jm_TB := jm_tb 401 (by decide +kernel) rfl
theorem tw_402 : Cond.instanceMethod yX3_earOf ∈ jm_TB := jm_tb 402 (by decide +kernel) rfl
theorem tw_403 : Cond.selects RX3 yX3_earOf yX3_earOf ∈ jm_TB := jm_tb 403 (by decide +kernel) rfl
theorem tw_404 : Cond.code yX3_earOf cX3_earOf 2 (some .int) ∈ jm_TB := jm_tb 404 (by decide +kernel) rfl
theorem tw_405 : Cond.methodLink RX8 140 yX8_current ∈ jm_TB := jm_tb 405 (by decide +kernel) rfl
theorem tw_407 : Cond.instanceMethod yX8_current ∈ jm_TB := jm_tb 407 (by decide +kernel) rfl
theorem tw_408 : Cond.code yX8_current cX8_current 1 (some (.object "CrackTarget$Shots")) ∈ jm_TB := jm_tb 408 (by decide +kernel) rfl
theorem tw_409 : Cond.methodLink RX8 211 yX0_find ∈ jm_TB := jm_tb 409 (by decide +kernel) rfl
theorem tw_410 : Cond.instanceMethod yX0_find ∈ jm_TB := jm_tb 410 (by decide +kernel) rfl
theorem tw_411 : Cond.selects RX0 yX0_find yX0_find ∈ jm_TB := jm_tb 411 (by decide +kernel) rfl
theorem tw_412 : Cond.code yX0_find cX0_find 6 none ∈ jm_TB := jm_tb 412 (by decide +kernel) rfl
theorem tw_413 : Cond.methodLink RX0 28 yX7_reset ∈ jm_TB := jm_tb 413 (by decide +kernel) rfl
theorem tw_414 : Cond.instanceMethod yX7_reset ∈ jm_TB := jm_tb 414 (by decide +kernel) rfl
theorem tw_415 : Cond.selects RX7 yX7_reset yX7_reset ∈ jm_TB := jm_tb 415 (by decide +kernel) rfl
theorem tw_416 : Cond.code yX7_reset cX7_reset 2 none ∈ jm_TB := jm_tb 416 (by decide +kernel) rfl
theorem tw_417 : Cond.methodLink RX0 33 yX3_isPulse ∈ jm_TB := jm_tb 417 (by decide +kernel) rfl
theorem tw_418 : Cond.methodLink RX0 47 yX0_judge ∈ jm_TB := jm_tb 418 (by decide +kernel) rfl
theorem tw_420 : Cond.instanceMethod yX0_judge ∈ jm_TB := jm_tb 420 (by decide +kernel) rfl
theorem tw_421 : Cond.code yX0_judge cX0_judge 8 none ∈ jm_TB := jm_tb 421 (by decide +kernel) rfl
theorem tw_422 : Cond.methodLink RX0 67 yX0_gather ∈ jm_TB := jm_tb 422 (by decide +kernel) rfl
theorem tw_424 : Cond.instanceMethod yX0_gather ∈ jm_TB := jm_tb 424 (by decide +kernel) rfl
theorem tw_425 : Cond.code yX0_gather cX0_gather 8 none ∈ jm_TB := jm_tb 425 (by decide +kernel) rfl
theorem tw_426 : Cond.methodLink RX0 92 yX3_earOf ∈ jm_TB := jm_tb 426 (by decide +kernel) rfl
theorem tw_427 : Cond.methodLink RX0 59 yX3_timeOf ∈ jm_TB := jm_tb 427 (by decide +kernel) rfl
theorem tw_428 : Cond.methodLink RX0 74 yX0_choose ∈ jm_TB := jm_tb 428 (by decide +kernel) rfl
theorem tw_430 : Cond.instanceMethod yX0_choose ∈ jm_TB := jm_tb 430 (by decide +kernel) rfl
theorem tw_431 : Cond.code yX0_choose cX0_choose 5 (some .boolean) ∈ jm_TB := jm_tb 431 (by decide +kernel) rfl
theorem tw_432 : Cond.methodLink RX0 78 yX1_search ∈ jm_TB := jm_tb 432 (by decide +kernel) rfl
theorem tw_433 : Cond.instanceMethod yX1_search ∈ jm_TB := jm_tb 433 (by decide +kernel) rfl
theorem tw_434 : Cond.selects RX1 yX1_search yX1_search ∈ jm_TB := jm_tb 434 (by decide +kernel) rfl
theorem tw_435 : Cond.code yX1_search cX1_search 10 (some .boolean) ∈ jm_TB := jm_tb 435 (by decide +kernel) rfl
theorem tw_436 : Cond.methodLink RX1 22 yX2_lag ∈ jm_TB := jm_tb 436 (by decide +kernel) rfl
theorem tw_437 : Cond.instanceMethod yX2_lag ∈ jm_TB := jm_tb 437 (by decide +kernel) rfl
theorem tw_438 : Cond.selects RX2 yX2_lag yX2_lag ∈ jm_TB := jm_tb 438 (by decide +kernel) rfl
theorem tw_439 : Cond.code yX2_lag cX2_lag 4 (some .int) ∈ jm_TB := jm_tb 439 (by decide +kernel) rfl
theorem tw_440 : Cond.methodLink RX1 28 yX1_spreadAt ∈ jm_TB := jm_tb 440 (by decide +kernel) rfl
theorem tw_441 : Cond.instanceMethod yX1_spreadAt ∈ jm_TB := jm_tb 441 (by decide +kernel) rfl
theorem tw_442 : Cond.selects RX1 yX1_spreadAt yX1_spreadAt ∈ jm_TB := jm_tb 442 (by decide +kernel) rfl
theorem tw_443 : Cond.code yX1_spreadAt cX1_spreadAt 8 (some .int) ∈ jm_TB := jm_tb 443 (by decide +kernel) rfl
theorem tw_444 : Cond.methodLink RX1 35 yX2_crackTime ∈ jm_TB := jm_tb 444 (by decide +kernel) rfl
theorem tw_445 : Cond.methodLink RX1 39 Lib.Math.min.name ∈ jm_TB := jm_tb 445 (by decide +kernel) rfl
theorem tw_446 : Cond.static Lib.Math.min.name ∈ jm_TB := jm_tb 446 (by decide +kernel) rfl
theorem tw_447 : Cond.code Lib.Math.min.name Lib.Math.min.code 2 (some .int) ∈ jm_TB := jm_tb 447 (by decide +kernel) rfl
theorem tw_448 : Cond.methodLink RX1 44 Lib.Math.max.name ∈ jm_TB := jm_tb 448 (by decide +kernel) rfl
theorem tw_449 : Cond.static Lib.Math.max.name ∈ jm_TB := jm_tb 449 (by decide +kernel) rfl
theorem tw_450 : Cond.code Lib.Math.max.name Lib.Math.max.code 2 (some .int) ∈ jm_TB := jm_tb 450 (by decide +kernel) rfl
theorem tw_451 : Cond.methodLink RX0 82 yX7_draft ∈ jm_TB := jm_tb 451 (by decide +kernel) rfl
theorem tw_452 : Cond.instanceMethod yX7_draft ∈ jm_TB := jm_tb 452 (by decide +kernel) rfl
theorem tw_453 : Cond.selects RX7 yX7_draft yX7_draft ∈ jm_TB := jm_tb 453 (by decide +kernel) rfl
theorem tw_454 : Cond.code yX7_draft cX7_draft 4 none ∈ jm_TB := jm_tb 454 (by decide +kernel) rfl
theorem tw_455 : Cond.methodLink RX7 26 yX6_become ∈ jm_TB := jm_tb 455 (by decide +kernel) rfl
theorem tw_456 : Cond.instanceMethod yX6_become ∈ jm_TB := jm_tb 456 (by decide +kernel) rfl
theorem tw_457 : Cond.selects RX6 yX6_become yX6_become ∈ jm_TB := jm_tb 457 (by decide +kernel) rfl
theorem tw_458 : Cond.code yX6_become cX6_become 4 none ∈ jm_TB := jm_tb 458 (by decide +kernel) rfl
theorem tw_459 : Cond.methodLink RX6 15 arraycopyName ∈ jm_TB := jm_tb 459 (by decide +kernel) rfl
theorem tw_460 : Cond.methodLink RX6 36 yX1_leastStart ∈ jm_TB := jm_tb 460 (by decide +kernel) rfl
theorem tw_461 : Cond.instanceMethod yX1_leastStart ∈ jm_TB := jm_tb 461 (by decide +kernel) rfl
theorem tw_462 : Cond.selects RX1 yX1_leastStart yX1_leastStart ∈ jm_TB := jm_tb 462 (by decide +kernel) rfl
theorem tw_463 : Cond.code yX1_leastStart cX1_leastStart 4 (some .int) ∈ jm_TB := jm_tb 463 (by decide +kernel) rfl
theorem tw_464 : Cond.methodLink RX6 43 yX2_distance ∈ jm_TB := jm_tb 464 (by decide +kernel) rfl
theorem tw_465 : Cond.instanceMethod yX2_distance ∈ jm_TB := jm_tb 465 (by decide +kernel) rfl
theorem tw_466 : Cond.selects RX2 yX2_distance yX2_distance ∈ jm_TB := jm_tb 466 (by decide +kernel) rfl
theorem tw_467 : Cond.code yX2_distance cX2_distance 5 (some .int) ∈ jm_TB := jm_tb 467 (by decide +kernel) rfl
theorem tw_468 : Cond.methodLink RX2 35 Lib.Math.abs.name ∈ jm_TB := jm_tb 468 (by decide +kernel) rfl
theorem tw_469 : Cond.static Lib.Math.abs.name ∈ jm_TB := jm_tb 469 (by decide +kernel) rfl
theorem tw_470 : Cond.code Lib.Math.abs.name Lib.Math.abs.code 1 (some .int) ∈ jm_TB := jm_tb 470 (by decide +kernel) rfl
theorem tw_471 : Cond.methodLink RX6 49 Lib.Math.max.name ∈ jm_TB := jm_tb 471 (by decide +kernel) rfl
theorem tw_472 : Cond.methodLink RX0 89 yX7_accept ∈ jm_TB := jm_tb 472 (by decide +kernel) rfl
theorem tw_473 : Cond.instanceMethod yX7_accept ∈ jm_TB := jm_tb 473 (by decide +kernel) rfl
theorem tw_474 : Cond.selects RX7 yX7_accept yX7_accept ∈ jm_TB := jm_tb 474 (by decide +kernel) rfl
theorem tw_475 : Cond.code yX7_accept cX7_accept 2 none ∈ jm_TB := jm_tb 475 (by decide +kernel) rfl
theorem tw_476 : Cond.methodLink RL 49 yX8_shot ∈ jm_TB := jm_tb 476 (by decide +kernel) rfl
theorem tw_477 : Cond.instanceMethod yX8_shot ∈ jm_TB := jm_tb 477 (by decide +kernel) rfl
theorem tw_478 : Cond.selects RX8 yX8_shot yX8_shot ∈ jm_TB := jm_tb 478 (by decide +kernel) rfl
theorem tw_479 : Cond.code yX8_shot cX8_shot 4 (some .int) ∈ jm_TB := jm_tb 479 (by decide +kernel) rfl
theorem tw_480 : Cond.methodLink RX8 147 yX7_isShot ∈ jm_TB := jm_tb 480 (by decide +kernel) rfl
theorem tw_481 : Cond.instanceMethod yX7_isShot ∈ jm_TB := jm_tb 481 (by decide +kernel) rfl
theorem tw_482 : Cond.selects RX7 yX7_isShot yX7_isShot ∈ jm_TB := jm_tb 482 (by decide +kernel) rfl
theorem tw_483 : Cond.code yX7_isShot cX7_isShot 2 (some .boolean) ∈ jm_TB := jm_tb 483 (by decide +kernel) rfl
theorem tw_484 : Cond.methodLink RX8 154 yX6_tell ∈ jm_TB := jm_tb 484 (by decide +kernel) rfl
theorem tw_485 : Cond.instanceMethod yX6_tell ∈ jm_TB := jm_tb 485 (by decide +kernel) rfl
theorem tw_486 : Cond.selects RX6 yX6_tell yX6_tell ∈ jm_TB := jm_tb 486 (by decide +kernel) rfl
theorem tw_487 : Cond.code yX6_tell cX6_tell 2 (some .int) ∈ jm_TB := jm_tb 487 (by decide +kernel) rfl
theorem tw_488 : Cond.methodLink RL 53 yX8_count ∈ jm_TB := jm_tb 488 (by decide +kernel) rfl
theorem tw_489 : Cond.instanceMethod yX8_count ∈ jm_TB := jm_tb 489 (by decide +kernel) rfl
theorem tw_490 : Cond.selects RX8 yX8_count yX8_count ∈ jm_TB := jm_tb 490 (by decide +kernel) rfl
theorem tw_491 : Cond.code yX8_count cX8_count 2 (some .int) ∈ jm_TB := jm_tb 491 (by decide +kernel) rfl
theorem tw_492 : Cond.methodLink RX8 160 yX7_sumOfRings ∈ jm_TB := jm_tb 492 (by decide +kernel) rfl
theorem tw_493 : Cond.instanceMethod yX7_sumOfRings ∈ jm_TB := jm_tb 493 (by decide +kernel) rfl
theorem tw_494 : Cond.selects RX7 yX7_sumOfRings yX7_sumOfRings ∈ jm_TB := jm_tb 494 (by decide +kernel) rfl
theorem tw_495 : Cond.code yX7_sumOfRings cX7_sumOfRings 3 (some .int) ∈ jm_TB := jm_tb 495 (by decide +kernel) rfl
theorem tw_496 : Cond.methodLink RX8 163 yX7_withGreatestRing ∈ jm_TB := jm_tb 496 (by decide +kernel) rfl
theorem tw_497 : Cond.instanceMethod yX7_withGreatestRing ∈ jm_TB := jm_tb 497 (by decide +kernel) rfl
theorem tw_498 : Cond.selects RX7 yX7_withGreatestRing yX7_withGreatestRing ∈ jm_TB := jm_tb 498 (by decide +kernel) rfl
theorem tw_499 : Cond.code yX7_withGreatestRing cX7_withGreatestRing 4 (some .int) ∈ jm_TB := jm_tb 499 (by decide +kernel) rfl
theorem tw_500 : Cond.methodLink RX8 166 yX7_sumOfSpreads ∈ jm_TB := jm_tb 500 (by decide +kernel) rfl
theorem tw_501 : Cond.instanceMethod yX7_sumOfSpreads ∈ jm_TB := jm_tb 501 (by decide +kernel) rfl
theorem tw_502 : Cond.selects RX7 yX7_sumOfSpreads yX7_sumOfSpreads ∈ jm_TB := jm_tb 502 (by decide +kernel) rfl
theorem tw_503 : Cond.code yX7_sumOfSpreads cX7_sumOfSpreads 3 (some .int) ∈ jm_TB := jm_tb 503 (by decide +kernel) rfl
theorem tw_504 : Cond.methodLink RX8 169 yX7_widest ∈ jm_TB := jm_tb 504 (by decide +kernel) rfl
theorem tw_505 : Cond.instanceMethod yX7_widest ∈ jm_TB := jm_tb 505 (by decide +kernel) rfl
theorem tw_506 : Cond.selects RX7 yX7_widest yX7_widest ∈ jm_TB := jm_tb 506 (by decide +kernel) rfl
theorem tw_507 : Cond.code yX7_widest cX7_widest 5 (some .int) ∈ jm_TB := jm_tb 507 (by decide +kernel) rfl
theorem tw_508 : Cond.methodLink RX7 45 yX2_distance ∈ jm_TB := jm_tb 508 (by decide +kernel) rfl
theorem tw_509 : Cond.methodLink RX7 51 Lib.Math.max.name ∈ jm_TB := jm_tb 509 (by decide +kernel) rfl
theorem tw_510 : Cond.methodLink RX8 173 yX2_speedAt ∈ jm_TB := jm_tb 510 (by decide +kernel) rfl
theorem tw_511 : Cond.methodLink RL 57 yX8_fits ∈ jm_TB := jm_tb 511 (by decide +kernel) rfl
theorem tw_512 : Cond.instanceMethod yX8_fits ∈ jm_TB := jm_tb 512 (by decide +kernel) rfl
theorem tw_513 : Cond.selects RX8 yX8_fits yX8_fits ∈ jm_TB := jm_tb 513 (by decide +kernel) rfl
theorem tw_514 : Cond.code yX8_fits cX8_fits 5 (some .int) ∈ jm_TB := jm_tb 514 (by decide +kernel) rfl
theorem tw_515 : Cond.methodLink RX8 177 yX0_spreadOf ∈ jm_TB := jm_tb 515 (by decide +kernel) rfl
theorem tw_516 : Cond.instanceMethod yX0_spreadOf ∈ jm_TB := jm_tb 516 (by decide +kernel) rfl
theorem tw_517 : Cond.selects RX0 yX0_spreadOf yX0_spreadOf ∈ jm_TB := jm_tb 517 (by decide +kernel) rfl
theorem tw_518 : Cond.code yX0_spreadOf cX0_spreadOf 7 (some .int) ∈ jm_TB := jm_tb 518 (by decide +kernel) rfl
theorem tw_519 : Cond.methodLink RX0 63 yX1_spreadAt ∈ jm_TB := jm_tb 519 (by decide +kernel) rfl
theorem tw_520 : Cond.methodLink RL 61 yX8_mean ∈ jm_TB := jm_tb 520 (by decide +kernel) rfl
theorem tw_521 : Cond.instanceMethod yX8_mean ∈ jm_TB := jm_tb 521 (by decide +kernel) rfl
theorem tw_522 : Cond.selects RX8 yX8_mean yX8_mean ∈ jm_TB := jm_tb 522 (by decide +kernel) rfl
theorem tw_523 : Cond.code yX8_mean cX8_mean 3 (some .int) ∈ jm_TB := jm_tb 523 (by decide +kernel) rfl
theorem tw_524 : Cond.methodLink RX8 181 yX7_sumOfX ∈ jm_TB := jm_tb 524 (by decide +kernel) rfl
theorem tw_525 : Cond.instanceMethod yX7_sumOfX ∈ jm_TB := jm_tb 525 (by decide +kernel) rfl
theorem tw_526 : Cond.selects RX7 yX7_sumOfX yX7_sumOfX ∈ jm_TB := jm_tb 526 (by decide +kernel) rfl
theorem tw_527 : Cond.code yX7_sumOfX cX7_sumOfX 3 (some .int) ∈ jm_TB := jm_tb 527 (by decide +kernel) rfl
theorem tw_528 : Cond.methodLink RX8 184 yX7_sumOfY ∈ jm_TB := jm_tb 528 (by decide +kernel) rfl
theorem tw_529 : Cond.instanceMethod yX7_sumOfY ∈ jm_TB := jm_tb 529 (by decide +kernel) rfl
theorem tw_530 : Cond.selects RX7 yX7_sumOfY yX7_sumOfY ∈ jm_TB := jm_tb 530 (by decide +kernel) rfl
theorem tw_531 : Cond.code yX7_sumOfY cX7_sumOfY 3 (some .int) ∈ jm_TB := jm_tb 531 (by decide +kernel) rfl
theorem tw_532 : Cond.methodLink RL 65 yX8_ifHeat ∈ jm_TB := jm_tb 532 (by decide +kernel) rfl
theorem tw_533 : Cond.instanceMethod yX8_ifHeat ∈ jm_TB := jm_tb 533 (by decide +kernel) rfl
theorem tw_534 : Cond.selects RX8 yX8_ifHeat yX8_ifHeat ∈ jm_TB := jm_tb 534 (by decide +kernel) rfl
theorem tw_535 : Cond.code yX8_ifHeat cX8_ifHeat 3 (some .int) ∈ jm_TB := jm_tb 535 (by decide +kernel) rfl
theorem tw_536 : Cond.methodLink RX8 187 yX8_tryOut ∈ jm_TB := jm_tb 536 (by decide +kernel) rfl
theorem tw_538 : Cond.instanceMethod yX8_tryOut ∈ jm_TB := jm_tb 538 (by decide +kernel) rfl
theorem tw_539 : Cond.code yX8_tryOut cX8_tryOut 3 none ∈ jm_TB := jm_tb 539 (by decide +kernel) rfl
theorem tw_540 : Cond.methodLink RL 69 yX8_bestHeat ∈ jm_TB := jm_tb 540 (by decide +kernel) rfl
theorem tw_541 : Cond.instanceMethod yX8_bestHeat ∈ jm_TB := jm_tb 541 (by decide +kernel) rfl
theorem tw_542 : Cond.selects RX8 yX8_bestHeat yX8_bestHeat ∈ jm_TB := jm_tb 542 (by decide +kernel) rfl
theorem tw_543 : Cond.code yX8_bestHeat cX8_bestHeat 6 (some .int) ∈ jm_TB := jm_tb 543 (by decide +kernel) rfl
theorem tw_544 : Cond.methodLink RL 73 yX8_ifForgot ∈ jm_TB := jm_tb 544 (by decide +kernel) rfl
theorem tw_545 : Cond.instanceMethod yX8_ifForgot ∈ jm_TB := jm_tb 545 (by decide +kernel) rfl
theorem tw_546 : Cond.selects RX8 yX8_ifForgot yX8_ifForgot ∈ jm_TB := jm_tb 546 (by decide +kernel) rfl
theorem tw_547 : Cond.code yX8_ifForgot cX8_ifForgot 2 (some .int) ∈ jm_TB := jm_tb 547 (by decide +kernel) rfl
theorem tw_548 : Cond.methodLink RL 79 yX8_put ∈ jm_TB := jm_tb 548 (by decide +kernel) rfl
theorem tw_549 : Cond.instanceMethod yX8_put ∈ jm_TB := jm_tb 549 (by decide +kernel) rfl
theorem tw_550 : Cond.selects RX8 yX8_put yX8_put ∈ jm_TB := jm_tb 550 (by decide +kernel) rfl
theorem tw_551 : Cond.code yX8_put cX8_put 8 (some .int) ∈ jm_TB := jm_tb 551 (by decide +kernel) rfl
theorem tw_555 : Cond.methodLink RX8 197 yX5_append ∈ jm_TB := jm_tb 555 (by decide +kernel) rfl
theorem tw_556 : Cond.instanceMethod yX5_append ∈ jm_TB := jm_tb 556 (by decide +kernel) rfl
theorem tw_557 : Cond.selects RX5 yX5_append yX5_append ∈ jm_TB := jm_tb 557 (by decide +kernel) rfl
theorem tw_558 : Cond.code yX5_append cX5_append 2 none ∈ jm_TB := jm_tb 558 (by decide +kernel) rfl
theorem tw_559 : Cond.methodLink RL 84 yX8_wipe ∈ jm_TB := jm_tb 559 (by decide +kernel) rfl
theorem tw_560 : Cond.instanceMethod yX8_wipe ∈ jm_TB := jm_tb 560 (by decide +kernel) rfl
theorem tw_561 : Cond.selects RX8 yX8_wipe yX8_wipe ∈ jm_TB := jm_tb 561 (by decide +kernel) rfl
theorem tw_562 : Cond.code yX8_wipe cX8_wipe 2 (some .int) ∈ jm_TB := jm_tb 562 (by decide +kernel) rfl
theorem tw_563 : Cond.methodLink RL 88 yX8_fault ∈ jm_TB := jm_tb 563 (by decide +kernel) rfl
theorem tw_564 : Cond.instanceMethod yX8_fault ∈ jm_TB := jm_tb 564 (by decide +kernel) rfl
theorem tw_565 : Cond.selects RX8 yX8_fault yX8_fault ∈ jm_TB := jm_tb 565 (by decide +kernel) rfl
theorem tw_566 : Cond.code yX8_fault cX8_fault 1 (some .int) ∈ jm_TB := jm_tb 566 (by decide +kernel) rfl
theorem tw_567 : Cond.methodLink RL 92 yX8_undo ∈ jm_TB := jm_tb 567 (by decide +kernel) rfl
theorem tw_568 : Cond.instanceMethod yX8_undo ∈ jm_TB := jm_tb 568 (by decide +kernel) rfl
theorem tw_569 : Cond.selects RX8 yX8_undo yX8_undo ∈ jm_TB := jm_tb 569 (by decide +kernel) rfl
theorem tw_570 : Cond.code yX8_undo cX8_undo 1 (some .int) ∈ jm_TB := jm_tb 570 (by decide +kernel) rfl
theorem tw_571 : Cond.methodLink RX8 201 yX4_takeBack ∈ jm_TB := jm_tb 571 (by decide +kernel) rfl
theorem tw_572 : Cond.instanceMethod yX4_takeBack ∈ jm_TB := jm_tb 572 (by decide +kernel) rfl
theorem tw_573 : Cond.selects RX4 yX4_takeBack yX4_takeBack ∈ jm_TB := jm_tb 573 (by decide +kernel) rfl
theorem tw_574 : Cond.code yX4_takeBack cX4_takeBack 2 none ∈ jm_TB := jm_tb 574 (by decide +kernel) rfl
theorem tw_575 : Cond.methodLink RL 96 yX8_save ∈ jm_TB := jm_tb 575 (by decide +kernel) rfl
theorem tw_576 : Cond.instanceMethod yX8_save ∈ jm_TB := jm_tb 576 (by decide +kernel) rfl
theorem tw_577 : Cond.selects RX8 yX8_save yX8_save ∈ jm_TB := jm_tb 577 (by decide +kernel) rfl
theorem tw_578 : Cond.code yX8_save cX8_save 2 (some .int) ∈ jm_TB := jm_tb 578 (by decide +kernel) rfl
theorem tw_579 : Cond.methodLink RX8 205 yX3_become ∈ jm_TB := jm_tb 579 (by decide +kernel) rfl
theorem tw_580 : Cond.methodLink RL 100 yX8_restore ∈ jm_TB := jm_tb 580 (by decide +kernel) rfl
theorem tw_581 : Cond.instanceMethod yX8_restore ∈ jm_TB := jm_tb 581 (by decide +kernel) rfl
theorem tw_582 : Cond.selects RX8 yX8_restore yX8_restore ∈ jm_TB := jm_tb 582 (by decide +kernel) rfl
theorem tw_583 : Cond.code yX8_restore cX8_restore 2 (some .int) ∈ jm_TB := jm_tb 583 (by decide +kernel) rfl
theorem tw_584 : Cond.classLink RL 10 RX9 ∈ jm_TB := jm_tb 584 (by decide +kernel) rfl
theorem tw_585 : Cond.instantiable RX9 27 ∈ jm_TB := jm_tb 585 (by decide +kernel) rfl
theorem tw_586 : Cond.methodLink RL 12 yX9_init ∈ jm_TB := jm_tb 586 (by decide +kernel) rfl
theorem tw_587 : Cond.instanceMethod yX9_init ∈ jm_TB := jm_tb 587 (by decide +kernel) rfl
theorem tw_588 : Cond.code yX9_init cX9_init 3 none ∈ jm_TB := jm_tb 588 (by decide +kernel) rfl
theorem tw_589 : Cond.methodLink RX9 1 objectInit ∈ jm_TB := jm_tb 589 (by decide +kernel) rfl
theorem tw_590 : Cond.methodLink RX9 58 yX9_root ∈ jm_TB := jm_tb 590 (by decide +kernel) rfl
theorem tw_591 : Cond.static yX9_root ∈ jm_TB := jm_tb 591 (by decide +kernel) rfl
theorem tw_592 : Cond.code yX9_root cX9_root 3 (some .int) ∈ jm_TB := jm_tb 592 (by decide +kernel) rfl
theorem tw_675 : Cond.methodLink RL 17 yX9_set ∈ jm_TB := jm_tb 675 (by decide +kernel) rfl
theorem tw_676 : Cond.instanceMethod yX9_set ∈ jm_TB := jm_tb 676 (by decide +kernel) rfl
theorem tw_677 : Cond.selects RX9 yX9_set yX9_set ∈ jm_TB := jm_tb 677 (by decide +kernel) rfl
theorem tw_678 : Cond.code yX9_set cX9_set 4 (some .int) ∈ jm_TB := jm_tb 678 (by decide +kernel) rfl
theorem tw_679 : Cond.methodLink RX9 149 yX9_isValue ∈ jm_TB := jm_tb 679 (by decide +kernel) rfl
theorem tw_680 : Cond.static yX9_isValue ∈ jm_TB := jm_tb 680 (by decide +kernel) rfl
theorem tw_681 : Cond.code yX9_isValue cX9_isValue 2 (some .boolean) ∈ jm_TB := jm_tb 681 (by decide +kernel) rfl
theorem tw_682 : Cond.methodLink RX9 70 yX9_within ∈ jm_TB := jm_tb 682 (by decide +kernel) rfl
theorem tw_683 : Cond.static yX9_within ∈ jm_TB := jm_tb 683 (by decide +kernel) rfl
theorem tw_684 : Cond.code yX9_within cX9_within 3 (some .boolean) ∈ jm_TB := jm_tb 684 (by decide +kernel) rfl
theorem tw_685 : Cond.methodLink RX9 153 yX9_record ∈ jm_TB := jm_tb 685 (by decide +kernel) rfl
theorem tw_687 : Cond.instanceMethod yX9_record ∈ jm_TB := jm_tb 687 (by decide +kernel) rfl
theorem tw_688 : Cond.code yX9_record cX9_record 2 none ∈ jm_TB := jm_tb 688 (by decide +kernel) rfl
theorem tw_689 : Cond.methodLink RX9 66 yX9_moves ∈ jm_TB := jm_tb 689 (by decide +kernel) rfl
theorem tw_690 : Cond.static yX9_moves ∈ jm_TB := jm_tb 690 (by decide +kernel) rfl
theorem tw_691 : Cond.code yX9_moves cX9_moves 5 none ∈ jm_TB := jm_tb 691 (by decide +kernel) rfl
theorem tw_692 : Cond.methodLink RL 21 yX9_hear ∈ jm_TB := jm_tb 692 (by decide +kernel) rfl
theorem tw_693 : Cond.instanceMethod yX9_hear ∈ jm_TB := jm_tb 693 (by decide +kernel) rfl
theorem tw_694 : Cond.selects RX9 yX9_hear yX9_hear ∈ jm_TB := jm_tb 694 (by decide +kernel) rfl
theorem tw_695 : Cond.code yX9_hear cX9_hear 4 (some .int) ∈ jm_TB := jm_tb 695 (by decide +kernel) rfl
theorem tw_696 : Cond.methodLink RX9 162 yX9_whyNotHeard ∈ jm_TB := jm_tb 696 (by decide +kernel) rfl
theorem tw_698 : Cond.instanceMethod yX9_whyNotHeard ∈ jm_TB := jm_tb 698 (by decide +kernel) rfl
theorem tw_699 : Cond.code yX9_whyNotHeard cX9_whyNotHeard 3 (some .int) ∈ jm_TB := jm_tb 699 (by decide +kernel) rfl
theorem tw_700 : Cond.methodLink RX9 156 yX9_isEar ∈ jm_TB := jm_tb 700 (by decide +kernel) rfl
theorem tw_701 : Cond.static yX9_isEar ∈ jm_TB := jm_tb 701 (by decide +kernel) rfl
theorem tw_702 : Cond.code yX9_isEar cX9_isEar 1 (some .boolean) ∈ jm_TB := jm_tb 702 (by decide +kernel) rfl
theorem tw_704 : Cond.methodLink RX9 159 yX9_isThere ∈ jm_TB := jm_tb 704 (by decide +kernel) rfl
theorem tw_706 : Cond.instanceMethod yX9_isThere ∈ jm_TB := jm_tb 706 (by decide +kernel) rfl
theorem tw_707 : Cond.code yX9_isThere cX9_isThere 5 (some .boolean) ∈ jm_TB := jm_tb 707 (by decide +kernel) rfl
theorem tw_708 : Cond.methodLink RX9 87 yX9_earOf ∈ jm_TB := jm_tb 708 (by decide +kernel) rfl
theorem tw_710 : Cond.instanceMethod yX9_earOf ∈ jm_TB := jm_tb 710 (by decide +kernel) rfl
theorem tw_711 : Cond.code yX9_earOf cX9_earOf 2 (some .int) ∈ jm_TB := jm_tb 711 (by decide +kernel) rfl
theorem tw_712 : Cond.methodLink RX9 90 yX9_timeOf ∈ jm_TB := jm_tb 712 (by decide +kernel) rfl
theorem tw_714 : Cond.instanceMethod yX9_timeOf ∈ jm_TB := jm_tb 714 (by decide +kernel) rfl
theorem tw_715 : Cond.code yX9_timeOf cX9_timeOf 2 (some .int) ∈ jm_TB := jm_tb 715 (by decide +kernel) rfl
theorem tw_716 : Cond.methodLink RX9 166 yX9_comes ∈ jm_TB := jm_tb 716 (by decide +kernel) rfl
theorem tw_718 : Cond.instanceMethod yX9_comes ∈ jm_TB := jm_tb 718 (by decide +kernel) rfl
theorem tw_719 : Cond.code yX9_comes cX9_comes 4 (some .int) ∈ jm_TB := jm_tb 719 (by decide +kernel) rfl
theorem tw_720 : Cond.methodLink RL 26 yX9_fire ∈ jm_TB := jm_tb 720 (by decide +kernel) rfl
theorem tw_721 : Cond.instanceMethod yX9_fire ∈ jm_TB := jm_tb 721 (by decide +kernel) rfl
theorem tw_722 : Cond.selects RX9 yX9_fire yX9_fire ∈ jm_TB := jm_tb 722 (by decide +kernel) rfl
theorem tw_723 : Cond.code yX9_fire cX9_fire 7 (some .int) ∈ jm_TB := jm_tb 723 (by decide +kernel) rfl
theorem tw_724 : Cond.methodLink RX9 169 yX9_isPoint ∈ jm_TB := jm_tb 724 (by decide +kernel) rfl
theorem tw_725 : Cond.static yX9_isPoint ∈ jm_TB := jm_tb 725 (by decide +kernel) rfl
theorem tw_726 : Cond.code yX9_isPoint cX9_isPoint 2 (some .boolean) ∈ jm_TB := jm_tb 726 (by decide +kernel) rfl
theorem tw_728 : Cond.methodLink RX9 127 yX9_speedBy ∈ jm_TB := jm_tb 728 (by decide +kernel) rfl
theorem tw_729 : Cond.static yX9_speedBy ∈ jm_TB := jm_tb 729 (by decide +kernel) rfl
theorem tw_730 : Cond.code yX9_speedBy cX9_speedBy 1 (some .int) ∈ jm_TB := jm_tb 730 (by decide +kernel) rfl
theorem tw_731 : Cond.methodLink RX9 84 yX9_takesBy ∈ jm_TB := jm_tb 731 (by decide +kernel) rfl
theorem tw_733 : Cond.instanceMethod yX9_takesBy ∈ jm_TB := jm_tb 733 (by decide +kernel) rfl
theorem tw_734 : Cond.code yX9_takesBy cX9_takesBy 5 (some .int) ∈ jm_TB := jm_tb 734 (by decide +kernel) rfl
theorem tw_735 : Cond.methodLink RX9 77 yX9_distance ∈ jm_TB := jm_tb 735 (by decide +kernel) rfl
theorem tw_737 : Cond.instanceMethod yX9_distance ∈ jm_TB := jm_tb 737 (by decide +kernel) rfl
theorem tw_738 : Cond.code yX9_distance cX9_distance 5 (some .int) ∈ jm_TB := jm_tb 738 (by decide +kernel) rfl
theorem tw_739 : Cond.methodLink RX9 74 yX9_size ∈ jm_TB := jm_tb 739 (by decide +kernel) rfl
theorem tw_740 : Cond.static yX9_size ∈ jm_TB := jm_tb 740 (by decide +kernel) rfl
theorem tw_741 : Cond.code yX9_size cX9_size 1 (some .int) ∈ jm_TB := jm_tb 741 (by decide +kernel) rfl
theorem tw_742 : Cond.methodLink RL 36 yX9_forget ∈ jm_TB := jm_tb 742 (by decide +kernel) rfl
theorem tw_743 : Cond.instanceMethod yX9_forget ∈ jm_TB := jm_tb 743 (by decide +kernel) rfl
theorem tw_744 : Cond.selects RX9 yX9_forget yX9_forget ∈ jm_TB := jm_tb 744 (by decide +kernel) rfl
theorem tw_745 : Cond.code yX9_forget cX9_forget 3 (some .int) ∈ jm_TB := jm_tb 745 (by decide +kernel) rfl
theorem tw_746 : Cond.methodLink RX9 173 yX9_isPulse ∈ jm_TB := jm_tb 746 (by decide +kernel) rfl
theorem tw_748 : Cond.instanceMethod yX9_isPulse ∈ jm_TB := jm_tb 748 (by decide +kernel) rfl
theorem tw_749 : Cond.code yX9_isPulse cX9_isPulse 2 (some .boolean) ∈ jm_TB := jm_tb 749 (by decide +kernel) rfl
theorem tw_750 : Cond.methodLink RX9 176 yX9_goes ∈ jm_TB := jm_tb 750 (by decide +kernel) rfl
theorem tw_752 : Cond.instanceMethod yX9_goes ∈ jm_TB := jm_tb 752 (by decide +kernel) rfl
theorem tw_753 : Cond.code yX9_goes cX9_goes 3 none ∈ jm_TB := jm_tb 753 (by decide +kernel) rfl
theorem tw_754 : Cond.methodLink RL 40 yX9_clear ∈ jm_TB := jm_tb 754 (by decide +kernel) rfl
theorem tw_755 : Cond.instanceMethod yX9_clear ∈ jm_TB := jm_tb 755 (by decide +kernel) rfl
theorem tw_756 : Cond.selects RX9 yX9_clear yX9_clear ∈ jm_TB := jm_tb 756 (by decide +kernel) rfl
theorem tw_757 : Cond.code yX9_clear cX9_clear 2 (some .int) ∈ jm_TB := jm_tb 757 (by decide +kernel) rfl
theorem tw_758 : Cond.methodLink RL 44 yX9_takes ∈ jm_TB := jm_tb 758 (by decide +kernel) rfl
theorem tw_759 : Cond.instanceMethod yX9_takes ∈ jm_TB := jm_tb 759 (by decide +kernel) rfl
theorem tw_760 : Cond.selects RX9 yX9_takes yX9_takes ∈ jm_TB := jm_tb 760 (by decide +kernel) rfl
theorem tw_761 : Cond.code yX9_takes cX9_takes 4 (some .int) ∈ jm_TB := jm_tb 761 (by decide +kernel) rfl
theorem tw_762 : Cond.methodLink RL 48 yX9_pulse ∈ jm_TB := jm_tb 762 (by decide +kernel) rfl
theorem tw_763 : Cond.instanceMethod yX9_pulse ∈ jm_TB := jm_tb 763 (by decide +kernel) rfl
theorem tw_764 : Cond.selects RX9 yX9_pulse yX9_pulse ∈ jm_TB := jm_tb 764 (by decide +kernel) rfl
theorem tw_765 : Cond.code yX9_pulse cX9_pulse 3 (some .int) ∈ jm_TB := jm_tb 765 (by decide +kernel) rfl
theorem tw_766 : Cond.methodLink RX9 179 yX9_find ∈ jm_TB := jm_tb 766 (by decide +kernel) rfl
theorem tw_768 : Cond.instanceMethod yX9_find ∈ jm_TB := jm_tb 768 (by decide +kernel) rfl
theorem tw_769 : Cond.code yX9_find cX9_find 1 none ∈ jm_TB := jm_tb 769 (by decide +kernel) rfl
theorem tw_770 : Cond.methodLink RX9 143 yX9_findShots ∈ jm_TB := jm_tb 770 (by decide +kernel) rfl
theorem tw_772 : Cond.instanceMethod yX9_findShots ∈ jm_TB := jm_tb 772 (by decide +kernel) rfl
theorem tw_773 : Cond.code yX9_findShots cX9_findShots 4 none ∈ jm_TB := jm_tb 773 (by decide +kernel) rfl
theorem tw_774 : Cond.methodLink RX9 130 yX9_reckon ∈ jm_TB := jm_tb 774 (by decide +kernel) rfl
theorem tw_776 : Cond.instanceMethod yX9_reckon ∈ jm_TB := jm_tb 776 (by decide +kernel) rfl
theorem tw_777 : Cond.code yX9_reckon cX9_reckon 4 none ∈ jm_TB := jm_tb 777 (by decide +kernel) rfl
theorem tw_778 : Cond.methodLink RX9 133 yX9_findCandidates ∈ jm_TB := jm_tb 778 (by decide +kernel) rfl
theorem tw_780 : Cond.instanceMethod yX9_findCandidates ∈ jm_TB := jm_tb 780 (by decide +kernel) rfl
theorem tw_781 : Cond.code yX9_findCandidates cX9_findCandidates 7 (some .boolean) ∈ jm_TB := jm_tb 781 (by decide +kernel) rfl
theorem tw_782 : Cond.methodLink RX9 137 yX9_findBest ∈ jm_TB := jm_tb 782 (by decide +kernel) rfl
theorem tw_784 : Cond.instanceMethod yX9_findBest ∈ jm_TB := jm_tb 784 (by decide +kernel) rfl
theorem tw_785 : Cond.code yX9_findBest cX9_findBest 3 none ∈ jm_TB := jm_tb 785 (by decide +kernel) rfl
theorem tw_786 : Cond.methodLink RX9 107 yX9_takeRow ∈ jm_TB := jm_tb 786 (by decide +kernel) rfl
theorem tw_788 : Cond.instanceMethod yX9_takeRow ∈ jm_TB := jm_tb 788 (by decide +kernel) rfl
theorem tw_789 : Cond.code yX9_takeRow cX9_takeRow 3 none ∈ jm_TB := jm_tb 789 (by decide +kernel) rfl
theorem tw_790 : Cond.methodLink RX9 111 yX9_isRow ∈ jm_TB := jm_tb 790 (by decide +kernel) rfl
theorem tw_792 : Cond.instanceMethod yX9_isRow ∈ jm_TB := jm_tb 792 (by decide +kernel) rfl
theorem tw_793 : Cond.code yX9_isRow cX9_isRow 3 (some .boolean) ∈ jm_TB := jm_tb 793 (by decide +kernel) rfl
theorem tw_794 : Cond.methodLink RX9 115 yX9_findPlace ∈ jm_TB := jm_tb 794 (by decide +kernel) rfl
theorem tw_796 : Cond.instanceMethod yX9_findPlace ∈ jm_TB := jm_tb 796 (by decide +kernel) rfl
theorem tw_797 : Cond.code yX9_findPlace cX9_findPlace 3 none ∈ jm_TB := jm_tb 797 (by decide +kernel) rfl
theorem tw_798 : Cond.methodLink RX9 98 yX9_spreadAt ∈ jm_TB := jm_tb 798 (by decide +kernel) rfl
theorem tw_800 : Cond.instanceMethod yX9_spreadAt ∈ jm_TB := jm_tb 800 (by decide +kernel) rfl
theorem tw_801 : Cond.code yX9_spreadAt cX9_spreadAt 6 (some .int) ∈ jm_TB := jm_tb 801 (by decide +kernel) rfl
theorem tw_803 : Cond.methodLink RX9 140 yX9_becomesShot ∈ jm_TB := jm_tb 803 (by decide +kernel) rfl
theorem tw_805 : Cond.instanceMethod yX9_becomesShot ∈ jm_TB := jm_tb 805 (by decide +kernel) rfl
theorem tw_806 : Cond.code yX9_becomesShot cX9_becomesShot 2 none ∈ jm_TB := jm_tb 806 (by decide +kernel) rfl
theorem tw_807 : Cond.methodLink RX9 124 yX9_momentAt ∈ jm_TB := jm_tb 807 (by decide +kernel) rfl
theorem tw_809 : Cond.instanceMethod yX9_momentAt ∈ jm_TB := jm_tb 809 (by decide +kernel) rfl
theorem tw_810 : Cond.code yX9_momentAt cX9_momentAt 5 (some .int) ∈ jm_TB := jm_tb 810 (by decide +kernel) rfl
theorem tw_811 : Cond.methodLink RL 52 yX9_shot ∈ jm_TB := jm_tb 811 (by decide +kernel) rfl
theorem tw_812 : Cond.instanceMethod yX9_shot ∈ jm_TB := jm_tb 812 (by decide +kernel) rfl
theorem tw_813 : Cond.selects RX9 yX9_shot yX9_shot ∈ jm_TB := jm_tb 813 (by decide +kernel) rfl
theorem tw_814 : Cond.code yX9_shot cX9_shot 3 (some .int) ∈ jm_TB := jm_tb 814 (by decide +kernel) rfl
theorem tw_815 : Cond.methodLink RX9 182 yX9_isShot ∈ jm_TB := jm_tb 815 (by decide +kernel) rfl
theorem tw_817 : Cond.instanceMethod yX9_isShot ∈ jm_TB := jm_tb 817 (by decide +kernel) rfl
theorem tw_818 : Cond.code yX9_isShot cX9_isShot 2 (some .boolean) ∈ jm_TB := jm_tb 818 (by decide +kernel) rfl
theorem tw_819 : Cond.methodLink RX9 146 yX9_ringOf ∈ jm_TB := jm_tb 819 (by decide +kernel) rfl
theorem tw_821 : Cond.instanceMethod yX9_ringOf ∈ jm_TB := jm_tb 821 (by decide +kernel) rfl
theorem tw_822 : Cond.code yX9_ringOf cX9_ringOf 3 (some .int) ∈ jm_TB := jm_tb 822 (by decide +kernel) rfl
theorem tw_823 : Cond.methodLink RL 56 yX9_count ∈ jm_TB := jm_tb 823 (by decide +kernel) rfl
theorem tw_824 : Cond.instanceMethod yX9_count ∈ jm_TB := jm_tb 824 (by decide +kernel) rfl
theorem tw_825 : Cond.selects RX9 yX9_count yX9_count ∈ jm_TB := jm_tb 825 (by decide +kernel) rfl
theorem tw_826 : Cond.code yX9_count cX9_count 2 (some .int) ∈ jm_TB := jm_tb 826 (by decide +kernel) rfl
theorem tw_827 : Cond.methodLink RX9 185 yX9_sumOfRings ∈ jm_TB := jm_tb 827 (by decide +kernel) rfl
theorem tw_829 : Cond.instanceMethod yX9_sumOfRings ∈ jm_TB := jm_tb 829 (by decide +kernel) rfl
theorem tw_830 : Cond.code yX9_sumOfRings cX9_sumOfRings 3 (some .int) ∈ jm_TB := jm_tb 830 (by decide +kernel) rfl
theorem tw_831 : Cond.methodLink RX9 189 yX9_bestShot ∈ jm_TB := jm_tb 831 (by decide +kernel) rfl
theorem tw_833 : Cond.instanceMethod yX9_bestShot ∈ jm_TB := jm_tb 833 (by decide +kernel) rfl
theorem tw_834 : Cond.code yX9_bestShot cX9_bestShot 3 (some .int) ∈ jm_TB := jm_tb 834 (by decide +kernel) rfl
theorem tw_835 : Cond.methodLink RX9 192 yX9_sumOfSpreads ∈ jm_TB := jm_tb 835 (by decide +kernel) rfl
theorem tw_837 : Cond.instanceMethod yX9_sumOfSpreads ∈ jm_TB := jm_tb 837 (by decide +kernel) rfl
theorem tw_838 : Cond.code yX9_sumOfSpreads cX9_sumOfSpreads 3 (some .int) ∈ jm_TB := jm_tb 838 (by decide +kernel) rfl
theorem tw_839 : Cond.methodLink RX9 195 yX9_widest ∈ jm_TB := jm_tb 839 (by decide +kernel) rfl
theorem tw_841 : Cond.instanceMethod yX9_widest ∈ jm_TB := jm_tb 841 (by decide +kernel) rfl
theorem tw_842 : Cond.code yX9_widest cX9_widest 5 (some .int) ∈ jm_TB := jm_tb 842 (by decide +kernel) rfl
theorem tw_843 : Cond.methodLink RL 60 yX9_fits ∈ jm_TB := jm_tb 843 (by decide +kernel) rfl
theorem tw_844 : Cond.instanceMethod yX9_fits ∈ jm_TB := jm_tb 844 (by decide +kernel) rfl
theorem tw_845 : Cond.selects RX9 yX9_fits yX9_fits ∈ jm_TB := jm_tb 845 (by decide +kernel) rfl
theorem tw_846 : Cond.code yX9_fits cX9_fits 5 (some .int) ∈ jm_TB := jm_tb 846 (by decide +kernel) rfl
theorem tw_847 : Cond.methodLink RL 64 yX9_mean ∈ jm_TB := jm_tb 847 (by decide +kernel) rfl
theorem tw_848 : Cond.instanceMethod yX9_mean ∈ jm_TB := jm_tb 848 (by decide +kernel) rfl
theorem tw_849 : Cond.selects RX9 yX9_mean yX9_mean ∈ jm_TB := jm_tb 849 (by decide +kernel) rfl
theorem tw_850 : Cond.code yX9_mean cX9_mean 4 (some .int) ∈ jm_TB := jm_tb 850 (by decide +kernel) rfl
theorem tw_851 : Cond.methodLink RL 68 yX9_ifHeat ∈ jm_TB := jm_tb 851 (by decide +kernel) rfl
theorem tw_852 : Cond.instanceMethod yX9_ifHeat ∈ jm_TB := jm_tb 852 (by decide +kernel) rfl
theorem tw_853 : Cond.selects RX9 yX9_ifHeat yX9_ifHeat ∈ jm_TB := jm_tb 853 (by decide +kernel) rfl
theorem tw_854 : Cond.code yX9_ifHeat cX9_ifHeat 3 (some .int) ∈ jm_TB := jm_tb 854 (by decide +kernel) rfl
theorem tw_855 : Cond.methodLink RL 72 yX9_bestHeat ∈ jm_TB := jm_tb 855 (by decide +kernel) rfl
theorem tw_856 : Cond.instanceMethod yX9_bestHeat ∈ jm_TB := jm_tb 856 (by decide +kernel) rfl
theorem tw_857 : Cond.selects RX9 yX9_bestHeat yX9_bestHeat ∈ jm_TB := jm_tb 857 (by decide +kernel) rfl
theorem tw_858 : Cond.code yX9_bestHeat cX9_bestHeat 6 (some .int) ∈ jm_TB := jm_tb 858 (by decide +kernel) rfl
theorem tw_859 : Cond.methodLink RL 76 yX9_ifForgot ∈ jm_TB := jm_tb 859 (by decide +kernel) rfl
theorem tw_860 : Cond.instanceMethod yX9_ifForgot ∈ jm_TB := jm_tb 860 (by decide +kernel) rfl
theorem tw_861 : Cond.selects RX9 yX9_ifForgot yX9_ifForgot ∈ jm_TB := jm_tb 861 (by decide +kernel) rfl
theorem tw_862 : Cond.code yX9_ifForgot cX9_ifForgot 2 (some .int) ∈ jm_TB := jm_tb 862 (by decide +kernel) rfl
theorem tw_863 : Cond.methodLink RL 83 yX9_put ∈ jm_TB := jm_tb 863 (by decide +kernel) rfl
theorem tw_864 : Cond.instanceMethod yX9_put ∈ jm_TB := jm_tb 864 (by decide +kernel) rfl
theorem tw_865 : Cond.selects RX9 yX9_put yX9_put ∈ jm_TB := jm_tb 865 (by decide +kernel) rfl
theorem tw_866 : Cond.code yX9_put cX9_put 8 (some .int) ∈ jm_TB := jm_tb 866 (by decide +kernel) rfl
theorem tw_868 : Cond.methodLink RL 87 yX9_wipe ∈ jm_TB := jm_tb 868 (by decide +kernel) rfl
theorem tw_869 : Cond.instanceMethod yX9_wipe ∈ jm_TB := jm_tb 869 (by decide +kernel) rfl
theorem tw_870 : Cond.selects RX9 yX9_wipe yX9_wipe ∈ jm_TB := jm_tb 870 (by decide +kernel) rfl
theorem tw_871 : Cond.code yX9_wipe cX9_wipe 2 (some .int) ∈ jm_TB := jm_tb 871 (by decide +kernel) rfl
theorem tw_872 : Cond.methodLink RL 91 yX9_fault ∈ jm_TB := jm_tb 872 (by decide +kernel) rfl
theorem tw_873 : Cond.instanceMethod yX9_fault ∈ jm_TB := jm_tb 873 (by decide +kernel) rfl
theorem tw_874 : Cond.selects RX9 yX9_fault yX9_fault ∈ jm_TB := jm_tb 874 (by decide +kernel) rfl
theorem tw_875 : Cond.code yX9_fault cX9_fault 1 (some .int) ∈ jm_TB := jm_tb 875 (by decide +kernel) rfl
theorem tw_876 : Cond.methodLink RX9 227 yX9_findFault ∈ jm_TB := jm_tb 876 (by decide +kernel) rfl
theorem tw_878 : Cond.instanceMethod yX9_findFault ∈ jm_TB := jm_tb 878 (by decide +kernel) rfl
theorem tw_879 : Cond.code yX9_findFault cX9_findFault 1 (some .int) ∈ jm_TB := jm_tb 879 (by decide +kernel) rfl
theorem tw_880 : Cond.methodLink RX9 224 yX9_readsPulse ∈ jm_TB := jm_tb 880 (by decide +kernel) rfl
theorem tw_882 : Cond.instanceMethod yX9_readsPulse ∈ jm_TB := jm_tb 882 (by decide +kernel) rfl
theorem tw_883 : Cond.code yX9_readsPulse cX9_readsPulse 1 (some .boolean) ∈ jm_TB := jm_tb 883 (by decide +kernel) rfl
theorem tw_884 : Cond.methodLink RX9 209 yX9_takeDigit ∈ jm_TB := jm_tb 884 (by decide +kernel) rfl
theorem tw_886 : Cond.instanceMethod yX9_takeDigit ∈ jm_TB := jm_tb 886 (by decide +kernel) rfl
theorem tw_887 : Cond.code yX9_takeDigit cX9_takeDigit 3 (some .int) ∈ jm_TB := jm_tb 887 (by decide +kernel) rfl
theorem tw_888 : Cond.methodLink RX9 206 yX9_character ∈ jm_TB := jm_tb 888 (by decide +kernel) rfl
theorem tw_890 : Cond.instanceMethod yX9_character ∈ jm_TB := jm_tb 890 (by decide +kernel) rfl
theorem tw_891 : Cond.code yX9_character cX9_character 2 (some .int) ∈ jm_TB := jm_tb 891 (by decide +kernel) rfl
theorem tw_892 : Cond.methodLink RX9 215 yX9_isNext ∈ jm_TB := jm_tb 892 (by decide +kernel) rfl
theorem tw_894 : Cond.instanceMethod yX9_isNext ∈ jm_TB := jm_tb 894 (by decide +kernel) rfl
theorem tw_895 : Cond.code yX9_isNext cX9_isNext 3 (some .boolean) ∈ jm_TB := jm_tb 895 (by decide +kernel) rfl
theorem tw_896 : Cond.methodLink RX9 218 yX9_takeNumber ∈ jm_TB := jm_tb 896 (by decide +kernel) rfl
theorem tw_898 : Cond.instanceMethod yX9_takeNumber ∈ jm_TB := jm_tb 898 (by decide +kernel) rfl
theorem tw_899 : Cond.code yX9_takeNumber cX9_takeNumber 2 (some .int) ∈ jm_TB := jm_tb 899 (by decide +kernel) rfl
theorem tw_900 : Cond.methodLink RL 31 yX9_hearAll ∈ jm_TB := jm_tb 900 (by decide +kernel) rfl
theorem tw_901 : Cond.instanceMethod yX9_hearAll ∈ jm_TB := jm_tb 901 (by decide +kernel) rfl
theorem tw_902 : Cond.selects RX9 yX9_hearAll yX9_hearAll ∈ jm_TB := jm_tb 902 (by decide +kernel) rfl
theorem tw_903 : Cond.code yX9_hearAll cX9_hearAll 3 (some .int) ∈ jm_TB := jm_tb 903 (by decide +kernel) rfl
theorem tw_904 : Cond.methodLink RL 95 yX9_undo ∈ jm_TB := jm_tb 904 (by decide +kernel) rfl
theorem tw_905 : Cond.instanceMethod yX9_undo ∈ jm_TB := jm_tb 905 (by decide +kernel) rfl
theorem tw_906 : Cond.selects RX9 yX9_undo yX9_undo ∈ jm_TB := jm_tb 906 (by decide +kernel) rfl
theorem tw_907 : Cond.code yX9_undo cX9_undo 1 (some .int) ∈ jm_TB := jm_tb 907 (by decide +kernel) rfl
theorem tw_908 : Cond.methodLink RL 99 yX9_save ∈ jm_TB := jm_tb 908 (by decide +kernel) rfl
theorem tw_909 : Cond.instanceMethod yX9_save ∈ jm_TB := jm_tb 909 (by decide +kernel) rfl
theorem tw_910 : Cond.selects RX9 yX9_save yX9_save ∈ jm_TB := jm_tb 910 (by decide +kernel) rfl
theorem tw_911 : Cond.code yX9_save cX9_save 2 (some .int) ∈ jm_TB := jm_tb 911 (by decide +kernel) rfl
theorem tw_912 : Cond.methodLink RL 103 yX9_restore ∈ jm_TB := jm_tb 912 (by decide +kernel) rfl
theorem tw_913 : Cond.instanceMethod yX9_restore ∈ jm_TB := jm_tb 913 (by decide +kernel) rfl
theorem tw_914 : Cond.selects RX9 yX9_restore yX9_restore ∈ jm_TB := jm_tb 914 (by decide +kernel) rfl
theorem tw_915 : Cond.code yX9_restore cX9_restore 2 (some .int) ∈ jm_TB := jm_tb 915 (by decide +kernel) rfl
end JMX
end
section
section JMM
def m_X0_init : jm_M := (yX0_init, cX0_init, 1, none, { frames := 2, cells := 0, slots := 0, locals := 40 })
def m_X0_find : jm_M := (yX0_find, cX0_find, 6, none, { frames := 5, cells := 0, slots := 0, locals := 121 })
def m_X0_spreadOf : jm_M := (yX0_spreadOf, cX0_spreadOf, 7, (some .int), { frames := 2, cells := 0, slots := 0, locals := 52 })
def m_X0_judge : jm_M := (yX0_judge, cX0_judge, 8, none, { frames := 4, cells := 0, slots := 0, locals := 94 })
def m_X0_gather : jm_M := (yX0_gather, cX0_gather, 8, none, { frames := 1, cells := 0, slots := 0, locals := 21 })
def m_X0_choose : jm_M := (yX0_choose, cX0_choose, 5, (some .boolean), { frames := 1, cells := 0, slots := 0, locals := 21 })
def m_X1_init : jm_M := (yX1_init, cX1_init, 1, none, { frames := 1, cells := 0, slots := 0, locals := 20 })
def m_X1_search : jm_M := (yX1_search, cX1_search, 10, (some .boolean), { frames := 2, cells := 0, slots := 0, locals := 52 })
def m_X1_spreadAt : jm_M := (yX1_spreadAt, cX1_spreadAt, 8, (some .int), { frames := 1, cells := 0, slots := 0, locals := 25 })
def m_X1_leastStart : jm_M := (yX1_leastStart, cX1_leastStart, 4, (some .int), { frames := 1, cells := 0, slots := 0, locals := 25 })
def m_X2_init : jm_M := (yX2_init, cX2_init, 3, none, { frames := 1, cells := 0, slots := 0, locals := 22 })
def m_X2_speedAt : jm_M := (yX2_speedAt, cX2_speedAt, 1, (some .int), { frames := 1, cells := 0, slots := 0, locals := 22 })
def m_X2_tune : jm_M := (yX2_tune, cX2_tune, 4, none, { frames := 2, cells := 0, slots := 0, locals := 42 })
def m_X2_distance : jm_M := (yX2_distance, cX2_distance, 5, (some .int), { frames := 1, cells := 0, slots := 0, locals := 21 })
def m_X2_crackTime : jm_M := (yX2_crackTime, cX2_crackTime, 6, (some .int), { frames := 0, cells := 0, slots := 0, locals := 0 })
def m_X2_lag : jm_M := (yX2_lag, cX2_lag, 4, (some .int), { frames := 0, cells := 0, slots := 0, locals := 0 })
def m_X2_rootOf : jm_M := (yX2_rootOf, cX2_rootOf, 3, (some .int), { frames := 0, cells := 0, slots := 0, locals := 0 })
def m_X3_init : jm_M := (yX3_init, cX3_init, 1, none, { frames := 1, cells := 0, slots := 0, locals := 20 })
def m_X3_isPulse : jm_M := (yX3_isPulse, cX3_isPulse, 2, (some .boolean), { frames := 0, cells := 0, slots := 0, locals := 0 })
def m_X3_earOf : jm_M := (yX3_earOf, cX3_earOf, 2, (some .int), { frames := 0, cells := 0, slots := 0, locals := 0 })
def m_X3_timeOf : jm_M := (yX3_timeOf, cX3_timeOf, 2, (some .int), { frames := 0, cells := 0, slots := 0, locals := 0 })
def m_X3_has : jm_M := (yX3_has, cX3_has, 3, (some .boolean), { frames := 1, cells := 0, slots := 0, locals := 22 })
def m_X3_refusalOf : jm_M := (yX3_refusalOf, cX3_refusalOf, 2, (some .int), { frames := 2, cells := 0, slots := 0, locals := 44 })
def m_X3_add : jm_M := (yX3_add, cX3_add, 3, (some .int), { frames := 1, cells := 0, slots := 0, locals := 26 })
def m_X3_remove : jm_M := (yX3_remove, cX3_remove, 2, none, { frames := 1, cells := 0, slots := 0, locals := 26 })
def m_X3_become : jm_M := (yX3_become, cX3_become, 2, none, { frames := 1, cells := 0, slots := 0, locals := 26 })
def m_X3_placeOf : jm_M := (yX3_placeOf, cX3_placeOf, 3, (some .int), { frames := 0, cells := 0, slots := 0, locals := 0 })
def m_X4_init : jm_M := (yX4_init, cX4_init, 2, none, { frames := 2, cells := 0, slots := 0, locals := 40 })
def m_X4_record : jm_M := (yX4_record, cX4_record, 2, none, { frames := 2, cells := 0, slots := 0, locals := 47 })
def m_X4_takeBack : jm_M := (yX4_takeBack, cX4_takeBack, 2, none, { frames := 2, cells := 0, slots := 0, locals := 47 })
def m_X5_init : jm_M := (yX5_init, cX5_init, 1, none, { frames := 1, cells := 0, slots := 0, locals := 20 })
def m_X5_append : jm_M := (yX5_append, cX5_append, 2, none, { frames := 0, cells := 0, slots := 0, locals := 0 })
def m_X5_read : jm_M := (yX5_read, cX5_read, 3, (some .int), { frames := 3, cells := 0, slots := 0, locals := 65 })
def m_X5_step : jm_M := (yX5_step, cX5_step, 5, (some .int), { frames := 2, cells := 0, slots := 0, locals := 41 })
def m_X5_note : jm_M := (yX5_note, cX5_note, 1, none, { frames := 1, cells := 0, slots := 0, locals := 21 })
def m_X6_init : jm_M := (yX6_init, cX6_init, 1, none, { frames := 1, cells := 0, slots := 0, locals := 20 })
def m_X6_become : jm_M := (yX6_become, cX6_become, 4, none, { frames := 2, cells := 0, slots := 0, locals := 48 })
def m_X6_tell : jm_M := (yX6_tell, cX6_tell, 2, (some .int), { frames := 0, cells := 0, slots := 0, locals := 0 })
def m_X7_init : jm_M := (yX7_init, cX7_init, 2, none, { frames := 2, cells := 0, slots := 0, locals := 40 })
def m_X7_reset : jm_M := (yX7_reset, cX7_reset, 2, none, { frames := 0, cells := 0, slots := 0, locals := 0 })
def m_X7_isShot : jm_M := (yX7_isShot, cX7_isShot, 2, (some .boolean), { frames := 0, cells := 0, slots := 0, locals := 0 })
def m_X7_draft : jm_M := (yX7_draft, cX7_draft, 4, none, { frames := 3, cells := 0, slots := 0, locals := 71 })
def m_X7_accept : jm_M := (yX7_accept, cX7_accept, 2, none, { frames := 0, cells := 0, slots := 0, locals := 0 })
def m_X7_sumOfRings : jm_M := (yX7_sumOfRings, cX7_sumOfRings, 3, (some .int), { frames := 0, cells := 0, slots := 0, locals := 0 })
def m_X7_sumOfSpreads : jm_M := (yX7_sumOfSpreads, cX7_sumOfSpreads, 3, (some .int), { frames := 0, cells := 0, slots := 0, locals := 0 })
def m_X7_sumOfX : jm_M := (yX7_sumOfX, cX7_sumOfX, 3, (some .int), { frames := 0, cells := 0, slots := 0, locals := 0 })
def m_X7_sumOfY : jm_M := (yX7_sumOfY, cX7_sumOfY, 3, (some .int), { frames := 0, cells := 0, slots := 0, locals := 0 })
def m_X7_withGreatestRing : jm_M := (yX7_withGreatestRing, cX7_withGreatestRing, 4, (some .int), { frames := 0, cells := 0, slots := 0, locals := 0 })
def m_X7_widest : jm_M := (yX7_widest, cX7_widest, 5, (some .int), { frames := 2, cells := 0, slots := 0, locals := 45 })
def m_X8_init : jm_M := (yX8_init, cX8_init, 2, none, { frames := 3, cells := 0, slots := 0, locals := 61 })
def m_X8_set : jm_M := (yX8_set, cX8_set, 4, (some .int), { frames := 4, cells := 0, slots := 0, locals := 88 })
def m_X8_hear : jm_M := (yX8_hear, cX8_hear, 5, (some .int), { frames := 4, cells := 0, slots := 0, locals := 88 })
def m_X8_fire : jm_M := (yX8_fire, cX8_fire, 5, (some .int), { frames := 4, cells := 0, slots := 0, locals := 88 })
def m_X8_hearAll : jm_M := (yX8_hearAll, cX8_hearAll, 2, (some .int), { frames := 4, cells := 0, slots := 0, locals := 88 })
def m_X8_forget : jm_M := (yX8_forget, cX8_forget, 3, (some .int), { frames := 4, cells := 0, slots := 0, locals := 88 })
def m_X8_clear : jm_M := (yX8_clear, cX8_clear, 2, (some .int), { frames := 4, cells := 0, slots := 0, locals := 88 })
def m_X8_takes : jm_M := (yX8_takes, cX8_takes, 4, (some .int), { frames := 3, cells := 0, slots := 0, locals := 65 })
def m_X8_pulse : jm_M := (yX8_pulse, cX8_pulse, 3, (some .int), { frames := 7, cells := 0, slots := 0, locals := 166 })
def m_X8_shot : jm_M := (yX8_shot, cX8_shot, 4, (some .int), { frames := 7, cells := 0, slots := 0, locals := 166 })
def m_X8_count : jm_M := (yX8_count, cX8_count, 2, (some .int), { frames := 7, cells := 0, slots := 0, locals := 166 })
def m_X8_fits : jm_M := (yX8_fits, cX8_fits, 5, (some .int), { frames := 7, cells := 0, slots := 0, locals := 166 })
def m_X8_mean : jm_M := (yX8_mean, cX8_mean, 3, (some .int), { frames := 7, cells := 0, slots := 0, locals := 166 })
def m_X8_ifHeat : jm_M := (yX8_ifHeat, cX8_ifHeat, 3, (some .int), { frames := 7, cells := 0, slots := 0, locals := 168 })
def m_X8_bestHeat : jm_M := (yX8_bestHeat, cX8_bestHeat, 6, (some .int), { frames := 7, cells := 0, slots := 0, locals := 168 })
def m_X8_ifForgot : jm_M := (yX8_ifForgot, cX8_ifForgot, 2, (some .int), { frames := 7, cells := 0, slots := 0, locals := 168 })
def m_X8_put : jm_M := (yX8_put, cX8_put, 8, (some .int), { frames := 1, cells := 0, slots := 0, locals := 21 })
def m_X8_wipe : jm_M := (yX8_wipe, cX8_wipe, 2, (some .int), { frames := 0, cells := 0, slots := 0, locals := 0 })
def m_X8_fault : jm_M := (yX8_fault, cX8_fault, 1, (some .int), { frames := 4, cells := 0, slots := 0, locals := 87 })
def m_X8_undo : jm_M := (yX8_undo, cX8_undo, 1, (some .int), { frames := 3, cells := 0, slots := 0, locals := 68 })
def m_X8_save : jm_M := (yX8_save, cX8_save, 2, (some .int), { frames := 2, cells := 0, slots := 0, locals := 47 })
def m_X8_restore : jm_M := (yX8_restore, cX8_restore, 2, (some .int), { frames := 4, cells := 0, slots := 0, locals := 88 })
def m_X8_beginChange : jm_M := (yX8_beginChange, cX8_beginChange, 1, none, { frames := 3, cells := 0, slots := 0, locals := 68 })
def m_X8_current : jm_M := (yX8_current, cX8_current, 1, (some (.object "CrackTarget$Shots")), { frames := 6, cells := 0, slots := 0, locals := 146 })
def m_X8_tryOut : jm_M := (yX8_tryOut, cX8_tryOut, 3, none, { frames := 6, cells := 0, slots := 0, locals := 146 })
def m_X8_isEar : jm_M := (yX8_isEar, cX8_isEar, 1, (some .boolean), { frames := 0, cells := 0, slots := 0, locals := 0 })
def m_X8_isPoint : jm_M := (yX8_isPoint, cX8_isPoint, 2, (some .boolean), { frames := 0, cells := 0, slots := 0, locals := 0 })
def m_X8_markOf : jm_M := (yX8_markOf, cX8_markOf, 2, (some .int), { frames := 0, cells := 0, slots := 0, locals := 0 })
def m_X9_init : jm_M := (yX9_init, cX9_init, 3, none, { frames := 1, cells := 0, slots := 0, locals := 22 })
def m_X9_moves : jm_M := (yX9_moves, cX9_moves, 5, none, { frames := 0, cells := 0, slots := 0, locals := 0 })
def m_X9_within : jm_M := (yX9_within, cX9_within, 3, (some .boolean), { frames := 0, cells := 0, slots := 0, locals := 0 })
def m_X9_size : jm_M := (yX9_size, cX9_size, 1, (some .int), { frames := 0, cells := 0, slots := 0, locals := 0 })
def m_X9_root : jm_M := (yX9_root, cX9_root, 3, (some .int), { frames := 0, cells := 0, slots := 0, locals := 0 })
def m_X9_record : jm_M := (yX9_record, cX9_record, 2, none, { frames := 1, cells := 0, slots := 0, locals := 24 })
def m_X9_isPoint : jm_M := (yX9_isPoint, cX9_isPoint, 2, (some .boolean), { frames := 1, cells := 0, slots := 0, locals := 22 })
def m_X9_isEar : jm_M := (yX9_isEar, cX9_isEar, 1, (some .boolean), { frames := 1, cells := 0, slots := 0, locals := 22 })
def m_X9_distance : jm_M := (yX9_distance, cX9_distance, 5, (some .int), { frames := 1, cells := 0, slots := 0, locals := 20 })
def m_X9_speedBy : jm_M := (yX9_speedBy, cX9_speedBy, 1, (some .int), { frames := 0, cells := 0, slots := 0, locals := 0 })
def m_X9_takesBy : jm_M := (yX9_takesBy, cX9_takesBy, 5, (some .int), { frames := 2, cells := 0, slots := 0, locals := 44 })
def m_X9_reckon : jm_M := (yX9_reckon, cX9_reckon, 4, none, { frames := 3, cells := 0, slots := 0, locals := 68 })
def m_X9_isPulse : jm_M := (yX9_isPulse, cX9_isPulse, 2, (some .boolean), { frames := 1, cells := 0, slots := 0, locals := 22 })
def m_X9_earOf : jm_M := (yX9_earOf, cX9_earOf, 2, (some .int), { frames := 0, cells := 0, slots := 0, locals := 0 })
def m_X9_timeOf : jm_M := (yX9_timeOf, cX9_timeOf, 2, (some .int), { frames := 0, cells := 0, slots := 0, locals := 0 })
def m_X9_isThere : jm_M := (yX9_isThere, cX9_isThere, 5, (some .boolean), { frames := 1, cells := 0, slots := 0, locals := 21 })
def m_X9_comes : jm_M := (yX9_comes, cX9_comes, 4, (some .int), { frames := 1, cells := 0, slots := 0, locals := 21 })
def m_X9_goes : jm_M := (yX9_goes, cX9_goes, 3, none, { frames := 0, cells := 0, slots := 0, locals := 0 })
def m_X9_spreadAt : jm_M := (yX9_spreadAt, cX9_spreadAt, 6, (some .int), { frames := 1, cells := 0, slots := 0, locals := 21 })
def m_X9_momentAt : jm_M := (yX9_momentAt, cX9_momentAt, 5, (some .int), { frames := 1, cells := 0, slots := 0, locals := 21 })
def m_X9_findPlace : jm_M := (yX9_findPlace, cX9_findPlace, 3, none, { frames := 2, cells := 0, slots := 0, locals := 46 })
def m_X9_findCandidates : jm_M := (yX9_findCandidates, cX9_findCandidates, 7, (some .boolean), { frames := 1, cells := 0, slots := 0, locals := 21 })
def m_X9_takeRow : jm_M := (yX9_takeRow, cX9_takeRow, 3, none, { frames := 0, cells := 0, slots := 0, locals := 0 })
def m_X9_isRow : jm_M := (yX9_isRow, cX9_isRow, 3, (some .boolean), { frames := 0, cells := 0, slots := 0, locals := 0 })
def m_X9_findBest : jm_M := (yX9_findBest, cX9_findBest, 3, none, { frames := 3, cells := 0, slots := 0, locals := 68 })
def m_X9_becomesShot : jm_M := (yX9_becomesShot, cX9_becomesShot, 2, none, { frames := 2, cells := 0, slots := 0, locals := 45 })
def m_X9_findShots : jm_M := (yX9_findShots, cX9_findShots, 4, none, { frames := 4, cells := 0, slots := 0, locals := 91 })
def m_X9_find : jm_M := (yX9_find, cX9_find, 1, none, { frames := 5, cells := 0, slots := 0, locals := 114 })
def m_X9_ringOf : jm_M := (yX9_ringOf, cX9_ringOf, 3, (some .int), { frames := 2, cells := 0, slots := 0, locals := 44 })
def m_X9_sumOfRings : jm_M := (yX9_sumOfRings, cX9_sumOfRings, 3, (some .int), { frames := 3, cells := 0, slots := 0, locals := 66 })
def m_X9_sumOfSpreads : jm_M := (yX9_sumOfSpreads, cX9_sumOfSpreads, 3, (some .int), { frames := 0, cells := 0, slots := 0, locals := 0 })
def m_X9_isValue : jm_M := (yX9_isValue, cX9_isValue, 2, (some .boolean), { frames := 1, cells := 0, slots := 0, locals := 22 })
def m_X9_set : jm_M := (yX9_set, cX9_set, 4, (some .int), { frames := 2, cells := 0, slots := 0, locals := 45 })
def m_X9_whyNotHeard : jm_M := (yX9_whyNotHeard, cX9_whyNotHeard, 3, (some .int), { frames := 2, cells := 0, slots := 0, locals := 45 })
def m_X9_hear : jm_M := (yX9_hear, cX9_hear, 4, (some .int), { frames := 3, cells := 0, slots := 0, locals := 67 })
def m_X9_fire : jm_M := (yX9_fire, cX9_fire, 7, (some .int), { frames := 3, cells := 0, slots := 0, locals := 68 })
def m_X9_forget : jm_M := (yX9_forget, cX9_forget, 3, (some .int), { frames := 2, cells := 0, slots := 0, locals := 45 })
def m_X9_clear : jm_M := (yX9_clear, cX9_clear, 2, (some .int), { frames := 2, cells := 0, slots := 0, locals := 45 })
def m_X9_takes : jm_M := (yX9_takes, cX9_takes, 4, (some .int), { frames := 3, cells := 0, slots := 0, locals := 68 })
def m_X9_pulse : jm_M := (yX9_pulse, cX9_pulse, 3, (some .int), { frames := 6, cells := 0, slots := 0, locals := 134 })
def m_X9_isShot : jm_M := (yX9_isShot, cX9_isShot, 2, (some .boolean), { frames := 6, cells := 0, slots := 0, locals := 134 })
def m_X9_shot : jm_M := (yX9_shot, cX9_shot, 3, (some .int), { frames := 7, cells := 0, slots := 0, locals := 155 })
def m_X9_bestShot : jm_M := (yX9_bestShot, cX9_bestShot, 3, (some .int), { frames := 3, cells := 0, slots := 0, locals := 66 })
def m_X9_widest : jm_M := (yX9_widest, cX9_widest, 5, (some .int), { frames := 2, cells := 0, slots := 0, locals := 44 })
def m_X9_count : jm_M := (yX9_count, cX9_count, 2, (some .int), { frames := 6, cells := 0, slots := 0, locals := 134 })
def m_X9_fits : jm_M := (yX9_fits, cX9_fits, 5, (some .int), { frames := 7, cells := 0, slots := 0, locals := 155 })
def m_X9_mean : jm_M := (yX9_mean, cX9_mean, 4, (some .int), { frames := 6, cells := 0, slots := 0, locals := 134 })
def m_X9_ifHeat : jm_M := (yX9_ifHeat, cX9_ifHeat, 3, (some .int), { frames := 5, cells := 0, slots := 0, locals := 114 })
def m_X9_bestHeat : jm_M := (yX9_bestHeat, cX9_bestHeat, 6, (some .int), { frames := 5, cells := 0, slots := 0, locals := 114 })
def m_X9_ifForgot : jm_M := (yX9_ifForgot, cX9_ifForgot, 2, (some .int), { frames := 6, cells := 0, slots := 0, locals := 134 })
def m_X9_put : jm_M := (yX9_put, cX9_put, 8, (some .int), { frames := 1, cells := 0, slots := 0, locals := 22 })
def m_X9_wipe : jm_M := (yX9_wipe, cX9_wipe, 2, (some .int), { frames := 0, cells := 0, slots := 0, locals := 0 })
def m_X9_character : jm_M := (yX9_character, cX9_character, 2, (some .int), { frames := 0, cells := 0, slots := 0, locals := 0 })
def m_X9_isNext : jm_M := (yX9_isNext, cX9_isNext, 3, (some .boolean), { frames := 1, cells := 0, slots := 0, locals := 21 })
def m_X9_takeDigit : jm_M := (yX9_takeDigit, cX9_takeDigit, 3, (some .int), { frames := 1, cells := 0, slots := 0, locals := 22 })
def m_X9_takeNumber : jm_M := (yX9_takeNumber, cX9_takeNumber, 2, (some .int), { frames := 2, cells := 0, slots := 0, locals := 44 })
def m_X9_readsPulse : jm_M := (yX9_readsPulse, cX9_readsPulse, 1, (some .boolean), { frames := 3, cells := 0, slots := 0, locals := 65 })
def m_X9_findFault : jm_M := (yX9_findFault, cX9_findFault, 1, (some .int), { frames := 4, cells := 0, slots := 0, locals := 85 })
def m_X9_fault : jm_M := (yX9_fault, cX9_fault, 1, (some .int), { frames := 5, cells := 0, slots := 0, locals := 105 })
def m_X9_hearAll : jm_M := (yX9_hearAll, cX9_hearAll, 3, (some .int), { frames := 5, cells := 0, slots := 0, locals := 105 })
def m_X9_undo : jm_M := (yX9_undo, cX9_undo, 1, (some .int), { frames := 1, cells := 0, slots := 0, locals := 24 })
def m_X9_save : jm_M := (yX9_save, cX9_save, 2, (some .int), { frames := 1, cells := 0, slots := 0, locals := 24 })
def m_X9_restore : jm_M := (yX9_restore, cX9_restore, 2, (some .int), { frames := 2, cells := 0, slots := 0, locals := 45 })
def m_J9_floorDiv_7cf53 : jm_M := (yJ9_floorDiv_7cf53, cJ9_floorDiv_7cf53, 3, (some .int), { frames := 0, cells := 0, slots := 0, locals := 0 })
def m_L_law : jm_M := (yL_law, cL_law, 4, some .boolean, room_1)
theorem jc_RX8_3 : jm_LO RX8 3 := ⟨tw_60, tw_61, tw_62⟩
theorem jc_RX8_11 : jm_LNI RX8 11 m_X3_init 0 := ⟨⟨RX8, jm_nb 65 (by decide +kernel) rfl⟩, ⟨tw_66, tw_44, tw_67, rfl, rfl⟩, ⟨by decide +kernel, by decide +kernel, by decide +kernel⟩⟩
theorem jc_RX8_18 : jm_LI RX8 18 m_X4_init 0 := ⟨⟨tw_86, tw_87, tw_45, tw_88, rfl, rfl⟩, ⟨by decide +kernel, by decide +kernel, by decide +kernel⟩⟩
theorem jc_RX8_33 : jm_LNI RX8 33 m_X5_init 0 := ⟨⟨RX8, jm_nb 106 (by decide +kernel) rfl⟩, ⟨tw_107, tw_46, tw_108, rfl, rfl⟩, ⟨by decide +kernel, by decide +kernel, by decide +kernel⟩⟩
theorem jc_RX8_40 : jm_LI RX8 40 m_X2_init 0 := ⟨⟨tw_136, tw_137, tw_47, tw_138, rfl, rfl⟩, ⟨by decide +kernel, by decide +kernel, by decide +kernel⟩⟩
theorem jc_RX8_47 : jm_LNI RX8 47 m_X0_init 0 := ⟨⟨RX8, jm_nb 155 (by decide +kernel) rfl⟩, ⟨tw_156, tw_48, tw_157, rfl, rfl⟩, ⟨by decide +kernel, by decide +kernel, by decide +kernel⟩⟩
theorem jc_RX8_54 : jm_LI RX8 54 m_X7_init 0 := ⟨⟨tw_198, tw_199, tw_50, tw_200, rfl, rfl⟩, ⟨by decide +kernel, by decide +kernel, by decide +kernel⟩⟩
theorem jc_RX8_76 : jm_LV RX8 76 m_X8_beginChange 0 := ⟨⟨tw_288, tw_290, tw_0, tw_43, tw_291⟩, ⟨by decide +kernel, by decide +kernel, by decide +kernel⟩⟩
theorem jc_RX8_79 : jm_LS RX8 79 m_X8_isEar 1 := ⟨⟨tw_307, tw_308, tw_43, tw_309⟩, ⟨by decide +kernel, by decide +kernel, by decide +kernel⟩⟩
theorem jc_RX8_84 : jm_LS RX8 84 m_X8_markOf 2 := ⟨⟨tw_311, tw_312, tw_43, tw_313⟩, ⟨by decide +kernel, by decide +kernel, by decide +kernel⟩⟩
theorem jc_RX8_88 : jm_LV RX8 88 m_X3_refusalOf 1 := ⟨⟨tw_314, tw_315, tw_316, tw_44, tw_317⟩, ⟨by decide +kernel, by decide +kernel, by decide +kernel⟩⟩
theorem jc_RX8_92 : jm_LV RX8 92 m_X3_add 1 := ⟨⟨tw_326, tw_327, tw_328, tw_44, tw_329⟩, ⟨by decide +kernel, by decide +kernel, by decide +kernel⟩⟩
theorem jc_RX8_95 : jm_LS RX8 95 m_X8_isPoint 2 := ⟨⟨tw_334, tw_335, tw_43, tw_336⟩, ⟨by decide +kernel, by decide +kernel, by decide +kernel⟩⟩
theorem jc_RX8_100 : jm_LV RX8 100 m_X2_tune 1 := ⟨⟨tw_338, tw_339, tw_340, tw_47, tw_341⟩, ⟨by decide +kernel, by decide +kernel, by decide +kernel⟩⟩
theorem jc_RX8_104 : jm_LV RX8 104 m_X2_crackTime 3 := ⟨⟨tw_348, tw_349, tw_350, tw_47, tw_351⟩, ⟨by decide +kernel, by decide +kernel, by decide +kernel⟩⟩
theorem jc_RX8_108 : jm_LV RX8 108 m_X3_has 1 := ⟨⟨tw_352, tw_319, tw_320, tw_44, tw_321⟩, ⟨by decide +kernel, by decide +kernel, by decide +kernel⟩⟩
theorem jc_RX8_115 : jm_LV RX8 115 m_X5_read 0 := ⟨⟨tw_357, tw_358, tw_359, tw_46, tw_360⟩, ⟨by decide +kernel, by decide +kernel, by decide +kernel⟩⟩
theorem jc_RX8_128 : jm_LV RX8 128 m_X3_isPulse 1 := ⟨⟨tw_376, tw_377, tw_378, tw_44, tw_379⟩, ⟨by decide +kernel, by decide +kernel, by decide +kernel⟩⟩
theorem jc_RX8_131 : jm_LV RX8 131 m_X3_timeOf 1 := ⟨⟨tw_380, tw_381, tw_382, tw_44, tw_383⟩, ⟨by decide +kernel, by decide +kernel, by decide +kernel⟩⟩
theorem jc_RX8_134 : jm_LV RX8 134 m_X3_remove 1 := ⟨⟨tw_384, tw_385, tw_386, tw_44, tw_387⟩, ⟨by decide +kernel, by decide +kernel, by decide +kernel⟩⟩
theorem jc_RX8_137 : jm_LV RX8 137 m_X3_earOf 1 := ⟨⟨tw_401, tw_402, tw_403, tw_44, tw_404⟩, ⟨by decide +kernel, by decide +kernel, by decide +kernel⟩⟩
theorem jc_RX8_140 : jm_LV RX8 140 m_X8_current 0 := ⟨⟨tw_405, tw_407, tw_4, tw_43, tw_408⟩, ⟨by decide +kernel, by decide +kernel, by decide +kernel⟩⟩
theorem jc_RX8_147 : jm_LV RX8 147 m_X7_isShot 1 := ⟨⟨tw_480, tw_481, tw_482, tw_50, tw_483⟩, ⟨by decide +kernel, by decide +kernel, by decide +kernel⟩⟩
theorem jc_RX8_154 : jm_LV RX8 154 m_X6_tell 1 := ⟨⟨tw_484, tw_485, tw_486, tw_51, tw_487⟩, ⟨by decide +kernel, by decide +kernel, by decide +kernel⟩⟩
theorem jc_RX8_160 : jm_LV RX8 160 m_X7_sumOfRings 0 := ⟨⟨tw_492, tw_493, tw_494, tw_50, tw_495⟩, ⟨by decide +kernel, by decide +kernel, by decide +kernel⟩⟩
theorem jc_RX8_163 : jm_LV RX8 163 m_X7_withGreatestRing 0 := ⟨⟨tw_496, tw_497, tw_498, tw_50, tw_499⟩, ⟨by decide +kernel, by decide +kernel, by decide +kernel⟩⟩
theorem jc_RX8_166 : jm_LV RX8 166 m_X7_sumOfSpreads 0 := ⟨⟨tw_500, tw_501, tw_502, tw_50, tw_503⟩, ⟨by decide +kernel, by decide +kernel, by decide +kernel⟩⟩
theorem jc_RX8_169 : jm_LV RX8 169 m_X7_widest 1 := ⟨⟨tw_504, tw_505, tw_506, tw_50, tw_507⟩, ⟨by decide +kernel, by decide +kernel, by decide +kernel⟩⟩
theorem jc_RX8_173 : jm_LS RX8 173 m_X2_speedAt 1 := ⟨⟨tw_510, tw_343, tw_47, tw_344⟩, ⟨by decide +kernel, by decide +kernel, by decide +kernel⟩⟩
theorem jc_RX8_177 : jm_LV RX8 177 m_X0_spreadOf 5 := ⟨⟨tw_515, tw_516, tw_517, tw_48, tw_518⟩, ⟨by decide +kernel, by decide +kernel, by decide +kernel⟩⟩
theorem jc_RX8_181 : jm_LV RX8 181 m_X7_sumOfX 0 := ⟨⟨tw_524, tw_525, tw_526, tw_50, tw_527⟩, ⟨by decide +kernel, by decide +kernel, by decide +kernel⟩⟩
theorem jc_RX8_184 : jm_LV RX8 184 m_X7_sumOfY 0 := ⟨⟨tw_528, tw_529, tw_530, tw_50, tw_531⟩, ⟨by decide +kernel, by decide +kernel, by decide +kernel⟩⟩
theorem jc_RX8_187 : jm_LV RX8 187 m_X8_tryOut 2 := ⟨⟨tw_536, tw_538, tw_8, tw_43, tw_539⟩, ⟨by decide +kernel, by decide +kernel, by decide +kernel⟩⟩
theorem jc_RX8_197 : jm_LV RX8 197 m_X5_append 1 := ⟨⟨tw_555, tw_556, tw_557, tw_46, tw_558⟩, ⟨by decide +kernel, by decide +kernel, by decide +kernel⟩⟩
theorem jc_RX8_201 : jm_LV RX8 201 m_X4_takeBack 1 := ⟨⟨tw_571, tw_572, tw_573, tw_45, tw_574⟩, ⟨by decide +kernel, by decide +kernel, by decide +kernel⟩⟩
theorem jc_RX8_205 : jm_LV RX8 205 m_X3_become 1 := ⟨⟨tw_579, tw_297, tw_298, tw_44, tw_299⟩, ⟨by decide +kernel, by decide +kernel, by decide +kernel⟩⟩
theorem jc_RX8_208 : jm_LV RX8 208 m_X4_record 1 := ⟨⟨tw_292, tw_293, tw_294, tw_45, tw_295⟩, ⟨by decide +kernel, by decide +kernel, by decide +kernel⟩⟩
theorem jc_RX8_211 : jm_LV RX8 211 m_X0_find 4 := ⟨⟨tw_409, tw_410, tw_411, tw_48, tw_412⟩, ⟨by decide +kernel, by decide +kernel, by decide +kernel⟩⟩
theorem jc_RX0_3 : jm_LO RX0 3 := ⟨tw_158, tw_61, tw_62⟩
theorem jc_RX0_11 : jm_LNI RX0 11 m_X1_init 0 := ⟨⟨RX8, jm_nb 161 (by decide +kernel) rfl⟩, ⟨tw_162, tw_49, tw_163, rfl, rfl⟩, ⟨by decide +kernel, by decide +kernel, by decide +kernel⟩⟩
theorem jc_RX0_28 : jm_LV RX0 28 m_X7_reset 0 := ⟨⟨tw_413, tw_414, tw_415, tw_50, tw_416⟩, ⟨by decide +kernel, by decide +kernel, by decide +kernel⟩⟩
theorem jc_RX0_33 : jm_LV RX0 33 m_X3_isPulse 1 := ⟨⟨tw_417, tw_377, tw_378, tw_44, tw_379⟩, ⟨by decide +kernel, by decide +kernel, by decide +kernel⟩⟩
theorem jc_RX0_47 : jm_LV RX0 47 m_X0_judge 4 := ⟨⟨tw_418, tw_420, tw_5, tw_48, tw_421⟩, ⟨by decide +kernel, by decide +kernel, by decide +kernel⟩⟩
theorem jc_RX0_59 : jm_LV RX0 59 m_X3_timeOf 1 := ⟨⟨tw_427, tw_381, tw_382, tw_44, tw_383⟩, ⟨by decide +kernel, by decide +kernel, by decide +kernel⟩⟩
theorem jc_RX0_63 : jm_LV RX0 63 m_X1_spreadAt 3 := ⟨⟨tw_519, tw_441, tw_442, tw_49, tw_443⟩, ⟨by decide +kernel, by decide +kernel, by decide +kernel⟩⟩
theorem jc_RX0_67 : jm_LV RX0 67 m_X0_gather 3 := ⟨⟨tw_422, tw_424, tw_6, tw_48, tw_425⟩, ⟨by decide +kernel, by decide +kernel, by decide +kernel⟩⟩
theorem jc_RX0_74 : jm_LV RX0 74 m_X0_choose 2 := ⟨⟨tw_428, tw_430, tw_7, tw_48, tw_431⟩, ⟨by decide +kernel, by decide +kernel, by decide +kernel⟩⟩
theorem jc_RX0_78 : jm_LV RX0 78 m_X1_search 2 := ⟨⟨tw_432, tw_433, tw_434, tw_49, tw_435⟩, ⟨by decide +kernel, by decide +kernel, by decide +kernel⟩⟩
theorem jc_RX0_82 : jm_LV RX0 82 m_X7_draft 3 := ⟨⟨tw_451, tw_452, tw_453, tw_50, tw_454⟩, ⟨by decide +kernel, by decide +kernel, by decide +kernel⟩⟩
theorem jc_RX0_89 : jm_LV RX0 89 m_X7_accept 0 := ⟨⟨tw_472, tw_473, tw_474, tw_50, tw_475⟩, ⟨by decide +kernel, by decide +kernel, by decide +kernel⟩⟩
theorem jc_RX0_92 : jm_LV RX0 92 m_X3_earOf 1 := ⟨⟨tw_426, tw_402, tw_403, tw_44, tw_404⟩, ⟨by decide +kernel, by decide +kernel, by decide +kernel⟩⟩
theorem jc_RX1_3 : jm_LO RX1 3 := ⟨tw_164, tw_61, tw_62⟩
theorem jc_RX1_22 : jm_LV RX1 22 m_X2_lag 2 := ⟨⟨tw_436, tw_437, tw_438, tw_47, tw_439⟩, ⟨by decide +kernel, by decide +kernel, by decide +kernel⟩⟩
theorem jc_RX1_28 : jm_LV RX1 28 m_X1_spreadAt 3 := ⟨⟨tw_440, tw_441, tw_442, tw_49, tw_443⟩, ⟨by decide +kernel, by decide +kernel, by decide +kernel⟩⟩
theorem jc_RX1_35 : jm_LV RX1 35 m_X2_crackTime 3 := ⟨⟨tw_444, tw_349, tw_350, tw_47, tw_351⟩, ⟨by decide +kernel, by decide +kernel, by decide +kernel⟩⟩
theorem jc_RX1_39 : jm_LM RX1 39 Lib.Math.min.name Lib.Math.min.code 2 := ⟨tw_445, tw_446, tw_54, tw_447⟩
theorem jc_RX1_44 : jm_LM RX1 44 Lib.Math.max.name Lib.Math.max.code 2 := ⟨tw_448, tw_449, tw_54, tw_450⟩
theorem jc_RX2_3 : jm_LO RX2 3 := ⟨tw_139, tw_61, tw_62⟩
theorem jc_RX2_18 : jm_LS RX2 18 m_X2_rootOf 1 := ⟨⟨tw_140, tw_141, tw_47, tw_142⟩, ⟨by decide +kernel, by decide +kernel, by decide +kernel⟩⟩
theorem jc_RX2_22 : jm_LS RX2 22 m_J9_floorDiv_7cf53 2 := ⟨⟨tw_345, tw_346, tw_54, tw_347⟩, ⟨by decide +kernel, by decide +kernel, by decide +kernel⟩⟩
theorem jc_RX2_28 : jm_LS RX2 28 m_X2_speedAt 1 := ⟨⟨tw_342, tw_343, tw_47, tw_344⟩, ⟨by decide +kernel, by decide +kernel, by decide +kernel⟩⟩
theorem jc_RX2_35 : jm_LM RX2 35 Lib.Math.abs.name Lib.Math.abs.code 1 := ⟨tw_468, tw_469, tw_54, tw_470⟩
theorem jc_RX3_3 : jm_LO RX3 3 := ⟨tw_68, tw_61, tw_62⟩
theorem jc_RX3_22 : jm_LV RX3 22 m_X3_placeOf 1 := ⟨⟨tw_322, tw_324, tw_1, tw_44, tw_325⟩, ⟨by decide +kernel, by decide +kernel, by decide +kernel⟩⟩
theorem jc_RX3_26 : jm_LV RX3 26 m_X3_has 1 := ⟨⟨tw_318, tw_319, tw_320, tw_44, tw_321⟩, ⟨by decide +kernel, by decide +kernel, by decide +kernel⟩⟩
theorem jc_RX3_30 : jm_LC RX3 30 := ⟨tw_300, tw_302, tw_301, tw_53⟩
theorem jc_RX3_36 : jm_LV RX3 36 m_X3_isPulse 1 := ⟨⟨tw_388, tw_377, tw_378, tw_44, tw_379⟩, ⟨by decide +kernel, by decide +kernel, by decide +kernel⟩⟩
theorem jc_RX4_1 : jm_LO RX4 1 := ⟨tw_89, tw_61, tw_62⟩
theorem jc_RX4_15 : jm_LNI RX4 15 m_X3_init 0 := ⟨⟨RX8, jm_nb 92 (by decide +kernel) rfl⟩, ⟨tw_66, tw_44, tw_67, rfl, rfl⟩, ⟨by decide +kernel, by decide +kernel, by decide +kernel⟩⟩
theorem jc_RX4_23 : jm_LV RX4 23 m_X3_become 1 := ⟨⟨tw_296, tw_297, tw_298, tw_44, tw_299⟩, ⟨by decide +kernel, by decide +kernel, by decide +kernel⟩⟩
theorem jc_RX5_3 : jm_LO RX5 3 := ⟨tw_109, tw_61, tw_62⟩
theorem jc_RX5_26 : jm_LV RX5 26 m_X5_step 2 := ⟨⟨tw_361, tw_363, tw_2, tw_46, tw_364⟩, ⟨by decide +kernel, by decide +kernel, by decide +kernel⟩⟩
theorem jc_RX5_30 : jm_LV RX5 30 m_X5_note 0 := ⟨⟨tw_366, tw_368, tw_3, tw_46, tw_369⟩, ⟨by decide +kernel, by decide +kernel, by decide +kernel⟩⟩
theorem jc_RX5_36 : jm_LNS RX5 36 m_X8_isEar 1 := ⟨⟨RX8, jm_nb 365 (by decide +kernel) rfl⟩, ⟨tw_308, tw_43, tw_309⟩, ⟨by decide +kernel, by decide +kernel, by decide +kernel⟩⟩
theorem jc_RX5_44 : jm_LNS RX5 44 m_X8_markOf 2 := ⟨⟨RX8, jm_nb 370 (by decide +kernel) rfl⟩, ⟨tw_312, tw_43, tw_313⟩, ⟨by decide +kernel, by decide +kernel, by decide +kernel⟩⟩
theorem jc_RX6_3 : jm_LO RX6 3 := ⟨tw_208, tw_61, tw_62⟩
theorem jc_RX6_15 : jm_LC RX6 15 := ⟨tw_459, tw_302, tw_301, tw_53⟩
theorem jc_RX6_36 : jm_LV RX6 36 m_X1_leastStart 1 := ⟨⟨tw_460, tw_461, tw_462, tw_49, tw_463⟩, ⟨by decide +kernel, by decide +kernel, by decide +kernel⟩⟩
theorem jc_RX6_43 : jm_LV RX6 43 m_X2_distance 4 := ⟨⟨tw_464, tw_465, tw_466, tw_47, tw_467⟩, ⟨by decide +kernel, by decide +kernel, by decide +kernel⟩⟩
theorem jc_RX6_49 : jm_LM RX6 49 Lib.Math.max.name Lib.Math.max.code 2 := ⟨tw_471, tw_449, tw_54, tw_450⟩
theorem jc_RX7_3 : jm_LO RX7 3 := ⟨tw_201, tw_61, tw_62⟩
theorem jc_RX7_21 : jm_LNI RX7 21 m_X6_init 0 := ⟨⟨RX8, jm_nb 205 (by decide +kernel) rfl⟩, ⟨tw_206, tw_51, tw_207, rfl, rfl⟩, ⟨by decide +kernel, by decide +kernel, by decide +kernel⟩⟩
theorem jc_RX7_26 : jm_LV RX7 26 m_X6_become 3 := ⟨⟨tw_455, tw_456, tw_457, tw_51, tw_458⟩, ⟨by decide +kernel, by decide +kernel, by decide +kernel⟩⟩
theorem jc_RX7_45 : jm_LV RX7 45 m_X2_distance 4 := ⟨⟨tw_508, tw_465, tw_466, tw_47, tw_467⟩, ⟨by decide +kernel, by decide +kernel, by decide +kernel⟩⟩
theorem jc_RX7_51 : jm_LM RX7 51 Lib.Math.max.name Lib.Math.max.code 2 := ⟨tw_509, tw_449, tw_54, tw_450⟩
theorem jc_RL_9 : jm_LI RL 9 m_X8_init 0 := ⟨⟨tw_57, tw_58, tw_43, tw_59, rfl, rfl⟩, ⟨by decide +kernel, by decide +kernel, by decide +kernel⟩⟩
theorem jc_RL_12 : jm_LI RL 12 m_X9_init 0 := ⟨⟨tw_586, tw_587, tw_52, tw_588, rfl, rfl⟩, ⟨by decide +kernel, by decide +kernel, by decide +kernel⟩⟩
theorem jc_RL_13 : jm_LV RL 13 m_X8_set 2 := ⟨⟨tw_280, tw_281, tw_282, tw_43, tw_283⟩, ⟨by decide +kernel, by decide +kernel, by decide +kernel⟩⟩
theorem jc_RL_17 : jm_LV RL 17 m_X9_set 2 := ⟨⟨tw_675, tw_676, tw_677, tw_52, tw_678⟩, ⟨by decide +kernel, by decide +kernel, by decide +kernel⟩⟩
theorem jc_RL_18 : jm_LV RL 18 m_X8_hear 2 := ⟨⟨tw_303, tw_304, tw_305, tw_43, tw_306⟩, ⟨by decide +kernel, by decide +kernel, by decide +kernel⟩⟩
theorem jc_RL_21 : jm_LV RL 21 m_X9_hear 2 := ⟨⟨tw_692, tw_693, tw_694, tw_52, tw_695⟩, ⟨by decide +kernel, by decide +kernel, by decide +kernel⟩⟩
theorem jc_RL_22 : jm_LV RL 22 m_X8_fire 3 := ⟨⟨tw_330, tw_331, tw_332, tw_43, tw_333⟩, ⟨by decide +kernel, by decide +kernel, by decide +kernel⟩⟩
theorem jc_RL_26 : jm_LV RL 26 m_X9_fire 3 := ⟨⟨tw_720, tw_721, tw_722, tw_52, tw_723⟩, ⟨by decide +kernel, by decide +kernel, by decide +kernel⟩⟩
theorem jc_RL_27 : jm_LV RL 27 m_X8_hearAll 0 := ⟨⟨tw_353, tw_354, tw_355, tw_43, tw_356⟩, ⟨by decide +kernel, by decide +kernel, by decide +kernel⟩⟩
theorem jc_RL_31 : jm_LV RL 31 m_X9_hearAll 0 := ⟨⟨tw_900, tw_901, tw_902, tw_52, tw_903⟩, ⟨by decide +kernel, by decide +kernel, by decide +kernel⟩⟩
theorem jc_RL_32 : jm_LV RL 32 m_X8_forget 1 := ⟨⟨tw_372, tw_373, tw_374, tw_43, tw_375⟩, ⟨by decide +kernel, by decide +kernel, by decide +kernel⟩⟩
theorem jc_RL_36 : jm_LV RL 36 m_X9_forget 1 := ⟨⟨tw_742, tw_743, tw_744, tw_52, tw_745⟩, ⟨by decide +kernel, by decide +kernel, by decide +kernel⟩⟩
theorem jc_RL_37 : jm_LV RL 37 m_X8_clear 0 := ⟨⟨tw_389, tw_390, tw_391, tw_43, tw_392⟩, ⟨by decide +kernel, by decide +kernel, by decide +kernel⟩⟩
theorem jc_RL_40 : jm_LV RL 40 m_X9_clear 0 := ⟨⟨tw_754, tw_755, tw_756, tw_52, tw_757⟩, ⟨by decide +kernel, by decide +kernel, by decide +kernel⟩⟩
theorem jc_RL_41 : jm_LV RL 41 m_X8_takes 3 := ⟨⟨tw_393, tw_394, tw_395, tw_43, tw_396⟩, ⟨by decide +kernel, by decide +kernel, by decide +kernel⟩⟩
theorem jc_RL_44 : jm_LV RL 44 m_X9_takes 3 := ⟨⟨tw_758, tw_759, tw_760, tw_52, tw_761⟩, ⟨by decide +kernel, by decide +kernel, by decide +kernel⟩⟩
theorem jc_RL_45 : jm_LV RL 45 m_X8_pulse 2 := ⟨⟨tw_397, tw_398, tw_399, tw_43, tw_400⟩, ⟨by decide +kernel, by decide +kernel, by decide +kernel⟩⟩
theorem jc_RL_48 : jm_LV RL 48 m_X9_pulse 2 := ⟨⟨tw_762, tw_763, tw_764, tw_52, tw_765⟩, ⟨by decide +kernel, by decide +kernel, by decide +kernel⟩⟩
theorem jc_RL_49 : jm_LV RL 49 m_X8_shot 2 := ⟨⟨tw_476, tw_477, tw_478, tw_43, tw_479⟩, ⟨by decide +kernel, by decide +kernel, by decide +kernel⟩⟩
theorem jc_RL_52 : jm_LV RL 52 m_X9_shot 2 := ⟨⟨tw_811, tw_812, tw_813, tw_52, tw_814⟩, ⟨by decide +kernel, by decide +kernel, by decide +kernel⟩⟩
theorem jc_RL_53 : jm_LV RL 53 m_X8_count 1 := ⟨⟨tw_488, tw_489, tw_490, tw_43, tw_491⟩, ⟨by decide +kernel, by decide +kernel, by decide +kernel⟩⟩
theorem jc_RL_56 : jm_LV RL 56 m_X9_count 1 := ⟨⟨tw_823, tw_824, tw_825, tw_52, tw_826⟩, ⟨by decide +kernel, by decide +kernel, by decide +kernel⟩⟩
theorem jc_RL_57 : jm_LV RL 57 m_X8_fits 3 := ⟨⟨tw_511, tw_512, tw_513, tw_43, tw_514⟩, ⟨by decide +kernel, by decide +kernel, by decide +kernel⟩⟩
theorem jc_RL_60 : jm_LV RL 60 m_X9_fits 3 := ⟨⟨tw_843, tw_844, tw_845, tw_52, tw_846⟩, ⟨by decide +kernel, by decide +kernel, by decide +kernel⟩⟩
theorem jc_RL_61 : jm_LV RL 61 m_X8_mean 1 := ⟨⟨tw_520, tw_521, tw_522, tw_43, tw_523⟩, ⟨by decide +kernel, by decide +kernel, by decide +kernel⟩⟩
theorem jc_RL_64 : jm_LV RL 64 m_X9_mean 1 := ⟨⟨tw_847, tw_848, tw_849, tw_52, tw_850⟩, ⟨by decide +kernel, by decide +kernel, by decide +kernel⟩⟩
theorem jc_RL_65 : jm_LV RL 65 m_X8_ifHeat 2 := ⟨⟨tw_532, tw_533, tw_534, tw_43, tw_535⟩, ⟨by decide +kernel, by decide +kernel, by decide +kernel⟩⟩
theorem jc_RL_68 : jm_LV RL 68 m_X9_ifHeat 2 := ⟨⟨tw_851, tw_852, tw_853, tw_52, tw_854⟩, ⟨by decide +kernel, by decide +kernel, by decide +kernel⟩⟩
theorem jc_RL_69 : jm_LV RL 69 m_X8_bestHeat 0 := ⟨⟨tw_540, tw_541, tw_542, tw_43, tw_543⟩, ⟨by decide +kernel, by decide +kernel, by decide +kernel⟩⟩
theorem jc_RL_72 : jm_LV RL 72 m_X9_bestHeat 0 := ⟨⟨tw_855, tw_856, tw_857, tw_52, tw_858⟩, ⟨by decide +kernel, by decide +kernel, by decide +kernel⟩⟩
theorem jc_RL_73 : jm_LV RL 73 m_X8_ifForgot 1 := ⟨⟨tw_544, tw_545, tw_546, tw_43, tw_547⟩, ⟨by decide +kernel, by decide +kernel, by decide +kernel⟩⟩
theorem jc_RL_76 : jm_LV RL 76 m_X9_ifForgot 1 := ⟨⟨tw_859, tw_860, tw_861, tw_52, tw_862⟩, ⟨by decide +kernel, by decide +kernel, by decide +kernel⟩⟩
theorem jc_RL_79 : jm_LV RL 79 m_X8_put 1 := ⟨⟨tw_548, tw_549, tw_550, tw_43, tw_551⟩, ⟨by decide +kernel, by decide +kernel, by decide +kernel⟩⟩
theorem jc_RL_83 : jm_LV RL 83 m_X9_put 1 := ⟨⟨tw_863, tw_864, tw_865, tw_52, tw_866⟩, ⟨by decide +kernel, by decide +kernel, by decide +kernel⟩⟩
theorem jc_RL_84 : jm_LV RL 84 m_X8_wipe 0 := ⟨⟨tw_559, tw_560, tw_561, tw_43, tw_562⟩, ⟨by decide +kernel, by decide +kernel, by decide +kernel⟩⟩
theorem jc_RL_87 : jm_LV RL 87 m_X9_wipe 0 := ⟨⟨tw_868, tw_869, tw_870, tw_52, tw_871⟩, ⟨by decide +kernel, by decide +kernel, by decide +kernel⟩⟩
theorem jc_RL_88 : jm_LV RL 88 m_X8_fault 0 := ⟨⟨tw_563, tw_564, tw_565, tw_43, tw_566⟩, ⟨by decide +kernel, by decide +kernel, by decide +kernel⟩⟩
theorem jc_RL_91 : jm_LV RL 91 m_X9_fault 0 := ⟨⟨tw_872, tw_873, tw_874, tw_52, tw_875⟩, ⟨by decide +kernel, by decide +kernel, by decide +kernel⟩⟩
theorem jc_RL_92 : jm_LV RL 92 m_X8_undo 0 := ⟨⟨tw_567, tw_568, tw_569, tw_43, tw_570⟩, ⟨by decide +kernel, by decide +kernel, by decide +kernel⟩⟩
theorem jc_RL_95 : jm_LV RL 95 m_X9_undo 0 := ⟨⟨tw_904, tw_905, tw_906, tw_52, tw_907⟩, ⟨by decide +kernel, by decide +kernel, by decide +kernel⟩⟩
theorem jc_RL_96 : jm_LV RL 96 m_X8_save 1 := ⟨⟨tw_575, tw_576, tw_577, tw_43, tw_578⟩, ⟨by decide +kernel, by decide +kernel, by decide +kernel⟩⟩
theorem jc_RL_99 : jm_LV RL 99 m_X9_save 1 := ⟨⟨tw_908, tw_909, tw_910, tw_52, tw_911⟩, ⟨by decide +kernel, by decide +kernel, by decide +kernel⟩⟩
theorem jc_RL_100 : jm_LV RL 100 m_X8_restore 1 := ⟨⟨tw_580, tw_581, tw_582, tw_43, tw_583⟩, ⟨by decide +kernel, by decide +kernel, by decide +kernel⟩⟩
theorem jc_RL_103 : jm_LV RL 103 m_X9_restore 1 := ⟨⟨tw_912, tw_913, tw_914, tw_52, tw_915⟩, ⟨by decide +kernel, by decide +kernel, by decide +kernel⟩⟩
theorem jc_RX9_1 : jm_LO RX9 1 := ⟨tw_589, tw_61, tw_62⟩
theorem jc_RX9_58 : jm_LS RX9 58 m_X9_root 1 := ⟨⟨tw_590, tw_591, tw_52, tw_592⟩, ⟨by decide +kernel, by decide +kernel, by decide +kernel⟩⟩
theorem jc_RX9_66 : jm_LS RX9 66 m_X9_moves 4 := ⟨⟨tw_689, tw_690, tw_52, tw_691⟩, ⟨by decide +kernel, by decide +kernel, by decide +kernel⟩⟩
theorem jc_RX9_70 : jm_LS RX9 70 m_X9_within 3 := ⟨⟨tw_682, tw_683, tw_52, tw_684⟩, ⟨by decide +kernel, by decide +kernel, by decide +kernel⟩⟩
theorem jc_RX9_74 : jm_LS RX9 74 m_X9_size 1 := ⟨⟨tw_739, tw_740, tw_52, tw_741⟩, ⟨by decide +kernel, by decide +kernel, by decide +kernel⟩⟩
theorem jc_RX9_77 : jm_LV RX9 77 m_X9_distance 4 := ⟨⟨tw_735, tw_737, tw_16, tw_52, tw_738⟩, ⟨by decide +kernel, by decide +kernel, by decide +kernel⟩⟩
theorem jc_RX9_84 : jm_LV RX9 84 m_X9_takesBy 4 := ⟨⟨tw_731, tw_733, tw_15, tw_52, tw_734⟩, ⟨by decide +kernel, by decide +kernel, by decide +kernel⟩⟩
theorem jc_RX9_87 : jm_LV RX9 87 m_X9_earOf 1 := ⟨⟨tw_708, tw_710, tw_12, tw_52, tw_711⟩, ⟨by decide +kernel, by decide +kernel, by decide +kernel⟩⟩
theorem jc_RX9_90 : jm_LV RX9 90 m_X9_timeOf 1 := ⟨⟨tw_712, tw_714, tw_13, tw_52, tw_715⟩, ⟨by decide +kernel, by decide +kernel, by decide +kernel⟩⟩
theorem jc_RX9_98 : jm_LV RX9 98 m_X9_spreadAt 1 := ⟨⟨tw_798, tw_800, tw_27, tw_52, tw_801⟩, ⟨by decide +kernel, by decide +kernel, by decide +kernel⟩⟩
theorem jc_RX9_107 : jm_LV RX9 107 m_X9_takeRow 1 := ⟨⟨tw_786, tw_788, tw_24, tw_52, tw_789⟩, ⟨by decide +kernel, by decide +kernel, by decide +kernel⟩⟩
theorem jc_RX9_111 : jm_LV RX9 111 m_X9_isRow 0 := ⟨⟨tw_790, tw_792, tw_25, tw_52, tw_793⟩, ⟨by decide +kernel, by decide +kernel, by decide +kernel⟩⟩
theorem jc_RX9_115 : jm_LV RX9 115 m_X9_findPlace 0 := ⟨⟨tw_794, tw_796, tw_26, tw_52, tw_797⟩, ⟨by decide +kernel, by decide +kernel, by decide +kernel⟩⟩
theorem jc_RX9_124 : jm_LV RX9 124 m_X9_momentAt 1 := ⟨⟨tw_807, tw_809, tw_29, tw_52, tw_810⟩, ⟨by decide +kernel, by decide +kernel, by decide +kernel⟩⟩
theorem jc_RX9_127 : jm_LS RX9 127 m_X9_speedBy 1 := ⟨⟨tw_728, tw_729, tw_52, tw_730⟩, ⟨by decide +kernel, by decide +kernel, by decide +kernel⟩⟩
theorem jc_RX9_130 : jm_LV RX9 130 m_X9_reckon 1 := ⟨⟨tw_774, tw_776, tw_21, tw_52, tw_777⟩, ⟨by decide +kernel, by decide +kernel, by decide +kernel⟩⟩
theorem jc_RX9_133 : jm_LV RX9 133 m_X9_findCandidates 1 := ⟨⟨tw_778, tw_780, tw_22, tw_52, tw_781⟩, ⟨by decide +kernel, by decide +kernel, by decide +kernel⟩⟩
theorem jc_RX9_137 : jm_LV RX9 137 m_X9_findBest 0 := ⟨⟨tw_782, tw_784, tw_23, tw_52, tw_785⟩, ⟨by decide +kernel, by decide +kernel, by decide +kernel⟩⟩
theorem jc_RX9_140 : jm_LV RX9 140 m_X9_becomesShot 0 := ⟨⟨tw_803, tw_805, tw_28, tw_52, tw_806⟩, ⟨by decide +kernel, by decide +kernel, by decide +kernel⟩⟩
theorem jc_RX9_143 : jm_LV RX9 143 m_X9_findShots 1 := ⟨⟨tw_770, tw_772, tw_20, tw_52, tw_773⟩, ⟨by decide +kernel, by decide +kernel, by decide +kernel⟩⟩
theorem jc_RX9_146 : jm_LV RX9 146 m_X9_ringOf 1 := ⟨⟨tw_819, tw_821, tw_31, tw_52, tw_822⟩, ⟨by decide +kernel, by decide +kernel, by decide +kernel⟩⟩
theorem jc_RX9_149 : jm_LS RX9 149 m_X9_isValue 2 := ⟨⟨tw_679, tw_680, tw_52, tw_681⟩, ⟨by decide +kernel, by decide +kernel, by decide +kernel⟩⟩
theorem jc_RX9_153 : jm_LV RX9 153 m_X9_record 0 := ⟨⟨tw_685, tw_687, tw_9, tw_52, tw_688⟩, ⟨by decide +kernel, by decide +kernel, by decide +kernel⟩⟩
theorem jc_RX9_156 : jm_LS RX9 156 m_X9_isEar 1 := ⟨⟨tw_700, tw_701, tw_52, tw_702⟩, ⟨by decide +kernel, by decide +kernel, by decide +kernel⟩⟩
theorem jc_RX9_159 : jm_LV RX9 159 m_X9_isThere 2 := ⟨⟨tw_704, tw_706, tw_11, tw_52, tw_707⟩, ⟨by decide +kernel, by decide +kernel, by decide +kernel⟩⟩
theorem jc_RX9_162 : jm_LV RX9 162 m_X9_whyNotHeard 2 := ⟨⟨tw_696, tw_698, tw_10, tw_52, tw_699⟩, ⟨by decide +kernel, by decide +kernel, by decide +kernel⟩⟩
theorem jc_RX9_166 : jm_LV RX9 166 m_X9_comes 2 := ⟨⟨tw_716, tw_718, tw_14, tw_52, tw_719⟩, ⟨by decide +kernel, by decide +kernel, by decide +kernel⟩⟩
theorem jc_RX9_169 : jm_LS RX9 169 m_X9_isPoint 2 := ⟨⟨tw_724, tw_725, tw_52, tw_726⟩, ⟨by decide +kernel, by decide +kernel, by decide +kernel⟩⟩
theorem jc_RX9_173 : jm_LV RX9 173 m_X9_isPulse 1 := ⟨⟨tw_746, tw_748, tw_17, tw_52, tw_749⟩, ⟨by decide +kernel, by decide +kernel, by decide +kernel⟩⟩
theorem jc_RX9_176 : jm_LV RX9 176 m_X9_goes 1 := ⟨⟨tw_750, tw_752, tw_18, tw_52, tw_753⟩, ⟨by decide +kernel, by decide +kernel, by decide +kernel⟩⟩
theorem jc_RX9_179 : jm_LV RX9 179 m_X9_find 0 := ⟨⟨tw_766, tw_768, tw_19, tw_52, tw_769⟩, ⟨by decide +kernel, by decide +kernel, by decide +kernel⟩⟩
theorem jc_RX9_182 : jm_LV RX9 182 m_X9_isShot 1 := ⟨⟨tw_815, tw_817, tw_30, tw_52, tw_818⟩, ⟨by decide +kernel, by decide +kernel, by decide +kernel⟩⟩
theorem jc_RX9_185 : jm_LV RX9 185 m_X9_sumOfRings 0 := ⟨⟨tw_827, tw_829, tw_32, tw_52, tw_830⟩, ⟨by decide +kernel, by decide +kernel, by decide +kernel⟩⟩
theorem jc_RX9_189 : jm_LV RX9 189 m_X9_bestShot 0 := ⟨⟨tw_831, tw_833, tw_33, tw_52, tw_834⟩, ⟨by decide +kernel, by decide +kernel, by decide +kernel⟩⟩
theorem jc_RX9_192 : jm_LV RX9 192 m_X9_sumOfSpreads 0 := ⟨⟨tw_835, tw_837, tw_34, tw_52, tw_838⟩, ⟨by decide +kernel, by decide +kernel, by decide +kernel⟩⟩
theorem jc_RX9_195 : jm_LV RX9 195 m_X9_widest 0 := ⟨⟨tw_839, tw_841, tw_35, tw_52, tw_842⟩, ⟨by decide +kernel, by decide +kernel, by decide +kernel⟩⟩
theorem jc_RX9_206 : jm_LV RX9 206 m_X9_character 1 := ⟨⟨tw_888, tw_890, tw_39, tw_52, tw_891⟩, ⟨by decide +kernel, by decide +kernel, by decide +kernel⟩⟩
theorem jc_RX9_209 : jm_LV RX9 209 m_X9_takeDigit 1 := ⟨⟨tw_884, tw_886, tw_38, tw_52, tw_887⟩, ⟨by decide +kernel, by decide +kernel, by decide +kernel⟩⟩
theorem jc_RX9_215 : jm_LV RX9 215 m_X9_isNext 1 := ⟨⟨tw_892, tw_894, tw_40, tw_52, tw_895⟩, ⟨by decide +kernel, by decide +kernel, by decide +kernel⟩⟩
theorem jc_RX9_218 : jm_LV RX9 218 m_X9_takeNumber 0 := ⟨⟨tw_896, tw_898, tw_41, tw_52, tw_899⟩, ⟨by decide +kernel, by decide +kernel, by decide +kernel⟩⟩
theorem jc_RX9_224 : jm_LV RX9 224 m_X9_readsPulse 0 := ⟨⟨tw_880, tw_882, tw_37, tw_52, tw_883⟩, ⟨by decide +kernel, by decide +kernel, by decide +kernel⟩⟩
theorem jc_RX9_227 : jm_LV RX9 227 m_X9_findFault 0 := ⟨⟨tw_876, tw_878, tw_36, tw_52, tw_879⟩, ⟨by decide +kernel, by decide +kernel, by decide +kernel⟩⟩
theorem jn_RL_7 : jm_LN RL 7 8 [some none, some none, some none, some none, some none, some none, some none, some none, some none, none] 10 := ⟨(RX8, TX8, 10), tyX8, jl_cls8, rfl, tw_55, tw_56, tw_43, fun ad j hj => by
  rw [jm_fs_eq (ad := fun x => x) (fun r hr => absurd hr (by simp))]
  exact (by decide +kernel : ∀ j, j < 10 → defaultValue (tyX8 j) = vp_V (jm_fs (fun x => x) [some none, some none, some none, some none, some none, some none, some none, some none, some none, none] (fun _ => 0)) j) j hj, by simp⟩
theorem jn_RX8_9 : jm_LN RX8 9 3 [some none, some none, none] 3 := ⟨(RX3, TX3, 3), tyX3, jl_cls3, rfl, tw_63, tw_64, tw_44, fun ad j hj => by
  rw [jm_fs_eq (ad := fun x => x) (fun r hr => absurd hr (by simp))]
  exact (by decide +kernel : ∀ j, j < 3 → defaultValue (tyX3 j) = vp_V (jm_fs (fun x => x) [some none, some none, none] (fun _ => 0)) j) j hj, by simp⟩
theorem jq_RX8_9 : Cond.classLink RX8 9 RX3 ∈ jm_TB := tw_63
theorem jn_RX8_16 : jm_LN RX8 16 4 [some none, none, none] 3 := ⟨(RX4, TX4, 3), tyX4, jl_cls4, rfl, tw_84, tw_85, tw_45, fun ad j hj => by
  rw [jm_fs_eq (ad := fun x => x) (fun r hr => absurd hr (by simp))]
  exact (by decide +kernel : ∀ j, j < 3 → defaultValue (tyX4 j) = vp_V (jm_fs (fun x => x) [some none, none, none] (fun _ => 0)) j) j hj, by simp⟩
theorem jn_RX4_9 : jm_LN RX4 9 3 [some none, some none, none] 3 := ⟨(RX3, TX3, 3), tyX3, jl_cls3, rfl, tw_90, tw_64, tw_44, fun ad j hj => by
  rw [jm_fs_eq (ad := fun x => x) (fun r hr => absurd hr (by simp))]
  exact (by decide +kernel : ∀ j, j < 3 → defaultValue (tyX3 j) = vp_V (jm_fs (fun x => x) [some none, some none, none] (fun _ => 0)) j) j hj, by simp⟩
theorem jq_RX4_9 : Cond.classLink RX4 9 RX3 ∈ jm_TB := tw_90
theorem jn_RX8_31 : jm_LN RX8 31 5 [some none, some none, none, none, none, none] 6 := ⟨(RX5, TX5, 6), tyX5, jl_cls5, rfl, tw_104, tw_105, tw_46, fun ad j hj => by
  rw [jm_fs_eq (ad := fun x => x) (fun r hr => absurd hr (by simp))]
  exact (by decide +kernel : ∀ j, j < 6 → defaultValue (tyX5 j) = vp_V (jm_fs (fun x => x) [some none, some none, none, none, none, none] (fun _ => 0)) j) j hj, by simp⟩
theorem jn_RX8_38 : jm_LN RX8 38 2 [some none, some none, none] 3 := ⟨(RX2, TX2, 3), tyX2, jl_cls2, rfl, tw_134, tw_135, tw_47, fun ad j hj => by
  rw [jm_fs_eq (ad := fun x => x) (fun r hr => absurd hr (by simp))]
  exact (by decide +kernel : ∀ j, j < 3 → defaultValue (tyX2 j) = vp_V (jm_fs (fun x => x) [some none, some none, none] (fun _ => 0)) j) j hj, by simp⟩
theorem jn_RX8_45 : jm_LN RX8 45 0 [some none, some none, some none, some none] 4 := ⟨(RX0, TX0, 4), tyX0, jl_cls0, rfl, tw_153, tw_154, tw_48, fun ad j hj => by
  rw [jm_fs_eq (ad := fun x => x) (fun r hr => absurd hr (by simp))]
  exact (by decide +kernel : ∀ j, j < 4 → defaultValue (tyX0 j) = vp_V (jm_fs (fun x => x) [some none, some none, some none, some none] (fun _ => 0)) j) j hj, by simp⟩
theorem jn_RX0_9 : jm_LN RX0 9 1 [some none, none, none, none] 4 := ⟨(RX1, TX1, 4), tyX1, jl_cls1, rfl, tw_159, tw_160, tw_49, fun ad j hj => by
  rw [jm_fs_eq (ad := fun x => x) (fun r hr => absurd hr (by simp))]
  exact (by decide +kernel : ∀ j, j < 4 → defaultValue (tyX1 j) = vp_V (jm_fs (fun x => x) [some none, none, none, none] (fun _ => 0)) j) j hj, by simp⟩
theorem jn_RX8_52 : jm_LN RX8 52 7 [some none, some none, none] 3 := ⟨(RX7, TX7, 3), tyX7, jl_cls7, rfl, tw_196, tw_197, tw_50, fun ad j hj => by
  rw [jm_fs_eq (ad := fun x => x) (fun r hr => absurd hr (by simp))]
  exact (by decide +kernel : ∀ j, j < 3 → defaultValue (tyX7 j) = vp_V (jm_fs (fun x => x) [some none, some none, none] (fun _ => 0)) j) j hj, by simp⟩
theorem jn_RX7_9 : jm_LN RX7 9 6 [some none, none, none, none, none, none] 6 := ⟨(RX6, TX6, 6), tyX6, jl_cls6, rfl, tw_202, tw_204, tw_51, fun ad j hj => by
  rw [jm_fs_eq (ad := fun x => x) (fun r hr => absurd hr (by simp))]
  exact (by decide +kernel : ∀ j, j < 6 → defaultValue (tyX6 j) = vp_V (jm_fs (fun x => x) [some none, none, none, none, none, none] (fun _ => 0)) j) j hj, by simp⟩
theorem jq_RX7_9 : Cond.classLink RX7 9 RX6 ∈ jm_TB := tw_202
theorem jn_RL_10 : jm_LN RL 10 9 [some none, some none, some none, none, some none, some none, some none, none, some none, some none, none, none, some none, some none, some none, some none, some none, some none, some none, some none, none, none, none, none, none, none, none] 27 := ⟨(RX9, TX9, 27), tyX9, jl_cls9, rfl, tw_584, tw_585, tw_52, fun ad j hj => by
  rw [jm_fs_eq (ad := fun x => x) (fun r hr => absurd hr (by simp))]
  exact (by decide +kernel : ∀ j, j < 27 → defaultValue (tyX9 j) = vp_V (jm_fs (fun x => x) [some none, some none, some none, none, some none, some none, some none, none, some none, some none, none, none, some none, some none, some none, some none, some none, some none, some none, some none, none, none, none, none, none, none, none] (fun _ => 0)) j) j hj, by simp⟩
end JMM
end
section
theorem dX0_init_0 : decode cX0_init 0 = .ok (.aload_n 0, 1) := by decide +kernel
theorem dX0_init_1 : decode cX0_init 1 = .ok (.invokespecial 3, 3) := by decide +kernel
theorem dX0_init_4 : decode cX0_init 4 = .ok (.aload_n 0, 1) := by decide +kernel
theorem dX0_init_5 : decode cX0_init 5 = .ok (.new 9, 3) := by decide +kernel
theorem dX0_init_8 : decode cX0_init 8 = .ok (.dup, 1) := by decide +kernel
theorem dX0_init_9 : decode cX0_init 9 = .ok (.invokespecial 11, 3) := by decide +kernel
theorem dX0_init_12 : decode cX0_init 12 = .ok (.putfield 12, 3) := by decide +kernel
theorem dX0_init_15 : decode cX0_init 15 = .ok (.aload_n 0, 1) := by decide +kernel
theorem dX0_init_16 : decode cX0_init 16 = .ok (.bipush 8, 2) := by decide +kernel
theorem dX0_init_18 : decode cX0_init 18 = .ok (.newarray .int, 2) := by decide +kernel
theorem dX0_init_20 : decode cX0_init 20 = .ok (.putfield 18, 3) := by decide +kernel
theorem dX0_init_23 : decode cX0_init 23 = .ok (.aload_n 0, 1) := by decide +kernel
theorem dX0_init_24 : decode cX0_init 24 = .ok (.iconst 4, 1) := by decide +kernel
theorem dX0_init_25 : decode cX0_init 25 = .ok (.newarray .int, 2) := by decide +kernel
theorem dX0_init_27 : decode cX0_init 27 = .ok (.putfield 22, 3) := by decide +kernel
theorem dX0_init_30 : decode cX0_init 30 = .ok (.aload_n 0, 1) := by decide +kernel
theorem dX0_init_31 : decode cX0_init 31 = .ok (.iconst 4, 1) := by decide +kernel
theorem dX0_init_32 : decode cX0_init 32 = .ok (.newarray .int, 2) := by decide +kernel
theorem dX0_init_34 : decode cX0_init 34 = .ok (.putfield 25, 3) := by decide +kernel
theorem dX0_init_37 : decode cX0_init 37 = .ok (.return_, 1) := by decide +kernel
theorem dX0_find_0 : decode cX0_find 0 = .ok (.aload 4, 2) := by decide +kernel
theorem dX0_find_2 : decode cX0_find 2 = .ok (.invokevirtual 28, 3) := by decide +kernel
theorem dX0_find_5 : decode cX0_find 5 = .ok (.aload_n 2, 1) := by decide +kernel
theorem dX0_find_6 : decode cX0_find 6 = .ok (.iload_n 3, 1) := by decide +kernel
theorem dX0_find_7 : decode cX0_find 7 = .ok (.invokevirtual 33, 3) := by decide +kernel
theorem dX0_find_10 : decode cX0_find 10 = .ok (.ifCond .eq 12, 3) := by decide +kernel
theorem dX0_find_13 : decode cX0_find 13 = .ok (.aload 4, 2) := by decide +kernel
theorem dX0_find_15 : decode cX0_find 15 = .ok (.getfield 39, 3) := by decide +kernel
theorem dX0_find_18 : decode cX0_find 18 = .ok (.iload_n 3, 1) := by decide +kernel
theorem dX0_find_19 : decode cX0_find 19 = .ok (.bipush (-6), 2) := by decide +kernel
theorem dX0_find_21 : decode cX0_find 21 = .ok (.iastore, 1) := by decide +kernel
theorem dX0_find_22 : decode cX0_find 22 = .ok (.iconst 0, 1) := by decide +kernel
theorem dX0_find_23 : decode cX0_find 23 = .ok (.istore 5, 2) := by decide +kernel
theorem dX0_find_25 : decode cX0_find 25 = .ok (.iload 5, 2) := by decide +kernel
theorem dX0_find_27 : decode cX0_find 27 = .ok (.aload_n 2, 1) := by decide +kernel
theorem dX0_find_28 : decode cX0_find 28 = .ok (.getfield 42, 3) := by decide +kernel
theorem dX0_find_31 : decode cX0_find 31 = .ok (.if_icmp .ge 41, 3) := by decide +kernel
theorem dX0_find_34 : decode cX0_find 34 = .ok (.aload 4, 2) := by decide +kernel
theorem dX0_find_36 : decode cX0_find 36 = .ok (.getfield 46, 3) := by decide +kernel
theorem dX0_find_39 : decode cX0_find 39 = .ok (.bipush 8, 2) := by decide +kernel
theorem dX0_find_41 : decode cX0_find 41 = .ok (.if_icmp .ge 31, 3) := by decide +kernel
theorem dX0_find_44 : decode cX0_find 44 = .ok (.aload 4, 2) := by decide +kernel
theorem dX0_find_46 : decode cX0_find 46 = .ok (.getfield 39, 3) := by decide +kernel
theorem dX0_find_49 : decode cX0_find 49 = .ok (.iload 5, 2) := by decide +kernel
theorem dX0_find_51 : decode cX0_find 51 = .ok (.iaload, 1) := by decide +kernel
theorem dX0_find_52 : decode cX0_find 52 = .ok (.iconst (-1), 1) := by decide +kernel
theorem dX0_find_53 : decode cX0_find 53 = .ok (.if_icmp .ne 13, 3) := by decide +kernel
theorem dX0_find_56 : decode cX0_find 56 = .ok (.aload_n 0, 1) := by decide +kernel
theorem dX0_find_57 : decode cX0_find 57 = .ok (.aload_n 1, 1) := by decide +kernel
theorem dX0_find_58 : decode cX0_find 58 = .ok (.aload_n 2, 1) := by decide +kernel
theorem dX0_find_59 : decode cX0_find 59 = .ok (.iload 5, 2) := by decide +kernel
theorem dX0_find_61 : decode cX0_find 61 = .ok (.aload 4, 2) := by decide +kernel
theorem dX0_find_63 : decode cX0_find 63 = .ok (.invokevirtual 47, 3) := by decide +kernel
theorem dX0_find_66 : decode cX0_find 66 = .ok (.iinc 5 1, 3) := by decide +kernel
theorem dX0_find_69 : decode cX0_find 69 = .ok (.goto (-44), 3) := by decide +kernel
theorem dX0_find_72 : decode cX0_find 72 = .ok (.return_, 1) := by decide +kernel
theorem dX0_spreadOf_0 : decode cX0_spreadOf 0 = .ok (.iconst 0, 1) := by decide +kernel
theorem dX0_spreadOf_1 : decode cX0_spreadOf 1 = .ok (.istore 6, 2) := by decide +kernel
theorem dX0_spreadOf_3 : decode cX0_spreadOf 3 = .ok (.iload 6, 2) := by decide +kernel
theorem dX0_spreadOf_5 : decode cX0_spreadOf 5 = .ok (.iconst 4, 1) := by decide +kernel
theorem dX0_spreadOf_6 : decode cX0_spreadOf 6 = .ok (.if_icmp .ge 30, 3) := by decide +kernel
theorem dX0_spreadOf_9 : decode cX0_spreadOf 9 = .ok (.aload_n 0, 1) := by decide +kernel
theorem dX0_spreadOf_10 : decode cX0_spreadOf 10 = .ok (.getfield 12, 3) := by decide +kernel
theorem dX0_spreadOf_13 : decode cX0_spreadOf 13 = .ok (.getfield 51, 3) := by decide +kernel
theorem dX0_spreadOf_16 : decode cX0_spreadOf 16 = .ok (.iload 6, 2) := by decide +kernel
theorem dX0_spreadOf_18 : decode cX0_spreadOf 18 = .ok (.aload_n 2, 1) := by decide +kernel
theorem dX0_spreadOf_19 : decode cX0_spreadOf 19 = .ok (.aload_n 3, 1) := by decide +kernel
theorem dX0_spreadOf_20 : decode cX0_spreadOf 20 = .ok (.getfield 54, 3) := by decide +kernel
theorem dX0_spreadOf_23 : decode cX0_spreadOf 23 = .ok (.iload 6, 2) := by decide +kernel
theorem dX0_spreadOf_25 : decode cX0_spreadOf 25 = .ok (.iaload, 1) := by decide +kernel
theorem dX0_spreadOf_26 : decode cX0_spreadOf 26 = .ok (.invokevirtual 59, 3) := by decide +kernel
theorem dX0_spreadOf_29 : decode cX0_spreadOf 29 = .ok (.iastore, 1) := by decide +kernel
theorem dX0_spreadOf_30 : decode cX0_spreadOf 30 = .ok (.iinc 6 1, 3) := by decide +kernel
theorem dX0_spreadOf_33 : decode cX0_spreadOf 33 = .ok (.goto (-30), 3) := by decide +kernel
theorem dX0_spreadOf_36 : decode cX0_spreadOf 36 = .ok (.aload_n 0, 1) := by decide +kernel
theorem dX0_spreadOf_37 : decode cX0_spreadOf 37 = .ok (.getfield 12, 3) := by decide +kernel
theorem dX0_spreadOf_40 : decode cX0_spreadOf 40 = .ok (.aload_n 1, 1) := by decide +kernel
theorem dX0_spreadOf_41 : decode cX0_spreadOf 41 = .ok (.iload 4, 2) := by decide +kernel
theorem dX0_spreadOf_43 : decode cX0_spreadOf 43 = .ok (.iload 5, 2) := by decide +kernel
theorem dX0_spreadOf_45 : decode cX0_spreadOf 45 = .ok (.invokevirtual 63, 3) := by decide +kernel
theorem dX0_spreadOf_48 : decode cX0_spreadOf 48 = .ok (.ireturn, 1) := by decide +kernel
theorem dX0_judge_0 : decode cX0_judge 0 = .ok (.aload 4, 2) := by decide +kernel
theorem dX0_judge_2 : decode cX0_judge 2 = .ok (.getfield 39, 3) := by decide +kernel
theorem dX0_judge_5 : decode cX0_judge 5 = .ok (.iload_n 3, 1) := by decide +kernel
theorem dX0_judge_6 : decode cX0_judge 6 = .ok (.bipush (-6), 2) := by decide +kernel
theorem dX0_judge_8 : decode cX0_judge 8 = .ok (.iastore, 1) := by decide +kernel
theorem dX0_judge_9 : decode cX0_judge 9 = .ok (.aload_n 0, 1) := by decide +kernel
theorem dX0_judge_10 : decode cX0_judge 10 = .ok (.aload_n 2, 1) := by decide +kernel
theorem dX0_judge_11 : decode cX0_judge 11 = .ok (.iload_n 3, 1) := by decide +kernel
theorem dX0_judge_12 : decode cX0_judge 12 = .ok (.aload 4, 2) := by decide +kernel
theorem dX0_judge_14 : decode cX0_judge 14 = .ok (.getfield 39, 3) := by decide +kernel
theorem dX0_judge_17 : decode cX0_judge 17 = .ok (.invokevirtual 67, 3) := by decide +kernel
theorem dX0_judge_20 : decode cX0_judge 20 = .ok (.aload_n 2, 1) := by decide +kernel
theorem dX0_judge_21 : decode cX0_judge 21 = .ok (.getfield 71, 3) := by decide +kernel
theorem dX0_judge_24 : decode cX0_judge 24 = .ok (.iconst 2, 1) := by decide +kernel
theorem dX0_judge_25 : decode cX0_judge 25 = .ok (.iaload, 1) := by decide +kernel
theorem dX0_judge_26 : decode cX0_judge 26 = .ok (.iconst 1, 1) := by decide +kernel
theorem dX0_judge_27 : decode cX0_judge 27 = .ok (.iadd, 1) := by decide +kernel
theorem dX0_judge_28 : decode cX0_judge 28 = .ok (.istore 5, 2) := by decide +kernel
theorem dX0_judge_30 : decode cX0_judge 30 = .ok (.iconst 0, 1) := by decide +kernel
theorem dX0_judge_31 : decode cX0_judge 31 = .ok (.istore 6, 2) := by decide +kernel
theorem dX0_judge_33 : decode cX0_judge 33 = .ok (.iconst 0, 1) := by decide +kernel
theorem dX0_judge_34 : decode cX0_judge 34 = .ok (.istore 7, 2) := by decide +kernel
theorem dX0_judge_36 : decode cX0_judge 36 = .ok (.iload 7, 2) := by decide +kernel
theorem dX0_judge_38 : decode cX0_judge 38 = .ok (.bipush 16, 2) := by decide +kernel
theorem dX0_judge_40 : decode cX0_judge 40 = .ok (.if_icmp .ge 63, 3) := by decide +kernel
theorem dX0_judge_43 : decode cX0_judge 43 = .ok (.iload 5, 2) := by decide +kernel
theorem dX0_judge_45 : decode cX0_judge 45 = .ok (.ifCond .le 58, 3) := by decide +kernel
theorem dX0_judge_48 : decode cX0_judge 48 = .ok (.aload_n 0, 1) := by decide +kernel
theorem dX0_judge_49 : decode cX0_judge 49 = .ok (.aload_n 2, 1) := by decide +kernel
theorem dX0_judge_50 : decode cX0_judge 50 = .ok (.iload 7, 2) := by decide +kernel
theorem dX0_judge_52 : decode cX0_judge 52 = .ok (.invokevirtual 74, 3) := by decide +kernel
theorem dX0_judge_55 : decode cX0_judge 55 = .ok (.ifCond .eq 42, 3) := by decide +kernel
theorem dX0_judge_58 : decode cX0_judge 58 = .ok (.aload_n 0, 1) := by decide +kernel
theorem dX0_judge_59 : decode cX0_judge 59 = .ok (.getfield 12, 3) := by decide +kernel
theorem dX0_judge_62 : decode cX0_judge 62 = .ok (.aload_n 1, 1) := by decide +kernel
theorem dX0_judge_63 : decode cX0_judge 63 = .ok (.iload 5, 2) := by decide +kernel
theorem dX0_judge_65 : decode cX0_judge 65 = .ok (.invokevirtual 78, 3) := by decide +kernel
theorem dX0_judge_68 : decode cX0_judge 68 = .ok (.ifCond .eq 29, 3) := by decide +kernel
theorem dX0_judge_71 : decode cX0_judge 71 = .ok (.aload 4, 2) := by decide +kernel
theorem dX0_judge_73 : decode cX0_judge 73 = .ok (.aload_n 1, 1) := by decide +kernel
theorem dX0_judge_74 : decode cX0_judge 74 = .ok (.aload_n 0, 1) := by decide +kernel
theorem dX0_judge_75 : decode cX0_judge 75 = .ok (.getfield 12, 3) := by decide +kernel
theorem dX0_judge_78 : decode cX0_judge 78 = .ok (.aload_n 0, 1) := by decide +kernel
theorem dX0_judge_79 : decode cX0_judge 79 = .ok (.getfield 25, 3) := by decide +kernel
theorem dX0_judge_82 : decode cX0_judge 82 = .ok (.invokevirtual 82, 3) := by decide +kernel
theorem dX0_judge_85 : decode cX0_judge 85 = .ok (.aload_n 0, 1) := by decide +kernel
theorem dX0_judge_86 : decode cX0_judge 86 = .ok (.getfield 12, 3) := by decide +kernel
theorem dX0_judge_89 : decode cX0_judge 89 = .ok (.getfield 86, 3) := by decide +kernel
theorem dX0_judge_92 : decode cX0_judge 92 = .ok (.istore 5, 2) := by decide +kernel
theorem dX0_judge_94 : decode cX0_judge 94 = .ok (.iconst 1, 1) := by decide +kernel
theorem dX0_judge_95 : decode cX0_judge 95 = .ok (.istore 6, 2) := by decide +kernel
theorem dX0_judge_97 : decode cX0_judge 97 = .ok (.iinc 7 1, 3) := by decide +kernel
theorem dX0_judge_100 : decode cX0_judge 100 = .ok (.goto (-64), 3) := by decide +kernel
theorem dX0_judge_103 : decode cX0_judge 103 = .ok (.iload 6, 2) := by decide +kernel
theorem dX0_judge_105 : decode cX0_judge 105 = .ok (.ifCond .eq 8, 3) := by decide +kernel
theorem dX0_judge_108 : decode cX0_judge 108 = .ok (.aload 4, 2) := by decide +kernel
theorem dX0_judge_110 : decode cX0_judge 110 = .ok (.invokevirtual 89, 3) := by decide +kernel
theorem dX0_judge_113 : decode cX0_judge 113 = .ok (.return_, 1) := by decide +kernel
theorem dX0_gather_0 : decode cX0_gather 0 = .ok (.iconst 0, 1) := by decide +kernel
theorem dX0_gather_1 : decode cX0_gather 1 = .ok (.istore 4, 2) := by decide +kernel
theorem dX0_gather_3 : decode cX0_gather 3 = .ok (.iload 4, 2) := by decide +kernel
theorem dX0_gather_5 : decode cX0_gather 5 = .ok (.iconst 4, 1) := by decide +kernel
theorem dX0_gather_6 : decode cX0_gather 6 = .ok (.if_icmp .ge 17, 3) := by decide +kernel
theorem dX0_gather_9 : decode cX0_gather 9 = .ok (.aload_n 0, 1) := by decide +kernel
theorem dX0_gather_10 : decode cX0_gather 10 = .ok (.getfield 22, 3) := by decide +kernel
theorem dX0_gather_13 : decode cX0_gather 13 = .ok (.iload 4, 2) := by decide +kernel
theorem dX0_gather_15 : decode cX0_gather 15 = .ok (.iconst 0, 1) := by decide +kernel
theorem dX0_gather_16 : decode cX0_gather 16 = .ok (.iastore, 1) := by decide +kernel
theorem dX0_gather_17 : decode cX0_gather 17 = .ok (.iinc 4 1, 3) := by decide +kernel
theorem dX0_gather_20 : decode cX0_gather 20 = .ok (.goto (-17), 3) := by decide +kernel
theorem dX0_gather_23 : decode cX0_gather 23 = .ok (.aload_n 1, 1) := by decide +kernel
theorem dX0_gather_24 : decode cX0_gather 24 = .ok (.iload_n 2, 1) := by decide +kernel
theorem dX0_gather_25 : decode cX0_gather 25 = .ok (.invokevirtual 92, 3) := by decide +kernel
theorem dX0_gather_28 : decode cX0_gather 28 = .ok (.istore 4, 2) := by decide +kernel
theorem dX0_gather_30 : decode cX0_gather 30 = .ok (.aload_n 0, 1) := by decide +kernel
theorem dX0_gather_31 : decode cX0_gather 31 = .ok (.getfield 18, 3) := by decide +kernel
theorem dX0_gather_34 : decode cX0_gather 34 = .ok (.iload 4, 2) := by decide +kernel
theorem dX0_gather_36 : decode cX0_gather 36 = .ok (.iconst 2, 1) := by decide +kernel
theorem dX0_gather_37 : decode cX0_gather 37 = .ok (.imul, 1) := by decide +kernel
theorem dX0_gather_38 : decode cX0_gather 38 = .ok (.iload_n 2, 1) := by decide +kernel
theorem dX0_gather_39 : decode cX0_gather 39 = .ok (.iastore, 1) := by decide +kernel
theorem dX0_gather_40 : decode cX0_gather 40 = .ok (.aload_n 0, 1) := by decide +kernel
theorem dX0_gather_41 : decode cX0_gather 41 = .ok (.getfield 22, 3) := by decide +kernel
theorem dX0_gather_44 : decode cX0_gather 44 = .ok (.iload 4, 2) := by decide +kernel
theorem dX0_gather_46 : decode cX0_gather 46 = .ok (.iconst 1, 1) := by decide +kernel
theorem dX0_gather_47 : decode cX0_gather 47 = .ok (.iastore, 1) := by decide +kernel
theorem dX0_gather_48 : decode cX0_gather 48 = .ok (.aload_n 1, 1) := by decide +kernel
theorem dX0_gather_49 : decode cX0_gather 49 = .ok (.iload_n 2, 1) := by decide +kernel
theorem dX0_gather_50 : decode cX0_gather 50 = .ok (.invokevirtual 59, 3) := by decide +kernel
theorem dX0_gather_53 : decode cX0_gather 53 = .ok (.aload_n 1, 1) := by decide +kernel
theorem dX0_gather_54 : decode cX0_gather 54 = .ok (.getfield 71, 3) := by decide +kernel
theorem dX0_gather_57 : decode cX0_gather 57 = .ok (.iconst 1, 1) := by decide +kernel
theorem dX0_gather_58 : decode cX0_gather 58 = .ok (.iaload, 1) := by decide +kernel
theorem dX0_gather_59 : decode cX0_gather 59 = .ok (.iadd, 1) := by decide +kernel
theorem dX0_gather_60 : decode cX0_gather 60 = .ok (.istore 5, 2) := by decide +kernel
theorem dX0_gather_62 : decode cX0_gather 62 = .ok (.iload_n 2, 1) := by decide +kernel
theorem dX0_gather_63 : decode cX0_gather 63 = .ok (.iconst 1, 1) := by decide +kernel
theorem dX0_gather_64 : decode cX0_gather 64 = .ok (.iadd, 1) := by decide +kernel
theorem dX0_gather_65 : decode cX0_gather 65 = .ok (.istore 6, 2) := by decide +kernel
theorem dX0_gather_67 : decode cX0_gather 67 = .ok (.iload 6, 2) := by decide +kernel
theorem dX0_gather_69 : decode cX0_gather 69 = .ok (.aload_n 1, 1) := by decide +kernel
theorem dX0_gather_70 : decode cX0_gather 70 = .ok (.getfield 42, 3) := by decide +kernel
theorem dX0_gather_73 : decode cX0_gather 73 = .ok (.if_icmp .ge 84, 3) := by decide +kernel
theorem dX0_gather_76 : decode cX0_gather 76 = .ok (.aload_n 1, 1) := by decide +kernel
theorem dX0_gather_77 : decode cX0_gather 77 = .ok (.iload 6, 2) := by decide +kernel
theorem dX0_gather_79 : decode cX0_gather 79 = .ok (.invokevirtual 59, 3) := by decide +kernel
theorem dX0_gather_82 : decode cX0_gather 82 = .ok (.iload 5, 2) := by decide +kernel
theorem dX0_gather_84 : decode cX0_gather 84 = .ok (.if_icmp .gt 73, 3) := by decide +kernel
theorem dX0_gather_87 : decode cX0_gather 87 = .ok (.aload_n 1, 1) := by decide +kernel
theorem dX0_gather_88 : decode cX0_gather 88 = .ok (.iload 6, 2) := by decide +kernel
theorem dX0_gather_90 : decode cX0_gather 90 = .ok (.invokevirtual 92, 3) := by decide +kernel
theorem dX0_gather_93 : decode cX0_gather 93 = .ok (.istore 7, 2) := by decide +kernel
theorem dX0_gather_95 : decode cX0_gather 95 = .ok (.iload 7, 2) := by decide +kernel
theorem dX0_gather_97 : decode cX0_gather 97 = .ok (.iload 4, 2) := by decide +kernel
theorem dX0_gather_99 : decode cX0_gather 99 = .ok (.if_icmp .eq 52, 3) := by decide +kernel
theorem dX0_gather_102 : decode cX0_gather 102 = .ok (.aload_n 3, 1) := by decide +kernel
theorem dX0_gather_103 : decode cX0_gather 103 = .ok (.iload 6, 2) := by decide +kernel
theorem dX0_gather_105 : decode cX0_gather 105 = .ok (.iaload, 1) := by decide +kernel
theorem dX0_gather_106 : decode cX0_gather 106 = .ok (.iconst (-1), 1) := by decide +kernel
theorem dX0_gather_107 : decode cX0_gather 107 = .ok (.if_icmp .ne 44, 3) := by decide +kernel
theorem dX0_gather_110 : decode cX0_gather 110 = .ok (.aload_n 0, 1) := by decide +kernel
theorem dX0_gather_111 : decode cX0_gather 111 = .ok (.getfield 22, 3) := by decide +kernel
theorem dX0_gather_114 : decode cX0_gather 114 = .ok (.iload 7, 2) := by decide +kernel
theorem dX0_gather_116 : decode cX0_gather 116 = .ok (.iaload, 1) := by decide +kernel
theorem dX0_gather_117 : decode cX0_gather 117 = .ok (.iconst 2, 1) := by decide +kernel
theorem dX0_gather_118 : decode cX0_gather 118 = .ok (.if_icmp .ge 33, 3) := by decide +kernel
theorem dX0_gather_121 : decode cX0_gather 121 = .ok (.aload_n 0, 1) := by decide +kernel
theorem dX0_gather_122 : decode cX0_gather 122 = .ok (.getfield 18, 3) := by decide +kernel
theorem dX0_gather_125 : decode cX0_gather 125 = .ok (.iload 7, 2) := by decide +kernel
theorem dX0_gather_127 : decode cX0_gather 127 = .ok (.iconst 2, 1) := by decide +kernel
theorem dX0_gather_128 : decode cX0_gather 128 = .ok (.imul, 1) := by decide +kernel
theorem dX0_gather_129 : decode cX0_gather 129 = .ok (.aload_n 0, 1) := by decide +kernel
theorem dX0_gather_130 : decode cX0_gather 130 = .ok (.getfield 22, 3) := by decide +kernel
theorem dX0_gather_133 : decode cX0_gather 133 = .ok (.iload 7, 2) := by decide +kernel
theorem dX0_gather_135 : decode cX0_gather 135 = .ok (.iaload, 1) := by decide +kernel
theorem dX0_gather_136 : decode cX0_gather 136 = .ok (.iadd, 1) := by decide +kernel
theorem dX0_gather_137 : decode cX0_gather 137 = .ok (.iload 6, 2) := by decide +kernel
theorem dX0_gather_139 : decode cX0_gather 139 = .ok (.iastore, 1) := by decide +kernel
theorem dX0_gather_140 : decode cX0_gather 140 = .ok (.aload_n 0, 1) := by decide +kernel
theorem dX0_gather_141 : decode cX0_gather 141 = .ok (.getfield 22, 3) := by decide +kernel
theorem dX0_gather_144 : decode cX0_gather 144 = .ok (.iload 7, 2) := by decide +kernel
theorem dX0_gather_146 : decode cX0_gather 146 = .ok (.dup2, 1) := by decide +kernel
theorem dX0_gather_147 : decode cX0_gather 147 = .ok (.iaload, 1) := by decide +kernel
theorem dX0_gather_148 : decode cX0_gather 148 = .ok (.iconst 1, 1) := by decide +kernel
theorem dX0_gather_149 : decode cX0_gather 149 = .ok (.iadd, 1) := by decide +kernel
theorem dX0_gather_150 : decode cX0_gather 150 = .ok (.iastore, 1) := by decide +kernel
theorem dX0_gather_151 : decode cX0_gather 151 = .ok (.iinc 6 1, 3) := by decide +kernel
theorem dX0_gather_154 : decode cX0_gather 154 = .ok (.goto (-87), 3) := by decide +kernel
theorem dX0_gather_157 : decode cX0_gather 157 = .ok (.return_, 1) := by decide +kernel
theorem dX0_choose_0 : decode cX0_choose 0 = .ok (.iconst 0, 1) := by decide +kernel
theorem dX0_choose_1 : decode cX0_choose 1 = .ok (.istore_n 3, 1) := by decide +kernel
theorem dX0_choose_2 : decode cX0_choose 2 = .ok (.iload_n 3, 1) := by decide +kernel
theorem dX0_choose_3 : decode cX0_choose 3 = .ok (.iconst 4, 1) := by decide +kernel
theorem dX0_choose_4 : decode cX0_choose 4 = .ok (.if_icmp .ge 67, 3) := by decide +kernel
theorem dX0_choose_7 : decode cX0_choose 7 = .ok (.iload_n 2, 1) := by decide +kernel
theorem dX0_choose_8 : decode cX0_choose 8 = .ok (.iconst 3, 1) := by decide +kernel
theorem dX0_choose_9 : decode cX0_choose 9 = .ok (.iload_n 3, 1) := by decide +kernel
theorem dX0_choose_10 : decode cX0_choose 10 = .ok (.isub, 1) := by decide +kernel
theorem dX0_choose_11 : decode cX0_choose 11 = .ok (.ishr, 1) := by decide +kernel
theorem dX0_choose_12 : decode cX0_choose 12 = .ok (.iconst 1, 1) := by decide +kernel
theorem dX0_choose_13 : decode cX0_choose 13 = .ok (.iand, 1) := by decide +kernel
theorem dX0_choose_14 : decode cX0_choose 14 = .ok (.istore 4, 2) := by decide +kernel
theorem dX0_choose_16 : decode cX0_choose 16 = .ok (.iload 4, 2) := by decide +kernel
theorem dX0_choose_18 : decode cX0_choose 18 = .ok (.aload_n 0, 1) := by decide +kernel
theorem dX0_choose_19 : decode cX0_choose 19 = .ok (.getfield 22, 3) := by decide +kernel
theorem dX0_choose_22 : decode cX0_choose 22 = .ok (.iload_n 3, 1) := by decide +kernel
theorem dX0_choose_23 : decode cX0_choose 23 = .ok (.iaload, 1) := by decide +kernel
theorem dX0_choose_24 : decode cX0_choose 24 = .ok (.if_icmp .lt 5, 3) := by decide +kernel
theorem dX0_choose_27 : decode cX0_choose 27 = .ok (.iconst 0, 1) := by decide +kernel
theorem dX0_choose_28 : decode cX0_choose 28 = .ok (.ireturn, 1) := by decide +kernel
theorem dX0_choose_29 : decode cX0_choose 29 = .ok (.aload_n 0, 1) := by decide +kernel
theorem dX0_choose_30 : decode cX0_choose 30 = .ok (.getfield 25, 3) := by decide +kernel
theorem dX0_choose_33 : decode cX0_choose 33 = .ok (.iload_n 3, 1) := by decide +kernel
theorem dX0_choose_34 : decode cX0_choose 34 = .ok (.aload_n 0, 1) := by decide +kernel
theorem dX0_choose_35 : decode cX0_choose 35 = .ok (.getfield 18, 3) := by decide +kernel
theorem dX0_choose_38 : decode cX0_choose 38 = .ok (.iload_n 3, 1) := by decide +kernel
theorem dX0_choose_39 : decode cX0_choose 39 = .ok (.iconst 2, 1) := by decide +kernel
theorem dX0_choose_40 : decode cX0_choose 40 = .ok (.imul, 1) := by decide +kernel
theorem dX0_choose_41 : decode cX0_choose 41 = .ok (.iload 4, 2) := by decide +kernel
theorem dX0_choose_43 : decode cX0_choose 43 = .ok (.iadd, 1) := by decide +kernel
theorem dX0_choose_44 : decode cX0_choose 44 = .ok (.iaload, 1) := by decide +kernel
theorem dX0_choose_45 : decode cX0_choose 45 = .ok (.iastore, 1) := by decide +kernel
theorem dX0_choose_46 : decode cX0_choose 46 = .ok (.aload_n 0, 1) := by decide +kernel
theorem dX0_choose_47 : decode cX0_choose 47 = .ok (.getfield 12, 3) := by decide +kernel
theorem dX0_choose_50 : decode cX0_choose 50 = .ok (.getfield 51, 3) := by decide +kernel
theorem dX0_choose_53 : decode cX0_choose 53 = .ok (.iload_n 3, 1) := by decide +kernel
theorem dX0_choose_54 : decode cX0_choose 54 = .ok (.aload_n 1, 1) := by decide +kernel
theorem dX0_choose_55 : decode cX0_choose 55 = .ok (.aload_n 0, 1) := by decide +kernel
theorem dX0_choose_56 : decode cX0_choose 56 = .ok (.getfield 25, 3) := by decide +kernel
theorem dX0_choose_59 : decode cX0_choose 59 = .ok (.iload_n 3, 1) := by decide +kernel
theorem dX0_choose_60 : decode cX0_choose 60 = .ok (.iaload, 1) := by decide +kernel
theorem dX0_choose_61 : decode cX0_choose 61 = .ok (.invokevirtual 59, 3) := by decide +kernel
theorem dX0_choose_64 : decode cX0_choose 64 = .ok (.iastore, 1) := by decide +kernel
theorem dX0_choose_65 : decode cX0_choose 65 = .ok (.iinc 3 1, 3) := by decide +kernel
theorem dX0_choose_68 : decode cX0_choose 68 = .ok (.goto (-66), 3) := by decide +kernel
theorem dX0_choose_71 : decode cX0_choose 71 = .ok (.iconst 1, 1) := by decide +kernel
theorem dX0_choose_72 : decode cX0_choose 72 = .ok (.ireturn, 1) := by decide +kernel
theorem dX1_init_0 : decode cX1_init 0 = .ok (.aload_n 0, 1) := by decide +kernel
theorem dX1_init_1 : decode cX1_init 1 = .ok (.invokespecial 3, 3) := by decide +kernel
theorem dX1_init_4 : decode cX1_init 4 = .ok (.aload_n 0, 1) := by decide +kernel
theorem dX1_init_5 : decode cX1_init 5 = .ok (.iconst 4, 1) := by decide +kernel
theorem dX1_init_6 : decode cX1_init 6 = .ok (.newarray .int, 2) := by decide +kernel
theorem dX1_init_8 : decode cX1_init 8 = .ok (.putfield 9, 3) := by decide +kernel
theorem dX1_init_11 : decode cX1_init 11 = .ok (.return_, 1) := by decide +kernel
theorem dX1_search_0 : decode cX1_search 0 = .ok (.aload_n 0, 1) := by decide +kernel
theorem dX1_search_1 : decode cX1_search 1 = .ok (.iload_n 2, 1) := by decide +kernel
theorem dX1_search_2 : decode cX1_search 2 = .ok (.putfield 15, 3) := by decide +kernel
theorem dX1_search_5 : decode cX1_search 5 = .ok (.aload_n 0, 1) := by decide +kernel
theorem dX1_search_6 : decode cX1_search 6 = .ok (.iconst (-1), 1) := by decide +kernel
theorem dX1_search_7 : decode cX1_search 7 = .ok (.putfield 19, 3) := by decide +kernel
theorem dX1_search_10 : decode cX1_search 10 = .ok (.aload_n 0, 1) := by decide +kernel
theorem dX1_search_11 : decode cX1_search 11 = .ok (.getfield 9, 3) := by decide +kernel
theorem dX1_search_14 : decode cX1_search 14 = .ok (.iconst 0, 1) := by decide +kernel
theorem dX1_search_15 : decode cX1_search 15 = .ok (.iaload, 1) := by decide +kernel
theorem dX1_search_16 : decode cX1_search 16 = .ok (.aload_n 0, 1) := by decide +kernel
theorem dX1_search_17 : decode cX1_search 17 = .ok (.getfield 9, 3) := by decide +kernel
theorem dX1_search_20 : decode cX1_search 20 = .ok (.iconst 2, 1) := by decide +kernel
theorem dX1_search_21 : decode cX1_search 21 = .ok (.iaload, 1) := by decide +kernel
theorem dX1_search_22 : decode cX1_search 22 = .ok (.isub, 1) := by decide +kernel
theorem dX1_search_23 : decode cX1_search 23 = .ok (.istore_n 3, 1) := by decide +kernel
theorem dX1_search_24 : decode cX1_search 24 = .ok (.aload_n 0, 1) := by decide +kernel
theorem dX1_search_25 : decode cX1_search 25 = .ok (.getfield 9, 3) := by decide +kernel
theorem dX1_search_28 : decode cX1_search 28 = .ok (.iconst 1, 1) := by decide +kernel
theorem dX1_search_29 : decode cX1_search 29 = .ok (.iaload, 1) := by decide +kernel
theorem dX1_search_30 : decode cX1_search 30 = .ok (.aload_n 0, 1) := by decide +kernel
theorem dX1_search_31 : decode cX1_search 31 = .ok (.getfield 9, 3) := by decide +kernel
theorem dX1_search_34 : decode cX1_search 34 = .ok (.iconst 3, 1) := by decide +kernel
theorem dX1_search_35 : decode cX1_search 35 = .ok (.iaload, 1) := by decide +kernel
theorem dX1_search_36 : decode cX1_search 36 = .ok (.isub, 1) := by decide +kernel
theorem dX1_search_37 : decode cX1_search 37 = .ok (.istore 4, 2) := by decide +kernel
theorem dX1_search_39 : decode cX1_search 39 = .ok (.iconst 0, 1) := by decide +kernel
theorem dX1_search_40 : decode cX1_search 40 = .ok (.istore 5, 2) := by decide +kernel
theorem dX1_search_42 : decode cX1_search 42 = .ok (.bipush 40, 2) := by decide +kernel
theorem dX1_search_44 : decode cX1_search 44 = .ok (.istore 6, 2) := by decide +kernel
theorem dX1_search_46 : decode cX1_search 46 = .ok (.iconst 0, 1) := by decide +kernel
theorem dX1_search_47 : decode cX1_search 47 = .ok (.istore 7, 2) := by decide +kernel
theorem dX1_search_49 : decode cX1_search 49 = .ok (.iload 7, 2) := by decide +kernel
theorem dX1_search_51 : decode cX1_search 51 = .ok (.bipush 40, 2) := by decide +kernel
theorem dX1_search_53 : decode cX1_search 53 = .ok (.if_icmp .gt 194, 3) := by decide +kernel
theorem dX1_search_56 : decode cX1_search 56 = .ok (.iload 5, 2) := by decide +kernel
theorem dX1_search_58 : decode cX1_search 58 = .ok (.iload 6, 2) := by decide +kernel
theorem dX1_search_60 : decode cX1_search 60 = .ok (.if_icmp .gt 187, 3) := by decide +kernel
theorem dX1_search_63 : decode cX1_search 63 = .ok (.iload 6, 2) := by decide +kernel
theorem dX1_search_65 : decode cX1_search 65 = .ok (.ifCond .lt 27, 3) := by decide +kernel
theorem dX1_search_68 : decode cX1_search 68 = .ok (.iload_n 3, 1) := by decide +kernel
theorem dX1_search_69 : decode cX1_search 69 = .ok (.aload_n 1, 1) := by decide +kernel
theorem dX1_search_70 : decode cX1_search 70 = .ok (.iload 6, 2) := by decide +kernel
theorem dX1_search_72 : decode cX1_search 72 = .ok (.iload 7, 2) := by decide +kernel
theorem dX1_search_74 : decode cX1_search 74 = .ok (.invokevirtual 22, 3) := by decide +kernel
theorem dX1_search_77 : decode cX1_search 77 = .ok (.isub, 1) := by decide +kernel
theorem dX1_search_78 : decode cX1_search 78 = .ok (.aload_n 0, 1) := by decide +kernel
theorem dX1_search_79 : decode cX1_search 79 = .ok (.getfield 15, 3) := by decide +kernel
theorem dX1_search_82 : decode cX1_search 82 = .ok (.ineg, 1) := by decide +kernel
theorem dX1_search_83 : decode cX1_search 83 = .ok (.if_icmp .ge 9, 3) := by decide +kernel
theorem dX1_search_86 : decode cX1_search 86 = .ok (.iinc 6 (-1), 3) := by decide +kernel
theorem dX1_search_89 : decode cX1_search 89 = .ok (.goto (-26), 3) := by decide +kernel
theorem dX1_search_92 : decode cX1_search 92 = .ok (.iload 5, 2) := by decide +kernel
theorem dX1_search_94 : decode cX1_search 94 = .ok (.iload 6, 2) := by decide +kernel
theorem dX1_search_96 : decode cX1_search 96 = .ok (.if_icmp .gt 31, 3) := by decide +kernel
theorem dX1_search_99 : decode cX1_search 99 = .ok (.iload 4, 2) := by decide +kernel
theorem dX1_search_101 : decode cX1_search 101 = .ok (.aload_n 1, 1) := by decide +kernel
theorem dX1_search_102 : decode cX1_search 102 = .ok (.bipush 40, 2) := by decide +kernel
theorem dX1_search_104 : decode cX1_search 104 = .ok (.iload 5, 2) := by decide +kernel
theorem dX1_search_106 : decode cX1_search 106 = .ok (.isub, 1) := by decide +kernel
theorem dX1_search_107 : decode cX1_search 107 = .ok (.iload 7, 2) := by decide +kernel
theorem dX1_search_109 : decode cX1_search 109 = .ok (.invokevirtual 22, 3) := by decide +kernel
theorem dX1_search_112 : decode cX1_search 112 = .ok (.isub, 1) := by decide +kernel
theorem dX1_search_113 : decode cX1_search 113 = .ok (.aload_n 0, 1) := by decide +kernel
theorem dX1_search_114 : decode cX1_search 114 = .ok (.getfield 15, 3) := by decide +kernel
theorem dX1_search_117 : decode cX1_search 117 = .ok (.ineg, 1) := by decide +kernel
theorem dX1_search_118 : decode cX1_search 118 = .ok (.if_icmp .ge 9, 3) := by decide +kernel
theorem dX1_search_121 : decode cX1_search 121 = .ok (.iinc 5 1, 3) := by decide +kernel
theorem dX1_search_124 : decode cX1_search 124 = .ok (.goto (-32), 3) := by decide +kernel
theorem dX1_search_127 : decode cX1_search 127 = .ok (.iload 6, 2) := by decide +kernel
theorem dX1_search_129 : decode cX1_search 129 = .ok (.istore 8, 2) := by decide +kernel
theorem dX1_search_131 : decode cX1_search 131 = .ok (.iload 8, 2) := by decide +kernel
theorem dX1_search_133 : decode cX1_search 133 = .ok (.iload 5, 2) := by decide +kernel
theorem dX1_search_135 : decode cX1_search 135 = .ok (.if_icmp .lt 106, 3) := by decide +kernel
theorem dX1_search_138 : decode cX1_search 138 = .ok (.iload_n 3, 1) := by decide +kernel
theorem dX1_search_139 : decode cX1_search 139 = .ok (.aload_n 1, 1) := by decide +kernel
theorem dX1_search_140 : decode cX1_search 140 = .ok (.iload 8, 2) := by decide +kernel
theorem dX1_search_142 : decode cX1_search 142 = .ok (.iload 7, 2) := by decide +kernel
theorem dX1_search_144 : decode cX1_search 144 = .ok (.invokevirtual 22, 3) := by decide +kernel
theorem dX1_search_147 : decode cX1_search 147 = .ok (.isub, 1) := by decide +kernel
theorem dX1_search_148 : decode cX1_search 148 = .ok (.aload_n 0, 1) := by decide +kernel
theorem dX1_search_149 : decode cX1_search 149 = .ok (.getfield 15, 3) := by decide +kernel
theorem dX1_search_152 : decode cX1_search 152 = .ok (.if_icmp .gt 89, 3) := by decide +kernel
theorem dX1_search_155 : decode cX1_search 155 = .ok (.iload 4, 2) := by decide +kernel
theorem dX1_search_157 : decode cX1_search 157 = .ok (.aload_n 1, 1) := by decide +kernel
theorem dX1_search_158 : decode cX1_search 158 = .ok (.bipush 40, 2) := by decide +kernel
theorem dX1_search_160 : decode cX1_search 160 = .ok (.iload 8, 2) := by decide +kernel
theorem dX1_search_162 : decode cX1_search 162 = .ok (.isub, 1) := by decide +kernel
theorem dX1_search_163 : decode cX1_search 163 = .ok (.iload 7, 2) := by decide +kernel
theorem dX1_search_165 : decode cX1_search 165 = .ok (.invokevirtual 22, 3) := by decide +kernel
theorem dX1_search_168 : decode cX1_search 168 = .ok (.isub, 1) := by decide +kernel
theorem dX1_search_169 : decode cX1_search 169 = .ok (.aload_n 0, 1) := by decide +kernel
theorem dX1_search_170 : decode cX1_search 170 = .ok (.getfield 15, 3) := by decide +kernel
theorem dX1_search_173 : decode cX1_search 173 = .ok (.if_icmp .le 6, 3) := by decide +kernel
theorem dX1_search_176 : decode cX1_search 176 = .ok (.goto 59, 3) := by decide +kernel
theorem dX1_search_179 : decode cX1_search 179 = .ok (.aload_n 0, 1) := by decide +kernel
theorem dX1_search_180 : decode cX1_search 180 = .ok (.aload_n 1, 1) := by decide +kernel
theorem dX1_search_181 : decode cX1_search 181 = .ok (.iload 8, 2) := by decide +kernel
theorem dX1_search_183 : decode cX1_search 183 = .ok (.iload 7, 2) := by decide +kernel
theorem dX1_search_185 : decode cX1_search 185 = .ok (.invokevirtual 28, 3) := by decide +kernel
theorem dX1_search_188 : decode cX1_search 188 = .ok (.istore 9, 2) := by decide +kernel
theorem dX1_search_190 : decode cX1_search 190 = .ok (.iload 9, 2) := by decide +kernel
theorem dX1_search_192 : decode cX1_search 192 = .ok (.aload_n 0, 1) := by decide +kernel
theorem dX1_search_193 : decode cX1_search 193 = .ok (.getfield 15, 3) := by decide +kernel
theorem dX1_search_196 : decode cX1_search 196 = .ok (.if_icmp .lt 21, 3) := by decide +kernel
theorem dX1_search_199 : decode cX1_search 199 = .ok (.iload 9, 2) := by decide +kernel
theorem dX1_search_201 : decode cX1_search 201 = .ok (.aload_n 0, 1) := by decide +kernel
theorem dX1_search_202 : decode cX1_search 202 = .ok (.getfield 15, 3) := by decide +kernel
theorem dX1_search_205 : decode cX1_search 205 = .ok (.if_icmp .ne 30, 3) := by decide +kernel
theorem dX1_search_208 : decode cX1_search 208 = .ok (.iload 7, 2) := by decide +kernel
theorem dX1_search_210 : decode cX1_search 210 = .ok (.aload_n 0, 1) := by decide +kernel
theorem dX1_search_211 : decode cX1_search 211 = .ok (.getfield 19, 3) := by decide +kernel
theorem dX1_search_214 : decode cX1_search 214 = .ok (.if_icmp .ne 21, 3) := by decide +kernel
theorem dX1_search_217 : decode cX1_search 217 = .ok (.aload_n 0, 1) := by decide +kernel
theorem dX1_search_218 : decode cX1_search 218 = .ok (.iload 8, 2) := by decide +kernel
theorem dX1_search_220 : decode cX1_search 220 = .ok (.putfield 32, 3) := by decide +kernel
theorem dX1_search_223 : decode cX1_search 223 = .ok (.aload_n 0, 1) := by decide +kernel
theorem dX1_search_224 : decode cX1_search 224 = .ok (.iload 7, 2) := by decide +kernel
theorem dX1_search_226 : decode cX1_search 226 = .ok (.putfield 19, 3) := by decide +kernel
theorem dX1_search_229 : decode cX1_search 229 = .ok (.aload_n 0, 1) := by decide +kernel
theorem dX1_search_230 : decode cX1_search 230 = .ok (.iload 9, 2) := by decide +kernel
theorem dX1_search_232 : decode cX1_search 232 = .ok (.putfield 15, 3) := by decide +kernel
theorem dX1_search_235 : decode cX1_search 235 = .ok (.iinc 8 (-1), 3) := by decide +kernel
theorem dX1_search_238 : decode cX1_search 238 = .ok (.goto (-107), 3) := by decide +kernel
theorem dX1_search_241 : decode cX1_search 241 = .ok (.iinc 7 1, 3) := by decide +kernel
theorem dX1_search_244 : decode cX1_search 244 = .ok (.goto (-195), 3) := by decide +kernel
theorem dX1_search_247 : decode cX1_search 247 = .ok (.aload_n 0, 1) := by decide +kernel
theorem dX1_search_248 : decode cX1_search 248 = .ok (.getfield 19, 3) := by decide +kernel
theorem dX1_search_251 : decode cX1_search 251 = .ok (.iconst (-1), 1) := by decide +kernel
theorem dX1_search_252 : decode cX1_search 252 = .ok (.if_icmp .eq 7, 3) := by decide +kernel
theorem dX1_search_255 : decode cX1_search 255 = .ok (.iconst 1, 1) := by decide +kernel
theorem dX1_search_256 : decode cX1_search 256 = .ok (.goto 4, 3) := by decide +kernel
theorem dX1_search_259 : decode cX1_search 259 = .ok (.iconst 0, 1) := by decide +kernel
theorem dX1_search_260 : decode cX1_search 260 = .ok (.ireturn, 1) := by decide +kernel
theorem dX1_spreadAt_0 : decode cX1_spreadAt 0 = .ok (.aload_n 0, 1) := by decide +kernel
theorem dX1_spreadAt_1 : decode cX1_spreadAt 1 = .ok (.getfield 9, 3) := by decide +kernel
theorem dX1_spreadAt_4 : decode cX1_spreadAt 4 = .ok (.iconst 0, 1) := by decide +kernel
theorem dX1_spreadAt_5 : decode cX1_spreadAt 5 = .ok (.iaload, 1) := by decide +kernel
theorem dX1_spreadAt_6 : decode cX1_spreadAt 6 = .ok (.aload_n 1, 1) := by decide +kernel
theorem dX1_spreadAt_7 : decode cX1_spreadAt 7 = .ok (.iload_n 2, 1) := by decide +kernel
theorem dX1_spreadAt_8 : decode cX1_spreadAt 8 = .ok (.iload_n 3, 1) := by decide +kernel
theorem dX1_spreadAt_9 : decode cX1_spreadAt 9 = .ok (.iconst 0, 1) := by decide +kernel
theorem dX1_spreadAt_10 : decode cX1_spreadAt 10 = .ok (.invokevirtual 35, 3) := by decide +kernel
theorem dX1_spreadAt_13 : decode cX1_spreadAt 13 = .ok (.isub, 1) := by decide +kernel
theorem dX1_spreadAt_14 : decode cX1_spreadAt 14 = .ok (.istore 4, 2) := by decide +kernel
theorem dX1_spreadAt_16 : decode cX1_spreadAt 16 = .ok (.iload 4, 2) := by decide +kernel
theorem dX1_spreadAt_18 : decode cX1_spreadAt 18 = .ok (.istore 5, 2) := by decide +kernel
theorem dX1_spreadAt_20 : decode cX1_spreadAt 20 = .ok (.iconst 1, 1) := by decide +kernel
theorem dX1_spreadAt_21 : decode cX1_spreadAt 21 = .ok (.istore 6, 2) := by decide +kernel
theorem dX1_spreadAt_23 : decode cX1_spreadAt 23 = .ok (.iload 6, 2) := by decide +kernel
theorem dX1_spreadAt_25 : decode cX1_spreadAt 25 = .ok (.iconst 4, 1) := by decide +kernel
theorem dX1_spreadAt_26 : decode cX1_spreadAt 26 = .ok (.if_icmp .ge 45, 3) := by decide +kernel
theorem dX1_spreadAt_29 : decode cX1_spreadAt 29 = .ok (.aload_n 0, 1) := by decide +kernel
theorem dX1_spreadAt_30 : decode cX1_spreadAt 30 = .ok (.getfield 9, 3) := by decide +kernel
theorem dX1_spreadAt_33 : decode cX1_spreadAt 33 = .ok (.iload 6, 2) := by decide +kernel
theorem dX1_spreadAt_35 : decode cX1_spreadAt 35 = .ok (.iaload, 1) := by decide +kernel
theorem dX1_spreadAt_36 : decode cX1_spreadAt 36 = .ok (.aload_n 1, 1) := by decide +kernel
theorem dX1_spreadAt_37 : decode cX1_spreadAt 37 = .ok (.iload_n 2, 1) := by decide +kernel
theorem dX1_spreadAt_38 : decode cX1_spreadAt 38 = .ok (.iload_n 3, 1) := by decide +kernel
theorem dX1_spreadAt_39 : decode cX1_spreadAt 39 = .ok (.iload 6, 2) := by decide +kernel
theorem dX1_spreadAt_41 : decode cX1_spreadAt 41 = .ok (.invokevirtual 35, 3) := by decide +kernel
theorem dX1_spreadAt_44 : decode cX1_spreadAt 44 = .ok (.isub, 1) := by decide +kernel
theorem dX1_spreadAt_45 : decode cX1_spreadAt 45 = .ok (.istore 7, 2) := by decide +kernel
theorem dX1_spreadAt_47 : decode cX1_spreadAt 47 = .ok (.iload 4, 2) := by decide +kernel
theorem dX1_spreadAt_49 : decode cX1_spreadAt 49 = .ok (.iload 7, 2) := by decide +kernel
theorem dX1_spreadAt_51 : decode cX1_spreadAt 51 = .ok (.invokestatic 39, 3) := by decide +kernel
theorem dX1_spreadAt_54 : decode cX1_spreadAt 54 = .ok (.istore 4, 2) := by decide +kernel
theorem dX1_spreadAt_56 : decode cX1_spreadAt 56 = .ok (.iload 5, 2) := by decide +kernel
theorem dX1_spreadAt_58 : decode cX1_spreadAt 58 = .ok (.iload 7, 2) := by decide +kernel
theorem dX1_spreadAt_60 : decode cX1_spreadAt 60 = .ok (.invokestatic 44, 3) := by decide +kernel
theorem dX1_spreadAt_63 : decode cX1_spreadAt 63 = .ok (.istore 5, 2) := by decide +kernel
theorem dX1_spreadAt_65 : decode cX1_spreadAt 65 = .ok (.iinc 6 1, 3) := by decide +kernel
theorem dX1_spreadAt_68 : decode cX1_spreadAt 68 = .ok (.goto (-45), 3) := by decide +kernel
theorem dX1_spreadAt_71 : decode cX1_spreadAt 71 = .ok (.iload 5, 2) := by decide +kernel
theorem dX1_spreadAt_73 : decode cX1_spreadAt 73 = .ok (.iload 4, 2) := by decide +kernel
theorem dX1_spreadAt_75 : decode cX1_spreadAt 75 = .ok (.isub, 1) := by decide +kernel
theorem dX1_spreadAt_76 : decode cX1_spreadAt 76 = .ok (.ireturn, 1) := by decide +kernel
theorem dX1_leastStart_0 : decode cX1_leastStart 0 = .ok (.aload_n 0, 1) := by decide +kernel
theorem dX1_leastStart_1 : decode cX1_leastStart 1 = .ok (.getfield 9, 3) := by decide +kernel
theorem dX1_leastStart_4 : decode cX1_leastStart 4 = .ok (.iconst 0, 1) := by decide +kernel
theorem dX1_leastStart_5 : decode cX1_leastStart 5 = .ok (.iaload, 1) := by decide +kernel
theorem dX1_leastStart_6 : decode cX1_leastStart 6 = .ok (.aload_n 1, 1) := by decide +kernel
theorem dX1_leastStart_7 : decode cX1_leastStart 7 = .ok (.aload_n 0, 1) := by decide +kernel
theorem dX1_leastStart_8 : decode cX1_leastStart 8 = .ok (.getfield 32, 3) := by decide +kernel
theorem dX1_leastStart_11 : decode cX1_leastStart 11 = .ok (.aload_n 0, 1) := by decide +kernel
theorem dX1_leastStart_12 : decode cX1_leastStart 12 = .ok (.getfield 19, 3) := by decide +kernel
theorem dX1_leastStart_15 : decode cX1_leastStart 15 = .ok (.iconst 0, 1) := by decide +kernel
theorem dX1_leastStart_16 : decode cX1_leastStart 16 = .ok (.invokevirtual 35, 3) := by decide +kernel
theorem dX1_leastStart_19 : decode cX1_leastStart 19 = .ok (.isub, 1) := by decide +kernel
theorem dX1_leastStart_20 : decode cX1_leastStart 20 = .ok (.istore_n 2, 1) := by decide +kernel
theorem dX1_leastStart_21 : decode cX1_leastStart 21 = .ok (.iconst 1, 1) := by decide +kernel
theorem dX1_leastStart_22 : decode cX1_leastStart 22 = .ok (.istore_n 3, 1) := by decide +kernel
theorem dX1_leastStart_23 : decode cX1_leastStart 23 = .ok (.iload_n 3, 1) := by decide +kernel
theorem dX1_leastStart_24 : decode cX1_leastStart 24 = .ok (.iconst 4, 1) := by decide +kernel
theorem dX1_leastStart_25 : decode cX1_leastStart 25 = .ok (.if_icmp .ge 34, 3) := by decide +kernel
theorem dX1_leastStart_28 : decode cX1_leastStart 28 = .ok (.iload_n 2, 1) := by decide +kernel
theorem dX1_leastStart_29 : decode cX1_leastStart 29 = .ok (.aload_n 0, 1) := by decide +kernel
theorem dX1_leastStart_30 : decode cX1_leastStart 30 = .ok (.getfield 9, 3) := by decide +kernel
theorem dX1_leastStart_33 : decode cX1_leastStart 33 = .ok (.iload_n 3, 1) := by decide +kernel
theorem dX1_leastStart_34 : decode cX1_leastStart 34 = .ok (.iaload, 1) := by decide +kernel
theorem dX1_leastStart_35 : decode cX1_leastStart 35 = .ok (.aload_n 1, 1) := by decide +kernel
theorem dX1_leastStart_36 : decode cX1_leastStart 36 = .ok (.aload_n 0, 1) := by decide +kernel
theorem dX1_leastStart_37 : decode cX1_leastStart 37 = .ok (.getfield 32, 3) := by decide +kernel
theorem dX1_leastStart_40 : decode cX1_leastStart 40 = .ok (.aload_n 0, 1) := by decide +kernel
theorem dX1_leastStart_41 : decode cX1_leastStart 41 = .ok (.getfield 19, 3) := by decide +kernel
theorem dX1_leastStart_44 : decode cX1_leastStart 44 = .ok (.iload_n 3, 1) := by decide +kernel
theorem dX1_leastStart_45 : decode cX1_leastStart 45 = .ok (.invokevirtual 35, 3) := by decide +kernel
theorem dX1_leastStart_48 : decode cX1_leastStart 48 = .ok (.isub, 1) := by decide +kernel
theorem dX1_leastStart_49 : decode cX1_leastStart 49 = .ok (.invokestatic 39, 3) := by decide +kernel
theorem dX1_leastStart_52 : decode cX1_leastStart 52 = .ok (.istore_n 2, 1) := by decide +kernel
theorem dX1_leastStart_53 : decode cX1_leastStart 53 = .ok (.iinc 3 1, 3) := by decide +kernel
theorem dX1_leastStart_56 : decode cX1_leastStart 56 = .ok (.goto (-33), 3) := by decide +kernel
theorem dX1_leastStart_59 : decode cX1_leastStart 59 = .ok (.iload_n 2, 1) := by decide +kernel
theorem dX1_leastStart_60 : decode cX1_leastStart 60 = .ok (.ireturn, 1) := by decide +kernel
theorem dX2_init_0 : decode cX2_init 0 = .ok (.aload_n 0, 1) := by decide +kernel
theorem dX2_init_1 : decode cX2_init 1 = .ok (.invokespecial 3, 3) := by decide +kernel
theorem dX2_init_4 : decode cX2_init 4 = .ok (.aload_n 0, 1) := by decide +kernel
theorem dX2_init_5 : decode cX2_init 5 = .ok (.sipush 1681, 3) := by decide +kernel
theorem dX2_init_8 : decode cX2_init 8 = .ok (.newarray .int, 2) := by decide +kernel
theorem dX2_init_10 : decode cX2_init 10 = .ok (.putfield 11, 3) := by decide +kernel
theorem dX2_init_13 : decode cX2_init 13 = .ok (.aload_n 0, 1) := by decide +kernel
theorem dX2_init_14 : decode cX2_init 14 = .ok (.sipush 1681, 3) := by decide +kernel
theorem dX2_init_17 : decode cX2_init 17 = .ok (.newarray .int, 2) := by decide +kernel
theorem dX2_init_19 : decode cX2_init 19 = .ok (.putfield 15, 3) := by decide +kernel
theorem dX2_init_22 : decode cX2_init 22 = .ok (.iconst 0, 1) := by decide +kernel
theorem dX2_init_23 : decode cX2_init 23 = .ok (.istore_n 1, 1) := by decide +kernel
theorem dX2_init_24 : decode cX2_init 24 = .ok (.iload_n 1, 1) := by decide +kernel
theorem dX2_init_25 : decode cX2_init 25 = .ok (.bipush 41, 2) := by decide +kernel
theorem dX2_init_27 : decode cX2_init 27 = .ok (.if_icmp .ge 48, 3) := by decide +kernel
theorem dX2_init_30 : decode cX2_init 30 = .ok (.iconst 0, 1) := by decide +kernel
theorem dX2_init_31 : decode cX2_init 31 = .ok (.istore_n 2, 1) := by decide +kernel
theorem dX2_init_32 : decode cX2_init 32 = .ok (.iload_n 2, 1) := by decide +kernel
theorem dX2_init_33 : decode cX2_init 33 = .ok (.bipush 41, 2) := by decide +kernel
theorem dX2_init_35 : decode cX2_init 35 = .ok (.if_icmp .ge 34, 3) := by decide +kernel
theorem dX2_init_38 : decode cX2_init 38 = .ok (.aload_n 0, 1) := by decide +kernel
theorem dX2_init_39 : decode cX2_init 39 = .ok (.getfield 11, 3) := by decide +kernel
theorem dX2_init_42 : decode cX2_init 42 = .ok (.iload_n 1, 1) := by decide +kernel
theorem dX2_init_43 : decode cX2_init 43 = .ok (.bipush 41, 2) := by decide +kernel
theorem dX2_init_45 : decode cX2_init 45 = .ok (.imul, 1) := by decide +kernel
theorem dX2_init_46 : decode cX2_init 46 = .ok (.iload_n 2, 1) := by decide +kernel
theorem dX2_init_47 : decode cX2_init 47 = .ok (.iadd, 1) := by decide +kernel
theorem dX2_init_48 : decode cX2_init 48 = .ok (.sipush 10000, 3) := by decide +kernel
theorem dX2_init_51 : decode cX2_init 51 = .ok (.iload_n 2, 1) := by decide +kernel
theorem dX2_init_52 : decode cX2_init 52 = .ok (.iload_n 2, 1) := by decide +kernel
theorem dX2_init_53 : decode cX2_init 53 = .ok (.imul, 1) := by decide +kernel
theorem dX2_init_54 : decode cX2_init 54 = .ok (.iload_n 1, 1) := by decide +kernel
theorem dX2_init_55 : decode cX2_init 55 = .ok (.iload_n 1, 1) := by decide +kernel
theorem dX2_init_56 : decode cX2_init 56 = .ok (.imul, 1) := by decide +kernel
theorem dX2_init_57 : decode cX2_init 57 = .ok (.iadd, 1) := by decide +kernel
theorem dX2_init_58 : decode cX2_init 58 = .ok (.imul, 1) := by decide +kernel
theorem dX2_init_59 : decode cX2_init 59 = .ok (.invokestatic 18, 3) := by decide +kernel
theorem dX2_init_62 : decode cX2_init 62 = .ok (.iastore, 1) := by decide +kernel
theorem dX2_init_63 : decode cX2_init 63 = .ok (.iinc 2 1, 3) := by decide +kernel
theorem dX2_init_66 : decode cX2_init 66 = .ok (.goto (-34), 3) := by decide +kernel
theorem dX2_init_69 : decode cX2_init 69 = .ok (.iinc 1 1, 3) := by decide +kernel
theorem dX2_init_72 : decode cX2_init 72 = .ok (.goto (-48), 3) := by decide +kernel
theorem dX2_init_75 : decode cX2_init 75 = .ok (.return_, 1) := by decide +kernel
theorem dX2_speedAt_0 : decode cX2_speedAt 0 = .ok (.sipush 331, 3) := by decide +kernel
theorem dX2_speedAt_3 : decode cX2_speedAt 3 = .ok (.iconst 3, 1) := by decide +kernel
theorem dX2_speedAt_4 : decode cX2_speedAt 4 = .ok (.iload_n 0, 1) := by decide +kernel
theorem dX2_speedAt_5 : decode cX2_speedAt 5 = .ok (.imul, 1) := by decide +kernel
theorem dX2_speedAt_6 : decode cX2_speedAt 6 = .ok (.iconst 5, 1) := by decide +kernel
theorem dX2_speedAt_7 : decode cX2_speedAt 7 = .ok (.invokestatic 22, 3) := by decide +kernel
theorem dX2_speedAt_10 : decode cX2_speedAt 10 = .ok (.iadd, 1) := by decide +kernel
theorem dX2_speedAt_11 : decode cX2_speedAt 11 = .ok (.ireturn, 1) := by decide +kernel
theorem dX2_tune_0 : decode cX2_tune 0 = .ok (.iload_n 1, 1) := by decide +kernel
theorem dX2_tune_1 : decode cX2_tune 1 = .ok (.invokestatic 28, 3) := by decide +kernel
theorem dX2_tune_4 : decode cX2_tune 4 = .ok (.istore_n 2, 1) := by decide +kernel
theorem dX2_tune_5 : decode cX2_tune 5 = .ok (.iload_n 2, 1) := by decide +kernel
theorem dX2_tune_6 : decode cX2_tune 6 = .ok (.aload_n 0, 1) := by decide +kernel
theorem dX2_tune_7 : decode cX2_tune 7 = .ok (.getfield 31, 3) := by decide +kernel
theorem dX2_tune_10 : decode cX2_tune 10 = .ok (.if_icmp .eq 7, 3) := by decide +kernel
theorem dX2_tune_13 : decode cX2_tune 13 = .ok (.iload_n 2, 1) := by decide +kernel
theorem dX2_tune_14 : decode cX2_tune 14 = .ok (.ifCond .gt 4, 3) := by decide +kernel
theorem dX2_tune_17 : decode cX2_tune 17 = .ok (.return_, 1) := by decide +kernel
theorem dX2_tune_18 : decode cX2_tune 18 = .ok (.aload_n 0, 1) := by decide +kernel
theorem dX2_tune_19 : decode cX2_tune 19 = .ok (.iload_n 2, 1) := by decide +kernel
theorem dX2_tune_20 : decode cX2_tune 20 = .ok (.putfield 31, 3) := by decide +kernel
theorem dX2_tune_23 : decode cX2_tune 23 = .ok (.iconst 0, 1) := by decide +kernel
theorem dX2_tune_24 : decode cX2_tune 24 = .ok (.istore_n 3, 1) := by decide +kernel
theorem dX2_tune_25 : decode cX2_tune 25 = .ok (.iload_n 3, 1) := by decide +kernel
theorem dX2_tune_26 : decode cX2_tune 26 = .ok (.aload_n 0, 1) := by decide +kernel
theorem dX2_tune_27 : decode cX2_tune 27 = .ok (.getfield 15, 3) := by decide +kernel
theorem dX2_tune_30 : decode cX2_tune 30 = .ok (.arraylength, 1) := by decide +kernel
theorem dX2_tune_31 : decode cX2_tune 31 = .ok (.if_icmp .ge 26, 3) := by decide +kernel
theorem dX2_tune_34 : decode cX2_tune 34 = .ok (.aload_n 0, 1) := by decide +kernel
theorem dX2_tune_35 : decode cX2_tune 35 = .ok (.getfield 15, 3) := by decide +kernel
theorem dX2_tune_38 : decode cX2_tune 38 = .ok (.iload_n 3, 1) := by decide +kernel
theorem dX2_tune_39 : decode cX2_tune 39 = .ok (.bipush 100, 2) := by decide +kernel
theorem dX2_tune_41 : decode cX2_tune 41 = .ok (.aload_n 0, 1) := by decide +kernel
theorem dX2_tune_42 : decode cX2_tune 42 = .ok (.getfield 11, 3) := by decide +kernel
theorem dX2_tune_45 : decode cX2_tune 45 = .ok (.iload_n 3, 1) := by decide +kernel
theorem dX2_tune_46 : decode cX2_tune 46 = .ok (.iaload, 1) := by decide +kernel
theorem dX2_tune_47 : decode cX2_tune 47 = .ok (.imul, 1) := by decide +kernel
theorem dX2_tune_48 : decode cX2_tune 48 = .ok (.iload_n 2, 1) := by decide +kernel
theorem dX2_tune_49 : decode cX2_tune 49 = .ok (.idiv, 1) := by decide +kernel
theorem dX2_tune_50 : decode cX2_tune 50 = .ok (.iastore, 1) := by decide +kernel
theorem dX2_tune_51 : decode cX2_tune 51 = .ok (.iinc 3 1, 3) := by decide +kernel
theorem dX2_tune_54 : decode cX2_tune 54 = .ok (.goto (-29), 3) := by decide +kernel
theorem dX2_tune_57 : decode cX2_tune 57 = .ok (.return_, 1) := by decide +kernel
theorem dX2_distance_0 : decode cX2_distance 0 = .ok (.aload_n 0, 1) := by decide +kernel
theorem dX2_distance_1 : decode cX2_distance 1 = .ok (.getfield 11, 3) := by decide +kernel
theorem dX2_distance_4 : decode cX2_distance 4 = .ok (.iload_n 2, 1) := by decide +kernel
theorem dX2_distance_5 : decode cX2_distance 5 = .ok (.iload 4, 2) := by decide +kernel
theorem dX2_distance_7 : decode cX2_distance 7 = .ok (.isub, 1) := by decide +kernel
theorem dX2_distance_8 : decode cX2_distance 8 = .ok (.invokestatic 35, 3) := by decide +kernel
theorem dX2_distance_11 : decode cX2_distance 11 = .ok (.bipush 41, 2) := by decide +kernel
theorem dX2_distance_13 : decode cX2_distance 13 = .ok (.imul, 1) := by decide +kernel
theorem dX2_distance_14 : decode cX2_distance 14 = .ok (.iload_n 1, 1) := by decide +kernel
theorem dX2_distance_15 : decode cX2_distance 15 = .ok (.iload_n 3, 1) := by decide +kernel
theorem dX2_distance_16 : decode cX2_distance 16 = .ok (.isub, 1) := by decide +kernel
theorem dX2_distance_17 : decode cX2_distance 17 = .ok (.invokestatic 35, 3) := by decide +kernel
theorem dX2_distance_20 : decode cX2_distance 20 = .ok (.iadd, 1) := by decide +kernel
theorem dX2_distance_21 : decode cX2_distance 21 = .ok (.iaload, 1) := by decide +kernel
theorem dX2_distance_22 : decode cX2_distance 22 = .ok (.ireturn, 1) := by decide +kernel
theorem dX2_crackTime_0 : decode cX2_crackTime 0 = .ok (.iload_n 3, 1) := by decide +kernel
theorem dX2_crackTime_1 : decode cX2_crackTime 1 = .ok (.iconst 1, 1) := by decide +kernel
theorem dX2_crackTime_2 : decode cX2_crackTime 2 = .ok (.if_icmp .eq 8, 3) := by decide +kernel
theorem dX2_crackTime_5 : decode cX2_crackTime 5 = .ok (.iload_n 3, 1) := by decide +kernel
theorem dX2_crackTime_6 : decode cX2_crackTime 6 = .ok (.iconst 2, 1) := by decide +kernel
theorem dX2_crackTime_7 : decode cX2_crackTime 7 = .ok (.if_icmp .ne 10, 3) := by decide +kernel
theorem dX2_crackTime_10 : decode cX2_crackTime 10 = .ok (.bipush 40, 2) := by decide +kernel
theorem dX2_crackTime_12 : decode cX2_crackTime 12 = .ok (.iload_n 1, 1) := by decide +kernel
theorem dX2_crackTime_13 : decode cX2_crackTime 13 = .ok (.isub, 1) := by decide +kernel
theorem dX2_crackTime_14 : decode cX2_crackTime 14 = .ok (.goto 4, 3) := by decide +kernel
theorem dX2_crackTime_17 : decode cX2_crackTime 17 = .ok (.iload_n 1, 1) := by decide +kernel
theorem dX2_crackTime_18 : decode cX2_crackTime 18 = .ok (.istore 4, 2) := by decide +kernel
theorem dX2_crackTime_20 : decode cX2_crackTime 20 = .ok (.iload_n 3, 1) := by decide +kernel
theorem dX2_crackTime_21 : decode cX2_crackTime 21 = .ok (.iconst 2, 1) := by decide +kernel
theorem dX2_crackTime_22 : decode cX2_crackTime 22 = .ok (.if_icmp .lt 10, 3) := by decide +kernel
theorem dX2_crackTime_25 : decode cX2_crackTime 25 = .ok (.bipush 40, 2) := by decide +kernel
theorem dX2_crackTime_27 : decode cX2_crackTime 27 = .ok (.iload_n 2, 1) := by decide +kernel
theorem dX2_crackTime_28 : decode cX2_crackTime 28 = .ok (.isub, 1) := by decide +kernel
theorem dX2_crackTime_29 : decode cX2_crackTime 29 = .ok (.goto 4, 3) := by decide +kernel
theorem dX2_crackTime_32 : decode cX2_crackTime 32 = .ok (.iload_n 2, 1) := by decide +kernel
end
section
theorem dX2_crackTime_33 : decode cX2_crackTime 33 = .ok (.istore 5, 2) := by decide +kernel
theorem dX2_crackTime_35 : decode cX2_crackTime 35 = .ok (.aload_n 0, 1) := by decide +kernel
theorem dX2_crackTime_36 : decode cX2_crackTime 36 = .ok (.getfield 15, 3) := by decide +kernel
theorem dX2_crackTime_39 : decode cX2_crackTime 39 = .ok (.iload 5, 2) := by decide +kernel
theorem dX2_crackTime_41 : decode cX2_crackTime 41 = .ok (.bipush 41, 2) := by decide +kernel
theorem dX2_crackTime_43 : decode cX2_crackTime 43 = .ok (.imul, 1) := by decide +kernel
theorem dX2_crackTime_44 : decode cX2_crackTime 44 = .ok (.iload 4, 2) := by decide +kernel
theorem dX2_crackTime_46 : decode cX2_crackTime 46 = .ok (.iadd, 1) := by decide +kernel
theorem dX2_crackTime_47 : decode cX2_crackTime 47 = .ok (.iaload, 1) := by decide +kernel
theorem dX2_crackTime_48 : decode cX2_crackTime 48 = .ok (.ireturn, 1) := by decide +kernel
theorem dX2_lag_0 : decode cX2_lag 0 = .ok (.iload_n 2, 1) := by decide +kernel
theorem dX2_lag_1 : decode cX2_lag 1 = .ok (.bipush 41, 2) := by decide +kernel
theorem dX2_lag_3 : decode cX2_lag 3 = .ok (.imul, 1) := by decide +kernel
theorem dX2_lag_4 : decode cX2_lag 4 = .ok (.iload_n 1, 1) := by decide +kernel
theorem dX2_lag_5 : decode cX2_lag 5 = .ok (.iadd, 1) := by decide +kernel
theorem dX2_lag_6 : decode cX2_lag 6 = .ok (.istore_n 3, 1) := by decide +kernel
theorem dX2_lag_7 : decode cX2_lag 7 = .ok (.aload_n 0, 1) := by decide +kernel
theorem dX2_lag_8 : decode cX2_lag 8 = .ok (.getfield 15, 3) := by decide +kernel
theorem dX2_lag_11 : decode cX2_lag 11 = .ok (.iload_n 3, 1) := by decide +kernel
theorem dX2_lag_12 : decode cX2_lag 12 = .ok (.iaload, 1) := by decide +kernel
theorem dX2_lag_13 : decode cX2_lag 13 = .ok (.aload_n 0, 1) := by decide +kernel
theorem dX2_lag_14 : decode cX2_lag 14 = .ok (.getfield 15, 3) := by decide +kernel
theorem dX2_lag_17 : decode cX2_lag 17 = .ok (.aload_n 0, 1) := by decide +kernel
theorem dX2_lag_18 : decode cX2_lag 18 = .ok (.getfield 15, 3) := by decide +kernel
theorem dX2_lag_21 : decode cX2_lag 21 = .ok (.arraylength, 1) := by decide +kernel
theorem dX2_lag_22 : decode cX2_lag 22 = .ok (.iconst 1, 1) := by decide +kernel
theorem dX2_lag_23 : decode cX2_lag 23 = .ok (.isub, 1) := by decide +kernel
theorem dX2_lag_24 : decode cX2_lag 24 = .ok (.iload_n 3, 1) := by decide +kernel
theorem dX2_lag_25 : decode cX2_lag 25 = .ok (.isub, 1) := by decide +kernel
theorem dX2_lag_26 : decode cX2_lag 26 = .ok (.iaload, 1) := by decide +kernel
theorem dX2_lag_27 : decode cX2_lag 27 = .ok (.isub, 1) := by decide +kernel
theorem dX2_lag_28 : decode cX2_lag 28 = .ok (.ireturn, 1) := by decide +kernel
theorem dX2_rootOf_0 : decode cX2_rootOf 0 = .ok (.iconst 0, 1) := by decide +kernel
theorem dX2_rootOf_1 : decode cX2_rootOf 1 = .ok (.istore_n 1, 1) := by decide +kernel
theorem dX2_rootOf_2 : decode cX2_rootOf 2 = .ok (.sipush 4096, 3) := by decide +kernel
theorem dX2_rootOf_5 : decode cX2_rootOf 5 = .ok (.istore_n 2, 1) := by decide +kernel
theorem dX2_rootOf_6 : decode cX2_rootOf 6 = .ok (.iload_n 2, 1) := by decide +kernel
theorem dX2_rootOf_7 : decode cX2_rootOf 7 = .ok (.ifCond .le 25, 3) := by decide +kernel
theorem dX2_rootOf_10 : decode cX2_rootOf 10 = .ok (.iload_n 1, 1) := by decide +kernel
theorem dX2_rootOf_11 : decode cX2_rootOf 11 = .ok (.iload_n 2, 1) := by decide +kernel
theorem dX2_rootOf_12 : decode cX2_rootOf 12 = .ok (.iadd, 1) := by decide +kernel
theorem dX2_rootOf_13 : decode cX2_rootOf 13 = .ok (.iload_n 1, 1) := by decide +kernel
theorem dX2_rootOf_14 : decode cX2_rootOf 14 = .ok (.iload_n 2, 1) := by decide +kernel
theorem dX2_rootOf_15 : decode cX2_rootOf 15 = .ok (.iadd, 1) := by decide +kernel
theorem dX2_rootOf_16 : decode cX2_rootOf 16 = .ok (.imul, 1) := by decide +kernel
theorem dX2_rootOf_17 : decode cX2_rootOf 17 = .ok (.iload_n 0, 1) := by decide +kernel
theorem dX2_rootOf_18 : decode cX2_rootOf 18 = .ok (.if_icmp .gt 7, 3) := by decide +kernel
theorem dX2_rootOf_21 : decode cX2_rootOf 21 = .ok (.iload_n 1, 1) := by decide +kernel
theorem dX2_rootOf_22 : decode cX2_rootOf 22 = .ok (.iload_n 2, 1) := by decide +kernel
theorem dX2_rootOf_23 : decode cX2_rootOf 23 = .ok (.iadd, 1) := by decide +kernel
theorem dX2_rootOf_24 : decode cX2_rootOf 24 = .ok (.istore_n 1, 1) := by decide +kernel
theorem dX2_rootOf_25 : decode cX2_rootOf 25 = .ok (.iload_n 2, 1) := by decide +kernel
theorem dX2_rootOf_26 : decode cX2_rootOf 26 = .ok (.iconst 2, 1) := by decide +kernel
theorem dX2_rootOf_27 : decode cX2_rootOf 27 = .ok (.idiv, 1) := by decide +kernel
theorem dX2_rootOf_28 : decode cX2_rootOf 28 = .ok (.istore_n 2, 1) := by decide +kernel
theorem dX2_rootOf_29 : decode cX2_rootOf 29 = .ok (.goto (-23), 3) := by decide +kernel
theorem dX2_rootOf_32 : decode cX2_rootOf 32 = .ok (.iload_n 1, 1) := by decide +kernel
theorem dX2_rootOf_33 : decode cX2_rootOf 33 = .ok (.ireturn, 1) := by decide +kernel
theorem dX3_init_0 : decode cX3_init 0 = .ok (.aload_n 0, 1) := by decide +kernel
theorem dX3_init_1 : decode cX3_init 1 = .ok (.invokespecial 3, 3) := by decide +kernel
theorem dX3_init_4 : decode cX3_init 4 = .ok (.aload_n 0, 1) := by decide +kernel
theorem dX3_init_5 : decode cX3_init 5 = .ok (.iconst 3, 1) := by decide +kernel
theorem dX3_init_6 : decode cX3_init 6 = .ok (.newarray .int, 2) := by decide +kernel
theorem dX3_init_8 : decode cX3_init 8 = .ok (.dup, 1) := by decide +kernel
theorem dX3_init_9 : decode cX3_init 9 = .ok (.iconst 0, 1) := by decide +kernel
theorem dX3_init_10 : decode cX3_init 10 = .ok (.bipush 15, 2) := by decide +kernel
theorem dX3_init_12 : decode cX3_init 12 = .ok (.iastore, 1) := by decide +kernel
theorem dX3_init_13 : decode cX3_init 13 = .ok (.dup, 1) := by decide +kernel
theorem dX3_init_14 : decode cX3_init 14 = .ok (.iconst 1, 1) := by decide +kernel
theorem dX3_init_15 : decode cX3_init 15 = .ok (.sipush 1900, 3) := by decide +kernel
theorem dX3_init_18 : decode cX3_init 18 = .ok (.iastore, 1) := by decide +kernel
theorem dX3_init_19 : decode cX3_init 19 = .ok (.dup, 1) := by decide +kernel
theorem dX3_init_20 : decode cX3_init 20 = .ok (.iconst 2, 1) := by decide +kernel
theorem dX3_init_21 : decode cX3_init 21 = .ok (.bipush 6, 2) := by decide +kernel
theorem dX3_init_23 : decode cX3_init 23 = .ok (.iastore, 1) := by decide +kernel
theorem dX3_init_24 : decode cX3_init 24 = .ok (.putfield 9, 3) := by decide +kernel
theorem dX3_init_27 : decode cX3_init 27 = .ok (.aload_n 0, 1) := by decide +kernel
theorem dX3_init_28 : decode cX3_init 28 = .ok (.bipush 32, 2) := by decide +kernel
theorem dX3_init_30 : decode cX3_init 30 = .ok (.newarray .int, 2) := by decide +kernel
theorem dX3_init_32 : decode cX3_init 32 = .ok (.putfield 15, 3) := by decide +kernel
theorem dX3_init_35 : decode cX3_init 35 = .ok (.return_, 1) := by decide +kernel
theorem dX3_isPulse_0 : decode cX3_isPulse 0 = .ok (.iload_n 1, 1) := by decide +kernel
theorem dX3_isPulse_1 : decode cX3_isPulse 1 = .ok (.ifCond .lt 15, 3) := by decide +kernel
theorem dX3_isPulse_4 : decode cX3_isPulse 4 = .ok (.iload_n 1, 1) := by decide +kernel
theorem dX3_isPulse_5 : decode cX3_isPulse 5 = .ok (.aload_n 0, 1) := by decide +kernel
theorem dX3_isPulse_6 : decode cX3_isPulse 6 = .ok (.getfield 18, 3) := by decide +kernel
theorem dX3_isPulse_9 : decode cX3_isPulse 9 = .ok (.if_icmp .ge 7, 3) := by decide +kernel
theorem dX3_isPulse_12 : decode cX3_isPulse 12 = .ok (.iconst 1, 1) := by decide +kernel
theorem dX3_isPulse_13 : decode cX3_isPulse 13 = .ok (.goto 4, 3) := by decide +kernel
theorem dX3_isPulse_16 : decode cX3_isPulse 16 = .ok (.iconst 0, 1) := by decide +kernel
theorem dX3_isPulse_17 : decode cX3_isPulse 17 = .ok (.ireturn, 1) := by decide +kernel
theorem dX3_earOf_0 : decode cX3_earOf 0 = .ok (.aload_n 0, 1) := by decide +kernel
theorem dX3_earOf_1 : decode cX3_earOf 1 = .ok (.getfield 15, 3) := by decide +kernel
theorem dX3_earOf_4 : decode cX3_earOf 4 = .ok (.iload_n 1, 1) := by decide +kernel
theorem dX3_earOf_5 : decode cX3_earOf 5 = .ok (.iaload, 1) := by decide +kernel
theorem dX3_earOf_6 : decode cX3_earOf 6 = .ok (.iconst 4, 1) := by decide +kernel
theorem dX3_earOf_7 : decode cX3_earOf 7 = .ok (.irem, 1) := by decide +kernel
theorem dX3_earOf_8 : decode cX3_earOf 8 = .ok (.ireturn, 1) := by decide +kernel
theorem dX3_timeOf_0 : decode cX3_timeOf 0 = .ok (.aload_n 0, 1) := by decide +kernel
theorem dX3_timeOf_1 : decode cX3_timeOf 1 = .ok (.getfield 15, 3) := by decide +kernel
theorem dX3_timeOf_4 : decode cX3_timeOf 4 = .ok (.iload_n 1, 1) := by decide +kernel
theorem dX3_timeOf_5 : decode cX3_timeOf 5 = .ok (.iaload, 1) := by decide +kernel
theorem dX3_timeOf_6 : decode cX3_timeOf 6 = .ok (.iconst 4, 1) := by decide +kernel
theorem dX3_timeOf_7 : decode cX3_timeOf 7 = .ok (.idiv, 1) := by decide +kernel
theorem dX3_timeOf_8 : decode cX3_timeOf 8 = .ok (.ireturn, 1) := by decide +kernel
theorem dX3_has_0 : decode cX3_has 0 = .ok (.aload_n 0, 1) := by decide +kernel
theorem dX3_has_1 : decode cX3_has 1 = .ok (.iload_n 1, 1) := by decide +kernel
theorem dX3_has_2 : decode cX3_has 2 = .ok (.invokevirtual 22, 3) := by decide +kernel
theorem dX3_has_5 : decode cX3_has 5 = .ok (.istore_n 2, 1) := by decide +kernel
theorem dX3_has_6 : decode cX3_has 6 = .ok (.iload_n 2, 1) := by decide +kernel
theorem dX3_has_7 : decode cX3_has 7 = .ok (.aload_n 0, 1) := by decide +kernel
theorem dX3_has_8 : decode cX3_has 8 = .ok (.getfield 18, 3) := by decide +kernel
theorem dX3_has_11 : decode cX3_has 11 = .ok (.if_icmp .ge 17, 3) := by decide +kernel
theorem dX3_has_14 : decode cX3_has 14 = .ok (.aload_n 0, 1) := by decide +kernel
theorem dX3_has_15 : decode cX3_has 15 = .ok (.getfield 15, 3) := by decide +kernel
theorem dX3_has_18 : decode cX3_has 18 = .ok (.iload_n 2, 1) := by decide +kernel
theorem dX3_has_19 : decode cX3_has 19 = .ok (.iaload, 1) := by decide +kernel
theorem dX3_has_20 : decode cX3_has 20 = .ok (.iload_n 1, 1) := by decide +kernel
theorem dX3_has_21 : decode cX3_has 21 = .ok (.if_icmp .ne 7, 3) := by decide +kernel
theorem dX3_has_24 : decode cX3_has 24 = .ok (.iconst 1, 1) := by decide +kernel
theorem dX3_has_25 : decode cX3_has 25 = .ok (.goto 4, 3) := by decide +kernel
theorem dX3_has_28 : decode cX3_has 28 = .ok (.iconst 0, 1) := by decide +kernel
theorem dX3_has_29 : decode cX3_has 29 = .ok (.ireturn, 1) := by decide +kernel
theorem dX3_refusalOf_0 : decode cX3_refusalOf 0 = .ok (.aload_n 0, 1) := by decide +kernel
theorem dX3_refusalOf_1 : decode cX3_refusalOf 1 = .ok (.iload_n 1, 1) := by decide +kernel
theorem dX3_refusalOf_2 : decode cX3_refusalOf 2 = .ok (.invokevirtual 26, 3) := by decide +kernel
theorem dX3_refusalOf_5 : decode cX3_refusalOf 5 = .ok (.ifCond .eq 6, 3) := by decide +kernel
theorem dX3_refusalOf_8 : decode cX3_refusalOf 8 = .ok (.bipush (-5), 2) := by decide +kernel
theorem dX3_refusalOf_10 : decode cX3_refusalOf 10 = .ok (.ireturn, 1) := by decide +kernel
theorem dX3_refusalOf_11 : decode cX3_refusalOf 11 = .ok (.aload_n 0, 1) := by decide +kernel
theorem dX3_refusalOf_12 : decode cX3_refusalOf 12 = .ok (.getfield 18, 3) := by decide +kernel
theorem dX3_refusalOf_15 : decode cX3_refusalOf 15 = .ok (.bipush 32, 2) := by decide +kernel
theorem dX3_refusalOf_17 : decode cX3_refusalOf 17 = .ok (.if_icmp .ge 7, 3) := by decide +kernel
theorem dX3_refusalOf_20 : decode cX3_refusalOf 20 = .ok (.iconst 0, 1) := by decide +kernel
theorem dX3_refusalOf_21 : decode cX3_refusalOf 21 = .ok (.goto 5, 3) := by decide +kernel
theorem dX3_refusalOf_24 : decode cX3_refusalOf 24 = .ok (.bipush (-4), 2) := by decide +kernel
theorem dX3_refusalOf_26 : decode cX3_refusalOf 26 = .ok (.ireturn, 1) := by decide +kernel
theorem dX3_add_0 : decode cX3_add 0 = .ok (.aload_n 0, 1) := by decide +kernel
theorem dX3_add_1 : decode cX3_add 1 = .ok (.getfield 18, 3) := by decide +kernel
theorem dX3_add_4 : decode cX3_add 4 = .ok (.bipush 32, 2) := by decide +kernel
theorem dX3_add_6 : decode cX3_add 6 = .ok (.if_icmp .lt 6, 3) := by decide +kernel
theorem dX3_add_9 : decode cX3_add 9 = .ok (.bipush (-4), 2) := by decide +kernel
theorem dX3_add_11 : decode cX3_add 11 = .ok (.ireturn, 1) := by decide +kernel
theorem dX3_add_12 : decode cX3_add 12 = .ok (.aload_n 0, 1) := by decide +kernel
theorem dX3_add_13 : decode cX3_add 13 = .ok (.iload_n 1, 1) := by decide +kernel
theorem dX3_add_14 : decode cX3_add 14 = .ok (.invokevirtual 22, 3) := by decide +kernel
theorem dX3_add_17 : decode cX3_add 17 = .ok (.istore_n 2, 1) := by decide +kernel
theorem dX3_add_18 : decode cX3_add 18 = .ok (.aload_n 0, 1) := by decide +kernel
theorem dX3_add_19 : decode cX3_add 19 = .ok (.getfield 15, 3) := by decide +kernel
theorem dX3_add_22 : decode cX3_add 22 = .ok (.iload_n 2, 1) := by decide +kernel
theorem dX3_add_23 : decode cX3_add 23 = .ok (.aload_n 0, 1) := by decide +kernel
theorem dX3_add_24 : decode cX3_add 24 = .ok (.getfield 15, 3) := by decide +kernel
theorem dX3_add_27 : decode cX3_add 27 = .ok (.iload_n 2, 1) := by decide +kernel
theorem dX3_add_28 : decode cX3_add 28 = .ok (.iconst 1, 1) := by decide +kernel
theorem dX3_add_29 : decode cX3_add 29 = .ok (.iadd, 1) := by decide +kernel
theorem dX3_add_30 : decode cX3_add 30 = .ok (.aload_n 0, 1) := by decide +kernel
theorem dX3_add_31 : decode cX3_add 31 = .ok (.getfield 18, 3) := by decide +kernel
theorem dX3_add_34 : decode cX3_add 34 = .ok (.iload_n 2, 1) := by decide +kernel
theorem dX3_add_35 : decode cX3_add 35 = .ok (.isub, 1) := by decide +kernel
theorem dX3_add_36 : decode cX3_add 36 = .ok (.invokestatic 30, 3) := by decide +kernel
theorem dX3_add_39 : decode cX3_add 39 = .ok (.aload_n 0, 1) := by decide +kernel
theorem dX3_add_40 : decode cX3_add 40 = .ok (.getfield 15, 3) := by decide +kernel
theorem dX3_add_43 : decode cX3_add 43 = .ok (.iload_n 2, 1) := by decide +kernel
theorem dX3_add_44 : decode cX3_add 44 = .ok (.iload_n 1, 1) := by decide +kernel
theorem dX3_add_45 : decode cX3_add 45 = .ok (.iastore, 1) := by decide +kernel
theorem dX3_add_46 : decode cX3_add 46 = .ok (.aload_n 0, 1) := by decide +kernel
theorem dX3_add_47 : decode cX3_add 47 = .ok (.dup, 1) := by decide +kernel
theorem dX3_add_48 : decode cX3_add 48 = .ok (.getfield 18, 3) := by decide +kernel
theorem dX3_add_51 : decode cX3_add 51 = .ok (.iconst 1, 1) := by decide +kernel
theorem dX3_add_52 : decode cX3_add 52 = .ok (.iadd, 1) := by decide +kernel
theorem dX3_add_53 : decode cX3_add 53 = .ok (.putfield 18, 3) := by decide +kernel
theorem dX3_add_56 : decode cX3_add 56 = .ok (.iload_n 2, 1) := by decide +kernel
theorem dX3_add_57 : decode cX3_add 57 = .ok (.ireturn, 1) := by decide +kernel
theorem dX3_remove_0 : decode cX3_remove 0 = .ok (.aload_n 0, 1) := by decide +kernel
theorem dX3_remove_1 : decode cX3_remove 1 = .ok (.iload_n 1, 1) := by decide +kernel
theorem dX3_remove_2 : decode cX3_remove 2 = .ok (.invokevirtual 36, 3) := by decide +kernel
theorem dX3_remove_5 : decode cX3_remove 5 = .ok (.ifCond .eq 34, 3) := by decide +kernel
theorem dX3_remove_8 : decode cX3_remove 8 = .ok (.aload_n 0, 1) := by decide +kernel
theorem dX3_remove_9 : decode cX3_remove 9 = .ok (.dup, 1) := by decide +kernel
theorem dX3_remove_10 : decode cX3_remove 10 = .ok (.getfield 18, 3) := by decide +kernel
theorem dX3_remove_13 : decode cX3_remove 13 = .ok (.iconst 1, 1) := by decide +kernel
theorem dX3_remove_14 : decode cX3_remove 14 = .ok (.isub, 1) := by decide +kernel
theorem dX3_remove_15 : decode cX3_remove 15 = .ok (.putfield 18, 3) := by decide +kernel
theorem dX3_remove_18 : decode cX3_remove 18 = .ok (.aload_n 0, 1) := by decide +kernel
theorem dX3_remove_19 : decode cX3_remove 19 = .ok (.getfield 15, 3) := by decide +kernel
theorem dX3_remove_22 : decode cX3_remove 22 = .ok (.iload_n 1, 1) := by decide +kernel
theorem dX3_remove_23 : decode cX3_remove 23 = .ok (.iconst 1, 1) := by decide +kernel
theorem dX3_remove_24 : decode cX3_remove 24 = .ok (.iadd, 1) := by decide +kernel
theorem dX3_remove_25 : decode cX3_remove 25 = .ok (.aload_n 0, 1) := by decide +kernel
theorem dX3_remove_26 : decode cX3_remove 26 = .ok (.getfield 15, 3) := by decide +kernel
theorem dX3_remove_29 : decode cX3_remove 29 = .ok (.iload_n 1, 1) := by decide +kernel
theorem dX3_remove_30 : decode cX3_remove 30 = .ok (.aload_n 0, 1) := by decide +kernel
theorem dX3_remove_31 : decode cX3_remove 31 = .ok (.getfield 18, 3) := by decide +kernel
theorem dX3_remove_34 : decode cX3_remove 34 = .ok (.iload_n 1, 1) := by decide +kernel
theorem dX3_remove_35 : decode cX3_remove 35 = .ok (.isub, 1) := by decide +kernel
theorem dX3_remove_36 : decode cX3_remove 36 = .ok (.invokestatic 30, 3) := by decide +kernel
theorem dX3_remove_39 : decode cX3_remove 39 = .ok (.return_, 1) := by decide +kernel
theorem dX3_become_0 : decode cX3_become 0 = .ok (.aload_n 1, 1) := by decide +kernel
theorem dX3_become_1 : decode cX3_become 1 = .ok (.getfield 9, 3) := by decide +kernel
theorem dX3_become_4 : decode cX3_become 4 = .ok (.iconst 0, 1) := by decide +kernel
theorem dX3_become_5 : decode cX3_become 5 = .ok (.aload_n 0, 1) := by decide +kernel
theorem dX3_become_6 : decode cX3_become 6 = .ok (.getfield 9, 3) := by decide +kernel
theorem dX3_become_9 : decode cX3_become 9 = .ok (.iconst 0, 1) := by decide +kernel
theorem dX3_become_10 : decode cX3_become 10 = .ok (.aload_n 0, 1) := by decide +kernel
theorem dX3_become_11 : decode cX3_become 11 = .ok (.getfield 9, 3) := by decide +kernel
theorem dX3_become_14 : decode cX3_become 14 = .ok (.arraylength, 1) := by decide +kernel
theorem dX3_become_15 : decode cX3_become 15 = .ok (.invokestatic 30, 3) := by decide +kernel
theorem dX3_become_18 : decode cX3_become 18 = .ok (.aload_n 1, 1) := by decide +kernel
theorem dX3_become_19 : decode cX3_become 19 = .ok (.getfield 15, 3) := by decide +kernel
theorem dX3_become_22 : decode cX3_become 22 = .ok (.iconst 0, 1) := by decide +kernel
theorem dX3_become_23 : decode cX3_become 23 = .ok (.aload_n 0, 1) := by decide +kernel
theorem dX3_become_24 : decode cX3_become 24 = .ok (.getfield 15, 3) := by decide +kernel
theorem dX3_become_27 : decode cX3_become 27 = .ok (.iconst 0, 1) := by decide +kernel
theorem dX3_become_28 : decode cX3_become 28 = .ok (.aload_n 1, 1) := by decide +kernel
theorem dX3_become_29 : decode cX3_become 29 = .ok (.getfield 18, 3) := by decide +kernel
theorem dX3_become_32 : decode cX3_become 32 = .ok (.invokestatic 30, 3) := by decide +kernel
theorem dX3_become_35 : decode cX3_become 35 = .ok (.aload_n 0, 1) := by decide +kernel
theorem dX3_become_36 : decode cX3_become 36 = .ok (.aload_n 1, 1) := by decide +kernel
theorem dX3_become_37 : decode cX3_become 37 = .ok (.getfield 18, 3) := by decide +kernel
theorem dX3_become_40 : decode cX3_become 40 = .ok (.putfield 18, 3) := by decide +kernel
theorem dX3_become_43 : decode cX3_become 43 = .ok (.return_, 1) := by decide +kernel
theorem dX3_placeOf_0 : decode cX3_placeOf 0 = .ok (.iconst 0, 1) := by decide +kernel
theorem dX3_placeOf_1 : decode cX3_placeOf 1 = .ok (.istore_n 2, 1) := by decide +kernel
theorem dX3_placeOf_2 : decode cX3_placeOf 2 = .ok (.iload_n 2, 1) := by decide +kernel
theorem dX3_placeOf_3 : decode cX3_placeOf 3 = .ok (.aload_n 0, 1) := by decide +kernel
theorem dX3_placeOf_4 : decode cX3_placeOf 4 = .ok (.getfield 18, 3) := by decide +kernel
theorem dX3_placeOf_7 : decode cX3_placeOf 7 = .ok (.if_icmp .ge 19, 3) := by decide +kernel
theorem dX3_placeOf_10 : decode cX3_placeOf 10 = .ok (.aload_n 0, 1) := by decide +kernel
theorem dX3_placeOf_11 : decode cX3_placeOf 11 = .ok (.getfield 15, 3) := by decide +kernel
theorem dX3_placeOf_14 : decode cX3_placeOf 14 = .ok (.iload_n 2, 1) := by decide +kernel
theorem dX3_placeOf_15 : decode cX3_placeOf 15 = .ok (.iaload, 1) := by decide +kernel
theorem dX3_placeOf_16 : decode cX3_placeOf 16 = .ok (.iload_n 1, 1) := by decide +kernel
theorem dX3_placeOf_17 : decode cX3_placeOf 17 = .ok (.if_icmp .ge 9, 3) := by decide +kernel
theorem dX3_placeOf_20 : decode cX3_placeOf 20 = .ok (.iinc 2 1, 3) := by decide +kernel
theorem dX3_placeOf_23 : decode cX3_placeOf 23 = .ok (.goto (-21), 3) := by decide +kernel
theorem dX3_placeOf_26 : decode cX3_placeOf 26 = .ok (.iload_n 2, 1) := by decide +kernel
theorem dX3_placeOf_27 : decode cX3_placeOf 27 = .ok (.ireturn, 1) := by decide +kernel
theorem dX4_init_0 : decode cX4_init 0 = .ok (.aload_n 0, 1) := by decide +kernel
theorem dX4_init_1 : decode cX4_init 1 = .ok (.invokespecial 1, 3) := by decide +kernel
theorem dX4_init_4 : decode cX4_init 4 = .ok (.aload_n 0, 1) := by decide +kernel
theorem dX4_init_5 : decode cX4_init 5 = .ok (.bipush 6, 2) := by decide +kernel
theorem dX4_init_7 : decode cX4_init 7 = .ok (.anewarray 9, 3) := by decide +kernel
theorem dX4_init_10 : decode cX4_init 10 = .ok (.putfield 11, 3) := by decide +kernel
theorem dX4_init_13 : decode cX4_init 13 = .ok (.iconst 0, 1) := by decide +kernel
theorem dX4_init_14 : decode cX4_init 14 = .ok (.istore_n 1, 1) := by decide +kernel
theorem dX4_init_15 : decode cX4_init 15 = .ok (.iload_n 1, 1) := by decide +kernel
theorem dX4_init_16 : decode cX4_init 16 = .ok (.bipush 6, 2) := by decide +kernel
theorem dX4_init_18 : decode cX4_init 18 = .ok (.if_icmp .ge 22, 3) := by decide +kernel
theorem dX4_init_21 : decode cX4_init 21 = .ok (.aload_n 0, 1) := by decide +kernel
theorem dX4_init_22 : decode cX4_init 22 = .ok (.getfield 11, 3) := by decide +kernel
theorem dX4_init_25 : decode cX4_init 25 = .ok (.iload_n 1, 1) := by decide +kernel
theorem dX4_init_26 : decode cX4_init 26 = .ok (.new 9, 3) := by decide +kernel
theorem dX4_init_29 : decode cX4_init 29 = .ok (.dup, 1) := by decide +kernel
theorem dX4_init_30 : decode cX4_init 30 = .ok (.invokespecial 15, 3) := by decide +kernel
theorem dX4_init_33 : decode cX4_init 33 = .ok (.aastore, 1) := by decide +kernel
theorem dX4_init_34 : decode cX4_init 34 = .ok (.iinc 1 1, 3) := by decide +kernel
theorem dX4_init_37 : decode cX4_init 37 = .ok (.goto (-22), 3) := by decide +kernel
theorem dX4_init_40 : decode cX4_init 40 = .ok (.return_, 1) := by decide +kernel
theorem dX4_record_0 : decode cX4_record 0 = .ok (.aload_n 0, 1) := by decide +kernel
theorem dX4_record_1 : decode cX4_record 1 = .ok (.getfield 16, 3) := by decide +kernel
theorem dX4_record_4 : decode cX4_record 4 = .ok (.bipush 6, 2) := by decide +kernel
theorem dX4_record_6 : decode cX4_record 6 = .ok (.if_icmp .ne 26, 3) := by decide +kernel
theorem dX4_record_9 : decode cX4_record 9 = .ok (.aload_n 0, 1) := by decide +kernel
theorem dX4_record_10 : decode cX4_record 10 = .ok (.aload_n 0, 1) := by decide +kernel
theorem dX4_record_11 : decode cX4_record 11 = .ok (.getfield 20, 3) := by decide +kernel
theorem dX4_record_14 : decode cX4_record 14 = .ok (.iconst 1, 1) := by decide +kernel
theorem dX4_record_15 : decode cX4_record 15 = .ok (.iadd, 1) := by decide +kernel
theorem dX4_record_16 : decode cX4_record 16 = .ok (.bipush 6, 2) := by decide +kernel
theorem dX4_record_18 : decode cX4_record 18 = .ok (.irem, 1) := by decide +kernel
theorem dX4_record_19 : decode cX4_record 19 = .ok (.putfield 20, 3) := by decide +kernel
theorem dX4_record_22 : decode cX4_record 22 = .ok (.aload_n 0, 1) := by decide +kernel
theorem dX4_record_23 : decode cX4_record 23 = .ok (.dup, 1) := by decide +kernel
theorem dX4_record_24 : decode cX4_record 24 = .ok (.getfield 16, 3) := by decide +kernel
theorem dX4_record_27 : decode cX4_record 27 = .ok (.iconst 1, 1) := by decide +kernel
theorem dX4_record_28 : decode cX4_record 28 = .ok (.isub, 1) := by decide +kernel
theorem dX4_record_29 : decode cX4_record 29 = .ok (.putfield 16, 3) := by decide +kernel
theorem dX4_record_32 : decode cX4_record 32 = .ok (.aload_n 0, 1) := by decide +kernel
theorem dX4_record_33 : decode cX4_record 33 = .ok (.getfield 11, 3) := by decide +kernel
theorem dX4_record_36 : decode cX4_record 36 = .ok (.aload_n 0, 1) := by decide +kernel
theorem dX4_record_37 : decode cX4_record 37 = .ok (.getfield 20, 3) := by decide +kernel
theorem dX4_record_40 : decode cX4_record 40 = .ok (.aload_n 0, 1) := by decide +kernel
theorem dX4_record_41 : decode cX4_record 41 = .ok (.getfield 16, 3) := by decide +kernel
theorem dX4_record_44 : decode cX4_record 44 = .ok (.iadd, 1) := by decide +kernel
theorem dX4_record_45 : decode cX4_record 45 = .ok (.bipush 6, 2) := by decide +kernel
theorem dX4_record_47 : decode cX4_record 47 = .ok (.irem, 1) := by decide +kernel
theorem dX4_record_48 : decode cX4_record 48 = .ok (.aaload, 1) := by decide +kernel
theorem dX4_record_49 : decode cX4_record 49 = .ok (.aload_n 1, 1) := by decide +kernel
theorem dX4_record_50 : decode cX4_record 50 = .ok (.invokevirtual 23, 3) := by decide +kernel
theorem dX4_record_53 : decode cX4_record 53 = .ok (.aload_n 0, 1) := by decide +kernel
theorem dX4_record_54 : decode cX4_record 54 = .ok (.dup, 1) := by decide +kernel
theorem dX4_record_55 : decode cX4_record 55 = .ok (.getfield 16, 3) := by decide +kernel
theorem dX4_record_58 : decode cX4_record 58 = .ok (.iconst 1, 1) := by decide +kernel
theorem dX4_record_59 : decode cX4_record 59 = .ok (.iadd, 1) := by decide +kernel
theorem dX4_record_60 : decode cX4_record 60 = .ok (.putfield 16, 3) := by decide +kernel
theorem dX4_record_63 : decode cX4_record 63 = .ok (.return_, 1) := by decide +kernel
theorem dX4_takeBack_0 : decode cX4_takeBack 0 = .ok (.aload_n 0, 1) := by decide +kernel
theorem dX4_takeBack_1 : decode cX4_takeBack 1 = .ok (.getfield 16, 3) := by decide +kernel
theorem dX4_takeBack_4 : decode cX4_takeBack 4 = .ok (.ifCond .le 34, 3) := by decide +kernel
theorem dX4_takeBack_7 : decode cX4_takeBack 7 = .ok (.aload_n 0, 1) := by decide +kernel
theorem dX4_takeBack_8 : decode cX4_takeBack 8 = .ok (.dup, 1) := by decide +kernel
theorem dX4_takeBack_9 : decode cX4_takeBack 9 = .ok (.getfield 16, 3) := by decide +kernel
theorem dX4_takeBack_12 : decode cX4_takeBack 12 = .ok (.iconst 1, 1) := by decide +kernel
theorem dX4_takeBack_13 : decode cX4_takeBack 13 = .ok (.isub, 1) := by decide +kernel
theorem dX4_takeBack_14 : decode cX4_takeBack 14 = .ok (.putfield 16, 3) := by decide +kernel
theorem dX4_takeBack_17 : decode cX4_takeBack 17 = .ok (.aload_n 1, 1) := by decide +kernel
theorem dX4_takeBack_18 : decode cX4_takeBack 18 = .ok (.aload_n 0, 1) := by decide +kernel
theorem dX4_takeBack_19 : decode cX4_takeBack 19 = .ok (.getfield 11, 3) := by decide +kernel
theorem dX4_takeBack_22 : decode cX4_takeBack 22 = .ok (.aload_n 0, 1) := by decide +kernel
theorem dX4_takeBack_23 : decode cX4_takeBack 23 = .ok (.getfield 20, 3) := by decide +kernel
theorem dX4_takeBack_26 : decode cX4_takeBack 26 = .ok (.aload_n 0, 1) := by decide +kernel
theorem dX4_takeBack_27 : decode cX4_takeBack 27 = .ok (.getfield 16, 3) := by decide +kernel
theorem dX4_takeBack_30 : decode cX4_takeBack 30 = .ok (.iadd, 1) := by decide +kernel
theorem dX4_takeBack_31 : decode cX4_takeBack 31 = .ok (.bipush 6, 2) := by decide +kernel
theorem dX4_takeBack_33 : decode cX4_takeBack 33 = .ok (.irem, 1) := by decide +kernel
theorem dX4_takeBack_34 : decode cX4_takeBack 34 = .ok (.aaload, 1) := by decide +kernel
theorem dX4_takeBack_35 : decode cX4_takeBack 35 = .ok (.invokevirtual 23, 3) := by decide +kernel
theorem dX4_takeBack_38 : decode cX4_takeBack 38 = .ok (.return_, 1) := by decide +kernel
theorem dX5_init_0 : decode cX5_init 0 = .ok (.aload_n 0, 1) := by decide +kernel
theorem dX5_init_1 : decode cX5_init 1 = .ok (.invokespecial 3, 3) := by decide +kernel
theorem dX5_init_4 : decode cX5_init 4 = .ok (.aload_n 0, 1) := by decide +kernel
theorem dX5_init_5 : decode cX5_init 5 = .ok (.bipush 80, 2) := by decide +kernel
theorem dX5_init_7 : decode cX5_init 7 = .ok (.newarray .char, 2) := by decide +kernel
theorem dX5_init_9 : decode cX5_init 9 = .ok (.putfield 11, 3) := by decide +kernel
theorem dX5_init_12 : decode cX5_init 12 = .ok (.aload_n 0, 1) := by decide +kernel
theorem dX5_init_13 : decode cX5_init 13 = .ok (.bipush 20, 2) := by decide +kernel
theorem dX5_init_15 : decode cX5_init 15 = .ok (.newarray .int, 2) := by decide +kernel
theorem dX5_init_17 : decode cX5_init 17 = .ok (.putfield 15, 3) := by decide +kernel
theorem dX5_init_20 : decode cX5_init 20 = .ok (.return_, 1) := by decide +kernel
theorem dX5_append_0 : decode cX5_append 0 = .ok (.aload_n 0, 1) := by decide +kernel
theorem dX5_append_1 : decode cX5_append 1 = .ok (.getfield 19, 3) := by decide +kernel
theorem dX5_append_4 : decode cX5_append 4 = .ok (.bipush 80, 2) := by decide +kernel
theorem dX5_append_6 : decode cX5_append 6 = .ok (.if_icmp .ge 23, 3) := by decide +kernel
theorem dX5_append_9 : decode cX5_append 9 = .ok (.aload_n 0, 1) := by decide +kernel
theorem dX5_append_10 : decode cX5_append 10 = .ok (.getfield 11, 3) := by decide +kernel
theorem dX5_append_13 : decode cX5_append 13 = .ok (.aload_n 0, 1) := by decide +kernel
theorem dX5_append_14 : decode cX5_append 14 = .ok (.getfield 19, 3) := by decide +kernel
theorem dX5_append_17 : decode cX5_append 17 = .ok (.iload_n 1, 1) := by decide +kernel
theorem dX5_append_18 : decode cX5_append 18 = .ok (.castore, 1) := by decide +kernel
theorem dX5_append_19 : decode cX5_append 19 = .ok (.aload_n 0, 1) := by decide +kernel
theorem dX5_append_20 : decode cX5_append 20 = .ok (.dup, 1) := by decide +kernel
theorem dX5_append_21 : decode cX5_append 21 = .ok (.getfield 19, 3) := by decide +kernel
theorem dX5_append_24 : decode cX5_append 24 = .ok (.iconst 1, 1) := by decide +kernel
theorem dX5_append_25 : decode cX5_append 25 = .ok (.iadd, 1) := by decide +kernel
theorem dX5_append_26 : decode cX5_append 26 = .ok (.putfield 19, 3) := by decide +kernel
theorem dX5_append_29 : decode cX5_append 29 = .ok (.return_, 1) := by decide +kernel
theorem dX5_read_0 : decode cX5_read 0 = .ok (.aload_n 0, 1) := by decide +kernel
theorem dX5_read_1 : decode cX5_read 1 = .ok (.iconst 0, 1) := by decide +kernel
theorem dX5_read_2 : decode cX5_read 2 = .ok (.putfield 23, 3) := by decide +kernel
theorem dX5_read_5 : decode cX5_read 5 = .ok (.iconst 0, 1) := by decide +kernel
theorem dX5_read_6 : decode cX5_read 6 = .ok (.istore_n 1, 1) := by decide +kernel
theorem dX5_read_7 : decode cX5_read 7 = .ok (.iconst 0, 1) := by decide +kernel
theorem dX5_read_8 : decode cX5_read 8 = .ok (.istore_n 2, 1) := by decide +kernel
theorem dX5_read_9 : decode cX5_read 9 = .ok (.iload_n 2, 1) := by decide +kernel
theorem dX5_read_10 : decode cX5_read 10 = .ok (.aload_n 0, 1) := by decide +kernel
theorem dX5_read_11 : decode cX5_read 11 = .ok (.getfield 19, 3) := by decide +kernel
theorem dX5_read_14 : decode cX5_read 14 = .ok (.if_icmp .ge 28, 3) := by decide +kernel
theorem dX5_read_17 : decode cX5_read 17 = .ok (.aload_n 0, 1) := by decide +kernel
theorem dX5_read_18 : decode cX5_read 18 = .ok (.iload_n 1, 1) := by decide +kernel
theorem dX5_read_19 : decode cX5_read 19 = .ok (.aload_n 0, 1) := by decide +kernel
theorem dX5_read_20 : decode cX5_read 20 = .ok (.getfield 11, 3) := by decide +kernel
theorem dX5_read_23 : decode cX5_read 23 = .ok (.iload_n 2, 1) := by decide +kernel
theorem dX5_read_24 : decode cX5_read 24 = .ok (.caload, 1) := by decide +kernel
theorem dX5_read_25 : decode cX5_read 25 = .ok (.invokevirtual 26, 3) := by decide +kernel
theorem dX5_read_28 : decode cX5_read 28 = .ok (.istore_n 1, 1) := by decide +kernel
theorem dX5_read_29 : decode cX5_read 29 = .ok (.iload_n 1, 1) := by decide +kernel
theorem dX5_read_30 : decode cX5_read 30 = .ok (.iconst 4, 1) := by decide +kernel
theorem dX5_read_31 : decode cX5_read 31 = .ok (.if_icmp .ne 5, 3) := by decide +kernel
theorem dX5_read_34 : decode cX5_read 34 = .ok (.iload_n 2, 1) := by decide +kernel
theorem dX5_read_35 : decode cX5_read 35 = .ok (.ireturn, 1) := by decide +kernel
theorem dX5_read_36 : decode cX5_read 36 = .ok (.iinc 2 1, 3) := by decide +kernel
theorem dX5_read_39 : decode cX5_read 39 = .ok (.goto (-30), 3) := by decide +kernel
theorem dX5_read_42 : decode cX5_read 42 = .ok (.iload_n 1, 1) := by decide +kernel
theorem dX5_read_43 : decode cX5_read 43 = .ok (.iconst 3, 1) := by decide +kernel
theorem dX5_read_44 : decode cX5_read 44 = .ok (.if_icmp .eq 8, 3) := by decide +kernel
theorem dX5_read_47 : decode cX5_read 47 = .ok (.aload_n 0, 1) := by decide +kernel
theorem dX5_read_48 : decode cX5_read 48 = .ok (.getfield 19, 3) := by decide +kernel
theorem dX5_read_51 : decode cX5_read 51 = .ok (.ireturn, 1) := by decide +kernel
theorem dX5_read_52 : decode cX5_read 52 = .ok (.aload_n 0, 1) := by decide +kernel
theorem dX5_read_53 : decode cX5_read 53 = .ok (.invokevirtual 30, 3) := by decide +kernel
theorem dX5_read_56 : decode cX5_read 56 = .ok (.bipush (-6), 2) := by decide +kernel
theorem dX5_read_58 : decode cX5_read 58 = .ok (.ireturn, 1) := by decide +kernel
theorem dX5_step_0 : decode cX5_step 0 = .ok (.iload_n 2, 1) := by decide +kernel
theorem dX5_step_1 : decode cX5_step 1 = .ok (.bipush 48, 2) := by decide +kernel
theorem dX5_step_3 : decode cX5_step 3 = .ok (.isub, 1) := by decide +kernel
theorem dX5_step_4 : decode cX5_step 4 = .ok (.istore_n 3, 1) := by decide +kernel
theorem dX5_step_5 : decode cX5_step 5 = .ok (.iload_n 3, 1) := by decide +kernel
theorem dX5_step_6 : decode cX5_step 6 = .ok (.ifCond .lt 13, 3) := by decide +kernel
theorem dX5_step_9 : decode cX5_step 9 = .ok (.iload_n 3, 1) := by decide +kernel
theorem dX5_step_10 : decode cX5_step 10 = .ok (.bipush 9, 2) := by decide +kernel
theorem dX5_step_12 : decode cX5_step 12 = .ok (.if_icmp .gt 7, 3) := by decide +kernel
theorem dX5_step_15 : decode cX5_step 15 = .ok (.iconst 1, 1) := by decide +kernel
theorem dX5_step_16 : decode cX5_step 16 = .ok (.goto 4, 3) := by decide +kernel
theorem dX5_step_19 : decode cX5_step 19 = .ok (.iconst 0, 1) := by decide +kernel
theorem dX5_step_20 : decode cX5_step 20 = .ok (.istore 4, 2) := by decide +kernel
theorem dX5_step_22 : decode cX5_step 22 = .ok (.iload_n 1, 1) := by decide +kernel
theorem dX5_step_23 : decode cX5_step 23 = .ok (.tableswitch 71 0 2 #[25, 43, 55], 25) := by decide +kernel
theorem dX5_step_48 : decode cX5_step 48 = .ok (.aload_n 0, 1) := by decide +kernel
theorem dX5_step_49 : decode cX5_step 49 = .ok (.iload_n 3, 1) := by decide +kernel
theorem dX5_step_50 : decode cX5_step 50 = .ok (.putfield 33, 3) := by decide +kernel
theorem dX5_step_53 : decode cX5_step 53 = .ok (.iload_n 3, 1) := by decide +kernel
theorem dX5_step_54 : decode cX5_step 54 = .ok (.invokestatic 36, 3) := by decide +kernel
theorem dX5_step_57 : decode cX5_step 57 = .ok (.ifCond .eq 7, 3) := by decide +kernel
theorem dX5_step_60 : decode cX5_step 60 = .ok (.iconst 1, 1) := by decide +kernel
theorem dX5_step_61 : decode cX5_step 61 = .ok (.goto 4, 3) := by decide +kernel
theorem dX5_step_64 : decode cX5_step 64 = .ok (.iconst 4, 1) := by decide +kernel
theorem dX5_step_65 : decode cX5_step 65 = .ok (.ireturn, 1) := by decide +kernel
theorem dX5_step_66 : decode cX5_step 66 = .ok (.iload_n 2, 1) := by decide +kernel
theorem dX5_step_67 : decode cX5_step 67 = .ok (.bipush 58, 2) := by decide +kernel
theorem dX5_step_69 : decode cX5_step 69 = .ok (.if_icmp .ne 7, 3) := by decide +kernel
theorem dX5_step_72 : decode cX5_step 72 = .ok (.iconst 2, 1) := by decide +kernel
theorem dX5_step_73 : decode cX5_step 73 = .ok (.goto 4, 3) := by decide +kernel
theorem dX5_step_76 : decode cX5_step 76 = .ok (.iconst 4, 1) := by decide +kernel
theorem dX5_step_77 : decode cX5_step 77 = .ok (.ireturn, 1) := by decide +kernel
theorem dX5_step_78 : decode cX5_step 78 = .ok (.aload_n 0, 1) := by decide +kernel
theorem dX5_step_79 : decode cX5_step 79 = .ok (.iload_n 3, 1) := by decide +kernel
theorem dX5_step_80 : decode cX5_step 80 = .ok (.putfield 40, 3) := by decide +kernel
theorem dX5_step_83 : decode cX5_step 83 = .ok (.iload 4, 2) := by decide +kernel
theorem dX5_step_85 : decode cX5_step 85 = .ok (.ifCond .eq 7, 3) := by decide +kernel
theorem dX5_step_88 : decode cX5_step 88 = .ok (.iconst 3, 1) := by decide +kernel
theorem dX5_step_89 : decode cX5_step 89 = .ok (.goto 4, 3) := by decide +kernel
theorem dX5_step_92 : decode cX5_step 92 = .ok (.iconst 4, 1) := by decide +kernel
theorem dX5_step_93 : decode cX5_step 93 = .ok (.ireturn, 1) := by decide +kernel
theorem dX5_step_94 : decode cX5_step 94 = .ok (.iload_n 2, 1) := by decide +kernel
theorem dX5_step_95 : decode cX5_step 95 = .ok (.bipush 59, 2) := by decide +kernel
theorem dX5_step_97 : decode cX5_step 97 = .ok (.if_icmp .ne 9, 3) := by decide +kernel
theorem dX5_step_100 : decode cX5_step 100 = .ok (.aload_n 0, 1) := by decide +kernel
theorem dX5_step_101 : decode cX5_step 101 = .ok (.invokevirtual 30, 3) := by decide +kernel
theorem dX5_step_104 : decode cX5_step 104 = .ok (.iconst 0, 1) := by decide +kernel
theorem dX5_step_105 : decode cX5_step 105 = .ok (.ireturn, 1) := by decide +kernel
theorem dX5_step_106 : decode cX5_step 106 = .ok (.iload 4, 2) := by decide +kernel
theorem dX5_step_108 : decode cX5_step 108 = .ok (.ifCond .eq 10, 3) := by decide +kernel
theorem dX5_step_111 : decode cX5_step 111 = .ok (.aload_n 0, 1) := by decide +kernel
theorem dX5_step_112 : decode cX5_step 112 = .ok (.getfield 40, 3) := by decide +kernel
theorem dX5_step_115 : decode cX5_step 115 = .ok (.ifCond .ne 5, 3) := by decide +kernel
theorem dX5_step_118 : decode cX5_step 118 = .ok (.iconst 4, 1) := by decide +kernel
theorem dX5_step_119 : decode cX5_step 119 = .ok (.ireturn, 1) := by decide +kernel
theorem dX5_step_120 : decode cX5_step 120 = .ok (.aload_n 0, 1) := by decide +kernel
theorem dX5_step_121 : decode cX5_step 121 = .ok (.aload_n 0, 1) := by decide +kernel
theorem dX5_step_122 : decode cX5_step 122 = .ok (.getfield 40, 3) := by decide +kernel
theorem dX5_step_125 : decode cX5_step 125 = .ok (.bipush 10, 2) := by decide +kernel
theorem dX5_step_127 : decode cX5_step 127 = .ok (.imul, 1) := by decide +kernel
theorem dX5_step_128 : decode cX5_step 128 = .ok (.iload_n 3, 1) := by decide +kernel
theorem dX5_step_129 : decode cX5_step 129 = .ok (.iadd, 1) := by decide +kernel
theorem dX5_step_130 : decode cX5_step 130 = .ok (.putfield 40, 3) := by decide +kernel
theorem dX5_step_133 : decode cX5_step 133 = .ok (.aload_n 0, 1) := by decide +kernel
theorem dX5_step_134 : decode cX5_step 134 = .ok (.getfield 40, 3) := by decide +kernel
theorem dX5_step_137 : decode cX5_step 137 = .ok (.ldc 43, 2) := by decide +kernel
theorem dX5_step_139 : decode cX5_step 139 = .ok (.if_icmp .gt 7, 3) := by decide +kernel
theorem dX5_step_142 : decode cX5_step 142 = .ok (.iconst 3, 1) := by decide +kernel
theorem dX5_step_143 : decode cX5_step 143 = .ok (.goto 4, 3) := by decide +kernel
theorem dX5_step_146 : decode cX5_step 146 = .ok (.iconst 4, 1) := by decide +kernel
theorem dX5_step_147 : decode cX5_step 147 = .ok (.ireturn, 1) := by decide +kernel
theorem dX5_note_0 : decode cX5_note 0 = .ok (.aload_n 0, 1) := by decide +kernel
theorem dX5_note_1 : decode cX5_note 1 = .ok (.getfield 23, 3) := by decide +kernel
theorem dX5_note_4 : decode cX5_note 4 = .ok (.aload_n 0, 1) := by decide +kernel
theorem dX5_note_5 : decode cX5_note 5 = .ok (.getfield 15, 3) := by decide +kernel
theorem dX5_note_8 : decode cX5_note 8 = .ok (.arraylength, 1) := by decide +kernel
theorem dX5_note_9 : decode cX5_note 9 = .ok (.if_icmp .ge 33, 3) := by decide +kernel
theorem dX5_note_12 : decode cX5_note 12 = .ok (.aload_n 0, 1) := by decide +kernel
theorem dX5_note_13 : decode cX5_note 13 = .ok (.getfield 15, 3) := by decide +kernel
theorem dX5_note_16 : decode cX5_note 16 = .ok (.aload_n 0, 1) := by decide +kernel
theorem dX5_note_17 : decode cX5_note 17 = .ok (.getfield 23, 3) := by decide +kernel
theorem dX5_note_20 : decode cX5_note 20 = .ok (.aload_n 0, 1) := by decide +kernel
theorem dX5_note_21 : decode cX5_note 21 = .ok (.getfield 33, 3) := by decide +kernel
theorem dX5_note_24 : decode cX5_note 24 = .ok (.aload_n 0, 1) := by decide +kernel
theorem dX5_note_25 : decode cX5_note 25 = .ok (.getfield 40, 3) := by decide +kernel
theorem dX5_note_28 : decode cX5_note 28 = .ok (.invokestatic 44, 3) := by decide +kernel
theorem dX5_note_31 : decode cX5_note 31 = .ok (.iastore, 1) := by decide +kernel
theorem dX5_note_32 : decode cX5_note 32 = .ok (.aload_n 0, 1) := by decide +kernel
theorem dX5_note_33 : decode cX5_note 33 = .ok (.dup, 1) := by decide +kernel
theorem dX5_note_34 : decode cX5_note 34 = .ok (.getfield 23, 3) := by decide +kernel
theorem dX5_note_37 : decode cX5_note 37 = .ok (.iconst 1, 1) := by decide +kernel
theorem dX5_note_38 : decode cX5_note 38 = .ok (.iadd, 1) := by decide +kernel
theorem dX5_note_39 : decode cX5_note 39 = .ok (.putfield 23, 3) := by decide +kernel
theorem dX5_note_42 : decode cX5_note 42 = .ok (.return_, 1) := by decide +kernel
theorem dX6_init_0 : decode cX6_init 0 = .ok (.aload_n 0, 1) := by decide +kernel
theorem dX6_init_1 : decode cX6_init 1 = .ok (.invokespecial 3, 3) := by decide +kernel
theorem dX6_init_4 : decode cX6_init 4 = .ok (.aload_n 0, 1) := by decide +kernel
theorem dX6_init_5 : decode cX6_init 5 = .ok (.iconst 4, 1) := by decide +kernel
theorem dX6_init_6 : decode cX6_init 6 = .ok (.newarray .int, 2) := by decide +kernel
theorem dX6_init_8 : decode cX6_init 8 = .ok (.putfield 9, 3) := by decide +kernel
theorem dX6_init_11 : decode cX6_init 11 = .ok (.return_, 1) := by decide +kernel
theorem dX6_become_0 : decode cX6_become 0 = .ok (.aload_n 3, 1) := by decide +kernel
theorem dX6_become_1 : decode cX6_become 1 = .ok (.iconst 0, 1) := by decide +kernel
theorem dX6_become_2 : decode cX6_become 2 = .ok (.aload_n 0, 1) := by decide +kernel
theorem dX6_become_3 : decode cX6_become 3 = .ok (.getfield 9, 3) := by decide +kernel
theorem dX6_become_6 : decode cX6_become 6 = .ok (.iconst 0, 1) := by decide +kernel
theorem dX6_become_7 : decode cX6_become 7 = .ok (.iconst 4, 1) := by decide +kernel
theorem dX6_become_8 : decode cX6_become 8 = .ok (.invokestatic 15, 3) := by decide +kernel
theorem dX6_become_11 : decode cX6_become 11 = .ok (.aload_n 0, 1) := by decide +kernel
theorem dX6_become_12 : decode cX6_become 12 = .ok (.aload_n 2, 1) := by decide +kernel
theorem dX6_become_13 : decode cX6_become 13 = .ok (.getfield 21, 3) := by decide +kernel
theorem dX6_become_16 : decode cX6_become 16 = .ok (.putfield 27, 3) := by decide +kernel
theorem dX6_become_19 : decode cX6_become 19 = .ok (.aload_n 0, 1) := by decide +kernel
theorem dX6_become_20 : decode cX6_become 20 = .ok (.aload_n 2, 1) := by decide +kernel
theorem dX6_become_21 : decode cX6_become 21 = .ok (.getfield 28, 3) := by decide +kernel
theorem dX6_become_24 : decode cX6_become 24 = .ok (.putfield 31, 3) := by decide +kernel
theorem dX6_become_27 : decode cX6_become 27 = .ok (.aload_n 0, 1) := by decide +kernel
theorem dX6_become_28 : decode cX6_become 28 = .ok (.aload_n 2, 1) := by decide +kernel
theorem dX6_become_29 : decode cX6_become 29 = .ok (.getfield 32, 3) := by decide +kernel
theorem dX6_become_32 : decode cX6_become 32 = .ok (.putfield 35, 3) := by decide +kernel
theorem dX6_become_35 : decode cX6_become 35 = .ok (.aload_n 0, 1) := by decide +kernel
theorem dX6_become_36 : decode cX6_become 36 = .ok (.aload_n 2, 1) := by decide +kernel
theorem dX6_become_37 : decode cX6_become 37 = .ok (.aload_n 1, 1) := by decide +kernel
theorem dX6_become_38 : decode cX6_become 38 = .ok (.invokevirtual 36, 3) := by decide +kernel
theorem dX6_become_41 : decode cX6_become 41 = .ok (.putfield 40, 3) := by decide +kernel
theorem dX6_become_44 : decode cX6_become 44 = .ok (.aload_n 0, 1) := by decide +kernel
theorem dX6_become_45 : decode cX6_become 45 = .ok (.iconst 0, 1) := by decide +kernel
theorem dX6_become_46 : decode cX6_become 46 = .ok (.bipush 10, 2) := by decide +kernel
theorem dX6_become_48 : decode cX6_become 48 = .ok (.aload_n 1, 1) := by decide +kernel
theorem dX6_become_49 : decode cX6_become 49 = .ok (.aload_n 0, 1) := by decide +kernel
theorem dX6_become_50 : decode cX6_become 50 = .ok (.getfield 27, 3) := by decide +kernel
theorem dX6_become_53 : decode cX6_become 53 = .ok (.aload_n 0, 1) := by decide +kernel
theorem dX6_become_54 : decode cX6_become 54 = .ok (.getfield 31, 3) := by decide +kernel
theorem dX6_become_57 : decode cX6_become 57 = .ok (.bipush 20, 2) := by decide +kernel
theorem dX6_become_59 : decode cX6_become 59 = .ok (.bipush 20, 2) := by decide +kernel
theorem dX6_become_61 : decode cX6_become 61 = .ok (.invokevirtual 43, 3) := by decide +kernel
theorem dX6_become_64 : decode cX6_become 64 = .ok (.sipush 200, 3) := by decide +kernel
theorem dX6_become_67 : decode cX6_become 67 = .ok (.idiv, 1) := by decide +kernel
theorem dX6_become_68 : decode cX6_become 68 = .ok (.isub, 1) := by decide +kernel
theorem dX6_become_69 : decode cX6_become 69 = .ok (.invokestatic 49, 3) := by decide +kernel
theorem dX6_become_72 : decode cX6_become 72 = .ok (.putfield 55, 3) := by decide +kernel
theorem dX6_become_75 : decode cX6_become 75 = .ok (.return_, 1) := by decide +kernel
theorem dX6_tell_0 : decode cX6_tell 0 = .ok (.iload_n 1, 1) := by decide +kernel
theorem dX6_tell_1 : decode cX6_tell 1 = .ok (.tableswitch 108 0 8 #[51, 56, 61, 66, 75, 80, 87, 94, 101], 51) := by decide +kernel
theorem dX6_tell_52 : decode cX6_tell 52 = .ok (.aload_n 0, 1) := by decide +kernel
theorem dX6_tell_53 : decode cX6_tell 53 = .ok (.getfield 27, 3) := by decide +kernel
theorem dX6_tell_56 : decode cX6_tell 56 = .ok (.ireturn, 1) := by decide +kernel
theorem dX6_tell_57 : decode cX6_tell 57 = .ok (.aload_n 0, 1) := by decide +kernel
theorem dX6_tell_58 : decode cX6_tell 58 = .ok (.getfield 31, 3) := by decide +kernel
theorem dX6_tell_61 : decode cX6_tell 61 = .ok (.ireturn, 1) := by decide +kernel
theorem dX6_tell_62 : decode cX6_tell 62 = .ok (.aload_n 0, 1) := by decide +kernel
theorem dX6_tell_63 : decode cX6_tell 63 = .ok (.getfield 35, 3) := by decide +kernel
theorem dX6_tell_66 : decode cX6_tell 66 = .ok (.ireturn, 1) := by decide +kernel
theorem dX6_tell_67 : decode cX6_tell 67 = .ok (.aload_n 0, 1) := by decide +kernel
theorem dX6_tell_68 : decode cX6_tell 68 = .ok (.getfield 40, 3) := by decide +kernel
theorem dX6_tell_71 : decode cX6_tell 71 = .ok (.sipush 10000, 3) := by decide +kernel
theorem dX6_tell_74 : decode cX6_tell 74 = .ok (.iadd, 1) := by decide +kernel
theorem dX6_tell_75 : decode cX6_tell 75 = .ok (.ireturn, 1) := by decide +kernel
theorem dX6_tell_76 : decode cX6_tell 76 = .ok (.aload_n 0, 1) := by decide +kernel
theorem dX6_tell_77 : decode cX6_tell 77 = .ok (.getfield 55, 3) := by decide +kernel
theorem dX6_tell_80 : decode cX6_tell 80 = .ok (.ireturn, 1) := by decide +kernel
theorem dX6_tell_81 : decode cX6_tell 81 = .ok (.aload_n 0, 1) := by decide +kernel
theorem dX6_tell_82 : decode cX6_tell 82 = .ok (.getfield 9, 3) := by decide +kernel
theorem dX6_tell_85 : decode cX6_tell 85 = .ok (.iconst 0, 1) := by decide +kernel
theorem dX6_tell_86 : decode cX6_tell 86 = .ok (.iaload, 1) := by decide +kernel
theorem dX6_tell_87 : decode cX6_tell 87 = .ok (.ireturn, 1) := by decide +kernel
theorem dX6_tell_88 : decode cX6_tell 88 = .ok (.aload_n 0, 1) := by decide +kernel
theorem dX6_tell_89 : decode cX6_tell 89 = .ok (.getfield 9, 3) := by decide +kernel
theorem dX6_tell_92 : decode cX6_tell 92 = .ok (.iconst 1, 1) := by decide +kernel
theorem dX6_tell_93 : decode cX6_tell 93 = .ok (.iaload, 1) := by decide +kernel
theorem dX6_tell_94 : decode cX6_tell 94 = .ok (.ireturn, 1) := by decide +kernel
theorem dX6_tell_95 : decode cX6_tell 95 = .ok (.aload_n 0, 1) := by decide +kernel
theorem dX6_tell_96 : decode cX6_tell 96 = .ok (.getfield 9, 3) := by decide +kernel
theorem dX6_tell_99 : decode cX6_tell 99 = .ok (.iconst 2, 1) := by decide +kernel
theorem dX6_tell_100 : decode cX6_tell 100 = .ok (.iaload, 1) := by decide +kernel
theorem dX6_tell_101 : decode cX6_tell 101 = .ok (.ireturn, 1) := by decide +kernel
theorem dX6_tell_102 : decode cX6_tell 102 = .ok (.aload_n 0, 1) := by decide +kernel
theorem dX6_tell_103 : decode cX6_tell 103 = .ok (.getfield 9, 3) := by decide +kernel
theorem dX6_tell_106 : decode cX6_tell 106 = .ok (.iconst 3, 1) := by decide +kernel
theorem dX6_tell_107 : decode cX6_tell 107 = .ok (.iaload, 1) := by decide +kernel
theorem dX6_tell_108 : decode cX6_tell 108 = .ok (.ireturn, 1) := by decide +kernel
theorem dX6_tell_109 : decode cX6_tell 109 = .ok (.bipush (-2), 2) := by decide +kernel
theorem dX6_tell_111 : decode cX6_tell 111 = .ok (.ireturn, 1) := by decide +kernel
theorem dX7_init_0 : decode cX7_init 0 = .ok (.aload_n 0, 1) := by decide +kernel
theorem dX7_init_1 : decode cX7_init 1 = .ok (.invokespecial 3, 3) := by decide +kernel
theorem dX7_init_4 : decode cX7_init 4 = .ok (.aload_n 0, 1) := by decide +kernel
theorem dX7_init_5 : decode cX7_init 5 = .ok (.bipush 8, 2) := by decide +kernel
theorem dX7_init_7 : decode cX7_init 7 = .ok (.anewarray 9, 3) := by decide +kernel
theorem dX7_init_10 : decode cX7_init 10 = .ok (.putfield 11, 3) := by decide +kernel
theorem dX7_init_13 : decode cX7_init 13 = .ok (.aload_n 0, 1) := by decide +kernel
theorem dX7_init_14 : decode cX7_init 14 = .ok (.bipush 32, 2) := by decide +kernel
theorem dX7_init_16 : decode cX7_init 16 = .ok (.newarray .int, 2) := by decide +kernel
theorem dX7_init_18 : decode cX7_init 18 = .ok (.putfield 17, 3) := by decide +kernel
theorem dX7_init_21 : decode cX7_init 21 = .ok (.iconst 0, 1) := by decide +kernel
theorem dX7_init_22 : decode cX7_init 22 = .ok (.istore_n 1, 1) := by decide +kernel
theorem dX7_init_23 : decode cX7_init 23 = .ok (.iload_n 1, 1) := by decide +kernel
theorem dX7_init_24 : decode cX7_init 24 = .ok (.bipush 8, 2) := by decide +kernel
theorem dX7_init_26 : decode cX7_init 26 = .ok (.if_icmp .ge 22, 3) := by decide +kernel
theorem dX7_init_29 : decode cX7_init 29 = .ok (.aload_n 0, 1) := by decide +kernel
theorem dX7_init_30 : decode cX7_init 30 = .ok (.getfield 11, 3) := by decide +kernel
theorem dX7_init_33 : decode cX7_init 33 = .ok (.iload_n 1, 1) := by decide +kernel
theorem dX7_init_34 : decode cX7_init 34 = .ok (.new 9, 3) := by decide +kernel
theorem dX7_init_37 : decode cX7_init 37 = .ok (.dup, 1) := by decide +kernel
theorem dX7_init_38 : decode cX7_init 38 = .ok (.invokespecial 21, 3) := by decide +kernel
theorem dX7_init_41 : decode cX7_init 41 = .ok (.aastore, 1) := by decide +kernel
theorem dX7_init_42 : decode cX7_init 42 = .ok (.iinc 1 1, 3) := by decide +kernel
theorem dX7_init_45 : decode cX7_init 45 = .ok (.goto (-22), 3) := by decide +kernel
theorem dX7_init_48 : decode cX7_init 48 = .ok (.return_, 1) := by decide +kernel
theorem dX7_reset_0 : decode cX7_reset 0 = .ok (.aload_n 0, 1) := by decide +kernel
theorem dX7_reset_1 : decode cX7_reset 1 = .ok (.iconst 0, 1) := by decide +kernel
theorem dX7_reset_2 : decode cX7_reset 2 = .ok (.putfield 22, 3) := by decide +kernel
theorem dX7_reset_5 : decode cX7_reset 5 = .ok (.iconst 0, 1) := by decide +kernel
theorem dX7_reset_6 : decode cX7_reset 6 = .ok (.istore_n 1, 1) := by decide +kernel
theorem dX7_reset_7 : decode cX7_reset 7 = .ok (.iload_n 1, 1) := by decide +kernel
theorem dX7_reset_8 : decode cX7_reset 8 = .ok (.bipush 32, 2) := by decide +kernel
theorem dX7_reset_10 : decode cX7_reset 10 = .ok (.if_icmp .ge 16, 3) := by decide +kernel
theorem dX7_reset_13 : decode cX7_reset 13 = .ok (.aload_n 0, 1) := by decide +kernel
theorem dX7_reset_14 : decode cX7_reset 14 = .ok (.getfield 17, 3) := by decide +kernel
theorem dX7_reset_17 : decode cX7_reset 17 = .ok (.iload_n 1, 1) := by decide +kernel
theorem dX7_reset_18 : decode cX7_reset 18 = .ok (.iconst (-1), 1) := by decide +kernel
theorem dX7_reset_19 : decode cX7_reset 19 = .ok (.iastore, 1) := by decide +kernel
theorem dX7_reset_20 : decode cX7_reset 20 = .ok (.iinc 1 1, 3) := by decide +kernel
theorem dX7_reset_23 : decode cX7_reset 23 = .ok (.goto (-16), 3) := by decide +kernel
theorem dX7_reset_26 : decode cX7_reset 26 = .ok (.return_, 1) := by decide +kernel
theorem dX7_isShot_0 : decode cX7_isShot 0 = .ok (.iload_n 1, 1) := by decide +kernel
theorem dX7_isShot_1 : decode cX7_isShot 1 = .ok (.ifCond .lt 15, 3) := by decide +kernel
theorem dX7_isShot_4 : decode cX7_isShot 4 = .ok (.iload_n 1, 1) := by decide +kernel
theorem dX7_isShot_5 : decode cX7_isShot 5 = .ok (.aload_n 0, 1) := by decide +kernel
theorem dX7_isShot_6 : decode cX7_isShot 6 = .ok (.getfield 22, 3) := by decide +kernel
theorem dX7_isShot_9 : decode cX7_isShot 9 = .ok (.if_icmp .ge 7, 3) := by decide +kernel
theorem dX7_isShot_12 : decode cX7_isShot 12 = .ok (.iconst 1, 1) := by decide +kernel
theorem dX7_isShot_13 : decode cX7_isShot 13 = .ok (.goto 4, 3) := by decide +kernel
theorem dX7_isShot_16 : decode cX7_isShot 16 = .ok (.iconst 0, 1) := by decide +kernel
theorem dX7_isShot_17 : decode cX7_isShot 17 = .ok (.ireturn, 1) := by decide +kernel
theorem dX7_draft_0 : decode cX7_draft 0 = .ok (.aload_n 0, 1) := by decide +kernel
theorem dX7_draft_1 : decode cX7_draft 1 = .ok (.getfield 22, 3) := by decide +kernel
theorem dX7_draft_4 : decode cX7_draft 4 = .ok (.bipush 8, 2) := by decide +kernel
theorem dX7_draft_6 : decode cX7_draft 6 = .ok (.if_icmp .ge 18, 3) := by decide +kernel
theorem dX7_draft_9 : decode cX7_draft 9 = .ok (.aload_n 0, 1) := by decide +kernel
end
section
theorem dX7_draft_10 : decode cX7_draft 10 = .ok (.getfield 11, 3) := by decide +kernel
theorem dX7_draft_13 : decode cX7_draft 13 = .ok (.aload_n 0, 1) := by decide +kernel
theorem dX7_draft_14 : decode cX7_draft 14 = .ok (.getfield 22, 3) := by decide +kernel
theorem dX7_draft_17 : decode cX7_draft 17 = .ok (.aaload, 1) := by decide +kernel
theorem dX7_draft_18 : decode cX7_draft 18 = .ok (.aload_n 1, 1) := by decide +kernel
theorem dX7_draft_19 : decode cX7_draft 19 = .ok (.aload_n 2, 1) := by decide +kernel
theorem dX7_draft_20 : decode cX7_draft 20 = .ok (.aload_n 3, 1) := by decide +kernel
theorem dX7_draft_21 : decode cX7_draft 21 = .ok (.invokevirtual 26, 3) := by decide +kernel
theorem dX7_draft_24 : decode cX7_draft 24 = .ok (.return_, 1) := by decide +kernel
theorem dX7_accept_0 : decode cX7_accept 0 = .ok (.aload_n 0, 1) := by decide +kernel
theorem dX7_accept_1 : decode cX7_accept 1 = .ok (.getfield 22, 3) := by decide +kernel
theorem dX7_accept_4 : decode cX7_accept 4 = .ok (.bipush 8, 2) := by decide +kernel
theorem dX7_accept_6 : decode cX7_accept 6 = .ok (.if_icmp .ge 49, 3) := by decide +kernel
theorem dX7_accept_9 : decode cX7_accept 9 = .ok (.iconst 0, 1) := by decide +kernel
theorem dX7_accept_10 : decode cX7_accept 10 = .ok (.istore_n 1, 1) := by decide +kernel
theorem dX7_accept_11 : decode cX7_accept 11 = .ok (.iload_n 1, 1) := by decide +kernel
theorem dX7_accept_12 : decode cX7_accept 12 = .ok (.iconst 4, 1) := by decide +kernel
theorem dX7_accept_13 : decode cX7_accept 13 = .ok (.if_icmp .ge 32, 3) := by decide +kernel
theorem dX7_accept_16 : decode cX7_accept 16 = .ok (.aload_n 0, 1) := by decide +kernel
theorem dX7_accept_17 : decode cX7_accept 17 = .ok (.getfield 17, 3) := by decide +kernel
theorem dX7_accept_20 : decode cX7_accept 20 = .ok (.aload_n 0, 1) := by decide +kernel
theorem dX7_accept_21 : decode cX7_accept 21 = .ok (.getfield 11, 3) := by decide +kernel
theorem dX7_accept_24 : decode cX7_accept 24 = .ok (.aload_n 0, 1) := by decide +kernel
theorem dX7_accept_25 : decode cX7_accept 25 = .ok (.getfield 22, 3) := by decide +kernel
theorem dX7_accept_28 : decode cX7_accept 28 = .ok (.aaload, 1) := by decide +kernel
theorem dX7_accept_29 : decode cX7_accept 29 = .ok (.getfield 30, 3) := by decide +kernel
theorem dX7_accept_32 : decode cX7_accept 32 = .ok (.iload_n 1, 1) := by decide +kernel
theorem dX7_accept_33 : decode cX7_accept 33 = .ok (.iaload, 1) := by decide +kernel
theorem dX7_accept_34 : decode cX7_accept 34 = .ok (.aload_n 0, 1) := by decide +kernel
theorem dX7_accept_35 : decode cX7_accept 35 = .ok (.getfield 22, 3) := by decide +kernel
theorem dX7_accept_38 : decode cX7_accept 38 = .ok (.iastore, 1) := by decide +kernel
theorem dX7_accept_39 : decode cX7_accept 39 = .ok (.iinc 1 1, 3) := by decide +kernel
theorem dX7_accept_42 : decode cX7_accept 42 = .ok (.goto (-31), 3) := by decide +kernel
theorem dX7_accept_45 : decode cX7_accept 45 = .ok (.aload_n 0, 1) := by decide +kernel
theorem dX7_accept_46 : decode cX7_accept 46 = .ok (.dup, 1) := by decide +kernel
theorem dX7_accept_47 : decode cX7_accept 47 = .ok (.getfield 22, 3) := by decide +kernel
theorem dX7_accept_50 : decode cX7_accept 50 = .ok (.iconst 1, 1) := by decide +kernel
theorem dX7_accept_51 : decode cX7_accept 51 = .ok (.iadd, 1) := by decide +kernel
theorem dX7_accept_52 : decode cX7_accept 52 = .ok (.putfield 22, 3) := by decide +kernel
theorem dX7_accept_55 : decode cX7_accept 55 = .ok (.return_, 1) := by decide +kernel
theorem dX7_sumOfRings_0 : decode cX7_sumOfRings 0 = .ok (.iconst 0, 1) := by decide +kernel
theorem dX7_sumOfRings_1 : decode cX7_sumOfRings 1 = .ok (.istore_n 1, 1) := by decide +kernel
theorem dX7_sumOfRings_2 : decode cX7_sumOfRings 2 = .ok (.iconst 0, 1) := by decide +kernel
theorem dX7_sumOfRings_3 : decode cX7_sumOfRings 3 = .ok (.istore_n 2, 1) := by decide +kernel
theorem dX7_sumOfRings_4 : decode cX7_sumOfRings 4 = .ok (.iload_n 2, 1) := by decide +kernel
theorem dX7_sumOfRings_5 : decode cX7_sumOfRings 5 = .ok (.aload_n 0, 1) := by decide +kernel
theorem dX7_sumOfRings_6 : decode cX7_sumOfRings 6 = .ok (.getfield 22, 3) := by decide +kernel
theorem dX7_sumOfRings_9 : decode cX7_sumOfRings 9 = .ok (.if_icmp .ge 21, 3) := by decide +kernel
theorem dX7_sumOfRings_12 : decode cX7_sumOfRings 12 = .ok (.iload_n 1, 1) := by decide +kernel
theorem dX7_sumOfRings_13 : decode cX7_sumOfRings 13 = .ok (.aload_n 0, 1) := by decide +kernel
theorem dX7_sumOfRings_14 : decode cX7_sumOfRings 14 = .ok (.getfield 11, 3) := by decide +kernel
theorem dX7_sumOfRings_17 : decode cX7_sumOfRings 17 = .ok (.iload_n 2, 1) := by decide +kernel
theorem dX7_sumOfRings_18 : decode cX7_sumOfRings 18 = .ok (.aaload, 1) := by decide +kernel
theorem dX7_sumOfRings_19 : decode cX7_sumOfRings 19 = .ok (.getfield 33, 3) := by decide +kernel
theorem dX7_sumOfRings_22 : decode cX7_sumOfRings 22 = .ok (.iadd, 1) := by decide +kernel
theorem dX7_sumOfRings_23 : decode cX7_sumOfRings 23 = .ok (.istore_n 1, 1) := by decide +kernel
theorem dX7_sumOfRings_24 : decode cX7_sumOfRings 24 = .ok (.iinc 2 1, 3) := by decide +kernel
theorem dX7_sumOfRings_27 : decode cX7_sumOfRings 27 = .ok (.goto (-23), 3) := by decide +kernel
theorem dX7_sumOfRings_30 : decode cX7_sumOfRings 30 = .ok (.iload_n 1, 1) := by decide +kernel
theorem dX7_sumOfRings_31 : decode cX7_sumOfRings 31 = .ok (.ireturn, 1) := by decide +kernel
theorem dX7_sumOfSpreads_0 : decode cX7_sumOfSpreads 0 = .ok (.iconst 0, 1) := by decide +kernel
theorem dX7_sumOfSpreads_1 : decode cX7_sumOfSpreads 1 = .ok (.istore_n 1, 1) := by decide +kernel
theorem dX7_sumOfSpreads_2 : decode cX7_sumOfSpreads 2 = .ok (.iconst 0, 1) := by decide +kernel
theorem dX7_sumOfSpreads_3 : decode cX7_sumOfSpreads 3 = .ok (.istore_n 2, 1) := by decide +kernel
theorem dX7_sumOfSpreads_4 : decode cX7_sumOfSpreads 4 = .ok (.iload_n 2, 1) := by decide +kernel
theorem dX7_sumOfSpreads_5 : decode cX7_sumOfSpreads 5 = .ok (.aload_n 0, 1) := by decide +kernel
theorem dX7_sumOfSpreads_6 : decode cX7_sumOfSpreads 6 = .ok (.getfield 22, 3) := by decide +kernel
theorem dX7_sumOfSpreads_9 : decode cX7_sumOfSpreads 9 = .ok (.if_icmp .ge 21, 3) := by decide +kernel
theorem dX7_sumOfSpreads_12 : decode cX7_sumOfSpreads 12 = .ok (.iload_n 1, 1) := by decide +kernel
theorem dX7_sumOfSpreads_13 : decode cX7_sumOfSpreads 13 = .ok (.aload_n 0, 1) := by decide +kernel
theorem dX7_sumOfSpreads_14 : decode cX7_sumOfSpreads 14 = .ok (.getfield 11, 3) := by decide +kernel
theorem dX7_sumOfSpreads_17 : decode cX7_sumOfSpreads 17 = .ok (.iload_n 2, 1) := by decide +kernel
theorem dX7_sumOfSpreads_18 : decode cX7_sumOfSpreads 18 = .ok (.aaload, 1) := by decide +kernel
theorem dX7_sumOfSpreads_19 : decode cX7_sumOfSpreads 19 = .ok (.getfield 36, 3) := by decide +kernel
theorem dX7_sumOfSpreads_22 : decode cX7_sumOfSpreads 22 = .ok (.iadd, 1) := by decide +kernel
theorem dX7_sumOfSpreads_23 : decode cX7_sumOfSpreads 23 = .ok (.istore_n 1, 1) := by decide +kernel
theorem dX7_sumOfSpreads_24 : decode cX7_sumOfSpreads 24 = .ok (.iinc 2 1, 3) := by decide +kernel
theorem dX7_sumOfSpreads_27 : decode cX7_sumOfSpreads 27 = .ok (.goto (-23), 3) := by decide +kernel
theorem dX7_sumOfSpreads_30 : decode cX7_sumOfSpreads 30 = .ok (.iload_n 1, 1) := by decide +kernel
theorem dX7_sumOfSpreads_31 : decode cX7_sumOfSpreads 31 = .ok (.ireturn, 1) := by decide +kernel
theorem dX7_sumOfX_0 : decode cX7_sumOfX 0 = .ok (.iconst 0, 1) := by decide +kernel
theorem dX7_sumOfX_1 : decode cX7_sumOfX 1 = .ok (.istore_n 1, 1) := by decide +kernel
theorem dX7_sumOfX_2 : decode cX7_sumOfX 2 = .ok (.iconst 0, 1) := by decide +kernel
theorem dX7_sumOfX_3 : decode cX7_sumOfX 3 = .ok (.istore_n 2, 1) := by decide +kernel
theorem dX7_sumOfX_4 : decode cX7_sumOfX 4 = .ok (.iload_n 2, 1) := by decide +kernel
theorem dX7_sumOfX_5 : decode cX7_sumOfX 5 = .ok (.aload_n 0, 1) := by decide +kernel
theorem dX7_sumOfX_6 : decode cX7_sumOfX 6 = .ok (.getfield 22, 3) := by decide +kernel
theorem dX7_sumOfX_9 : decode cX7_sumOfX 9 = .ok (.if_icmp .ge 21, 3) := by decide +kernel
theorem dX7_sumOfX_12 : decode cX7_sumOfX 12 = .ok (.iload_n 1, 1) := by decide +kernel
theorem dX7_sumOfX_13 : decode cX7_sumOfX 13 = .ok (.aload_n 0, 1) := by decide +kernel
theorem dX7_sumOfX_14 : decode cX7_sumOfX 14 = .ok (.getfield 11, 3) := by decide +kernel
theorem dX7_sumOfX_17 : decode cX7_sumOfX 17 = .ok (.iload_n 2, 1) := by decide +kernel
theorem dX7_sumOfX_18 : decode cX7_sumOfX 18 = .ok (.aaload, 1) := by decide +kernel
theorem dX7_sumOfX_19 : decode cX7_sumOfX 19 = .ok (.getfield 39, 3) := by decide +kernel
theorem dX7_sumOfX_22 : decode cX7_sumOfX 22 = .ok (.iadd, 1) := by decide +kernel
theorem dX7_sumOfX_23 : decode cX7_sumOfX 23 = .ok (.istore_n 1, 1) := by decide +kernel
theorem dX7_sumOfX_24 : decode cX7_sumOfX 24 = .ok (.iinc 2 1, 3) := by decide +kernel
theorem dX7_sumOfX_27 : decode cX7_sumOfX 27 = .ok (.goto (-23), 3) := by decide +kernel
theorem dX7_sumOfX_30 : decode cX7_sumOfX 30 = .ok (.iload_n 1, 1) := by decide +kernel
theorem dX7_sumOfX_31 : decode cX7_sumOfX 31 = .ok (.ireturn, 1) := by decide +kernel
theorem dX7_sumOfY_0 : decode cX7_sumOfY 0 = .ok (.iconst 0, 1) := by decide +kernel
theorem dX7_sumOfY_1 : decode cX7_sumOfY 1 = .ok (.istore_n 1, 1) := by decide +kernel
theorem dX7_sumOfY_2 : decode cX7_sumOfY 2 = .ok (.iconst 0, 1) := by decide +kernel
theorem dX7_sumOfY_3 : decode cX7_sumOfY 3 = .ok (.istore_n 2, 1) := by decide +kernel
theorem dX7_sumOfY_4 : decode cX7_sumOfY 4 = .ok (.iload_n 2, 1) := by decide +kernel
theorem dX7_sumOfY_5 : decode cX7_sumOfY 5 = .ok (.aload_n 0, 1) := by decide +kernel
theorem dX7_sumOfY_6 : decode cX7_sumOfY 6 = .ok (.getfield 22, 3) := by decide +kernel
theorem dX7_sumOfY_9 : decode cX7_sumOfY 9 = .ok (.if_icmp .ge 21, 3) := by decide +kernel
theorem dX7_sumOfY_12 : decode cX7_sumOfY 12 = .ok (.iload_n 1, 1) := by decide +kernel
theorem dX7_sumOfY_13 : decode cX7_sumOfY 13 = .ok (.aload_n 0, 1) := by decide +kernel
theorem dX7_sumOfY_14 : decode cX7_sumOfY 14 = .ok (.getfield 11, 3) := by decide +kernel
theorem dX7_sumOfY_17 : decode cX7_sumOfY 17 = .ok (.iload_n 2, 1) := by decide +kernel
theorem dX7_sumOfY_18 : decode cX7_sumOfY 18 = .ok (.aaload, 1) := by decide +kernel
theorem dX7_sumOfY_19 : decode cX7_sumOfY 19 = .ok (.getfield 42, 3) := by decide +kernel
theorem dX7_sumOfY_22 : decode cX7_sumOfY 22 = .ok (.iadd, 1) := by decide +kernel
theorem dX7_sumOfY_23 : decode cX7_sumOfY 23 = .ok (.istore_n 1, 1) := by decide +kernel
theorem dX7_sumOfY_24 : decode cX7_sumOfY 24 = .ok (.iinc 2 1, 3) := by decide +kernel
theorem dX7_sumOfY_27 : decode cX7_sumOfY 27 = .ok (.goto (-23), 3) := by decide +kernel
theorem dX7_sumOfY_30 : decode cX7_sumOfY 30 = .ok (.iload_n 1, 1) := by decide +kernel
theorem dX7_sumOfY_31 : decode cX7_sumOfY 31 = .ok (.ireturn, 1) := by decide +kernel
theorem dX7_withGreatestRing_0 : decode cX7_withGreatestRing 0 = .ok (.bipush (-6), 2) := by decide +kernel
theorem dX7_withGreatestRing_2 : decode cX7_withGreatestRing 2 = .ok (.istore_n 1, 1) := by decide +kernel
theorem dX7_withGreatestRing_3 : decode cX7_withGreatestRing 3 = .ok (.iconst (-1), 1) := by decide +kernel
theorem dX7_withGreatestRing_4 : decode cX7_withGreatestRing 4 = .ok (.istore_n 2, 1) := by decide +kernel
theorem dX7_withGreatestRing_5 : decode cX7_withGreatestRing 5 = .ok (.iconst 0, 1) := by decide +kernel
theorem dX7_withGreatestRing_6 : decode cX7_withGreatestRing 6 = .ok (.istore_n 3, 1) := by decide +kernel
theorem dX7_withGreatestRing_7 : decode cX7_withGreatestRing 7 = .ok (.iload_n 3, 1) := by decide +kernel
theorem dX7_withGreatestRing_8 : decode cX7_withGreatestRing 8 = .ok (.aload_n 0, 1) := by decide +kernel
theorem dX7_withGreatestRing_9 : decode cX7_withGreatestRing 9 = .ok (.getfield 22, 3) := by decide +kernel
theorem dX7_withGreatestRing_12 : decode cX7_withGreatestRing 12 = .ok (.if_icmp .ge 34, 3) := by decide +kernel
theorem dX7_withGreatestRing_15 : decode cX7_withGreatestRing 15 = .ok (.aload_n 0, 1) := by decide +kernel
theorem dX7_withGreatestRing_16 : decode cX7_withGreatestRing 16 = .ok (.getfield 11, 3) := by decide +kernel
theorem dX7_withGreatestRing_19 : decode cX7_withGreatestRing 19 = .ok (.iload_n 3, 1) := by decide +kernel
theorem dX7_withGreatestRing_20 : decode cX7_withGreatestRing 20 = .ok (.aaload, 1) := by decide +kernel
theorem dX7_withGreatestRing_21 : decode cX7_withGreatestRing 21 = .ok (.getfield 33, 3) := by decide +kernel
theorem dX7_withGreatestRing_24 : decode cX7_withGreatestRing 24 = .ok (.iload_n 2, 1) := by decide +kernel
theorem dX7_withGreatestRing_25 : decode cX7_withGreatestRing 25 = .ok (.if_icmp .le 15, 3) := by decide +kernel
theorem dX7_withGreatestRing_28 : decode cX7_withGreatestRing 28 = .ok (.iload_n 3, 1) := by decide +kernel
theorem dX7_withGreatestRing_29 : decode cX7_withGreatestRing 29 = .ok (.istore_n 1, 1) := by decide +kernel
theorem dX7_withGreatestRing_30 : decode cX7_withGreatestRing 30 = .ok (.aload_n 0, 1) := by decide +kernel
theorem dX7_withGreatestRing_31 : decode cX7_withGreatestRing 31 = .ok (.getfield 11, 3) := by decide +kernel
theorem dX7_withGreatestRing_34 : decode cX7_withGreatestRing 34 = .ok (.iload_n 3, 1) := by decide +kernel
theorem dX7_withGreatestRing_35 : decode cX7_withGreatestRing 35 = .ok (.aaload, 1) := by decide +kernel
theorem dX7_withGreatestRing_36 : decode cX7_withGreatestRing 36 = .ok (.getfield 33, 3) := by decide +kernel
theorem dX7_withGreatestRing_39 : decode cX7_withGreatestRing 39 = .ok (.istore_n 2, 1) := by decide +kernel
theorem dX7_withGreatestRing_40 : decode cX7_withGreatestRing 40 = .ok (.iinc 3 1, 3) := by decide +kernel
theorem dX7_withGreatestRing_43 : decode cX7_withGreatestRing 43 = .ok (.goto (-36), 3) := by decide +kernel
theorem dX7_withGreatestRing_46 : decode cX7_withGreatestRing 46 = .ok (.iload_n 1, 1) := by decide +kernel
theorem dX7_withGreatestRing_47 : decode cX7_withGreatestRing 47 = .ok (.ireturn, 1) := by decide +kernel
theorem dX7_widest_0 : decode cX7_widest 0 = .ok (.iconst 0, 1) := by decide +kernel
theorem dX7_widest_1 : decode cX7_widest 1 = .ok (.istore_n 2, 1) := by decide +kernel
theorem dX7_widest_2 : decode cX7_widest 2 = .ok (.iconst 0, 1) := by decide +kernel
theorem dX7_widest_3 : decode cX7_widest 3 = .ok (.istore_n 3, 1) := by decide +kernel
theorem dX7_widest_4 : decode cX7_widest 4 = .ok (.iload_n 3, 1) := by decide +kernel
theorem dX7_widest_5 : decode cX7_widest 5 = .ok (.aload_n 0, 1) := by decide +kernel
theorem dX7_widest_6 : decode cX7_widest 6 = .ok (.getfield 22, 3) := by decide +kernel
theorem dX7_widest_9 : decode cX7_widest 9 = .ok (.if_icmp .ge 71, 3) := by decide +kernel
theorem dX7_widest_12 : decode cX7_widest 12 = .ok (.iconst 0, 1) := by decide +kernel
theorem dX7_widest_13 : decode cX7_widest 13 = .ok (.istore 4, 2) := by decide +kernel
theorem dX7_widest_15 : decode cX7_widest 15 = .ok (.iload 4, 2) := by decide +kernel
theorem dX7_widest_17 : decode cX7_widest 17 = .ok (.iload_n 3, 1) := by decide +kernel
theorem dX7_widest_18 : decode cX7_widest 18 = .ok (.if_icmp .ge 56, 3) := by decide +kernel
theorem dX7_widest_21 : decode cX7_widest 21 = .ok (.iload_n 2, 1) := by decide +kernel
theorem dX7_widest_22 : decode cX7_widest 22 = .ok (.aload_n 1, 1) := by decide +kernel
theorem dX7_widest_23 : decode cX7_widest 23 = .ok (.aload_n 0, 1) := by decide +kernel
theorem dX7_widest_24 : decode cX7_widest 24 = .ok (.getfield 11, 3) := by decide +kernel
theorem dX7_widest_27 : decode cX7_widest 27 = .ok (.iload_n 3, 1) := by decide +kernel
theorem dX7_widest_28 : decode cX7_widest 28 = .ok (.aaload, 1) := by decide +kernel
theorem dX7_widest_29 : decode cX7_widest 29 = .ok (.getfield 39, 3) := by decide +kernel
theorem dX7_widest_32 : decode cX7_widest 32 = .ok (.aload_n 0, 1) := by decide +kernel
theorem dX7_widest_33 : decode cX7_widest 33 = .ok (.getfield 11, 3) := by decide +kernel
theorem dX7_widest_36 : decode cX7_widest 36 = .ok (.iload_n 3, 1) := by decide +kernel
theorem dX7_widest_37 : decode cX7_widest 37 = .ok (.aaload, 1) := by decide +kernel
theorem dX7_widest_38 : decode cX7_widest 38 = .ok (.getfield 42, 3) := by decide +kernel
theorem dX7_widest_41 : decode cX7_widest 41 = .ok (.aload_n 0, 1) := by decide +kernel
theorem dX7_widest_42 : decode cX7_widest 42 = .ok (.getfield 11, 3) := by decide +kernel
theorem dX7_widest_45 : decode cX7_widest 45 = .ok (.iload 4, 2) := by decide +kernel
theorem dX7_widest_47 : decode cX7_widest 47 = .ok (.aaload, 1) := by decide +kernel
theorem dX7_widest_48 : decode cX7_widest 48 = .ok (.getfield 39, 3) := by decide +kernel
theorem dX7_widest_51 : decode cX7_widest 51 = .ok (.aload_n 0, 1) := by decide +kernel
theorem dX7_widest_52 : decode cX7_widest 52 = .ok (.getfield 11, 3) := by decide +kernel
theorem dX7_widest_55 : decode cX7_widest 55 = .ok (.iload 4, 2) := by decide +kernel
theorem dX7_widest_57 : decode cX7_widest 57 = .ok (.aaload, 1) := by decide +kernel
theorem dX7_widest_58 : decode cX7_widest 58 = .ok (.getfield 42, 3) := by decide +kernel
theorem dX7_widest_61 : decode cX7_widest 61 = .ok (.invokevirtual 45, 3) := by decide +kernel
theorem dX7_widest_64 : decode cX7_widest 64 = .ok (.invokestatic 51, 3) := by decide +kernel
theorem dX7_widest_67 : decode cX7_widest 67 = .ok (.istore_n 2, 1) := by decide +kernel
theorem dX7_widest_68 : decode cX7_widest 68 = .ok (.iinc 4 1, 3) := by decide +kernel
theorem dX7_widest_71 : decode cX7_widest 71 = .ok (.goto (-56), 3) := by decide +kernel
theorem dX7_widest_74 : decode cX7_widest 74 = .ok (.iinc 3 1, 3) := by decide +kernel
theorem dX7_widest_77 : decode cX7_widest 77 = .ok (.goto (-73), 3) := by decide +kernel
theorem dX7_widest_80 : decode cX7_widest 80 = .ok (.iload_n 2, 1) := by decide +kernel
theorem dX7_widest_81 : decode cX7_widest 81 = .ok (.ireturn, 1) := by decide +kernel
theorem dX8_init_0 : decode cX8_init 0 = .ok (.aload_n 0, 1) := by decide +kernel
theorem dX8_init_1 : decode cX8_init 1 = .ok (.invokespecial 3, 3) := by decide +kernel
theorem dX8_init_4 : decode cX8_init 4 = .ok (.aload_n 0, 1) := by decide +kernel
theorem dX8_init_5 : decode cX8_init 5 = .ok (.new 9, 3) := by decide +kernel
theorem dX8_init_8 : decode cX8_init 8 = .ok (.dup, 1) := by decide +kernel
theorem dX8_init_9 : decode cX8_init 9 = .ok (.invokespecial 11, 3) := by decide +kernel
theorem dX8_init_12 : decode cX8_init 12 = .ok (.putfield 12, 3) := by decide +kernel
theorem dX8_init_15 : decode cX8_init 15 = .ok (.aload_n 0, 1) := by decide +kernel
theorem dX8_init_16 : decode cX8_init 16 = .ok (.new 16, 3) := by decide +kernel
theorem dX8_init_19 : decode cX8_init 19 = .ok (.dup, 1) := by decide +kernel
theorem dX8_init_20 : decode cX8_init 20 = .ok (.invokespecial 18, 3) := by decide +kernel
theorem dX8_init_23 : decode cX8_init 23 = .ok (.putfield 19, 3) := by decide +kernel
theorem dX8_init_26 : decode cX8_init 26 = .ok (.aload_n 0, 1) := by decide +kernel
theorem dX8_init_27 : decode cX8_init 27 = .ok (.iconst 2, 1) := by decide +kernel
theorem dX8_init_28 : decode cX8_init 28 = .ok (.anewarray 9, 3) := by decide +kernel
theorem dX8_init_31 : decode cX8_init 31 = .ok (.putfield 23, 3) := by decide +kernel
theorem dX8_init_34 : decode cX8_init 34 = .ok (.aload_n 0, 1) := by decide +kernel
theorem dX8_init_35 : decode cX8_init 35 = .ok (.iconst 2, 1) := by decide +kernel
theorem dX8_init_36 : decode cX8_init 36 = .ok (.newarray .boolean, 2) := by decide +kernel
theorem dX8_init_38 : decode cX8_init 38 = .ok (.putfield 27, 3) := by decide +kernel
theorem dX8_init_41 : decode cX8_init 41 = .ok (.aload_n 0, 1) := by decide +kernel
theorem dX8_init_42 : decode cX8_init 42 = .ok (.new 31, 3) := by decide +kernel
theorem dX8_init_45 : decode cX8_init 45 = .ok (.dup, 1) := by decide +kernel
theorem dX8_init_46 : decode cX8_init 46 = .ok (.invokespecial 33, 3) := by decide +kernel
theorem dX8_init_49 : decode cX8_init 49 = .ok (.putfield 34, 3) := by decide +kernel
theorem dX8_init_52 : decode cX8_init 52 = .ok (.aload_n 0, 1) := by decide +kernel
theorem dX8_init_53 : decode cX8_init 53 = .ok (.new 38, 3) := by decide +kernel
theorem dX8_init_56 : decode cX8_init 56 = .ok (.dup, 1) := by decide +kernel
theorem dX8_init_57 : decode cX8_init 57 = .ok (.invokespecial 40, 3) := by decide +kernel
theorem dX8_init_60 : decode cX8_init 60 = .ok (.putfield 41, 3) := by decide +kernel
theorem dX8_init_63 : decode cX8_init 63 = .ok (.aload_n 0, 1) := by decide +kernel
theorem dX8_init_64 : decode cX8_init 64 = .ok (.new 45, 3) := by decide +kernel
theorem dX8_init_67 : decode cX8_init 67 = .ok (.dup, 1) := by decide +kernel
theorem dX8_init_68 : decode cX8_init 68 = .ok (.invokespecial 47, 3) := by decide +kernel
theorem dX8_init_71 : decode cX8_init 71 = .ok (.putfield 48, 3) := by decide +kernel
theorem dX8_init_74 : decode cX8_init 74 = .ok (.aload_n 0, 1) := by decide +kernel
theorem dX8_init_75 : decode cX8_init 75 = .ok (.new 52, 3) := by decide +kernel
theorem dX8_init_78 : decode cX8_init 78 = .ok (.dup, 1) := by decide +kernel
theorem dX8_init_79 : decode cX8_init 79 = .ok (.invokespecial 54, 3) := by decide +kernel
theorem dX8_init_82 : decode cX8_init 82 = .ok (.putfield 55, 3) := by decide +kernel
theorem dX8_init_85 : decode cX8_init 85 = .ok (.aload_n 0, 1) := by decide +kernel
theorem dX8_init_86 : decode cX8_init 86 = .ok (.new 52, 3) := by decide +kernel
theorem dX8_init_89 : decode cX8_init 89 = .ok (.dup, 1) := by decide +kernel
theorem dX8_init_90 : decode cX8_init 90 = .ok (.invokespecial 54, 3) := by decide +kernel
theorem dX8_init_93 : decode cX8_init 93 = .ok (.putfield 59, 3) := by decide +kernel
theorem dX8_init_96 : decode cX8_init 96 = .ok (.aload_n 0, 1) := by decide +kernel
theorem dX8_init_97 : decode cX8_init 97 = .ok (.iconst 1, 1) := by decide +kernel
theorem dX8_init_98 : decode cX8_init 98 = .ok (.putfield 62, 3) := by decide +kernel
theorem dX8_init_101 : decode cX8_init 101 = .ok (.iconst 0, 1) := by decide +kernel
theorem dX8_init_102 : decode cX8_init 102 = .ok (.istore_n 1, 1) := by decide +kernel
theorem dX8_init_103 : decode cX8_init 103 = .ok (.iload_n 1, 1) := by decide +kernel
theorem dX8_init_104 : decode cX8_init 104 = .ok (.iconst 2, 1) := by decide +kernel
theorem dX8_init_105 : decode cX8_init 105 = .ok (.if_icmp .ge 22, 3) := by decide +kernel
theorem dX8_init_108 : decode cX8_init 108 = .ok (.aload_n 0, 1) := by decide +kernel
theorem dX8_init_109 : decode cX8_init 109 = .ok (.getfield 23, 3) := by decide +kernel
theorem dX8_init_112 : decode cX8_init 112 = .ok (.iload_n 1, 1) := by decide +kernel
theorem dX8_init_113 : decode cX8_init 113 = .ok (.new 9, 3) := by decide +kernel
theorem dX8_init_116 : decode cX8_init 116 = .ok (.dup, 1) := by decide +kernel
theorem dX8_init_117 : decode cX8_init 117 = .ok (.invokespecial 11, 3) := by decide +kernel
theorem dX8_init_120 : decode cX8_init 120 = .ok (.aastore, 1) := by decide +kernel
theorem dX8_init_121 : decode cX8_init 121 = .ok (.iinc 1 1, 3) := by decide +kernel
theorem dX8_init_124 : decode cX8_init 124 = .ok (.goto (-21), 3) := by decide +kernel
theorem dX8_init_127 : decode cX8_init 127 = .ok (.return_, 1) := by decide +kernel
theorem dX8_set_0 : decode cX8_set 0 = .ok (.iload_n 1, 1) := by decide +kernel
theorem dX8_set_1 : decode cX8_set 1 = .ok (.ifCond .lt 8, 3) := by decide +kernel
theorem dX8_set_4 : decode cX8_set 4 = .ok (.iload_n 1, 1) := by decide +kernel
theorem dX8_set_5 : decode cX8_set 5 = .ok (.iconst 2, 1) := by decide +kernel
theorem dX8_set_6 : decode cX8_set 6 = .ok (.if_icmp .le 6, 3) := by decide +kernel
theorem dX8_set_9 : decode cX8_set 9 = .ok (.bipush (-2), 2) := by decide +kernel
theorem dX8_set_11 : decode cX8_set 11 = .ok (.ireturn, 1) := by decide +kernel
theorem dX8_set_12 : decode cX8_set 12 = .ok (.iload_n 2, 1) := by decide +kernel
theorem dX8_set_13 : decode cX8_set 13 = .ok (.getstatic 66, 3) := by decide +kernel
theorem dX8_set_16 : decode cX8_set 16 = .ok (.iload_n 1, 1) := by decide +kernel
theorem dX8_set_17 : decode cX8_set 17 = .ok (.iaload, 1) := by decide +kernel
theorem dX8_set_18 : decode cX8_set 18 = .ok (.if_icmp .lt 12, 3) := by decide +kernel
theorem dX8_set_21 : decode cX8_set 21 = .ok (.iload_n 2, 1) := by decide +kernel
theorem dX8_set_22 : decode cX8_set 22 = .ok (.getstatic 70, 3) := by decide +kernel
theorem dX8_set_25 : decode cX8_set 25 = .ok (.iload_n 1, 1) := by decide +kernel
theorem dX8_set_26 : decode cX8_set 26 = .ok (.iaload, 1) := by decide +kernel
theorem dX8_set_27 : decode cX8_set 27 = .ok (.if_icmp .le 6, 3) := by decide +kernel
theorem dX8_set_30 : decode cX8_set 30 = .ok (.bipush (-2), 2) := by decide +kernel
theorem dX8_set_32 : decode cX8_set 32 = .ok (.ireturn, 1) := by decide +kernel
theorem dX8_set_33 : decode cX8_set 33 = .ok (.aload_n 0, 1) := by decide +kernel
theorem dX8_set_34 : decode cX8_set 34 = .ok (.getfield 12, 3) := by decide +kernel
theorem dX8_set_37 : decode cX8_set 37 = .ok (.getfield 73, 3) := by decide +kernel
theorem dX8_set_40 : decode cX8_set 40 = .ok (.iload_n 1, 1) := by decide +kernel
theorem dX8_set_41 : decode cX8_set 41 = .ok (.iaload, 1) := by decide +kernel
theorem dX8_set_42 : decode cX8_set 42 = .ok (.istore_n 3, 1) := by decide +kernel
theorem dX8_set_43 : decode cX8_set 43 = .ok (.aload_n 0, 1) := by decide +kernel
theorem dX8_set_44 : decode cX8_set 44 = .ok (.invokevirtual 76, 3) := by decide +kernel
theorem dX8_set_47 : decode cX8_set 47 = .ok (.aload_n 0, 1) := by decide +kernel
theorem dX8_set_48 : decode cX8_set 48 = .ok (.getfield 12, 3) := by decide +kernel
theorem dX8_set_51 : decode cX8_set 51 = .ok (.getfield 73, 3) := by decide +kernel
theorem dX8_set_54 : decode cX8_set 54 = .ok (.iload_n 1, 1) := by decide +kernel
theorem dX8_set_55 : decode cX8_set 55 = .ok (.iload_n 2, 1) := by decide +kernel
theorem dX8_set_56 : decode cX8_set 56 = .ok (.iastore, 1) := by decide +kernel
theorem dX8_set_57 : decode cX8_set 57 = .ok (.iload_n 3, 1) := by decide +kernel
theorem dX8_set_58 : decode cX8_set 58 = .ok (.bipush 100, 2) := by decide +kernel
theorem dX8_set_60 : decode cX8_set 60 = .ok (.iadd, 1) := by decide +kernel
theorem dX8_set_61 : decode cX8_set 61 = .ok (.ireturn, 1) := by decide +kernel
theorem dX8_hear_0 : decode cX8_hear 0 = .ok (.iload_n 1, 1) := by decide +kernel
theorem dX8_hear_1 : decode cX8_hear 1 = .ok (.invokestatic 79, 3) := by decide +kernel
theorem dX8_hear_4 : decode cX8_hear 4 = .ok (.ifCond .ne 5, 3) := by decide +kernel
theorem dX8_hear_7 : decode cX8_hear 7 = .ok (.iconst (-1), 1) := by decide +kernel
theorem dX8_hear_8 : decode cX8_hear 8 = .ok (.ireturn, 1) := by decide +kernel
theorem dX8_hear_9 : decode cX8_hear 9 = .ok (.iload_n 2, 1) := by decide +kernel
theorem dX8_hear_10 : decode cX8_hear 10 = .ok (.ifCond .lt 9, 3) := by decide +kernel
theorem dX8_hear_13 : decode cX8_hear 13 = .ok (.iload_n 2, 1) := by decide +kernel
theorem dX8_hear_14 : decode cX8_hear 14 = .ok (.ldc 83, 2) := by decide +kernel
theorem dX8_hear_16 : decode cX8_hear 16 = .ok (.if_icmp .le 6, 3) := by decide +kernel
theorem dX8_hear_19 : decode cX8_hear 19 = .ok (.bipush (-2), 2) := by decide +kernel
theorem dX8_hear_21 : decode cX8_hear 21 = .ok (.ireturn, 1) := by decide +kernel
theorem dX8_hear_22 : decode cX8_hear 22 = .ok (.iload_n 1, 1) := by decide +kernel
theorem dX8_hear_23 : decode cX8_hear 23 = .ok (.iload_n 2, 1) := by decide +kernel
theorem dX8_hear_24 : decode cX8_hear 24 = .ok (.invokestatic 84, 3) := by decide +kernel
theorem dX8_hear_27 : decode cX8_hear 27 = .ok (.istore_n 3, 1) := by decide +kernel
theorem dX8_hear_28 : decode cX8_hear 28 = .ok (.aload_n 0, 1) := by decide +kernel
theorem dX8_hear_29 : decode cX8_hear 29 = .ok (.getfield 12, 3) := by decide +kernel
theorem dX8_hear_32 : decode cX8_hear 32 = .ok (.iload_n 3, 1) := by decide +kernel
theorem dX8_hear_33 : decode cX8_hear 33 = .ok (.invokevirtual 88, 3) := by decide +kernel
theorem dX8_hear_36 : decode cX8_hear 36 = .ok (.istore 4, 2) := by decide +kernel
theorem dX8_hear_38 : decode cX8_hear 38 = .ok (.iload 4, 2) := by decide +kernel
theorem dX8_hear_40 : decode cX8_hear 40 = .ok (.ifCond .eq 6, 3) := by decide +kernel
theorem dX8_hear_43 : decode cX8_hear 43 = .ok (.iload 4, 2) := by decide +kernel
theorem dX8_hear_45 : decode cX8_hear 45 = .ok (.ireturn, 1) := by decide +kernel
theorem dX8_hear_46 : decode cX8_hear 46 = .ok (.aload_n 0, 1) := by decide +kernel
theorem dX8_hear_47 : decode cX8_hear 47 = .ok (.invokevirtual 76, 3) := by decide +kernel
theorem dX8_hear_50 : decode cX8_hear 50 = .ok (.aload_n 0, 1) := by decide +kernel
theorem dX8_hear_51 : decode cX8_hear 51 = .ok (.getfield 12, 3) := by decide +kernel
theorem dX8_hear_54 : decode cX8_hear 54 = .ok (.iload_n 3, 1) := by decide +kernel
theorem dX8_hear_55 : decode cX8_hear 55 = .ok (.invokevirtual 92, 3) := by decide +kernel
theorem dX8_hear_58 : decode cX8_hear 58 = .ok (.ireturn, 1) := by decide +kernel
theorem dX8_fire_0 : decode cX8_fire 0 = .ok (.iload_n 1, 1) := by decide +kernel
theorem dX8_fire_1 : decode cX8_fire 1 = .ok (.iload_n 2, 1) := by decide +kernel
theorem dX8_fire_2 : decode cX8_fire 2 = .ok (.invokestatic 95, 3) := by decide +kernel
theorem dX8_fire_5 : decode cX8_fire 5 = .ok (.ifCond .ne 5, 3) := by decide +kernel
theorem dX8_fire_8 : decode cX8_fire 8 = .ok (.iconst (-1), 1) := by decide +kernel
theorem dX8_fire_9 : decode cX8_fire 9 = .ok (.ireturn, 1) := by decide +kernel
theorem dX8_fire_10 : decode cX8_fire 10 = .ok (.iload_n 3, 1) := by decide +kernel
theorem dX8_fire_11 : decode cX8_fire 11 = .ok (.ifCond .lt 9, 3) := by decide +kernel
theorem dX8_fire_14 : decode cX8_fire 14 = .ok (.iload_n 3, 1) := by decide +kernel
theorem dX8_fire_15 : decode cX8_fire 15 = .ok (.ldc 99, 2) := by decide +kernel
theorem dX8_fire_17 : decode cX8_fire 17 = .ok (.if_icmp .le 6, 3) := by decide +kernel
theorem dX8_fire_20 : decode cX8_fire 20 = .ok (.bipush (-2), 2) := by decide +kernel
theorem dX8_fire_22 : decode cX8_fire 22 = .ok (.ireturn, 1) := by decide +kernel
theorem dX8_fire_23 : decode cX8_fire 23 = .ok (.aload_n 0, 1) := by decide +kernel
theorem dX8_fire_24 : decode cX8_fire 24 = .ok (.getfield 41, 3) := by decide +kernel
theorem dX8_fire_27 : decode cX8_fire 27 = .ok (.aload_n 0, 1) := by decide +kernel
theorem dX8_fire_28 : decode cX8_fire 28 = .ok (.getfield 12, 3) := by decide +kernel
theorem dX8_fire_31 : decode cX8_fire 31 = .ok (.getfield 73, 3) := by decide +kernel
theorem dX8_fire_34 : decode cX8_fire 34 = .ok (.iconst 0, 1) := by decide +kernel
theorem dX8_fire_35 : decode cX8_fire 35 = .ok (.iaload, 1) := by decide +kernel
theorem dX8_fire_36 : decode cX8_fire 36 = .ok (.invokevirtual 100, 3) := by decide +kernel
theorem dX8_fire_39 : decode cX8_fire 39 = .ok (.iconst 0, 1) := by decide +kernel
theorem dX8_fire_40 : decode cX8_fire 40 = .ok (.istore 4, 2) := by decide +kernel
theorem dX8_fire_42 : decode cX8_fire 42 = .ok (.iload 4, 2) := by decide +kernel
theorem dX8_fire_44 : decode cX8_fire 44 = .ok (.iconst 4, 1) := by decide +kernel
theorem dX8_fire_45 : decode cX8_fire 45 = .ok (.if_icmp .ge 40, 3) := by decide +kernel
theorem dX8_fire_48 : decode cX8_fire 48 = .ok (.aload_n 0, 1) := by decide +kernel
theorem dX8_fire_49 : decode cX8_fire 49 = .ok (.getfield 12, 3) := by decide +kernel
theorem dX8_fire_52 : decode cX8_fire 52 = .ok (.iload 4, 2) := by decide +kernel
theorem dX8_fire_54 : decode cX8_fire 54 = .ok (.iload_n 3, 1) := by decide +kernel
theorem dX8_fire_55 : decode cX8_fire 55 = .ok (.aload_n 0, 1) := by decide +kernel
theorem dX8_fire_56 : decode cX8_fire 56 = .ok (.getfield 41, 3) := by decide +kernel
theorem dX8_fire_59 : decode cX8_fire 59 = .ok (.iload_n 1, 1) := by decide +kernel
theorem dX8_fire_60 : decode cX8_fire 60 = .ok (.iload_n 2, 1) := by decide +kernel
theorem dX8_fire_61 : decode cX8_fire 61 = .ok (.iload 4, 2) := by decide +kernel
theorem dX8_fire_63 : decode cX8_fire 63 = .ok (.invokevirtual 104, 3) := by decide +kernel
theorem dX8_fire_66 : decode cX8_fire 66 = .ok (.iadd, 1) := by decide +kernel
theorem dX8_fire_67 : decode cX8_fire 67 = .ok (.invokestatic 84, 3) := by decide +kernel
theorem dX8_fire_70 : decode cX8_fire 70 = .ok (.invokevirtual 108, 3) := by decide +kernel
theorem dX8_fire_73 : decode cX8_fire 73 = .ok (.ifCond .eq 6, 3) := by decide +kernel
theorem dX8_fire_76 : decode cX8_fire 76 = .ok (.bipush (-5), 2) := by decide +kernel
theorem dX8_fire_78 : decode cX8_fire 78 = .ok (.ireturn, 1) := by decide +kernel
theorem dX8_fire_79 : decode cX8_fire 79 = .ok (.iinc 4 1, 3) := by decide +kernel
theorem dX8_fire_82 : decode cX8_fire 82 = .ok (.goto (-40), 3) := by decide +kernel
theorem dX8_fire_85 : decode cX8_fire 85 = .ok (.aload_n 0, 1) := by decide +kernel
theorem dX8_fire_86 : decode cX8_fire 86 = .ok (.getfield 12, 3) := by decide +kernel
theorem dX8_fire_89 : decode cX8_fire 89 = .ok (.getfield 111, 3) := by decide +kernel
theorem dX8_fire_92 : decode cX8_fire 92 = .ok (.iconst 4, 1) := by decide +kernel
theorem dX8_fire_93 : decode cX8_fire 93 = .ok (.iadd, 1) := by decide +kernel
theorem dX8_fire_94 : decode cX8_fire 94 = .ok (.bipush 32, 2) := by decide +kernel
theorem dX8_fire_96 : decode cX8_fire 96 = .ok (.if_icmp .le 6, 3) := by decide +kernel
theorem dX8_fire_99 : decode cX8_fire 99 = .ok (.bipush (-4), 2) := by decide +kernel
theorem dX8_fire_101 : decode cX8_fire 101 = .ok (.ireturn, 1) := by decide +kernel
theorem dX8_fire_102 : decode cX8_fire 102 = .ok (.aload_n 0, 1) := by decide +kernel
theorem dX8_fire_103 : decode cX8_fire 103 = .ok (.invokevirtual 76, 3) := by decide +kernel
theorem dX8_fire_106 : decode cX8_fire 106 = .ok (.iconst 0, 1) := by decide +kernel
theorem dX8_fire_107 : decode cX8_fire 107 = .ok (.istore 4, 2) := by decide +kernel
theorem dX8_fire_109 : decode cX8_fire 109 = .ok (.iload 4, 2) := by decide +kernel
theorem dX8_fire_111 : decode cX8_fire 111 = .ok (.iconst 4, 1) := by decide +kernel
theorem dX8_fire_112 : decode cX8_fire 112 = .ok (.if_icmp .ge 35, 3) := by decide +kernel
theorem dX8_fire_115 : decode cX8_fire 115 = .ok (.aload_n 0, 1) := by decide +kernel
theorem dX8_fire_116 : decode cX8_fire 116 = .ok (.getfield 12, 3) := by decide +kernel
theorem dX8_fire_119 : decode cX8_fire 119 = .ok (.iload 4, 2) := by decide +kernel
theorem dX8_fire_121 : decode cX8_fire 121 = .ok (.iload_n 3, 1) := by decide +kernel
theorem dX8_fire_122 : decode cX8_fire 122 = .ok (.aload_n 0, 1) := by decide +kernel
theorem dX8_fire_123 : decode cX8_fire 123 = .ok (.getfield 41, 3) := by decide +kernel
theorem dX8_fire_126 : decode cX8_fire 126 = .ok (.iload_n 1, 1) := by decide +kernel
theorem dX8_fire_127 : decode cX8_fire 127 = .ok (.iload_n 2, 1) := by decide +kernel
theorem dX8_fire_128 : decode cX8_fire 128 = .ok (.iload 4, 2) := by decide +kernel
theorem dX8_fire_130 : decode cX8_fire 130 = .ok (.invokevirtual 104, 3) := by decide +kernel
theorem dX8_fire_133 : decode cX8_fire 133 = .ok (.iadd, 1) := by decide +kernel
theorem dX8_fire_134 : decode cX8_fire 134 = .ok (.invokestatic 84, 3) := by decide +kernel
theorem dX8_fire_137 : decode cX8_fire 137 = .ok (.invokevirtual 92, 3) := by decide +kernel
theorem dX8_fire_140 : decode cX8_fire 140 = .ok (.pop, 1) := by decide +kernel
theorem dX8_fire_141 : decode cX8_fire 141 = .ok (.iinc 4 1, 3) := by decide +kernel
theorem dX8_fire_144 : decode cX8_fire 144 = .ok (.goto (-35), 3) := by decide +kernel
theorem dX8_fire_147 : decode cX8_fire 147 = .ok (.aload_n 0, 1) := by decide +kernel
theorem dX8_fire_148 : decode cX8_fire 148 = .ok (.getfield 12, 3) := by decide +kernel
theorem dX8_fire_151 : decode cX8_fire 151 = .ok (.getfield 111, 3) := by decide +kernel
theorem dX8_fire_154 : decode cX8_fire 154 = .ok (.ireturn, 1) := by decide +kernel
theorem dX8_hearAll_0 : decode cX8_hearAll 0 = .ok (.aload_n 0, 1) := by decide +kernel
theorem dX8_hearAll_1 : decode cX8_hearAll 1 = .ok (.getfield 34, 3) := by decide +kernel
theorem dX8_hearAll_4 : decode cX8_hearAll 4 = .ok (.invokevirtual 115, 3) := by decide +kernel
theorem dX8_hearAll_7 : decode cX8_hearAll 7 = .ok (.bipush (-6), 2) := by decide +kernel
theorem dX8_hearAll_9 : decode cX8_hearAll 9 = .ok (.if_icmp .eq 6, 3) := by decide +kernel
theorem dX8_hearAll_12 : decode cX8_hearAll 12 = .ok (.bipush (-3), 2) := by decide +kernel
theorem dX8_hearAll_14 : decode cX8_hearAll 14 = .ok (.ireturn, 1) := by decide +kernel
theorem dX8_hearAll_15 : decode cX8_hearAll 15 = .ok (.aload_n 0, 1) := by decide +kernel
theorem dX8_hearAll_16 : decode cX8_hearAll 16 = .ok (.invokevirtual 76, 3) := by decide +kernel
theorem dX8_hearAll_19 : decode cX8_hearAll 19 = .ok (.iconst 0, 1) := by decide +kernel
theorem dX8_hearAll_20 : decode cX8_hearAll 20 = .ok (.istore_n 1, 1) := by decide +kernel
theorem dX8_hearAll_21 : decode cX8_hearAll 21 = .ok (.iload_n 1, 1) := by decide +kernel
theorem dX8_hearAll_22 : decode cX8_hearAll 22 = .ok (.aload_n 0, 1) := by decide +kernel
theorem dX8_hearAll_23 : decode cX8_hearAll 23 = .ok (.getfield 34, 3) := by decide +kernel
theorem dX8_hearAll_26 : decode cX8_hearAll 26 = .ok (.getfield 119, 3) := by decide +kernel
theorem dX8_hearAll_29 : decode cX8_hearAll 29 = .ok (.if_icmp .ge 45, 3) := by decide +kernel
theorem dX8_hearAll_32 : decode cX8_hearAll 32 = .ok (.aload_n 0, 1) := by decide +kernel
theorem dX8_hearAll_33 : decode cX8_hearAll 33 = .ok (.getfield 12, 3) := by decide +kernel
theorem dX8_hearAll_36 : decode cX8_hearAll 36 = .ok (.aload_n 0, 1) := by decide +kernel
theorem dX8_hearAll_37 : decode cX8_hearAll 37 = .ok (.getfield 34, 3) := by decide +kernel
theorem dX8_hearAll_40 : decode cX8_hearAll 40 = .ok (.getfield 122, 3) := by decide +kernel
theorem dX8_hearAll_43 : decode cX8_hearAll 43 = .ok (.iload_n 1, 1) := by decide +kernel
theorem dX8_hearAll_44 : decode cX8_hearAll 44 = .ok (.iaload, 1) := by decide +kernel
theorem dX8_hearAll_45 : decode cX8_hearAll 45 = .ok (.invokevirtual 88, 3) := by decide +kernel
theorem dX8_hearAll_48 : decode cX8_hearAll 48 = .ok (.ifCond .ne 26, 3) := by decide +kernel
theorem dX8_hearAll_51 : decode cX8_hearAll 51 = .ok (.aload_n 0, 1) := by decide +kernel
theorem dX8_hearAll_52 : decode cX8_hearAll 52 = .ok (.getfield 12, 3) := by decide +kernel
theorem dX8_hearAll_55 : decode cX8_hearAll 55 = .ok (.aload_n 0, 1) := by decide +kernel
theorem dX8_hearAll_56 : decode cX8_hearAll 56 = .ok (.getfield 34, 3) := by decide +kernel
theorem dX8_hearAll_59 : decode cX8_hearAll 59 = .ok (.getfield 122, 3) := by decide +kernel
theorem dX8_hearAll_62 : decode cX8_hearAll 62 = .ok (.iload_n 1, 1) := by decide +kernel
theorem dX8_hearAll_63 : decode cX8_hearAll 63 = .ok (.iaload, 1) := by decide +kernel
theorem dX8_hearAll_64 : decode cX8_hearAll 64 = .ok (.invokevirtual 92, 3) := by decide +kernel
theorem dX8_hearAll_67 : decode cX8_hearAll 67 = .ok (.pop, 1) := by decide +kernel
theorem dX8_hearAll_68 : decode cX8_hearAll 68 = .ok (.iinc 1 1, 3) := by decide +kernel
theorem dX8_hearAll_71 : decode cX8_hearAll 71 = .ok (.goto (-50), 3) := by decide +kernel
theorem dX8_hearAll_74 : decode cX8_hearAll 74 = .ok (.aload_n 0, 1) := by decide +kernel
theorem dX8_hearAll_75 : decode cX8_hearAll 75 = .ok (.getfield 34, 3) := by decide +kernel
theorem dX8_hearAll_78 : decode cX8_hearAll 78 = .ok (.iconst 0, 1) := by decide +kernel
theorem dX8_hearAll_79 : decode cX8_hearAll 79 = .ok (.putfield 125, 3) := by decide +kernel
theorem dX8_hearAll_82 : decode cX8_hearAll 82 = .ok (.iload_n 1, 1) := by decide +kernel
theorem dX8_hearAll_83 : decode cX8_hearAll 83 = .ok (.ireturn, 1) := by decide +kernel
theorem dX8_forget_0 : decode cX8_forget 0 = .ok (.aload_n 0, 1) := by decide +kernel
theorem dX8_forget_1 : decode cX8_forget 1 = .ok (.getfield 12, 3) := by decide +kernel
theorem dX8_forget_4 : decode cX8_forget 4 = .ok (.iload_n 1, 1) := by decide +kernel
theorem dX8_forget_5 : decode cX8_forget 5 = .ok (.invokevirtual 128, 3) := by decide +kernel
theorem dX8_forget_8 : decode cX8_forget 8 = .ok (.ifCond .ne 5, 3) := by decide +kernel
theorem dX8_forget_11 : decode cX8_forget 11 = .ok (.iconst (-1), 1) := by decide +kernel
theorem dX8_forget_12 : decode cX8_forget 12 = .ok (.ireturn, 1) := by decide +kernel
theorem dX8_forget_13 : decode cX8_forget 13 = .ok (.aload_n 0, 1) := by decide +kernel
theorem dX8_forget_14 : decode cX8_forget 14 = .ok (.getfield 12, 3) := by decide +kernel
theorem dX8_forget_17 : decode cX8_forget 17 = .ok (.iload_n 1, 1) := by decide +kernel
theorem dX8_forget_18 : decode cX8_forget 18 = .ok (.invokevirtual 131, 3) := by decide +kernel
theorem dX8_forget_21 : decode cX8_forget 21 = .ok (.istore_n 2, 1) := by decide +kernel
theorem dX8_forget_22 : decode cX8_forget 22 = .ok (.aload_n 0, 1) := by decide +kernel
theorem dX8_forget_23 : decode cX8_forget 23 = .ok (.invokevirtual 76, 3) := by decide +kernel
theorem dX8_forget_26 : decode cX8_forget 26 = .ok (.aload_n 0, 1) := by decide +kernel
theorem dX8_forget_27 : decode cX8_forget 27 = .ok (.getfield 12, 3) := by decide +kernel
theorem dX8_forget_30 : decode cX8_forget 30 = .ok (.iload_n 1, 1) := by decide +kernel
theorem dX8_forget_31 : decode cX8_forget 31 = .ok (.invokevirtual 134, 3) := by decide +kernel
theorem dX8_forget_34 : decode cX8_forget 34 = .ok (.iload_n 2, 1) := by decide +kernel
theorem dX8_forget_35 : decode cX8_forget 35 = .ok (.ireturn, 1) := by decide +kernel
theorem dX8_clear_0 : decode cX8_clear 0 = .ok (.aload_n 0, 1) := by decide +kernel
theorem dX8_clear_1 : decode cX8_clear 1 = .ok (.getfield 12, 3) := by decide +kernel
theorem dX8_clear_4 : decode cX8_clear 4 = .ok (.getfield 111, 3) := by decide +kernel
theorem dX8_clear_7 : decode cX8_clear 7 = .ok (.istore_n 1, 1) := by decide +kernel
theorem dX8_clear_8 : decode cX8_clear 8 = .ok (.aload_n 0, 1) := by decide +kernel
theorem dX8_clear_9 : decode cX8_clear 9 = .ok (.invokevirtual 76, 3) := by decide +kernel
theorem dX8_clear_12 : decode cX8_clear 12 = .ok (.aload_n 0, 1) := by decide +kernel
theorem dX8_clear_13 : decode cX8_clear 13 = .ok (.getfield 12, 3) := by decide +kernel
theorem dX8_clear_16 : decode cX8_clear 16 = .ok (.iconst 0, 1) := by decide +kernel
theorem dX8_clear_17 : decode cX8_clear 17 = .ok (.putfield 111, 3) := by decide +kernel
theorem dX8_clear_20 : decode cX8_clear 20 = .ok (.iload_n 1, 1) := by decide +kernel
theorem dX8_clear_21 : decode cX8_clear 21 = .ok (.ireturn, 1) := by decide +kernel
theorem dX8_takes_0 : decode cX8_takes 0 = .ok (.iload_n 1, 1) := by decide +kernel
theorem dX8_takes_1 : decode cX8_takes 1 = .ok (.iload_n 2, 1) := by decide +kernel
theorem dX8_takes_2 : decode cX8_takes 2 = .ok (.invokestatic 95, 3) := by decide +kernel
theorem dX8_takes_5 : decode cX8_takes 5 = .ok (.ifCond .eq 10, 3) := by decide +kernel
theorem dX8_takes_8 : decode cX8_takes 8 = .ok (.iload_n 3, 1) := by decide +kernel
theorem dX8_takes_9 : decode cX8_takes 9 = .ok (.invokestatic 79, 3) := by decide +kernel
theorem dX8_takes_12 : decode cX8_takes 12 = .ok (.ifCond .ne 5, 3) := by decide +kernel
theorem dX8_takes_15 : decode cX8_takes 15 = .ok (.iconst (-1), 1) := by decide +kernel
theorem dX8_takes_16 : decode cX8_takes 16 = .ok (.ireturn, 1) := by decide +kernel
theorem dX8_takes_17 : decode cX8_takes 17 = .ok (.aload_n 0, 1) := by decide +kernel
theorem dX8_takes_18 : decode cX8_takes 18 = .ok (.getfield 41, 3) := by decide +kernel
theorem dX8_takes_21 : decode cX8_takes 21 = .ok (.aload_n 0, 1) := by decide +kernel
theorem dX8_takes_22 : decode cX8_takes 22 = .ok (.getfield 12, 3) := by decide +kernel
theorem dX8_takes_25 : decode cX8_takes 25 = .ok (.getfield 73, 3) := by decide +kernel
theorem dX8_takes_28 : decode cX8_takes 28 = .ok (.iconst 0, 1) := by decide +kernel
theorem dX8_takes_29 : decode cX8_takes 29 = .ok (.iaload, 1) := by decide +kernel
theorem dX8_takes_30 : decode cX8_takes 30 = .ok (.invokevirtual 100, 3) := by decide +kernel
theorem dX8_takes_33 : decode cX8_takes 33 = .ok (.aload_n 0, 1) := by decide +kernel
theorem dX8_takes_34 : decode cX8_takes 34 = .ok (.getfield 41, 3) := by decide +kernel
theorem dX8_takes_37 : decode cX8_takes 37 = .ok (.iload_n 1, 1) := by decide +kernel
theorem dX8_takes_38 : decode cX8_takes 38 = .ok (.iload_n 2, 1) := by decide +kernel
theorem dX8_takes_39 : decode cX8_takes 39 = .ok (.iload_n 3, 1) := by decide +kernel
theorem dX8_takes_40 : decode cX8_takes 40 = .ok (.invokevirtual 104, 3) := by decide +kernel
theorem dX8_takes_43 : decode cX8_takes 43 = .ok (.ireturn, 1) := by decide +kernel
theorem dX8_pulse_0 : decode cX8_pulse 0 = .ok (.aload_n 0, 1) := by decide +kernel
theorem dX8_pulse_1 : decode cX8_pulse 1 = .ok (.getfield 12, 3) := by decide +kernel
theorem dX8_pulse_4 : decode cX8_pulse 4 = .ok (.iload_n 1, 1) := by decide +kernel
theorem dX8_pulse_5 : decode cX8_pulse 5 = .ok (.invokevirtual 128, 3) := by decide +kernel
theorem dX8_pulse_8 : decode cX8_pulse 8 = .ok (.ifCond .ne 5, 3) := by decide +kernel
theorem dX8_pulse_11 : decode cX8_pulse 11 = .ok (.iconst (-1), 1) := by decide +kernel
theorem dX8_pulse_12 : decode cX8_pulse 12 = .ok (.ireturn, 1) := by decide +kernel
theorem dX8_pulse_13 : decode cX8_pulse 13 = .ok (.iload_n 2, 1) := by decide +kernel
theorem dX8_pulse_14 : decode cX8_pulse 14 = .ok (.tableswitch 54 0 2 #[26, 35, 44], 26) := by decide +kernel
theorem dX8_pulse_40 : decode cX8_pulse 40 = .ok (.aload_n 0, 1) := by decide +kernel
theorem dX8_pulse_41 : decode cX8_pulse 41 = .ok (.getfield 12, 3) := by decide +kernel
theorem dX8_pulse_44 : decode cX8_pulse 44 = .ok (.iload_n 1, 1) := by decide +kernel
theorem dX8_pulse_45 : decode cX8_pulse 45 = .ok (.invokevirtual 137, 3) := by decide +kernel
theorem dX8_pulse_48 : decode cX8_pulse 48 = .ok (.ireturn, 1) := by decide +kernel
theorem dX8_pulse_49 : decode cX8_pulse 49 = .ok (.aload_n 0, 1) := by decide +kernel
theorem dX8_pulse_50 : decode cX8_pulse 50 = .ok (.getfield 12, 3) := by decide +kernel
theorem dX8_pulse_53 : decode cX8_pulse 53 = .ok (.iload_n 1, 1) := by decide +kernel
theorem dX8_pulse_54 : decode cX8_pulse 54 = .ok (.invokevirtual 131, 3) := by decide +kernel
theorem dX8_pulse_57 : decode cX8_pulse 57 = .ok (.ireturn, 1) := by decide +kernel
theorem dX8_pulse_58 : decode cX8_pulse 58 = .ok (.aload_n 0, 1) := by decide +kernel
theorem dX8_pulse_59 : decode cX8_pulse 59 = .ok (.invokevirtual 140, 3) := by decide +kernel
theorem dX8_pulse_62 : decode cX8_pulse 62 = .ok (.getfield 144, 3) := by decide +kernel
theorem dX8_pulse_65 : decode cX8_pulse 65 = .ok (.iload_n 1, 1) := by decide +kernel
theorem dX8_pulse_66 : decode cX8_pulse 66 = .ok (.iaload, 1) := by decide +kernel
theorem dX8_pulse_67 : decode cX8_pulse 67 = .ok (.ireturn, 1) := by decide +kernel
theorem dX8_pulse_68 : decode cX8_pulse 68 = .ok (.bipush (-2), 2) := by decide +kernel
theorem dX8_pulse_70 : decode cX8_pulse 70 = .ok (.ireturn, 1) := by decide +kernel
theorem dX8_shot_0 : decode cX8_shot 0 = .ok (.aload_n 0, 1) := by decide +kernel
theorem dX8_shot_1 : decode cX8_shot 1 = .ok (.invokevirtual 140, 3) := by decide +kernel
theorem dX8_shot_4 : decode cX8_shot 4 = .ok (.astore_n 3, 1) := by decide +kernel
theorem dX8_shot_5 : decode cX8_shot 5 = .ok (.aload_n 3, 1) := by decide +kernel
theorem dX8_shot_6 : decode cX8_shot 6 = .ok (.iload_n 1, 1) := by decide +kernel
theorem dX8_shot_7 : decode cX8_shot 7 = .ok (.invokevirtual 147, 3) := by decide +kernel
theorem dX8_shot_10 : decode cX8_shot 10 = .ok (.ifCond .ne 5, 3) := by decide +kernel
theorem dX8_shot_13 : decode cX8_shot 13 = .ok (.iconst (-1), 1) := by decide +kernel
theorem dX8_shot_14 : decode cX8_shot 14 = .ok (.ireturn, 1) := by decide +kernel
theorem dX8_shot_15 : decode cX8_shot 15 = .ok (.aload_n 3, 1) := by decide +kernel
theorem dX8_shot_16 : decode cX8_shot 16 = .ok (.getfield 150, 3) := by decide +kernel
theorem dX8_shot_19 : decode cX8_shot 19 = .ok (.iload_n 1, 1) := by decide +kernel
theorem dX8_shot_20 : decode cX8_shot 20 = .ok (.aaload, 1) := by decide +kernel
theorem dX8_shot_21 : decode cX8_shot 21 = .ok (.iload_n 2, 1) := by decide +kernel
theorem dX8_shot_22 : decode cX8_shot 22 = .ok (.invokevirtual 154, 3) := by decide +kernel
theorem dX8_shot_25 : decode cX8_shot 25 = .ok (.ireturn, 1) := by decide +kernel
theorem dX8_count_0 : decode cX8_count 0 = .ok (.iload_n 1, 1) := by decide +kernel
theorem dX8_count_1 : decode cX8_count 1 = .ok (.tableswitch 199 0 12 #[67, 75, 83, 101, 109, 117, 125, 137, 150, 163, 173, 183, 191], 67) := by decide +kernel
theorem dX8_count_68 : decode cX8_count 68 = .ok (.aload_n 0, 1) := by decide +kernel
theorem dX8_count_69 : decode cX8_count 69 = .ok (.getfield 12, 3) := by decide +kernel
theorem dX8_count_72 : decode cX8_count 72 = .ok (.getfield 111, 3) := by decide +kernel
theorem dX8_count_75 : decode cX8_count 75 = .ok (.ireturn, 1) := by decide +kernel
theorem dX8_count_76 : decode cX8_count 76 = .ok (.aload_n 0, 1) := by decide +kernel
theorem dX8_count_77 : decode cX8_count 77 = .ok (.invokevirtual 140, 3) := by decide +kernel
theorem dX8_count_80 : decode cX8_count 80 = .ok (.getfield 159, 3) := by decide +kernel
theorem dX8_count_83 : decode cX8_count 83 = .ok (.ireturn, 1) := by decide +kernel
theorem dX8_count_84 : decode cX8_count 84 = .ok (.aload_n 0, 1) := by decide +kernel
theorem dX8_count_85 : decode cX8_count 85 = .ok (.getfield 12, 3) := by decide +kernel
theorem dX8_count_88 : decode cX8_count 88 = .ok (.getfield 111, 3) := by decide +kernel
theorem dX8_count_91 : decode cX8_count 91 = .ok (.iconst 4, 1) := by decide +kernel
theorem dX8_count_92 : decode cX8_count 92 = .ok (.aload_n 0, 1) := by decide +kernel
theorem dX8_count_93 : decode cX8_count 93 = .ok (.invokevirtual 140, 3) := by decide +kernel
theorem dX8_count_96 : decode cX8_count 96 = .ok (.getfield 159, 3) := by decide +kernel
theorem dX8_count_99 : decode cX8_count 99 = .ok (.imul, 1) := by decide +kernel
theorem dX8_count_100 : decode cX8_count 100 = .ok (.isub, 1) := by decide +kernel
theorem dX8_count_101 : decode cX8_count 101 = .ok (.ireturn, 1) := by decide +kernel
theorem dX8_count_102 : decode cX8_count 102 = .ok (.aload_n 0, 1) := by decide +kernel
theorem dX8_count_103 : decode cX8_count 103 = .ok (.invokevirtual 140, 3) := by decide +kernel
theorem dX8_count_106 : decode cX8_count 106 = .ok (.invokevirtual 160, 3) := by decide +kernel
theorem dX8_count_109 : decode cX8_count 109 = .ok (.ireturn, 1) := by decide +kernel
theorem dX8_count_110 : decode cX8_count 110 = .ok (.aload_n 0, 1) := by decide +kernel
theorem dX8_count_111 : decode cX8_count 111 = .ok (.invokevirtual 140, 3) := by decide +kernel
theorem dX8_count_114 : decode cX8_count 114 = .ok (.invokevirtual 163, 3) := by decide +kernel
theorem dX8_count_117 : decode cX8_count 117 = .ok (.ireturn, 1) := by decide +kernel
theorem dX8_count_118 : decode cX8_count 118 = .ok (.aload_n 0, 1) := by decide +kernel
theorem dX8_count_119 : decode cX8_count 119 = .ok (.invokevirtual 140, 3) := by decide +kernel
theorem dX8_count_122 : decode cX8_count 122 = .ok (.invokevirtual 166, 3) := by decide +kernel
theorem dX8_count_125 : decode cX8_count 125 = .ok (.ireturn, 1) := by decide +kernel
theorem dX8_count_126 : decode cX8_count 126 = .ok (.aload_n 0, 1) := by decide +kernel
theorem dX8_count_127 : decode cX8_count 127 = .ok (.invokevirtual 140, 3) := by decide +kernel
theorem dX8_count_130 : decode cX8_count 130 = .ok (.aload_n 0, 1) := by decide +kernel
theorem dX8_count_131 : decode cX8_count 131 = .ok (.getfield 41, 3) := by decide +kernel
theorem dX8_count_134 : decode cX8_count 134 = .ok (.invokevirtual 169, 3) := by decide +kernel
theorem dX8_count_137 : decode cX8_count 137 = .ok (.ireturn, 1) := by decide +kernel
theorem dX8_count_138 : decode cX8_count 138 = .ok (.aload_n 0, 1) := by decide +kernel
theorem dX8_count_139 : decode cX8_count 139 = .ok (.getfield 12, 3) := by decide +kernel
theorem dX8_count_142 : decode cX8_count 142 = .ok (.getfield 73, 3) := by decide +kernel
theorem dX8_count_145 : decode cX8_count 145 = .ok (.iconst 0, 1) := by decide +kernel
theorem dX8_count_146 : decode cX8_count 146 = .ok (.iaload, 1) := by decide +kernel
theorem dX8_count_147 : decode cX8_count 147 = .ok (.invokestatic 173, 3) := by decide +kernel
theorem dX8_count_150 : decode cX8_count 150 = .ok (.ireturn, 1) := by decide +kernel
theorem dX8_count_151 : decode cX8_count 151 = .ok (.aload_n 0, 1) := by decide +kernel
theorem dX8_count_152 : decode cX8_count 152 = .ok (.getfield 12, 3) := by decide +kernel
theorem dX8_count_155 : decode cX8_count 155 = .ok (.getfield 73, 3) := by decide +kernel
theorem dX8_count_158 : decode cX8_count 158 = .ok (.iconst 0, 1) := by decide +kernel
theorem dX8_count_159 : decode cX8_count 159 = .ok (.iaload, 1) := by decide +kernel
theorem dX8_count_160 : decode cX8_count 160 = .ok (.bipush 100, 2) := by decide +kernel
theorem dX8_count_162 : decode cX8_count 162 = .ok (.iadd, 1) := by decide +kernel
theorem dX8_count_163 : decode cX8_count 163 = .ok (.ireturn, 1) := by decide +kernel
theorem dX8_count_164 : decode cX8_count 164 = .ok (.aload_n 0, 1) := by decide +kernel
theorem dX8_count_165 : decode cX8_count 165 = .ok (.getfield 12, 3) := by decide +kernel
theorem dX8_count_168 : decode cX8_count 168 = .ok (.getfield 73, 3) := by decide +kernel
theorem dX8_count_171 : decode cX8_count 171 = .ok (.iconst 1, 1) := by decide +kernel
theorem dX8_count_172 : decode cX8_count 172 = .ok (.iaload, 1) := by decide +kernel
theorem dX8_count_173 : decode cX8_count 173 = .ok (.ireturn, 1) := by decide +kernel
theorem dX8_count_174 : decode cX8_count 174 = .ok (.aload_n 0, 1) := by decide +kernel
theorem dX8_count_175 : decode cX8_count 175 = .ok (.getfield 12, 3) := by decide +kernel
theorem dX8_count_178 : decode cX8_count 178 = .ok (.getfield 73, 3) := by decide +kernel
theorem dX8_count_181 : decode cX8_count 181 = .ok (.iconst 2, 1) := by decide +kernel
theorem dX8_count_182 : decode cX8_count 182 = .ok (.iaload, 1) := by decide +kernel
theorem dX8_count_183 : decode cX8_count 183 = .ok (.ireturn, 1) := by decide +kernel
theorem dX8_count_184 : decode cX8_count 184 = .ok (.aload_n 0, 1) := by decide +kernel
theorem dX8_count_185 : decode cX8_count 185 = .ok (.getfield 34, 3) := by decide +kernel
theorem dX8_count_188 : decode cX8_count 188 = .ok (.getfield 125, 3) := by decide +kernel
theorem dX8_count_191 : decode cX8_count 191 = .ok (.ireturn, 1) := by decide +kernel
theorem dX8_count_192 : decode cX8_count 192 = .ok (.aload_n 0, 1) := by decide +kernel
theorem dX8_count_193 : decode cX8_count 193 = .ok (.getfield 19, 3) := by decide +kernel
theorem dX8_count_196 : decode cX8_count 196 = .ok (.getfield 176, 3) := by decide +kernel
theorem dX8_count_199 : decode cX8_count 199 = .ok (.ireturn, 1) := by decide +kernel
theorem dX8_count_200 : decode cX8_count 200 = .ok (.bipush (-2), 2) := by decide +kernel
end
section
theorem dX8_count_202 : decode cX8_count 202 = .ok (.ireturn, 1) := by decide +kernel
theorem dX8_fits_0 : decode cX8_fits 0 = .ok (.aload_n 0, 1) := by decide +kernel
theorem dX8_fits_1 : decode cX8_fits 1 = .ok (.invokevirtual 140, 3) := by decide +kernel
theorem dX8_fits_4 : decode cX8_fits 4 = .ok (.astore 4, 2) := by decide +kernel
theorem dX8_fits_6 : decode cX8_fits 6 = .ok (.aload 4, 2) := by decide +kernel
theorem dX8_fits_8 : decode cX8_fits 8 = .ok (.iload_n 1, 1) := by decide +kernel
theorem dX8_fits_9 : decode cX8_fits 9 = .ok (.invokevirtual 147, 3) := by decide +kernel
theorem dX8_fits_12 : decode cX8_fits 12 = .ok (.ifCond .eq 11, 3) := by decide +kernel
theorem dX8_fits_15 : decode cX8_fits 15 = .ok (.iload_n 2, 1) := by decide +kernel
theorem dX8_fits_16 : decode cX8_fits 16 = .ok (.iload_n 3, 1) := by decide +kernel
theorem dX8_fits_17 : decode cX8_fits 17 = .ok (.invokestatic 95, 3) := by decide +kernel
theorem dX8_fits_20 : decode cX8_fits 20 = .ok (.ifCond .ne 5, 3) := by decide +kernel
theorem dX8_fits_23 : decode cX8_fits 23 = .ok (.iconst (-1), 1) := by decide +kernel
theorem dX8_fits_24 : decode cX8_fits 24 = .ok (.ireturn, 1) := by decide +kernel
theorem dX8_fits_25 : decode cX8_fits 25 = .ok (.aload_n 0, 1) := by decide +kernel
theorem dX8_fits_26 : decode cX8_fits 26 = .ok (.getfield 48, 3) := by decide +kernel
theorem dX8_fits_29 : decode cX8_fits 29 = .ok (.aload_n 0, 1) := by decide +kernel
theorem dX8_fits_30 : decode cX8_fits 30 = .ok (.getfield 41, 3) := by decide +kernel
theorem dX8_fits_33 : decode cX8_fits 33 = .ok (.aload_n 0, 1) := by decide +kernel
theorem dX8_fits_34 : decode cX8_fits 34 = .ok (.getfield 12, 3) := by decide +kernel
theorem dX8_fits_37 : decode cX8_fits 37 = .ok (.aload 4, 2) := by decide +kernel
theorem dX8_fits_39 : decode cX8_fits 39 = .ok (.getfield 150, 3) := by decide +kernel
theorem dX8_fits_42 : decode cX8_fits 42 = .ok (.iload_n 1, 1) := by decide +kernel
theorem dX8_fits_43 : decode cX8_fits 43 = .ok (.aaload, 1) := by decide +kernel
theorem dX8_fits_44 : decode cX8_fits 44 = .ok (.iload_n 2, 1) := by decide +kernel
theorem dX8_fits_45 : decode cX8_fits 45 = .ok (.iload_n 3, 1) := by decide +kernel
theorem dX8_fits_46 : decode cX8_fits 46 = .ok (.invokevirtual 177, 3) := by decide +kernel
theorem dX8_fits_49 : decode cX8_fits 49 = .ok (.ireturn, 1) := by decide +kernel
theorem dX8_mean_0 : decode cX8_mean 0 = .ok (.iload_n 1, 1) := by decide +kernel
theorem dX8_mean_1 : decode cX8_mean 1 = .ok (.ifCond .eq 11, 3) := by decide +kernel
theorem dX8_mean_4 : decode cX8_mean 4 = .ok (.iload_n 1, 1) := by decide +kernel
theorem dX8_mean_5 : decode cX8_mean 5 = .ok (.iconst 1, 1) := by decide +kernel
theorem dX8_mean_6 : decode cX8_mean 6 = .ok (.if_icmp .eq 6, 3) := by decide +kernel
theorem dX8_mean_9 : decode cX8_mean 9 = .ok (.bipush (-2), 2) := by decide +kernel
theorem dX8_mean_11 : decode cX8_mean 11 = .ok (.ireturn, 1) := by decide +kernel
theorem dX8_mean_12 : decode cX8_mean 12 = .ok (.aload_n 0, 1) := by decide +kernel
theorem dX8_mean_13 : decode cX8_mean 13 = .ok (.invokevirtual 140, 3) := by decide +kernel
theorem dX8_mean_16 : decode cX8_mean 16 = .ok (.astore_n 2, 1) := by decide +kernel
theorem dX8_mean_17 : decode cX8_mean 17 = .ok (.aload_n 2, 1) := by decide +kernel
theorem dX8_mean_18 : decode cX8_mean 18 = .ok (.getfield 159, 3) := by decide +kernel
theorem dX8_mean_21 : decode cX8_mean 21 = .ok (.ifCond .ne 6, 3) := by decide +kernel
theorem dX8_mean_24 : decode cX8_mean 24 = .ok (.bipush (-6), 2) := by decide +kernel
theorem dX8_mean_26 : decode cX8_mean 26 = .ok (.ireturn, 1) := by decide +kernel
theorem dX8_mean_27 : decode cX8_mean 27 = .ok (.iload_n 1, 1) := by decide +kernel
theorem dX8_mean_28 : decode cX8_mean 28 = .ok (.ifCond .ne 10, 3) := by decide +kernel
theorem dX8_mean_31 : decode cX8_mean 31 = .ok (.aload_n 2, 1) := by decide +kernel
theorem dX8_mean_32 : decode cX8_mean 32 = .ok (.invokevirtual 181, 3) := by decide +kernel
theorem dX8_mean_35 : decode cX8_mean 35 = .ok (.goto 7, 3) := by decide +kernel
theorem dX8_mean_38 : decode cX8_mean 38 = .ok (.aload_n 2, 1) := by decide +kernel
theorem dX8_mean_39 : decode cX8_mean 39 = .ok (.invokevirtual 184, 3) := by decide +kernel
theorem dX8_mean_42 : decode cX8_mean 42 = .ok (.bipush 100, 2) := by decide +kernel
theorem dX8_mean_44 : decode cX8_mean 44 = .ok (.imul, 1) := by decide +kernel
theorem dX8_mean_45 : decode cX8_mean 45 = .ok (.aload_n 2, 1) := by decide +kernel
theorem dX8_mean_46 : decode cX8_mean 46 = .ok (.getfield 159, 3) := by decide +kernel
theorem dX8_mean_49 : decode cX8_mean 49 = .ok (.idiv, 1) := by decide +kernel
theorem dX8_mean_50 : decode cX8_mean 50 = .ok (.ireturn, 1) := by decide +kernel
theorem dX8_ifHeat_0 : decode cX8_ifHeat 0 = .ok (.iload_n 1, 1) := by decide +kernel
theorem dX8_ifHeat_1 : decode cX8_ifHeat 1 = .ok (.getstatic 66, 3) := by decide +kernel
theorem dX8_ifHeat_4 : decode cX8_ifHeat 4 = .ok (.iconst 0, 1) := by decide +kernel
theorem dX8_ifHeat_5 : decode cX8_ifHeat 5 = .ok (.iaload, 1) := by decide +kernel
theorem dX8_ifHeat_6 : decode cX8_ifHeat 6 = .ok (.if_icmp .lt 12, 3) := by decide +kernel
theorem dX8_ifHeat_9 : decode cX8_ifHeat 9 = .ok (.iload_n 1, 1) := by decide +kernel
theorem dX8_ifHeat_10 : decode cX8_ifHeat 10 = .ok (.getstatic 70, 3) := by decide +kernel
theorem dX8_ifHeat_13 : decode cX8_ifHeat 13 = .ok (.iconst 0, 1) := by decide +kernel
theorem dX8_ifHeat_14 : decode cX8_ifHeat 14 = .ok (.iaload, 1) := by decide +kernel
theorem dX8_ifHeat_15 : decode cX8_ifHeat 15 = .ok (.if_icmp .le 6, 3) := by decide +kernel
theorem dX8_ifHeat_18 : decode cX8_ifHeat 18 = .ok (.bipush (-2), 2) := by decide +kernel
theorem dX8_ifHeat_20 : decode cX8_ifHeat 20 = .ok (.ireturn, 1) := by decide +kernel
theorem dX8_ifHeat_21 : decode cX8_ifHeat 21 = .ok (.iload_n 2, 1) := by decide +kernel
theorem dX8_ifHeat_22 : decode cX8_ifHeat 22 = .ok (.ifCond .lt 8, 3) := by decide +kernel
theorem dX8_ifHeat_25 : decode cX8_ifHeat 25 = .ok (.iload_n 2, 1) := by decide +kernel
theorem dX8_ifHeat_26 : decode cX8_ifHeat 26 = .ok (.iconst 2, 1) := by decide +kernel
theorem dX8_ifHeat_27 : decode cX8_ifHeat 27 = .ok (.if_icmp .le 6, 3) := by decide +kernel
theorem dX8_ifHeat_30 : decode cX8_ifHeat 30 = .ok (.bipush (-2), 2) := by decide +kernel
theorem dX8_ifHeat_32 : decode cX8_ifHeat 32 = .ok (.ireturn, 1) := by decide +kernel
theorem dX8_ifHeat_33 : decode cX8_ifHeat 33 = .ok (.aload_n 0, 1) := by decide +kernel
theorem dX8_ifHeat_34 : decode cX8_ifHeat 34 = .ok (.iload_n 1, 1) := by decide +kernel
theorem dX8_ifHeat_35 : decode cX8_ifHeat 35 = .ok (.iconst (-1), 1) := by decide +kernel
theorem dX8_ifHeat_36 : decode cX8_ifHeat 36 = .ok (.invokevirtual 187, 3) := by decide +kernel
theorem dX8_ifHeat_39 : decode cX8_ifHeat 39 = .ok (.iload_n 2, 1) := by decide +kernel
theorem dX8_ifHeat_40 : decode cX8_ifHeat 40 = .ok (.lookupswitch 44 #[(0, 28), (1, 36)], 28) := by decide +kernel
theorem dX8_ifHeat_68 : decode cX8_ifHeat 68 = .ok (.aload_n 0, 1) := by decide +kernel
theorem dX8_ifHeat_69 : decode cX8_ifHeat 69 = .ok (.getfield 59, 3) := by decide +kernel
theorem dX8_ifHeat_72 : decode cX8_ifHeat 72 = .ok (.getfield 159, 3) := by decide +kernel
theorem dX8_ifHeat_75 : decode cX8_ifHeat 75 = .ok (.ireturn, 1) := by decide +kernel
theorem dX8_ifHeat_76 : decode cX8_ifHeat 76 = .ok (.aload_n 0, 1) := by decide +kernel
theorem dX8_ifHeat_77 : decode cX8_ifHeat 77 = .ok (.getfield 59, 3) := by decide +kernel
theorem dX8_ifHeat_80 : decode cX8_ifHeat 80 = .ok (.invokevirtual 160, 3) := by decide +kernel
theorem dX8_ifHeat_83 : decode cX8_ifHeat 83 = .ok (.ireturn, 1) := by decide +kernel
theorem dX8_ifHeat_84 : decode cX8_ifHeat 84 = .ok (.aload_n 0, 1) := by decide +kernel
theorem dX8_ifHeat_85 : decode cX8_ifHeat 85 = .ok (.getfield 59, 3) := by decide +kernel
theorem dX8_ifHeat_88 : decode cX8_ifHeat 88 = .ok (.invokevirtual 166, 3) := by decide +kernel
theorem dX8_ifHeat_91 : decode cX8_ifHeat 91 = .ok (.ireturn, 1) := by decide +kernel
theorem dX8_bestHeat_0 : decode cX8_bestHeat 0 = .ok (.getstatic 66, 3) := by decide +kernel
theorem dX8_bestHeat_3 : decode cX8_bestHeat 3 = .ok (.iconst 0, 1) := by decide +kernel
theorem dX8_bestHeat_4 : decode cX8_bestHeat 4 = .ok (.iaload, 1) := by decide +kernel
theorem dX8_bestHeat_5 : decode cX8_bestHeat 5 = .ok (.istore_n 1, 1) := by decide +kernel
theorem dX8_bestHeat_6 : decode cX8_bestHeat 6 = .ok (.iconst (-1), 1) := by decide +kernel
theorem dX8_bestHeat_7 : decode cX8_bestHeat 7 = .ok (.istore_n 2, 1) := by decide +kernel
theorem dX8_bestHeat_8 : decode cX8_bestHeat 8 = .ok (.iconst 0, 1) := by decide +kernel
theorem dX8_bestHeat_9 : decode cX8_bestHeat 9 = .ok (.istore_n 3, 1) := by decide +kernel
theorem dX8_bestHeat_10 : decode cX8_bestHeat 10 = .ok (.getstatic 66, 3) := by decide +kernel
theorem dX8_bestHeat_13 : decode cX8_bestHeat 13 = .ok (.iconst 0, 1) := by decide +kernel
theorem dX8_bestHeat_14 : decode cX8_bestHeat 14 = .ok (.iaload, 1) := by decide +kernel
theorem dX8_bestHeat_15 : decode cX8_bestHeat 15 = .ok (.istore 4, 2) := by decide +kernel
theorem dX8_bestHeat_17 : decode cX8_bestHeat 17 = .ok (.iload 4, 2) := by decide +kernel
theorem dX8_bestHeat_19 : decode cX8_bestHeat 19 = .ok (.getstatic 70, 3) := by decide +kernel
theorem dX8_bestHeat_22 : decode cX8_bestHeat 22 = .ok (.iconst 0, 1) := by decide +kernel
theorem dX8_bestHeat_23 : decode cX8_bestHeat 23 = .ok (.iaload, 1) := by decide +kernel
theorem dX8_bestHeat_24 : decode cX8_bestHeat 24 = .ok (.if_icmp .gt 67, 3) := by decide +kernel
theorem dX8_bestHeat_27 : decode cX8_bestHeat 27 = .ok (.aload_n 0, 1) := by decide +kernel
theorem dX8_bestHeat_28 : decode cX8_bestHeat 28 = .ok (.iload 4, 2) := by decide +kernel
theorem dX8_bestHeat_30 : decode cX8_bestHeat 30 = .ok (.iconst (-1), 1) := by decide +kernel
theorem dX8_bestHeat_31 : decode cX8_bestHeat 31 = .ok (.invokevirtual 187, 3) := by decide +kernel
theorem dX8_bestHeat_34 : decode cX8_bestHeat 34 = .ok (.aload_n 0, 1) := by decide +kernel
theorem dX8_bestHeat_35 : decode cX8_bestHeat 35 = .ok (.getfield 59, 3) := by decide +kernel
theorem dX8_bestHeat_38 : decode cX8_bestHeat 38 = .ok (.invokevirtual 166, 3) := by decide +kernel
theorem dX8_bestHeat_41 : decode cX8_bestHeat 41 = .ok (.istore 5, 2) := by decide +kernel
theorem dX8_bestHeat_43 : decode cX8_bestHeat 43 = .ok (.aload_n 0, 1) := by decide +kernel
theorem dX8_bestHeat_44 : decode cX8_bestHeat 44 = .ok (.getfield 59, 3) := by decide +kernel
theorem dX8_bestHeat_47 : decode cX8_bestHeat 47 = .ok (.getfield 159, 3) := by decide +kernel
theorem dX8_bestHeat_50 : decode cX8_bestHeat 50 = .ok (.iload_n 2, 1) := by decide +kernel
theorem dX8_bestHeat_51 : decode cX8_bestHeat 51 = .ok (.if_icmp .gt 20, 3) := by decide +kernel
theorem dX8_bestHeat_54 : decode cX8_bestHeat 54 = .ok (.aload_n 0, 1) := by decide +kernel
theorem dX8_bestHeat_55 : decode cX8_bestHeat 55 = .ok (.getfield 59, 3) := by decide +kernel
theorem dX8_bestHeat_58 : decode cX8_bestHeat 58 = .ok (.getfield 159, 3) := by decide +kernel
theorem dX8_bestHeat_61 : decode cX8_bestHeat 61 = .ok (.iload_n 2, 1) := by decide +kernel
theorem dX8_bestHeat_62 : decode cX8_bestHeat 62 = .ok (.if_icmp .ne 23, 3) := by decide +kernel
theorem dX8_bestHeat_65 : decode cX8_bestHeat 65 = .ok (.iload 5, 2) := by decide +kernel
theorem dX8_bestHeat_67 : decode cX8_bestHeat 67 = .ok (.iload_n 3, 1) := by decide +kernel
theorem dX8_bestHeat_68 : decode cX8_bestHeat 68 = .ok (.if_icmp .ge 17, 3) := by decide +kernel
theorem dX8_bestHeat_71 : decode cX8_bestHeat 71 = .ok (.iload 4, 2) := by decide +kernel
theorem dX8_bestHeat_73 : decode cX8_bestHeat 73 = .ok (.istore_n 1, 1) := by decide +kernel
theorem dX8_bestHeat_74 : decode cX8_bestHeat 74 = .ok (.aload_n 0, 1) := by decide +kernel
theorem dX8_bestHeat_75 : decode cX8_bestHeat 75 = .ok (.getfield 59, 3) := by decide +kernel
theorem dX8_bestHeat_78 : decode cX8_bestHeat 78 = .ok (.getfield 159, 3) := by decide +kernel
theorem dX8_bestHeat_81 : decode cX8_bestHeat 81 = .ok (.istore_n 2, 1) := by decide +kernel
theorem dX8_bestHeat_82 : decode cX8_bestHeat 82 = .ok (.iload 5, 2) := by decide +kernel
theorem dX8_bestHeat_84 : decode cX8_bestHeat 84 = .ok (.istore_n 3, 1) := by decide +kernel
theorem dX8_bestHeat_85 : decode cX8_bestHeat 85 = .ok (.iinc 4 10, 3) := by decide +kernel
theorem dX8_bestHeat_88 : decode cX8_bestHeat 88 = .ok (.goto (-71), 3) := by decide +kernel
theorem dX8_bestHeat_91 : decode cX8_bestHeat 91 = .ok (.iload_n 1, 1) := by decide +kernel
theorem dX8_bestHeat_92 : decode cX8_bestHeat 92 = .ok (.bipush 100, 2) := by decide +kernel
theorem dX8_bestHeat_94 : decode cX8_bestHeat 94 = .ok (.iadd, 1) := by decide +kernel
theorem dX8_bestHeat_95 : decode cX8_bestHeat 95 = .ok (.ireturn, 1) := by decide +kernel
theorem dX8_ifForgot_0 : decode cX8_ifForgot 0 = .ok (.aload_n 0, 1) := by decide +kernel
theorem dX8_ifForgot_1 : decode cX8_ifForgot 1 = .ok (.getfield 12, 3) := by decide +kernel
theorem dX8_ifForgot_4 : decode cX8_ifForgot 4 = .ok (.iload_n 1, 1) := by decide +kernel
theorem dX8_ifForgot_5 : decode cX8_ifForgot 5 = .ok (.invokevirtual 128, 3) := by decide +kernel
theorem dX8_ifForgot_8 : decode cX8_ifForgot 8 = .ok (.ifCond .ne 5, 3) := by decide +kernel
theorem dX8_ifForgot_11 : decode cX8_ifForgot 11 = .ok (.iconst (-1), 1) := by decide +kernel
theorem dX8_ifForgot_12 : decode cX8_ifForgot 12 = .ok (.ireturn, 1) := by decide +kernel
theorem dX8_ifForgot_13 : decode cX8_ifForgot 13 = .ok (.aload_n 0, 1) := by decide +kernel
theorem dX8_ifForgot_14 : decode cX8_ifForgot 14 = .ok (.aload_n 0, 1) := by decide +kernel
theorem dX8_ifForgot_15 : decode cX8_ifForgot 15 = .ok (.getfield 12, 3) := by decide +kernel
theorem dX8_ifForgot_18 : decode cX8_ifForgot 18 = .ok (.getfield 73, 3) := by decide +kernel
theorem dX8_ifForgot_21 : decode cX8_ifForgot 21 = .ok (.iconst 0, 1) := by decide +kernel
theorem dX8_ifForgot_22 : decode cX8_ifForgot 22 = .ok (.iaload, 1) := by decide +kernel
theorem dX8_ifForgot_23 : decode cX8_ifForgot 23 = .ok (.iload_n 1, 1) := by decide +kernel
theorem dX8_ifForgot_24 : decode cX8_ifForgot 24 = .ok (.invokevirtual 187, 3) := by decide +kernel
theorem dX8_ifForgot_27 : decode cX8_ifForgot 27 = .ok (.aload_n 0, 1) := by decide +kernel
theorem dX8_ifForgot_28 : decode cX8_ifForgot 28 = .ok (.getfield 59, 3) := by decide +kernel
theorem dX8_ifForgot_31 : decode cX8_ifForgot 31 = .ok (.getfield 159, 3) := by decide +kernel
theorem dX8_ifForgot_34 : decode cX8_ifForgot 34 = .ok (.ireturn, 1) := by decide +kernel
theorem dX8_put_0 : decode cX8_put 0 = .ok (.iconst 0, 1) := by decide +kernel
theorem dX8_put_1 : decode cX8_put 1 = .ok (.istore_n 3, 1) := by decide +kernel
theorem dX8_put_2 : decode cX8_put 2 = .ok (.lload_n 1, 1) := by decide +kernel
theorem dX8_put_3 : decode cX8_put 3 = .ok (.lstore 4, 2) := by decide +kernel
theorem dX8_put_5 : decode cX8_put 5 = .ok (.iload_n 3, 1) := by decide +kernel
theorem dX8_put_6 : decode cX8_put 6 = .ok (.bipush 8, 2) := by decide +kernel
theorem dX8_put_8 : decode cX8_put 8 = .ok (.if_icmp .ge 56, 3) := by decide +kernel
theorem dX8_put_11 : decode cX8_put 11 = .ok (.lload 4, 2) := by decide +kernel
theorem dX8_put_13 : decode cX8_put 13 = .ok (.ldc2_w 191, 3) := by decide +kernel
theorem dX8_put_16 : decode cX8_put 16 = .ok (.land, 1) := by decide +kernel
theorem dX8_put_17 : decode cX8_put 17 = .ok (.lconst 0, 1) := by decide +kernel
theorem dX8_put_18 : decode cX8_put 18 = .ok (.lcmp, 1) := by decide +kernel
theorem dX8_put_19 : decode cX8_put 19 = .ok (.ifCond .eq 45, 3) := by decide +kernel
theorem dX8_put_22 : decode cX8_put 22 = .ok (.lload 4, 2) := by decide +kernel
theorem dX8_put_24 : decode cX8_put 24 = .ok (.ldc2_w 191, 3) := by decide +kernel
theorem dX8_put_27 : decode cX8_put 27 = .ok (.land, 1) := by decide +kernel
theorem dX8_put_28 : decode cX8_put 28 = .ok (.lstore 6, 2) := by decide +kernel
theorem dX8_put_30 : decode cX8_put 30 = .ok (.lload 6, 2) := by decide +kernel
theorem dX8_put_32 : decode cX8_put 32 = .ok (.ldc2_w 193, 3) := by decide +kernel
theorem dX8_put_35 : decode cX8_put 35 = .ok (.lcmp, 1) := by decide +kernel
theorem dX8_put_36 : decode cX8_put 36 = .ok (.ifCond .lt 12, 3) := by decide +kernel
theorem dX8_put_39 : decode cX8_put 39 = .ok (.lload 6, 2) := by decide +kernel
theorem dX8_put_41 : decode cX8_put 41 = .ok (.ldc2_w 195, 3) := by decide +kernel
theorem dX8_put_44 : decode cX8_put 44 = .ok (.lcmp, 1) := by decide +kernel
theorem dX8_put_45 : decode cX8_put 45 = .ok (.ifCond .le 6, 3) := by decide +kernel
theorem dX8_put_48 : decode cX8_put 48 = .ok (.bipush (-2), 2) := by decide +kernel
theorem dX8_put_50 : decode cX8_put 50 = .ok (.ireturn, 1) := by decide +kernel
theorem dX8_put_51 : decode cX8_put 51 = .ok (.lload 4, 2) := by decide +kernel
theorem dX8_put_53 : decode cX8_put 53 = .ok (.bipush 8, 2) := by decide +kernel
theorem dX8_put_55 : decode cX8_put 55 = .ok (.lushr, 1) := by decide +kernel
theorem dX8_put_56 : decode cX8_put 56 = .ok (.lstore 4, 2) := by decide +kernel
theorem dX8_put_58 : decode cX8_put 58 = .ok (.iinc 3 1, 3) := by decide +kernel
theorem dX8_put_61 : decode cX8_put 61 = .ok (.goto (-56), 3) := by decide +kernel
theorem dX8_put_64 : decode cX8_put 64 = .ok (.iload_n 3, 1) := by decide +kernel
theorem dX8_put_65 : decode cX8_put 65 = .ok (.ifCond .eq 10, 3) := by decide +kernel
theorem dX8_put_68 : decode cX8_put 68 = .ok (.lload 4, 2) := by decide +kernel
theorem dX8_put_70 : decode cX8_put 70 = .ok (.lconst 0, 1) := by decide +kernel
theorem dX8_put_71 : decode cX8_put 71 = .ok (.lcmp, 1) := by decide +kernel
theorem dX8_put_72 : decode cX8_put 72 = .ok (.ifCond .eq 6, 3) := by decide +kernel
theorem dX8_put_75 : decode cX8_put 75 = .ok (.bipush (-2), 2) := by decide +kernel
theorem dX8_put_77 : decode cX8_put 77 = .ok (.ireturn, 1) := by decide +kernel
theorem dX8_put_78 : decode cX8_put 78 = .ok (.aload_n 0, 1) := by decide +kernel
theorem dX8_put_79 : decode cX8_put 79 = .ok (.getfield 34, 3) := by decide +kernel
theorem dX8_put_82 : decode cX8_put 82 = .ok (.getfield 125, 3) := by decide +kernel
theorem dX8_put_85 : decode cX8_put 85 = .ok (.iload_n 3, 1) := by decide +kernel
theorem dX8_put_86 : decode cX8_put 86 = .ok (.iadd, 1) := by decide +kernel
theorem dX8_put_87 : decode cX8_put 87 = .ok (.bipush 80, 2) := by decide +kernel
theorem dX8_put_89 : decode cX8_put 89 = .ok (.if_icmp .le 6, 3) := by decide +kernel
theorem dX8_put_92 : decode cX8_put 92 = .ok (.bipush (-4), 2) := by decide +kernel
theorem dX8_put_94 : decode cX8_put 94 = .ok (.ireturn, 1) := by decide +kernel
theorem dX8_put_95 : decode cX8_put 95 = .ok (.iload_n 3, 1) := by decide +kernel
theorem dX8_put_96 : decode cX8_put 96 = .ok (.iconst 1, 1) := by decide +kernel
theorem dX8_put_97 : decode cX8_put 97 = .ok (.isub, 1) := by decide +kernel
theorem dX8_put_98 : decode cX8_put 98 = .ok (.istore 6, 2) := by decide +kernel
theorem dX8_put_100 : decode cX8_put 100 = .ok (.iload 6, 2) := by decide +kernel
theorem dX8_put_102 : decode cX8_put 102 = .ok (.ifCond .lt 29, 3) := by decide +kernel
theorem dX8_put_105 : decode cX8_put 105 = .ok (.aload_n 0, 1) := by decide +kernel
theorem dX8_put_106 : decode cX8_put 106 = .ok (.getfield 34, 3) := by decide +kernel
theorem dX8_put_109 : decode cX8_put 109 = .ok (.lload_n 1, 1) := by decide +kernel
theorem dX8_put_110 : decode cX8_put 110 = .ok (.bipush 8, 2) := by decide +kernel
theorem dX8_put_112 : decode cX8_put 112 = .ok (.iload 6, 2) := by decide +kernel
theorem dX8_put_114 : decode cX8_put 114 = .ok (.imul, 1) := by decide +kernel
theorem dX8_put_115 : decode cX8_put 115 = .ok (.lushr, 1) := by decide +kernel
theorem dX8_put_116 : decode cX8_put 116 = .ok (.ldc2_w 191, 3) := by decide +kernel
theorem dX8_put_119 : decode cX8_put 119 = .ok (.land, 1) := by decide +kernel
theorem dX8_put_120 : decode cX8_put 120 = .ok (.l2i, 1) := by decide +kernel
theorem dX8_put_121 : decode cX8_put 121 = .ok (.i2c, 1) := by decide +kernel
theorem dX8_put_122 : decode cX8_put 122 = .ok (.invokevirtual 197, 3) := by decide +kernel
theorem dX8_put_125 : decode cX8_put 125 = .ok (.iinc 6 (-1), 3) := by decide +kernel
theorem dX8_put_128 : decode cX8_put 128 = .ok (.goto (-28), 3) := by decide +kernel
theorem dX8_put_131 : decode cX8_put 131 = .ok (.aload_n 0, 1) := by decide +kernel
theorem dX8_put_132 : decode cX8_put 132 = .ok (.getfield 34, 3) := by decide +kernel
theorem dX8_put_135 : decode cX8_put 135 = .ok (.getfield 125, 3) := by decide +kernel
theorem dX8_put_138 : decode cX8_put 138 = .ok (.ireturn, 1) := by decide +kernel
theorem dX8_wipe_0 : decode cX8_wipe 0 = .ok (.aload_n 0, 1) := by decide +kernel
theorem dX8_wipe_1 : decode cX8_wipe 1 = .ok (.getfield 34, 3) := by decide +kernel
theorem dX8_wipe_4 : decode cX8_wipe 4 = .ok (.getfield 125, 3) := by decide +kernel
theorem dX8_wipe_7 : decode cX8_wipe 7 = .ok (.istore_n 1, 1) := by decide +kernel
theorem dX8_wipe_8 : decode cX8_wipe 8 = .ok (.aload_n 0, 1) := by decide +kernel
theorem dX8_wipe_9 : decode cX8_wipe 9 = .ok (.getfield 34, 3) := by decide +kernel
theorem dX8_wipe_12 : decode cX8_wipe 12 = .ok (.iconst 0, 1) := by decide +kernel
theorem dX8_wipe_13 : decode cX8_wipe 13 = .ok (.putfield 125, 3) := by decide +kernel
theorem dX8_wipe_16 : decode cX8_wipe 16 = .ok (.iload_n 1, 1) := by decide +kernel
theorem dX8_wipe_17 : decode cX8_wipe 17 = .ok (.ireturn, 1) := by decide +kernel
theorem dX8_fault_0 : decode cX8_fault 0 = .ok (.aload_n 0, 1) := by decide +kernel
theorem dX8_fault_1 : decode cX8_fault 1 = .ok (.getfield 34, 3) := by decide +kernel
theorem dX8_fault_4 : decode cX8_fault 4 = .ok (.invokevirtual 115, 3) := by decide +kernel
theorem dX8_fault_7 : decode cX8_fault 7 = .ok (.ireturn, 1) := by decide +kernel
theorem dX8_undo_0 : decode cX8_undo 0 = .ok (.aload_n 0, 1) := by decide +kernel
theorem dX8_undo_1 : decode cX8_undo 1 = .ok (.getfield 19, 3) := by decide +kernel
theorem dX8_undo_4 : decode cX8_undo 4 = .ok (.getfield 176, 3) := by decide +kernel
theorem dX8_undo_7 : decode cX8_undo 7 = .ok (.ifCond .ne 6, 3) := by decide +kernel
theorem dX8_undo_10 : decode cX8_undo 10 = .ok (.bipush (-5), 2) := by decide +kernel
theorem dX8_undo_12 : decode cX8_undo 12 = .ok (.ireturn, 1) := by decide +kernel
theorem dX8_undo_13 : decode cX8_undo 13 = .ok (.aload_n 0, 1) := by decide +kernel
theorem dX8_undo_14 : decode cX8_undo 14 = .ok (.getfield 19, 3) := by decide +kernel
theorem dX8_undo_17 : decode cX8_undo 17 = .ok (.aload_n 0, 1) := by decide +kernel
theorem dX8_undo_18 : decode cX8_undo 18 = .ok (.getfield 12, 3) := by decide +kernel
theorem dX8_undo_21 : decode cX8_undo 21 = .ok (.invokevirtual 201, 3) := by decide +kernel
theorem dX8_undo_24 : decode cX8_undo 24 = .ok (.aload_n 0, 1) := by decide +kernel
theorem dX8_undo_25 : decode cX8_undo 25 = .ok (.iconst 1, 1) := by decide +kernel
theorem dX8_undo_26 : decode cX8_undo 26 = .ok (.putfield 62, 3) := by decide +kernel
theorem dX8_undo_29 : decode cX8_undo 29 = .ok (.aload_n 0, 1) := by decide +kernel
theorem dX8_undo_30 : decode cX8_undo 30 = .ok (.getfield 19, 3) := by decide +kernel
theorem dX8_undo_33 : decode cX8_undo 33 = .ok (.getfield 176, 3) := by decide +kernel
theorem dX8_undo_36 : decode cX8_undo 36 = .ok (.ireturn, 1) := by decide +kernel
theorem dX8_save_0 : decode cX8_save 0 = .ok (.iload_n 1, 1) := by decide +kernel
theorem dX8_save_1 : decode cX8_save 1 = .ok (.ifCond .lt 8, 3) := by decide +kernel
theorem dX8_save_4 : decode cX8_save 4 = .ok (.iload_n 1, 1) := by decide +kernel
theorem dX8_save_5 : decode cX8_save 5 = .ok (.iconst 2, 1) := by decide +kernel
theorem dX8_save_6 : decode cX8_save 6 = .ok (.if_icmp .lt 6, 3) := by decide +kernel
theorem dX8_save_9 : decode cX8_save 9 = .ok (.bipush (-2), 2) := by decide +kernel
theorem dX8_save_11 : decode cX8_save 11 = .ok (.ireturn, 1) := by decide +kernel
theorem dX8_save_12 : decode cX8_save 12 = .ok (.aload_n 0, 1) := by decide +kernel
theorem dX8_save_13 : decode cX8_save 13 = .ok (.getfield 23, 3) := by decide +kernel
theorem dX8_save_16 : decode cX8_save 16 = .ok (.iload_n 1, 1) := by decide +kernel
theorem dX8_save_17 : decode cX8_save 17 = .ok (.aaload, 1) := by decide +kernel
theorem dX8_save_18 : decode cX8_save 18 = .ok (.aload_n 0, 1) := by decide +kernel
theorem dX8_save_19 : decode cX8_save 19 = .ok (.getfield 12, 3) := by decide +kernel
theorem dX8_save_22 : decode cX8_save 22 = .ok (.invokevirtual 205, 3) := by decide +kernel
theorem dX8_save_25 : decode cX8_save 25 = .ok (.aload_n 0, 1) := by decide +kernel
theorem dX8_save_26 : decode cX8_save 26 = .ok (.getfield 27, 3) := by decide +kernel
theorem dX8_save_29 : decode cX8_save 29 = .ok (.iload_n 1, 1) := by decide +kernel
theorem dX8_save_30 : decode cX8_save 30 = .ok (.iconst 1, 1) := by decide +kernel
theorem dX8_save_31 : decode cX8_save 31 = .ok (.bastore, 1) := by decide +kernel
theorem dX8_save_32 : decode cX8_save 32 = .ok (.aload_n 0, 1) := by decide +kernel
theorem dX8_save_33 : decode cX8_save 33 = .ok (.getfield 12, 3) := by decide +kernel
theorem dX8_save_36 : decode cX8_save 36 = .ok (.getfield 111, 3) := by decide +kernel
theorem dX8_save_39 : decode cX8_save 39 = .ok (.ireturn, 1) := by decide +kernel
theorem dX8_restore_0 : decode cX8_restore 0 = .ok (.iload_n 1, 1) := by decide +kernel
theorem dX8_restore_1 : decode cX8_restore 1 = .ok (.ifCond .lt 8, 3) := by decide +kernel
theorem dX8_restore_4 : decode cX8_restore 4 = .ok (.iload_n 1, 1) := by decide +kernel
theorem dX8_restore_5 : decode cX8_restore 5 = .ok (.iconst 2, 1) := by decide +kernel
theorem dX8_restore_6 : decode cX8_restore 6 = .ok (.if_icmp .lt 6, 3) := by decide +kernel
theorem dX8_restore_9 : decode cX8_restore 9 = .ok (.bipush (-2), 2) := by decide +kernel
theorem dX8_restore_11 : decode cX8_restore 11 = .ok (.ireturn, 1) := by decide +kernel
theorem dX8_restore_12 : decode cX8_restore 12 = .ok (.aload_n 0, 1) := by decide +kernel
theorem dX8_restore_13 : decode cX8_restore 13 = .ok (.getfield 27, 3) := by decide +kernel
theorem dX8_restore_16 : decode cX8_restore 16 = .ok (.iload_n 1, 1) := by decide +kernel
theorem dX8_restore_17 : decode cX8_restore 17 = .ok (.baload, 1) := by decide +kernel
theorem dX8_restore_18 : decode cX8_restore 18 = .ok (.ifCond .ne 6, 3) := by decide +kernel
theorem dX8_restore_21 : decode cX8_restore 21 = .ok (.bipush (-5), 2) := by decide +kernel
theorem dX8_restore_23 : decode cX8_restore 23 = .ok (.ireturn, 1) := by decide +kernel
theorem dX8_restore_24 : decode cX8_restore 24 = .ok (.aload_n 0, 1) := by decide +kernel
theorem dX8_restore_25 : decode cX8_restore 25 = .ok (.invokevirtual 76, 3) := by decide +kernel
theorem dX8_restore_28 : decode cX8_restore 28 = .ok (.aload_n 0, 1) := by decide +kernel
theorem dX8_restore_29 : decode cX8_restore 29 = .ok (.getfield 12, 3) := by decide +kernel
theorem dX8_restore_32 : decode cX8_restore 32 = .ok (.aload_n 0, 1) := by decide +kernel
theorem dX8_restore_33 : decode cX8_restore 33 = .ok (.getfield 23, 3) := by decide +kernel
theorem dX8_restore_36 : decode cX8_restore 36 = .ok (.iload_n 1, 1) := by decide +kernel
theorem dX8_restore_37 : decode cX8_restore 37 = .ok (.aaload, 1) := by decide +kernel
theorem dX8_restore_38 : decode cX8_restore 38 = .ok (.invokevirtual 205, 3) := by decide +kernel
theorem dX8_restore_41 : decode cX8_restore 41 = .ok (.aload_n 0, 1) := by decide +kernel
theorem dX8_restore_42 : decode cX8_restore 42 = .ok (.getfield 12, 3) := by decide +kernel
theorem dX8_restore_45 : decode cX8_restore 45 = .ok (.getfield 111, 3) := by decide +kernel
theorem dX8_restore_48 : decode cX8_restore 48 = .ok (.ireturn, 1) := by decide +kernel
theorem dX8_beginChange_0 : decode cX8_beginChange 0 = .ok (.aload_n 0, 1) := by decide +kernel
theorem dX8_beginChange_1 : decode cX8_beginChange 1 = .ok (.getfield 19, 3) := by decide +kernel
theorem dX8_beginChange_4 : decode cX8_beginChange 4 = .ok (.aload_n 0, 1) := by decide +kernel
theorem dX8_beginChange_5 : decode cX8_beginChange 5 = .ok (.getfield 12, 3) := by decide +kernel
theorem dX8_beginChange_8 : decode cX8_beginChange 8 = .ok (.invokevirtual 208, 3) := by decide +kernel
theorem dX8_beginChange_11 : decode cX8_beginChange 11 = .ok (.aload_n 0, 1) := by decide +kernel
theorem dX8_beginChange_12 : decode cX8_beginChange 12 = .ok (.iconst 1, 1) := by decide +kernel
theorem dX8_beginChange_13 : decode cX8_beginChange 13 = .ok (.putfield 62, 3) := by decide +kernel
theorem dX8_beginChange_16 : decode cX8_beginChange 16 = .ok (.return_, 1) := by decide +kernel
theorem dX8_current_0 : decode cX8_current 0 = .ok (.aload_n 0, 1) := by decide +kernel
theorem dX8_current_1 : decode cX8_current 1 = .ok (.getfield 41, 3) := by decide +kernel
theorem dX8_current_4 : decode cX8_current 4 = .ok (.aload_n 0, 1) := by decide +kernel
theorem dX8_current_5 : decode cX8_current 5 = .ok (.getfield 12, 3) := by decide +kernel
theorem dX8_current_8 : decode cX8_current 8 = .ok (.getfield 73, 3) := by decide +kernel
theorem dX8_current_11 : decode cX8_current 11 = .ok (.iconst 0, 1) := by decide +kernel
theorem dX8_current_12 : decode cX8_current 12 = .ok (.iaload, 1) := by decide +kernel
theorem dX8_current_13 : decode cX8_current 13 = .ok (.invokevirtual 100, 3) := by decide +kernel
theorem dX8_current_16 : decode cX8_current 16 = .ok (.aload_n 0, 1) := by decide +kernel
theorem dX8_current_17 : decode cX8_current 17 = .ok (.getfield 62, 3) := by decide +kernel
theorem dX8_current_20 : decode cX8_current 20 = .ok (.ifCond .eq 28, 3) := by decide +kernel
theorem dX8_current_23 : decode cX8_current 23 = .ok (.aload_n 0, 1) := by decide +kernel
theorem dX8_current_24 : decode cX8_current 24 = .ok (.getfield 48, 3) := by decide +kernel
theorem dX8_current_27 : decode cX8_current 27 = .ok (.aload_n 0, 1) := by decide +kernel
theorem dX8_current_28 : decode cX8_current 28 = .ok (.getfield 41, 3) := by decide +kernel
theorem dX8_current_31 : decode cX8_current 31 = .ok (.aload_n 0, 1) := by decide +kernel
theorem dX8_current_32 : decode cX8_current 32 = .ok (.getfield 12, 3) := by decide +kernel
theorem dX8_current_35 : decode cX8_current 35 = .ok (.iconst (-1), 1) := by decide +kernel
theorem dX8_current_36 : decode cX8_current 36 = .ok (.aload_n 0, 1) := by decide +kernel
theorem dX8_current_37 : decode cX8_current 37 = .ok (.getfield 55, 3) := by decide +kernel
theorem dX8_current_40 : decode cX8_current 40 = .ok (.invokevirtual 211, 3) := by decide +kernel
theorem dX8_current_43 : decode cX8_current 43 = .ok (.aload_n 0, 1) := by decide +kernel
theorem dX8_current_44 : decode cX8_current 44 = .ok (.iconst 0, 1) := by decide +kernel
theorem dX8_current_45 : decode cX8_current 45 = .ok (.putfield 62, 3) := by decide +kernel
theorem dX8_current_48 : decode cX8_current 48 = .ok (.aload_n 0, 1) := by decide +kernel
theorem dX8_current_49 : decode cX8_current 49 = .ok (.getfield 55, 3) := by decide +kernel
theorem dX8_current_52 : decode cX8_current 52 = .ok (.areturn, 1) := by decide +kernel
theorem dX8_tryOut_0 : decode cX8_tryOut 0 = .ok (.aload_n 0, 1) := by decide +kernel
theorem dX8_tryOut_1 : decode cX8_tryOut 1 = .ok (.getfield 41, 3) := by decide +kernel
theorem dX8_tryOut_4 : decode cX8_tryOut 4 = .ok (.iload_n 1, 1) := by decide +kernel
theorem dX8_tryOut_5 : decode cX8_tryOut 5 = .ok (.invokevirtual 100, 3) := by decide +kernel
theorem dX8_tryOut_8 : decode cX8_tryOut 8 = .ok (.aload_n 0, 1) := by decide +kernel
theorem dX8_tryOut_9 : decode cX8_tryOut 9 = .ok (.getfield 48, 3) := by decide +kernel
theorem dX8_tryOut_12 : decode cX8_tryOut 12 = .ok (.aload_n 0, 1) := by decide +kernel
theorem dX8_tryOut_13 : decode cX8_tryOut 13 = .ok (.getfield 41, 3) := by decide +kernel
theorem dX8_tryOut_16 : decode cX8_tryOut 16 = .ok (.aload_n 0, 1) := by decide +kernel
theorem dX8_tryOut_17 : decode cX8_tryOut 17 = .ok (.getfield 12, 3) := by decide +kernel
theorem dX8_tryOut_20 : decode cX8_tryOut 20 = .ok (.iload_n 2, 1) := by decide +kernel
theorem dX8_tryOut_21 : decode cX8_tryOut 21 = .ok (.aload_n 0, 1) := by decide +kernel
theorem dX8_tryOut_22 : decode cX8_tryOut 22 = .ok (.getfield 59, 3) := by decide +kernel
theorem dX8_tryOut_25 : decode cX8_tryOut 25 = .ok (.invokevirtual 211, 3) := by decide +kernel
theorem dX8_tryOut_28 : decode cX8_tryOut 28 = .ok (.return_, 1) := by decide +kernel
theorem dX8_isEar_0 : decode cX8_isEar 0 = .ok (.iload_n 0, 1) := by decide +kernel
theorem dX8_isEar_1 : decode cX8_isEar 1 = .ok (.ifCond .lt 12, 3) := by decide +kernel
theorem dX8_isEar_4 : decode cX8_isEar 4 = .ok (.iload_n 0, 1) := by decide +kernel
theorem dX8_isEar_5 : decode cX8_isEar 5 = .ok (.iconst 4, 1) := by decide +kernel
theorem dX8_isEar_6 : decode cX8_isEar 6 = .ok (.if_icmp .ge 7, 3) := by decide +kernel
theorem dX8_isEar_9 : decode cX8_isEar 9 = .ok (.iconst 1, 1) := by decide +kernel
theorem dX8_isEar_10 : decode cX8_isEar 10 = .ok (.goto 4, 3) := by decide +kernel
theorem dX8_isEar_13 : decode cX8_isEar 13 = .ok (.iconst 0, 1) := by decide +kernel
theorem dX8_isEar_14 : decode cX8_isEar 14 = .ok (.ireturn, 1) := by decide +kernel
theorem dX8_isPoint_0 : decode cX8_isPoint 0 = .ok (.iload_n 0, 1) := by decide +kernel
theorem dX8_isPoint_1 : decode cX8_isPoint 1 = .ok (.ifCond .lt 23, 3) := by decide +kernel
theorem dX8_isPoint_4 : decode cX8_isPoint 4 = .ok (.iload_n 0, 1) := by decide +kernel
theorem dX8_isPoint_5 : decode cX8_isPoint 5 = .ok (.bipush 40, 2) := by decide +kernel
theorem dX8_isPoint_7 : decode cX8_isPoint 7 = .ok (.if_icmp .gt 17, 3) := by decide +kernel
theorem dX8_isPoint_10 : decode cX8_isPoint 10 = .ok (.iload_n 1, 1) := by decide +kernel
theorem dX8_isPoint_11 : decode cX8_isPoint 11 = .ok (.ifCond .lt 13, 3) := by decide +kernel
theorem dX8_isPoint_14 : decode cX8_isPoint 14 = .ok (.iload_n 1, 1) := by decide +kernel
theorem dX8_isPoint_15 : decode cX8_isPoint 15 = .ok (.bipush 40, 2) := by decide +kernel
theorem dX8_isPoint_17 : decode cX8_isPoint 17 = .ok (.if_icmp .gt 7, 3) := by decide +kernel
theorem dX8_isPoint_20 : decode cX8_isPoint 20 = .ok (.iconst 1, 1) := by decide +kernel
theorem dX8_isPoint_21 : decode cX8_isPoint 21 = .ok (.goto 4, 3) := by decide +kernel
theorem dX8_isPoint_24 : decode cX8_isPoint 24 = .ok (.iconst 0, 1) := by decide +kernel
theorem dX8_isPoint_25 : decode cX8_isPoint 25 = .ok (.ireturn, 1) := by decide +kernel
theorem dX8_markOf_0 : decode cX8_markOf 0 = .ok (.iload_n 1, 1) := by decide +kernel
theorem dX8_markOf_1 : decode cX8_markOf 1 = .ok (.iconst 4, 1) := by decide +kernel
theorem dX8_markOf_2 : decode cX8_markOf 2 = .ok (.imul, 1) := by decide +kernel
theorem dX8_markOf_3 : decode cX8_markOf 3 = .ok (.iload_n 0, 1) := by decide +kernel
theorem dX8_markOf_4 : decode cX8_markOf 4 = .ok (.iadd, 1) := by decide +kernel
theorem dX8_markOf_5 : decode cX8_markOf 5 = .ok (.ireturn, 1) := by decide +kernel
theorem dX9_init_0 : decode cX9_init 0 = .ok (.aload_n 0, 1) := by decide +kernel
theorem dX9_init_1 : decode cX9_init 1 = .ok (.invokespecial 1, 3) := by decide +kernel
theorem dX9_init_4 : decode cX9_init 4 = .ok (.aload_n 0, 1) := by decide +kernel
theorem dX9_init_5 : decode cX9_init 5 = .ok (.bipush 68, 2) := by decide +kernel
theorem dX9_init_7 : decode cX9_init 7 = .ok (.newarray .int, 2) := by decide +kernel
theorem dX9_init_9 : decode cX9_init 9 = .ok (.putfield 7, 3) := by decide +kernel
theorem dX9_init_12 : decode cX9_init 12 = .ok (.aload_n 0, 1) := by decide +kernel
theorem dX9_init_13 : decode cX9_init 13 = .ok (.bipush 68, 2) := by decide +kernel
theorem dX9_init_15 : decode cX9_init 15 = .ok (.newarray .int, 2) := by decide +kernel
theorem dX9_init_17 : decode cX9_init 17 = .ok (.putfield 13, 3) := by decide +kernel
theorem dX9_init_20 : decode cX9_init 20 = .ok (.aload_n 0, 1) := by decide +kernel
theorem dX9_init_21 : decode cX9_init 21 = .ok (.sipush 408, 3) := by decide +kernel
theorem dX9_init_24 : decode cX9_init 24 = .ok (.newarray .int, 2) := by decide +kernel
theorem dX9_init_26 : decode cX9_init 26 = .ok (.putfield 16, 3) := by decide +kernel
theorem dX9_init_29 : decode cX9_init 29 = .ok (.aload_n 0, 1) := by decide +kernel
theorem dX9_init_30 : decode cX9_init 30 = .ok (.sipush 136, 3) := by decide +kernel
theorem dX9_init_33 : decode cX9_init 33 = .ok (.newarray .int, 2) := by decide +kernel
theorem dX9_init_35 : decode cX9_init 35 = .ok (.putfield 19, 3) := by decide +kernel
theorem dX9_init_38 : decode cX9_init 38 = .ok (.aload_n 0, 1) := by decide +kernel
theorem dX9_init_39 : decode cX9_init 39 = .ok (.iconst 2, 1) := by decide +kernel
theorem dX9_init_40 : decode cX9_init 40 = .ok (.newarray .int, 2) := by decide +kernel
theorem dX9_init_42 : decode cX9_init 42 = .ok (.putfield 22, 3) := by decide +kernel
theorem dX9_init_45 : decode cX9_init 45 = .ok (.aload_n 0, 1) := by decide +kernel
theorem dX9_init_46 : decode cX9_init 46 = .ok (.bipush 80, 2) := by decide +kernel
theorem dX9_init_48 : decode cX9_init 48 = .ok (.newarray .int, 2) := by decide +kernel
theorem dX9_init_50 : decode cX9_init 50 = .ok (.putfield 25, 3) := by decide +kernel
theorem dX9_init_53 : decode cX9_init 53 = .ok (.aload_n 0, 1) := by decide +kernel
theorem dX9_init_54 : decode cX9_init 54 = .ok (.sipush 1681, 3) := by decide +kernel
theorem dX9_init_57 : decode cX9_init 57 = .ok (.newarray .int, 2) := by decide +kernel
theorem dX9_init_59 : decode cX9_init 59 = .ok (.putfield 28, 3) := by decide +kernel
theorem dX9_init_62 : decode cX9_init 62 = .ok (.aload_n 0, 1) := by decide +kernel
theorem dX9_init_63 : decode cX9_init 63 = .ok (.sipush 6724, 3) := by decide +kernel
theorem dX9_init_66 : decode cX9_init 66 = .ok (.newarray .int, 2) := by decide +kernel
theorem dX9_init_68 : decode cX9_init 68 = .ok (.putfield 31, 3) := by decide +kernel
theorem dX9_init_71 : decode cX9_init 71 = .ok (.aload_n 0, 1) := by decide +kernel
theorem dX9_init_72 : decode cX9_init 72 = .ok (.bipush 32, 2) := by decide +kernel
theorem dX9_init_74 : decode cX9_init 74 = .ok (.newarray .int, 2) := by decide +kernel
theorem dX9_init_76 : decode cX9_init 76 = .ok (.putfield 34, 3) := by decide +kernel
theorem dX9_init_79 : decode cX9_init 79 = .ok (.aload_n 0, 1) := by decide +kernel
theorem dX9_init_80 : decode cX9_init 80 = .ok (.bipush 8, 2) := by decide +kernel
theorem dX9_init_82 : decode cX9_init 82 = .ok (.newarray .int, 2) := by decide +kernel
theorem dX9_init_84 : decode cX9_init 84 = .ok (.putfield 37, 3) := by decide +kernel
theorem dX9_init_87 : decode cX9_init 87 = .ok (.aload_n 0, 1) := by decide +kernel
theorem dX9_init_88 : decode cX9_init 88 = .ok (.bipush 8, 2) := by decide +kernel
theorem dX9_init_90 : decode cX9_init 90 = .ok (.newarray .int, 2) := by decide +kernel
theorem dX9_init_92 : decode cX9_init 92 = .ok (.putfield 40, 3) := by decide +kernel
theorem dX9_init_95 : decode cX9_init 95 = .ok (.aload_n 0, 1) := by decide +kernel
theorem dX9_init_96 : decode cX9_init 96 = .ok (.bipush 8, 2) := by decide +kernel
theorem dX9_init_98 : decode cX9_init 98 = .ok (.newarray .int, 2) := by decide +kernel
theorem dX9_init_100 : decode cX9_init 100 = .ok (.putfield 43, 3) := by decide +kernel
theorem dX9_init_103 : decode cX9_init 103 = .ok (.aload_n 0, 1) := by decide +kernel
theorem dX9_init_104 : decode cX9_init 104 = .ok (.bipush 32, 2) := by decide +kernel
theorem dX9_init_106 : decode cX9_init 106 = .ok (.newarray .int, 2) := by decide +kernel
theorem dX9_init_108 : decode cX9_init 108 = .ok (.putfield 46, 3) := by decide +kernel
theorem dX9_init_111 : decode cX9_init 111 = .ok (.aload_n 0, 1) := by decide +kernel
theorem dX9_init_112 : decode cX9_init 112 = .ok (.iconst 4, 1) := by decide +kernel
theorem dX9_init_113 : decode cX9_init 113 = .ok (.newarray .int, 2) := by decide +kernel
theorem dX9_init_115 : decode cX9_init 115 = .ok (.putfield 49, 3) := by decide +kernel
theorem dX9_init_118 : decode cX9_init 118 = .ok (.aload_n 0, 1) := by decide +kernel
theorem dX9_init_119 : decode cX9_init 119 = .ok (.bipush 8, 2) := by decide +kernel
theorem dX9_init_121 : decode cX9_init 121 = .ok (.newarray .int, 2) := by decide +kernel
theorem dX9_init_123 : decode cX9_init 123 = .ok (.putfield 52, 3) := by decide +kernel
theorem dX9_init_126 : decode cX9_init 126 = .ok (.aload_n 0, 1) := by decide +kernel
theorem dX9_init_127 : decode cX9_init 127 = .ok (.iconst 4, 1) := by decide +kernel
theorem dX9_init_128 : decode cX9_init 128 = .ok (.newarray .int, 2) := by decide +kernel
theorem dX9_init_130 : decode cX9_init 130 = .ok (.putfield 55, 3) := by decide +kernel
theorem dX9_init_133 : decode cX9_init 133 = .ok (.aload_n 0, 1) := by decide +kernel
theorem dX9_init_134 : decode cX9_init 134 = .ok (.getfield 7, 3) := by decide +kernel
theorem dX9_init_137 : decode cX9_init 137 = .ok (.iconst 0, 1) := by decide +kernel
theorem dX9_init_138 : decode cX9_init 138 = .ok (.bipush 15, 2) := by decide +kernel
theorem dX9_init_140 : decode cX9_init 140 = .ok (.iastore, 1) := by decide +kernel
theorem dX9_init_141 : decode cX9_init 141 = .ok (.aload_n 0, 1) := by decide +kernel
theorem dX9_init_142 : decode cX9_init 142 = .ok (.getfield 7, 3) := by decide +kernel
theorem dX9_init_145 : decode cX9_init 145 = .ok (.iconst 1, 1) := by decide +kernel
theorem dX9_init_146 : decode cX9_init 146 = .ok (.sipush 1900, 3) := by decide +kernel
theorem dX9_init_149 : decode cX9_init 149 = .ok (.iastore, 1) := by decide +kernel
theorem dX9_init_150 : decode cX9_init 150 = .ok (.aload_n 0, 1) := by decide +kernel
theorem dX9_init_151 : decode cX9_init 151 = .ok (.getfield 7, 3) := by decide +kernel
theorem dX9_init_154 : decode cX9_init 154 = .ok (.iconst 2, 1) := by decide +kernel
theorem dX9_init_155 : decode cX9_init 155 = .ok (.bipush 6, 2) := by decide +kernel
theorem dX9_init_157 : decode cX9_init 157 = .ok (.iastore, 1) := by decide +kernel
theorem dX9_init_158 : decode cX9_init 158 = .ok (.iconst 0, 1) := by decide +kernel
theorem dX9_init_159 : decode cX9_init 159 = .ok (.istore_n 1, 1) := by decide +kernel
theorem dX9_init_160 : decode cX9_init 160 = .ok (.iload_n 1, 1) := by decide +kernel
theorem dX9_init_161 : decode cX9_init 161 = .ok (.bipush 40, 2) := by decide +kernel
theorem dX9_init_163 : decode cX9_init 163 = .ok (.if_icmp .gt 48, 3) := by decide +kernel
theorem dX9_init_166 : decode cX9_init 166 = .ok (.iconst 0, 1) := by decide +kernel
theorem dX9_init_167 : decode cX9_init 167 = .ok (.istore_n 2, 1) := by decide +kernel
theorem dX9_init_168 : decode cX9_init 168 = .ok (.iload_n 2, 1) := by decide +kernel
theorem dX9_init_169 : decode cX9_init 169 = .ok (.bipush 40, 2) := by decide +kernel
theorem dX9_init_171 : decode cX9_init 171 = .ok (.if_icmp .gt 34, 3) := by decide +kernel
theorem dX9_init_174 : decode cX9_init 174 = .ok (.aload_n 0, 1) := by decide +kernel
theorem dX9_init_175 : decode cX9_init 175 = .ok (.getfield 28, 3) := by decide +kernel
theorem dX9_init_178 : decode cX9_init 178 = .ok (.bipush 41, 2) := by decide +kernel
theorem dX9_init_180 : decode cX9_init 180 = .ok (.iload_n 1, 1) := by decide +kernel
theorem dX9_init_181 : decode cX9_init 181 = .ok (.imul, 1) := by decide +kernel
theorem dX9_init_182 : decode cX9_init 182 = .ok (.iload_n 2, 1) := by decide +kernel
theorem dX9_init_183 : decode cX9_init 183 = .ok (.iadd, 1) := by decide +kernel
theorem dX9_init_184 : decode cX9_init 184 = .ok (.sipush 10000, 3) := by decide +kernel
theorem dX9_init_187 : decode cX9_init 187 = .ok (.iload_n 1, 1) := by decide +kernel
theorem dX9_init_188 : decode cX9_init 188 = .ok (.iload_n 1, 1) := by decide +kernel
theorem dX9_init_189 : decode cX9_init 189 = .ok (.imul, 1) := by decide +kernel
theorem dX9_init_190 : decode cX9_init 190 = .ok (.iload_n 2, 1) := by decide +kernel
theorem dX9_init_191 : decode cX9_init 191 = .ok (.iload_n 2, 1) := by decide +kernel
theorem dX9_init_192 : decode cX9_init 192 = .ok (.imul, 1) := by decide +kernel
theorem dX9_init_193 : decode cX9_init 193 = .ok (.iadd, 1) := by decide +kernel
theorem dX9_init_194 : decode cX9_init 194 = .ok (.imul, 1) := by decide +kernel
theorem dX9_init_195 : decode cX9_init 195 = .ok (.invokestatic 58, 3) := by decide +kernel
theorem dX9_init_198 : decode cX9_init 198 = .ok (.iastore, 1) := by decide +kernel
theorem dX9_init_199 : decode cX9_init 199 = .ok (.iinc 2 1, 3) := by decide +kernel
theorem dX9_init_202 : decode cX9_init 202 = .ok (.goto (-34), 3) := by decide +kernel
theorem dX9_init_205 : decode cX9_init 205 = .ok (.iinc 1 1, 3) := by decide +kernel
theorem dX9_init_208 : decode cX9_init 208 = .ok (.goto (-48), 3) := by decide +kernel
theorem dX9_init_211 : decode cX9_init 211 = .ok (.return_, 1) := by decide +kernel
theorem dX9_moves_0 : decode cX9_moves 0 = .ok (.iconst 0, 1) := by decide +kernel
theorem dX9_moves_1 : decode cX9_moves 1 = .ok (.istore 4, 2) := by decide +kernel
theorem dX9_moves_3 : decode cX9_moves 3 = .ok (.iload 4, 2) := by decide +kernel
theorem dX9_moves_5 : decode cX9_moves 5 = .ok (.bipush 68, 2) := by decide +kernel
theorem dX9_moves_7 : decode cX9_moves 7 = .ok (.if_icmp .ge 21, 3) := by decide +kernel
theorem dX9_moves_10 : decode cX9_moves 10 = .ok (.aload_n 2, 1) := by decide +kernel
theorem dX9_moves_11 : decode cX9_moves 11 = .ok (.iload_n 3, 1) := by decide +kernel
theorem dX9_moves_12 : decode cX9_moves 12 = .ok (.iload 4, 2) := by decide +kernel
theorem dX9_moves_14 : decode cX9_moves 14 = .ok (.iadd, 1) := by decide +kernel
theorem dX9_moves_15 : decode cX9_moves 15 = .ok (.aload_n 0, 1) := by decide +kernel
theorem dX9_moves_16 : decode cX9_moves 16 = .ok (.iload_n 1, 1) := by decide +kernel
theorem dX9_moves_17 : decode cX9_moves 17 = .ok (.iload 4, 2) := by decide +kernel
theorem dX9_moves_19 : decode cX9_moves 19 = .ok (.iadd, 1) := by decide +kernel
theorem dX9_moves_20 : decode cX9_moves 20 = .ok (.iaload, 1) := by decide +kernel
theorem dX9_moves_21 : decode cX9_moves 21 = .ok (.iastore, 1) := by decide +kernel
theorem dX9_moves_22 : decode cX9_moves 22 = .ok (.iinc 4 1, 3) := by decide +kernel
theorem dX9_moves_25 : decode cX9_moves 25 = .ok (.goto (-22), 3) := by decide +kernel
theorem dX9_moves_28 : decode cX9_moves 28 = .ok (.return_, 1) := by decide +kernel
theorem dX9_within_0 : decode cX9_within 0 = .ok (.iload_n 0, 1) := by decide +kernel
theorem dX9_within_1 : decode cX9_within 1 = .ok (.iload_n 1, 1) := by decide +kernel
theorem dX9_within_2 : decode cX9_within 2 = .ok (.if_icmp .lt 12, 3) := by decide +kernel
theorem dX9_within_5 : decode cX9_within 5 = .ok (.iload_n 0, 1) := by decide +kernel
theorem dX9_within_6 : decode cX9_within 6 = .ok (.iload_n 2, 1) := by decide +kernel
theorem dX9_within_7 : decode cX9_within 7 = .ok (.if_icmp .gt 7, 3) := by decide +kernel
theorem dX9_within_10 : decode cX9_within 10 = .ok (.iconst 1, 1) := by decide +kernel
theorem dX9_within_11 : decode cX9_within 11 = .ok (.goto 4, 3) := by decide +kernel
theorem dX9_within_14 : decode cX9_within 14 = .ok (.iconst 0, 1) := by decide +kernel
theorem dX9_within_15 : decode cX9_within 15 = .ok (.ireturn, 1) := by decide +kernel
theorem dX9_size_0 : decode cX9_size 0 = .ok (.iload_n 0, 1) := by decide +kernel
theorem dX9_size_1 : decode cX9_size 1 = .ok (.ifCond .ge 8, 3) := by decide +kernel
theorem dX9_size_4 : decode cX9_size 4 = .ok (.iload_n 0, 1) := by decide +kernel
theorem dX9_size_5 : decode cX9_size 5 = .ok (.ineg, 1) := by decide +kernel
theorem dX9_size_6 : decode cX9_size 6 = .ok (.goto 4, 3) := by decide +kernel
theorem dX9_size_9 : decode cX9_size 9 = .ok (.iload_n 0, 1) := by decide +kernel
theorem dX9_size_10 : decode cX9_size 10 = .ok (.ireturn, 1) := by decide +kernel
theorem dX9_root_0 : decode cX9_root 0 = .ok (.iconst 0, 1) := by decide +kernel
theorem dX9_root_1 : decode cX9_root 1 = .ok (.istore_n 1, 1) := by decide +kernel
theorem dX9_root_2 : decode cX9_root 2 = .ok (.sipush 4096, 3) := by decide +kernel
theorem dX9_root_5 : decode cX9_root 5 = .ok (.istore_n 2, 1) := by decide +kernel
theorem dX9_root_6 : decode cX9_root 6 = .ok (.iload_n 2, 1) := by decide +kernel
theorem dX9_root_7 : decode cX9_root 7 = .ok (.ifCond .le 29, 3) := by decide +kernel
theorem dX9_root_10 : decode cX9_root 10 = .ok (.iload_n 1, 1) := by decide +kernel
theorem dX9_root_11 : decode cX9_root 11 = .ok (.iload_n 1, 1) := by decide +kernel
theorem dX9_root_12 : decode cX9_root 12 = .ok (.iload_n 2, 1) := by decide +kernel
theorem dX9_root_13 : decode cX9_root 13 = .ok (.iadd, 1) := by decide +kernel
theorem dX9_root_14 : decode cX9_root 14 = .ok (.iload_n 1, 1) := by decide +kernel
theorem dX9_root_15 : decode cX9_root 15 = .ok (.iload_n 2, 1) := by decide +kernel
theorem dX9_root_16 : decode cX9_root 16 = .ok (.iadd, 1) := by decide +kernel
theorem dX9_root_17 : decode cX9_root 17 = .ok (.imul, 1) := by decide +kernel
theorem dX9_root_18 : decode cX9_root 18 = .ok (.iload_n 0, 1) := by decide +kernel
theorem dX9_root_19 : decode cX9_root 19 = .ok (.if_icmp .gt 7, 3) := by decide +kernel
theorem dX9_root_22 : decode cX9_root 22 = .ok (.iload_n 2, 1) := by decide +kernel
theorem dX9_root_23 : decode cX9_root 23 = .ok (.goto 4, 3) := by decide +kernel
theorem dX9_root_26 : decode cX9_root 26 = .ok (.iconst 0, 1) := by decide +kernel
theorem dX9_root_27 : decode cX9_root 27 = .ok (.iadd, 1) := by decide +kernel
theorem dX9_root_28 : decode cX9_root 28 = .ok (.istore_n 1, 1) := by decide +kernel
theorem dX9_root_29 : decode cX9_root 29 = .ok (.iload_n 2, 1) := by decide +kernel
theorem dX9_root_30 : decode cX9_root 30 = .ok (.iconst 2, 1) := by decide +kernel
theorem dX9_root_31 : decode cX9_root 31 = .ok (.idiv, 1) := by decide +kernel
theorem dX9_root_32 : decode cX9_root 32 = .ok (.istore_n 2, 1) := by decide +kernel
theorem dX9_root_33 : decode cX9_root 33 = .ok (.goto (-27), 3) := by decide +kernel
theorem dX9_root_36 : decode cX9_root 36 = .ok (.iload_n 1, 1) := by decide +kernel
theorem dX9_root_37 : decode cX9_root 37 = .ok (.ireturn, 1) := by decide +kernel
theorem dX9_record_0 : decode cX9_record 0 = .ok (.aload_n 0, 1) := by decide +kernel
theorem dX9_record_1 : decode cX9_record 1 = .ok (.getfield 62, 3) := by decide +kernel
theorem dX9_record_4 : decode cX9_record 4 = .ok (.bipush 6, 2) := by decide +kernel
theorem dX9_record_6 : decode cX9_record 6 = .ok (.if_icmp .ne 43, 3) := by decide +kernel
theorem dX9_record_9 : decode cX9_record 9 = .ok (.iconst 0, 1) := by decide +kernel
theorem dX9_record_10 : decode cX9_record 10 = .ok (.istore_n 1, 1) := by decide +kernel
theorem dX9_record_11 : decode cX9_record 11 = .ok (.iload_n 1, 1) := by decide +kernel
theorem dX9_record_12 : decode cX9_record 12 = .ok (.sipush 340, 3) := by decide +kernel
theorem dX9_record_15 : decode cX9_record 15 = .ok (.if_icmp .ge 24, 3) := by decide +kernel
theorem dX9_record_18 : decode cX9_record 18 = .ok (.aload_n 0, 1) := by decide +kernel
theorem dX9_record_19 : decode cX9_record 19 = .ok (.getfield 16, 3) := by decide +kernel
theorem dX9_record_22 : decode cX9_record 22 = .ok (.iload_n 1, 1) := by decide +kernel
theorem dX9_record_23 : decode cX9_record 23 = .ok (.aload_n 0, 1) := by decide +kernel
theorem dX9_record_24 : decode cX9_record 24 = .ok (.getfield 16, 3) := by decide +kernel
theorem dX9_record_27 : decode cX9_record 27 = .ok (.iload_n 1, 1) := by decide +kernel
theorem dX9_record_28 : decode cX9_record 28 = .ok (.bipush 68, 2) := by decide +kernel
theorem dX9_record_30 : decode cX9_record 30 = .ok (.iadd, 1) := by decide +kernel
theorem dX9_record_31 : decode cX9_record 31 = .ok (.iaload, 1) := by decide +kernel
theorem dX9_record_32 : decode cX9_record 32 = .ok (.iastore, 1) := by decide +kernel
theorem dX9_record_33 : decode cX9_record 33 = .ok (.iinc 1 1, 3) := by decide +kernel
theorem dX9_record_36 : decode cX9_record 36 = .ok (.goto (-25), 3) := by decide +kernel
theorem dX9_record_39 : decode cX9_record 39 = .ok (.aload_n 0, 1) := by decide +kernel
theorem dX9_record_40 : decode cX9_record 40 = .ok (.dup, 1) := by decide +kernel
theorem dX9_record_41 : decode cX9_record 41 = .ok (.getfield 62, 3) := by decide +kernel
theorem dX9_record_44 : decode cX9_record 44 = .ok (.iconst 1, 1) := by decide +kernel
theorem dX9_record_45 : decode cX9_record 45 = .ok (.isub, 1) := by decide +kernel
theorem dX9_record_46 : decode cX9_record 46 = .ok (.putfield 62, 3) := by decide +kernel
theorem dX9_record_49 : decode cX9_record 49 = .ok (.aload_n 0, 1) := by decide +kernel
theorem dX9_record_50 : decode cX9_record 50 = .ok (.getfield 7, 3) := by decide +kernel
theorem dX9_record_53 : decode cX9_record 53 = .ok (.iconst 0, 1) := by decide +kernel
theorem dX9_record_54 : decode cX9_record 54 = .ok (.aload_n 0, 1) := by decide +kernel
theorem dX9_record_55 : decode cX9_record 55 = .ok (.getfield 16, 3) := by decide +kernel
theorem dX9_record_58 : decode cX9_record 58 = .ok (.aload_n 0, 1) := by decide +kernel
theorem dX9_record_59 : decode cX9_record 59 = .ok (.getfield 62, 3) := by decide +kernel
theorem dX9_record_62 : decode cX9_record 62 = .ok (.bipush 68, 2) := by decide +kernel
theorem dX9_record_64 : decode cX9_record 64 = .ok (.imul, 1) := by decide +kernel
theorem dX9_record_65 : decode cX9_record 65 = .ok (.invokestatic 66, 3) := by decide +kernel
theorem dX9_record_68 : decode cX9_record 68 = .ok (.aload_n 0, 1) := by decide +kernel
theorem dX9_record_69 : decode cX9_record 69 = .ok (.dup, 1) := by decide +kernel
theorem dX9_record_70 : decode cX9_record 70 = .ok (.getfield 62, 3) := by decide +kernel
theorem dX9_record_73 : decode cX9_record 73 = .ok (.iconst 1, 1) := by decide +kernel
theorem dX9_record_74 : decode cX9_record 74 = .ok (.iadd, 1) := by decide +kernel
theorem dX9_record_75 : decode cX9_record 75 = .ok (.putfield 62, 3) := by decide +kernel
end
section
theorem dX9_record_78 : decode cX9_record 78 = .ok (.return_, 1) := by decide +kernel
theorem dX9_isPoint_0 : decode cX9_isPoint 0 = .ok (.iload_n 0, 1) := by decide +kernel
theorem dX9_isPoint_1 : decode cX9_isPoint 1 = .ok (.iconst 0, 1) := by decide +kernel
theorem dX9_isPoint_2 : decode cX9_isPoint 2 = .ok (.bipush 40, 2) := by decide +kernel
theorem dX9_isPoint_4 : decode cX9_isPoint 4 = .ok (.invokestatic 70, 3) := by decide +kernel
theorem dX9_isPoint_7 : decode cX9_isPoint 7 = .ok (.ifCond .eq 17, 3) := by decide +kernel
theorem dX9_isPoint_10 : decode cX9_isPoint 10 = .ok (.iload_n 1, 1) := by decide +kernel
theorem dX9_isPoint_11 : decode cX9_isPoint 11 = .ok (.iconst 0, 1) := by decide +kernel
theorem dX9_isPoint_12 : decode cX9_isPoint 12 = .ok (.bipush 40, 2) := by decide +kernel
theorem dX9_isPoint_14 : decode cX9_isPoint 14 = .ok (.invokestatic 70, 3) := by decide +kernel
theorem dX9_isPoint_17 : decode cX9_isPoint 17 = .ok (.ifCond .eq 7, 3) := by decide +kernel
theorem dX9_isPoint_20 : decode cX9_isPoint 20 = .ok (.iconst 1, 1) := by decide +kernel
theorem dX9_isPoint_21 : decode cX9_isPoint 21 = .ok (.goto 4, 3) := by decide +kernel
theorem dX9_isPoint_24 : decode cX9_isPoint 24 = .ok (.iconst 0, 1) := by decide +kernel
theorem dX9_isPoint_25 : decode cX9_isPoint 25 = .ok (.ireturn, 1) := by decide +kernel
theorem dX9_isEar_0 : decode cX9_isEar 0 = .ok (.iload_n 0, 1) := by decide +kernel
theorem dX9_isEar_1 : decode cX9_isEar 1 = .ok (.iconst 0, 1) := by decide +kernel
theorem dX9_isEar_2 : decode cX9_isEar 2 = .ok (.iconst 3, 1) := by decide +kernel
theorem dX9_isEar_3 : decode cX9_isEar 3 = .ok (.invokestatic 70, 3) := by decide +kernel
theorem dX9_isEar_6 : decode cX9_isEar 6 = .ok (.ireturn, 1) := by decide +kernel
theorem dX9_distance_0 : decode cX9_distance 0 = .ok (.aload_n 0, 1) := by decide +kernel
theorem dX9_distance_1 : decode cX9_distance 1 = .ok (.getfield 28, 3) := by decide +kernel
theorem dX9_distance_4 : decode cX9_distance 4 = .ok (.bipush 41, 2) := by decide +kernel
theorem dX9_distance_6 : decode cX9_distance 6 = .ok (.iload_n 1, 1) := by decide +kernel
theorem dX9_distance_7 : decode cX9_distance 7 = .ok (.iload_n 3, 1) := by decide +kernel
theorem dX9_distance_8 : decode cX9_distance 8 = .ok (.isub, 1) := by decide +kernel
theorem dX9_distance_9 : decode cX9_distance 9 = .ok (.invokestatic 74, 3) := by decide +kernel
theorem dX9_distance_12 : decode cX9_distance 12 = .ok (.imul, 1) := by decide +kernel
theorem dX9_distance_13 : decode cX9_distance 13 = .ok (.iload_n 2, 1) := by decide +kernel
theorem dX9_distance_14 : decode cX9_distance 14 = .ok (.iload 4, 2) := by decide +kernel
theorem dX9_distance_16 : decode cX9_distance 16 = .ok (.isub, 1) := by decide +kernel
theorem dX9_distance_17 : decode cX9_distance 17 = .ok (.invokestatic 74, 3) := by decide +kernel
theorem dX9_distance_20 : decode cX9_distance 20 = .ok (.iadd, 1) := by decide +kernel
theorem dX9_distance_21 : decode cX9_distance 21 = .ok (.iaload, 1) := by decide +kernel
theorem dX9_distance_22 : decode cX9_distance 22 = .ok (.ireturn, 1) := by decide +kernel
theorem dX9_speedBy_0 : decode cX9_speedBy 0 = .ok (.sipush 313, 3) := by decide +kernel
theorem dX9_speedBy_3 : decode cX9_speedBy 3 = .ok (.iconst 3, 1) := by decide +kernel
theorem dX9_speedBy_4 : decode cX9_speedBy 4 = .ok (.iload_n 0, 1) := by decide +kernel
theorem dX9_speedBy_5 : decode cX9_speedBy 5 = .ok (.imul, 1) := by decide +kernel
theorem dX9_speedBy_6 : decode cX9_speedBy 6 = .ok (.bipush 90, 2) := by decide +kernel
theorem dX9_speedBy_8 : decode cX9_speedBy 8 = .ok (.iadd, 1) := by decide +kernel
theorem dX9_speedBy_9 : decode cX9_speedBy 9 = .ok (.iconst 5, 1) := by decide +kernel
theorem dX9_speedBy_10 : decode cX9_speedBy 10 = .ok (.idiv, 1) := by decide +kernel
theorem dX9_speedBy_11 : decode cX9_speedBy 11 = .ok (.iadd, 1) := by decide +kernel
theorem dX9_speedBy_12 : decode cX9_speedBy 12 = .ok (.ireturn, 1) := by decide +kernel
theorem dX9_takesBy_0 : decode cX9_takesBy 0 = .ok (.bipush 100, 2) := by decide +kernel
theorem dX9_takesBy_2 : decode cX9_takesBy 2 = .ok (.aload_n 0, 1) := by decide +kernel
theorem dX9_takesBy_3 : decode cX9_takesBy 3 = .ok (.iload_n 2, 1) := by decide +kernel
theorem dX9_takesBy_4 : decode cX9_takesBy 4 = .ok (.iload_n 3, 1) := by decide +kernel
theorem dX9_takesBy_5 : decode cX9_takesBy 5 = .ok (.iload 4, 2) := by decide +kernel
theorem dX9_takesBy_7 : decode cX9_takesBy 7 = .ok (.iconst 1, 1) := by decide +kernel
theorem dX9_takesBy_8 : decode cX9_takesBy 8 = .ok (.if_icmp .eq 9, 3) := by decide +kernel
theorem dX9_takesBy_11 : decode cX9_takesBy 11 = .ok (.iload 4, 2) := by decide +kernel
theorem dX9_takesBy_13 : decode cX9_takesBy 13 = .ok (.iconst 2, 1) := by decide +kernel
theorem dX9_takesBy_14 : decode cX9_takesBy 14 = .ok (.if_icmp .ne 8, 3) := by decide +kernel
theorem dX9_takesBy_17 : decode cX9_takesBy 17 = .ok (.bipush 40, 2) := by decide +kernel
theorem dX9_takesBy_19 : decode cX9_takesBy 19 = .ok (.goto 4, 3) := by decide +kernel
theorem dX9_takesBy_22 : decode cX9_takesBy 22 = .ok (.iconst 0, 1) := by decide +kernel
theorem dX9_takesBy_23 : decode cX9_takesBy 23 = .ok (.iload 4, 2) := by decide +kernel
theorem dX9_takesBy_25 : decode cX9_takesBy 25 = .ok (.iconst 1, 1) := by decide +kernel
theorem dX9_takesBy_26 : decode cX9_takesBy 26 = .ok (.if_icmp .le 8, 3) := by decide +kernel
theorem dX9_takesBy_29 : decode cX9_takesBy 29 = .ok (.bipush 40, 2) := by decide +kernel
theorem dX9_takesBy_31 : decode cX9_takesBy 31 = .ok (.goto 4, 3) := by decide +kernel
theorem dX9_takesBy_34 : decode cX9_takesBy 34 = .ok (.iconst 0, 1) := by decide +kernel
theorem dX9_takesBy_35 : decode cX9_takesBy 35 = .ok (.invokevirtual 77, 3) := by decide +kernel
theorem dX9_takesBy_38 : decode cX9_takesBy 38 = .ok (.imul, 1) := by decide +kernel
theorem dX9_takesBy_39 : decode cX9_takesBy 39 = .ok (.iload_n 1, 1) := by decide +kernel
theorem dX9_takesBy_40 : decode cX9_takesBy 40 = .ok (.idiv, 1) := by decide +kernel
theorem dX9_takesBy_41 : decode cX9_takesBy 41 = .ok (.ireturn, 1) := by decide +kernel
theorem dX9_reckon_0 : decode cX9_reckon 0 = .ok (.iload_n 1, 1) := by decide +kernel
theorem dX9_reckon_1 : decode cX9_reckon 1 = .ok (.aload_n 0, 1) := by decide +kernel
theorem dX9_reckon_2 : decode cX9_reckon 2 = .ok (.getfield 81, 3) := by decide +kernel
theorem dX9_reckon_5 : decode cX9_reckon 5 = .ok (.if_icmp .ne 4, 3) := by decide +kernel
theorem dX9_reckon_8 : decode cX9_reckon 8 = .ok (.return_, 1) := by decide +kernel
theorem dX9_reckon_9 : decode cX9_reckon 9 = .ok (.iconst 0, 1) := by decide +kernel
theorem dX9_reckon_10 : decode cX9_reckon 10 = .ok (.istore_n 2, 1) := by decide +kernel
theorem dX9_reckon_11 : decode cX9_reckon 11 = .ok (.iload_n 2, 1) := by decide +kernel
theorem dX9_reckon_12 : decode cX9_reckon 12 = .ok (.sipush 1681, 3) := by decide +kernel
theorem dX9_reckon_15 : decode cX9_reckon 15 = .ok (.if_icmp .ge 46, 3) := by decide +kernel
theorem dX9_reckon_18 : decode cX9_reckon 18 = .ok (.iconst 0, 1) := by decide +kernel
theorem dX9_reckon_19 : decode cX9_reckon 19 = .ok (.istore_n 3, 1) := by decide +kernel
theorem dX9_reckon_20 : decode cX9_reckon 20 = .ok (.iload_n 3, 1) := by decide +kernel
theorem dX9_reckon_21 : decode cX9_reckon 21 = .ok (.iconst 4, 1) := by decide +kernel
theorem dX9_reckon_22 : decode cX9_reckon 22 = .ok (.if_icmp .ge 33, 3) := by decide +kernel
theorem dX9_reckon_25 : decode cX9_reckon 25 = .ok (.aload_n 0, 1) := by decide +kernel
theorem dX9_reckon_26 : decode cX9_reckon 26 = .ok (.getfield 31, 3) := by decide +kernel
theorem dX9_reckon_29 : decode cX9_reckon 29 = .ok (.iconst 4, 1) := by decide +kernel
theorem dX9_reckon_30 : decode cX9_reckon 30 = .ok (.iload_n 2, 1) := by decide +kernel
theorem dX9_reckon_31 : decode cX9_reckon 31 = .ok (.imul, 1) := by decide +kernel
theorem dX9_reckon_32 : decode cX9_reckon 32 = .ok (.iload_n 3, 1) := by decide +kernel
theorem dX9_reckon_33 : decode cX9_reckon 33 = .ok (.iadd, 1) := by decide +kernel
theorem dX9_reckon_34 : decode cX9_reckon 34 = .ok (.aload_n 0, 1) := by decide +kernel
theorem dX9_reckon_35 : decode cX9_reckon 35 = .ok (.iload_n 1, 1) := by decide +kernel
theorem dX9_reckon_36 : decode cX9_reckon 36 = .ok (.iload_n 2, 1) := by decide +kernel
theorem dX9_reckon_37 : decode cX9_reckon 37 = .ok (.bipush 41, 2) := by decide +kernel
theorem dX9_reckon_39 : decode cX9_reckon 39 = .ok (.irem, 1) := by decide +kernel
theorem dX9_reckon_40 : decode cX9_reckon 40 = .ok (.iload_n 2, 1) := by decide +kernel
theorem dX9_reckon_41 : decode cX9_reckon 41 = .ok (.bipush 41, 2) := by decide +kernel
theorem dX9_reckon_43 : decode cX9_reckon 43 = .ok (.idiv, 1) := by decide +kernel
theorem dX9_reckon_44 : decode cX9_reckon 44 = .ok (.iload_n 3, 1) := by decide +kernel
theorem dX9_reckon_45 : decode cX9_reckon 45 = .ok (.invokevirtual 84, 3) := by decide +kernel
theorem dX9_reckon_48 : decode cX9_reckon 48 = .ok (.iastore, 1) := by decide +kernel
theorem dX9_reckon_49 : decode cX9_reckon 49 = .ok (.iinc 3 1, 3) := by decide +kernel
theorem dX9_reckon_52 : decode cX9_reckon 52 = .ok (.goto (-32), 3) := by decide +kernel
theorem dX9_reckon_55 : decode cX9_reckon 55 = .ok (.iinc 2 1, 3) := by decide +kernel
theorem dX9_reckon_58 : decode cX9_reckon 58 = .ok (.goto (-47), 3) := by decide +kernel
theorem dX9_reckon_61 : decode cX9_reckon 61 = .ok (.aload_n 0, 1) := by decide +kernel
theorem dX9_reckon_62 : decode cX9_reckon 62 = .ok (.iload_n 1, 1) := by decide +kernel
theorem dX9_reckon_63 : decode cX9_reckon 63 = .ok (.putfield 81, 3) := by decide +kernel
theorem dX9_reckon_66 : decode cX9_reckon 66 = .ok (.return_, 1) := by decide +kernel
theorem dX9_isPulse_0 : decode cX9_isPulse 0 = .ok (.iload_n 1, 1) := by decide +kernel
theorem dX9_isPulse_1 : decode cX9_isPulse 1 = .ok (.iconst 0, 1) := by decide +kernel
theorem dX9_isPulse_2 : decode cX9_isPulse 2 = .ok (.aload_n 0, 1) := by decide +kernel
theorem dX9_isPulse_3 : decode cX9_isPulse 3 = .ok (.getfield 7, 3) := by decide +kernel
theorem dX9_isPulse_6 : decode cX9_isPulse 6 = .ok (.iconst 3, 1) := by decide +kernel
theorem dX9_isPulse_7 : decode cX9_isPulse 7 = .ok (.iaload, 1) := by decide +kernel
theorem dX9_isPulse_8 : decode cX9_isPulse 8 = .ok (.iconst 1, 1) := by decide +kernel
theorem dX9_isPulse_9 : decode cX9_isPulse 9 = .ok (.isub, 1) := by decide +kernel
theorem dX9_isPulse_10 : decode cX9_isPulse 10 = .ok (.invokestatic 70, 3) := by decide +kernel
theorem dX9_isPulse_13 : decode cX9_isPulse 13 = .ok (.ireturn, 1) := by decide +kernel
theorem dX9_earOf_0 : decode cX9_earOf 0 = .ok (.aload_n 0, 1) := by decide +kernel
theorem dX9_earOf_1 : decode cX9_earOf 1 = .ok (.getfield 7, 3) := by decide +kernel
theorem dX9_earOf_4 : decode cX9_earOf 4 = .ok (.iconst 4, 1) := by decide +kernel
theorem dX9_earOf_5 : decode cX9_earOf 5 = .ok (.iconst 2, 1) := by decide +kernel
theorem dX9_earOf_6 : decode cX9_earOf 6 = .ok (.iload_n 1, 1) := by decide +kernel
theorem dX9_earOf_7 : decode cX9_earOf 7 = .ok (.imul, 1) := by decide +kernel
theorem dX9_earOf_8 : decode cX9_earOf 8 = .ok (.iadd, 1) := by decide +kernel
theorem dX9_earOf_9 : decode cX9_earOf 9 = .ok (.iaload, 1) := by decide +kernel
theorem dX9_earOf_10 : decode cX9_earOf 10 = .ok (.ireturn, 1) := by decide +kernel
theorem dX9_timeOf_0 : decode cX9_timeOf 0 = .ok (.aload_n 0, 1) := by decide +kernel
theorem dX9_timeOf_1 : decode cX9_timeOf 1 = .ok (.getfield 7, 3) := by decide +kernel
theorem dX9_timeOf_4 : decode cX9_timeOf 4 = .ok (.iconst 4, 1) := by decide +kernel
theorem dX9_timeOf_5 : decode cX9_timeOf 5 = .ok (.iconst 2, 1) := by decide +kernel
theorem dX9_timeOf_6 : decode cX9_timeOf 6 = .ok (.iload_n 1, 1) := by decide +kernel
theorem dX9_timeOf_7 : decode cX9_timeOf 7 = .ok (.imul, 1) := by decide +kernel
theorem dX9_timeOf_8 : decode cX9_timeOf 8 = .ok (.iadd, 1) := by decide +kernel
theorem dX9_timeOf_9 : decode cX9_timeOf 9 = .ok (.iconst 1, 1) := by decide +kernel
theorem dX9_timeOf_10 : decode cX9_timeOf 10 = .ok (.iadd, 1) := by decide +kernel
theorem dX9_timeOf_11 : decode cX9_timeOf 11 = .ok (.iaload, 1) := by decide +kernel
theorem dX9_timeOf_12 : decode cX9_timeOf 12 = .ok (.ireturn, 1) := by decide +kernel
theorem dX9_isThere_0 : decode cX9_isThere 0 = .ok (.iconst 0, 1) := by decide +kernel
theorem dX9_isThere_1 : decode cX9_isThere 1 = .ok (.istore_n 3, 1) := by decide +kernel
theorem dX9_isThere_2 : decode cX9_isThere 2 = .ok (.iconst 0, 1) := by decide +kernel
theorem dX9_isThere_3 : decode cX9_isThere 3 = .ok (.istore 4, 2) := by decide +kernel
theorem dX9_isThere_5 : decode cX9_isThere 5 = .ok (.iload 4, 2) := by decide +kernel
theorem dX9_isThere_7 : decode cX9_isThere 7 = .ok (.aload_n 0, 1) := by decide +kernel
theorem dX9_isThere_8 : decode cX9_isThere 8 = .ok (.getfield 7, 3) := by decide +kernel
theorem dX9_isThere_11 : decode cX9_isThere 11 = .ok (.iconst 3, 1) := by decide +kernel
theorem dX9_isThere_12 : decode cX9_isThere 12 = .ok (.iaload, 1) := by decide +kernel
theorem dX9_isThere_13 : decode cX9_isThere 13 = .ok (.if_icmp .ge 39, 3) := by decide +kernel
theorem dX9_isThere_16 : decode cX9_isThere 16 = .ok (.iload_n 3, 1) := by decide +kernel
theorem dX9_isThere_17 : decode cX9_isThere 17 = .ok (.ifCond .ne 23, 3) := by decide +kernel
theorem dX9_isThere_20 : decode cX9_isThere 20 = .ok (.aload_n 0, 1) := by decide +kernel
theorem dX9_isThere_21 : decode cX9_isThere 21 = .ok (.iload 4, 2) := by decide +kernel
theorem dX9_isThere_23 : decode cX9_isThere 23 = .ok (.invokevirtual 87, 3) := by decide +kernel
theorem dX9_isThere_26 : decode cX9_isThere 26 = .ok (.iload_n 1, 1) := by decide +kernel
theorem dX9_isThere_27 : decode cX9_isThere 27 = .ok (.if_icmp .ne 17, 3) := by decide +kernel
theorem dX9_isThere_30 : decode cX9_isThere 30 = .ok (.aload_n 0, 1) := by decide +kernel
theorem dX9_isThere_31 : decode cX9_isThere 31 = .ok (.iload 4, 2) := by decide +kernel
theorem dX9_isThere_33 : decode cX9_isThere 33 = .ok (.invokevirtual 90, 3) := by decide +kernel
theorem dX9_isThere_36 : decode cX9_isThere 36 = .ok (.iload_n 2, 1) := by decide +kernel
theorem dX9_isThere_37 : decode cX9_isThere 37 = .ok (.if_icmp .ne 7, 3) := by decide +kernel
theorem dX9_isThere_40 : decode cX9_isThere 40 = .ok (.iconst 1, 1) := by decide +kernel
theorem dX9_isThere_41 : decode cX9_isThere 41 = .ok (.goto 4, 3) := by decide +kernel
theorem dX9_isThere_44 : decode cX9_isThere 44 = .ok (.iconst 0, 1) := by decide +kernel
theorem dX9_isThere_45 : decode cX9_isThere 45 = .ok (.istore_n 3, 1) := by decide +kernel
theorem dX9_isThere_46 : decode cX9_isThere 46 = .ok (.iinc 4 1, 3) := by decide +kernel
theorem dX9_isThere_49 : decode cX9_isThere 49 = .ok (.goto (-44), 3) := by decide +kernel
theorem dX9_isThere_52 : decode cX9_isThere 52 = .ok (.iload_n 3, 1) := by decide +kernel
theorem dX9_isThere_53 : decode cX9_isThere 53 = .ok (.ireturn, 1) := by decide +kernel
theorem dX9_comes_0 : decode cX9_comes 0 = .ok (.aload_n 0, 1) := by decide +kernel
theorem dX9_comes_1 : decode cX9_comes 1 = .ok (.getfield 7, 3) := by decide +kernel
theorem dX9_comes_4 : decode cX9_comes 4 = .ok (.iconst 3, 1) := by decide +kernel
theorem dX9_comes_5 : decode cX9_comes 5 = .ok (.iaload, 1) := by decide +kernel
theorem dX9_comes_6 : decode cX9_comes 6 = .ok (.istore_n 3, 1) := by decide +kernel
theorem dX9_comes_7 : decode cX9_comes 7 = .ok (.iload_n 3, 1) := by decide +kernel
theorem dX9_comes_8 : decode cX9_comes 8 = .ok (.ifCond .le 78, 3) := by decide +kernel
theorem dX9_comes_11 : decode cX9_comes 11 = .ok (.aload_n 0, 1) := by decide +kernel
theorem dX9_comes_12 : decode cX9_comes 12 = .ok (.iload_n 3, 1) := by decide +kernel
theorem dX9_comes_13 : decode cX9_comes 13 = .ok (.iconst 1, 1) := by decide +kernel
theorem dX9_comes_14 : decode cX9_comes 14 = .ok (.isub, 1) := by decide +kernel
theorem dX9_comes_15 : decode cX9_comes 15 = .ok (.invokevirtual 90, 3) := by decide +kernel
theorem dX9_comes_18 : decode cX9_comes 18 = .ok (.iload_n 2, 1) := by decide +kernel
theorem dX9_comes_19 : decode cX9_comes 19 = .ok (.if_icmp .gt 25, 3) := by decide +kernel
theorem dX9_comes_22 : decode cX9_comes 22 = .ok (.aload_n 0, 1) := by decide +kernel
theorem dX9_comes_23 : decode cX9_comes 23 = .ok (.iload_n 3, 1) := by decide +kernel
theorem dX9_comes_24 : decode cX9_comes 24 = .ok (.iconst 1, 1) := by decide +kernel
theorem dX9_comes_25 : decode cX9_comes 25 = .ok (.isub, 1) := by decide +kernel
theorem dX9_comes_26 : decode cX9_comes 26 = .ok (.invokevirtual 90, 3) := by decide +kernel
theorem dX9_comes_29 : decode cX9_comes 29 = .ok (.iload_n 2, 1) := by decide +kernel
theorem dX9_comes_30 : decode cX9_comes 30 = .ok (.if_icmp .ne 56, 3) := by decide +kernel
theorem dX9_comes_33 : decode cX9_comes 33 = .ok (.aload_n 0, 1) := by decide +kernel
theorem dX9_comes_34 : decode cX9_comes 34 = .ok (.iload_n 3, 1) := by decide +kernel
theorem dX9_comes_35 : decode cX9_comes 35 = .ok (.iconst 1, 1) := by decide +kernel
theorem dX9_comes_36 : decode cX9_comes 36 = .ok (.isub, 1) := by decide +kernel
theorem dX9_comes_37 : decode cX9_comes 37 = .ok (.invokevirtual 87, 3) := by decide +kernel
theorem dX9_comes_40 : decode cX9_comes 40 = .ok (.iload_n 1, 1) := by decide +kernel
theorem dX9_comes_41 : decode cX9_comes 41 = .ok (.if_icmp .le 45, 3) := by decide +kernel
theorem dX9_comes_44 : decode cX9_comes 44 = .ok (.aload_n 0, 1) := by decide +kernel
theorem dX9_comes_45 : decode cX9_comes 45 = .ok (.getfield 7, 3) := by decide +kernel
theorem dX9_comes_48 : decode cX9_comes 48 = .ok (.iconst 4, 1) := by decide +kernel
theorem dX9_comes_49 : decode cX9_comes 49 = .ok (.iconst 2, 1) := by decide +kernel
theorem dX9_comes_50 : decode cX9_comes 50 = .ok (.iload_n 3, 1) := by decide +kernel
theorem dX9_comes_51 : decode cX9_comes 51 = .ok (.imul, 1) := by decide +kernel
theorem dX9_comes_52 : decode cX9_comes 52 = .ok (.iadd, 1) := by decide +kernel
theorem dX9_comes_53 : decode cX9_comes 53 = .ok (.aload_n 0, 1) := by decide +kernel
theorem dX9_comes_54 : decode cX9_comes 54 = .ok (.iload_n 3, 1) := by decide +kernel
theorem dX9_comes_55 : decode cX9_comes 55 = .ok (.iconst 1, 1) := by decide +kernel
theorem dX9_comes_56 : decode cX9_comes 56 = .ok (.isub, 1) := by decide +kernel
theorem dX9_comes_57 : decode cX9_comes 57 = .ok (.invokevirtual 87, 3) := by decide +kernel
theorem dX9_comes_60 : decode cX9_comes 60 = .ok (.iastore, 1) := by decide +kernel
theorem dX9_comes_61 : decode cX9_comes 61 = .ok (.aload_n 0, 1) := by decide +kernel
theorem dX9_comes_62 : decode cX9_comes 62 = .ok (.getfield 7, 3) := by decide +kernel
theorem dX9_comes_65 : decode cX9_comes 65 = .ok (.iconst 4, 1) := by decide +kernel
theorem dX9_comes_66 : decode cX9_comes 66 = .ok (.iconst 2, 1) := by decide +kernel
theorem dX9_comes_67 : decode cX9_comes 67 = .ok (.iload_n 3, 1) := by decide +kernel
theorem dX9_comes_68 : decode cX9_comes 68 = .ok (.imul, 1) := by decide +kernel
theorem dX9_comes_69 : decode cX9_comes 69 = .ok (.iadd, 1) := by decide +kernel
theorem dX9_comes_70 : decode cX9_comes 70 = .ok (.iconst 1, 1) := by decide +kernel
theorem dX9_comes_71 : decode cX9_comes 71 = .ok (.iadd, 1) := by decide +kernel
theorem dX9_comes_72 : decode cX9_comes 72 = .ok (.aload_n 0, 1) := by decide +kernel
theorem dX9_comes_73 : decode cX9_comes 73 = .ok (.iload_n 3, 1) := by decide +kernel
theorem dX9_comes_74 : decode cX9_comes 74 = .ok (.iconst 1, 1) := by decide +kernel
theorem dX9_comes_75 : decode cX9_comes 75 = .ok (.isub, 1) := by decide +kernel
theorem dX9_comes_76 : decode cX9_comes 76 = .ok (.invokevirtual 90, 3) := by decide +kernel
theorem dX9_comes_79 : decode cX9_comes 79 = .ok (.iastore, 1) := by decide +kernel
theorem dX9_comes_80 : decode cX9_comes 80 = .ok (.iinc 3 (-1), 3) := by decide +kernel
theorem dX9_comes_83 : decode cX9_comes 83 = .ok (.goto (-76), 3) := by decide +kernel
theorem dX9_comes_86 : decode cX9_comes 86 = .ok (.aload_n 0, 1) := by decide +kernel
theorem dX9_comes_87 : decode cX9_comes 87 = .ok (.getfield 7, 3) := by decide +kernel
theorem dX9_comes_90 : decode cX9_comes 90 = .ok (.iconst 4, 1) := by decide +kernel
theorem dX9_comes_91 : decode cX9_comes 91 = .ok (.iconst 2, 1) := by decide +kernel
theorem dX9_comes_92 : decode cX9_comes 92 = .ok (.iload_n 3, 1) := by decide +kernel
theorem dX9_comes_93 : decode cX9_comes 93 = .ok (.imul, 1) := by decide +kernel
theorem dX9_comes_94 : decode cX9_comes 94 = .ok (.iadd, 1) := by decide +kernel
theorem dX9_comes_95 : decode cX9_comes 95 = .ok (.iload_n 1, 1) := by decide +kernel
theorem dX9_comes_96 : decode cX9_comes 96 = .ok (.iastore, 1) := by decide +kernel
theorem dX9_comes_97 : decode cX9_comes 97 = .ok (.aload_n 0, 1) := by decide +kernel
theorem dX9_comes_98 : decode cX9_comes 98 = .ok (.getfield 7, 3) := by decide +kernel
theorem dX9_comes_101 : decode cX9_comes 101 = .ok (.iconst 4, 1) := by decide +kernel
theorem dX9_comes_102 : decode cX9_comes 102 = .ok (.iconst 2, 1) := by decide +kernel
theorem dX9_comes_103 : decode cX9_comes 103 = .ok (.iload_n 3, 1) := by decide +kernel
theorem dX9_comes_104 : decode cX9_comes 104 = .ok (.imul, 1) := by decide +kernel
theorem dX9_comes_105 : decode cX9_comes 105 = .ok (.iadd, 1) := by decide +kernel
theorem dX9_comes_106 : decode cX9_comes 106 = .ok (.iconst 1, 1) := by decide +kernel
theorem dX9_comes_107 : decode cX9_comes 107 = .ok (.iadd, 1) := by decide +kernel
theorem dX9_comes_108 : decode cX9_comes 108 = .ok (.iload_n 2, 1) := by decide +kernel
theorem dX9_comes_109 : decode cX9_comes 109 = .ok (.iastore, 1) := by decide +kernel
theorem dX9_comes_110 : decode cX9_comes 110 = .ok (.aload_n 0, 1) := by decide +kernel
theorem dX9_comes_111 : decode cX9_comes 111 = .ok (.getfield 7, 3) := by decide +kernel
theorem dX9_comes_114 : decode cX9_comes 114 = .ok (.iconst 3, 1) := by decide +kernel
theorem dX9_comes_115 : decode cX9_comes 115 = .ok (.dup2, 1) := by decide +kernel
theorem dX9_comes_116 : decode cX9_comes 116 = .ok (.iaload, 1) := by decide +kernel
theorem dX9_comes_117 : decode cX9_comes 117 = .ok (.iconst 1, 1) := by decide +kernel
theorem dX9_comes_118 : decode cX9_comes 118 = .ok (.iadd, 1) := by decide +kernel
theorem dX9_comes_119 : decode cX9_comes 119 = .ok (.iastore, 1) := by decide +kernel
theorem dX9_comes_120 : decode cX9_comes 120 = .ok (.iload_n 3, 1) := by decide +kernel
theorem dX9_comes_121 : decode cX9_comes 121 = .ok (.ireturn, 1) := by decide +kernel
theorem dX9_goes_0 : decode cX9_goes 0 = .ok (.aload_n 0, 1) := by decide +kernel
theorem dX9_goes_1 : decode cX9_goes 1 = .ok (.getfield 7, 3) := by decide +kernel
theorem dX9_goes_4 : decode cX9_goes 4 = .ok (.iconst 3, 1) := by decide +kernel
theorem dX9_goes_5 : decode cX9_goes 5 = .ok (.dup2, 1) := by decide +kernel
theorem dX9_goes_6 : decode cX9_goes 6 = .ok (.iaload, 1) := by decide +kernel
theorem dX9_goes_7 : decode cX9_goes 7 = .ok (.iconst 1, 1) := by decide +kernel
theorem dX9_goes_8 : decode cX9_goes 8 = .ok (.isub, 1) := by decide +kernel
theorem dX9_goes_9 : decode cX9_goes 9 = .ok (.iastore, 1) := by decide +kernel
theorem dX9_goes_10 : decode cX9_goes 10 = .ok (.iconst 4, 1) := by decide +kernel
theorem dX9_goes_11 : decode cX9_goes 11 = .ok (.iconst 2, 1) := by decide +kernel
theorem dX9_goes_12 : decode cX9_goes 12 = .ok (.iload_n 1, 1) := by decide +kernel
theorem dX9_goes_13 : decode cX9_goes 13 = .ok (.imul, 1) := by decide +kernel
theorem dX9_goes_14 : decode cX9_goes 14 = .ok (.iadd, 1) := by decide +kernel
theorem dX9_goes_15 : decode cX9_goes 15 = .ok (.istore_n 2, 1) := by decide +kernel
theorem dX9_goes_16 : decode cX9_goes 16 = .ok (.iload_n 2, 1) := by decide +kernel
theorem dX9_goes_17 : decode cX9_goes 17 = .ok (.iconst 4, 1) := by decide +kernel
theorem dX9_goes_18 : decode cX9_goes 18 = .ok (.iconst 2, 1) := by decide +kernel
theorem dX9_goes_19 : decode cX9_goes 19 = .ok (.aload_n 0, 1) := by decide +kernel
theorem dX9_goes_20 : decode cX9_goes 20 = .ok (.getfield 7, 3) := by decide +kernel
theorem dX9_goes_23 : decode cX9_goes 23 = .ok (.iconst 3, 1) := by decide +kernel
theorem dX9_goes_24 : decode cX9_goes 24 = .ok (.iaload, 1) := by decide +kernel
theorem dX9_goes_25 : decode cX9_goes 25 = .ok (.imul, 1) := by decide +kernel
theorem dX9_goes_26 : decode cX9_goes 26 = .ok (.iadd, 1) := by decide +kernel
theorem dX9_goes_27 : decode cX9_goes 27 = .ok (.if_icmp .ge 23, 3) := by decide +kernel
theorem dX9_goes_30 : decode cX9_goes 30 = .ok (.aload_n 0, 1) := by decide +kernel
theorem dX9_goes_31 : decode cX9_goes 31 = .ok (.getfield 7, 3) := by decide +kernel
theorem dX9_goes_34 : decode cX9_goes 34 = .ok (.iload_n 2, 1) := by decide +kernel
theorem dX9_goes_35 : decode cX9_goes 35 = .ok (.aload_n 0, 1) := by decide +kernel
theorem dX9_goes_36 : decode cX9_goes 36 = .ok (.getfield 7, 3) := by decide +kernel
theorem dX9_goes_39 : decode cX9_goes 39 = .ok (.iload_n 2, 1) := by decide +kernel
theorem dX9_goes_40 : decode cX9_goes 40 = .ok (.iconst 2, 1) := by decide +kernel
theorem dX9_goes_41 : decode cX9_goes 41 = .ok (.iadd, 1) := by decide +kernel
theorem dX9_goes_42 : decode cX9_goes 42 = .ok (.iaload, 1) := by decide +kernel
theorem dX9_goes_43 : decode cX9_goes 43 = .ok (.iastore, 1) := by decide +kernel
theorem dX9_goes_44 : decode cX9_goes 44 = .ok (.iinc 2 1, 3) := by decide +kernel
theorem dX9_goes_47 : decode cX9_goes 47 = .ok (.goto (-31), 3) := by decide +kernel
theorem dX9_goes_50 : decode cX9_goes 50 = .ok (.return_, 1) := by decide +kernel
theorem dX9_spreadAt_0 : decode cX9_spreadAt 0 = .ok (.ldc 93, 2) := by decide +kernel
theorem dX9_spreadAt_2 : decode cX9_spreadAt 2 = .ok (.istore_n 2, 1) := by decide +kernel
theorem dX9_spreadAt_3 : decode cX9_spreadAt 3 = .ok (.ldc 94, 2) := by decide +kernel
theorem dX9_spreadAt_5 : decode cX9_spreadAt 5 = .ok (.istore_n 3, 1) := by decide +kernel
theorem dX9_spreadAt_6 : decode cX9_spreadAt 6 = .ok (.iconst 0, 1) := by decide +kernel
theorem dX9_spreadAt_7 : decode cX9_spreadAt 7 = .ok (.istore 4, 2) := by decide +kernel
theorem dX9_spreadAt_9 : decode cX9_spreadAt 9 = .ok (.iload 4, 2) := by decide +kernel
theorem dX9_spreadAt_11 : decode cX9_spreadAt 11 = .ok (.iconst 4, 1) := by decide +kernel
theorem dX9_spreadAt_12 : decode cX9_spreadAt 12 = .ok (.if_icmp .ge 60, 3) := by decide +kernel
theorem dX9_spreadAt_15 : decode cX9_spreadAt 15 = .ok (.aload_n 0, 1) := by decide +kernel
theorem dX9_spreadAt_16 : decode cX9_spreadAt 16 = .ok (.aload_n 0, 1) := by decide +kernel
theorem dX9_spreadAt_17 : decode cX9_spreadAt 17 = .ok (.getfield 49, 3) := by decide +kernel
theorem dX9_spreadAt_20 : decode cX9_spreadAt 20 = .ok (.iload 4, 2) := by decide +kernel
theorem dX9_spreadAt_22 : decode cX9_spreadAt 22 = .ok (.iaload, 1) := by decide +kernel
theorem dX9_spreadAt_23 : decode cX9_spreadAt 23 = .ok (.invokevirtual 90, 3) := by decide +kernel
theorem dX9_spreadAt_26 : decode cX9_spreadAt 26 = .ok (.aload_n 0, 1) := by decide +kernel
theorem dX9_spreadAt_27 : decode cX9_spreadAt 27 = .ok (.getfield 31, 3) := by decide +kernel
theorem dX9_spreadAt_30 : decode cX9_spreadAt 30 = .ok (.iconst 4, 1) := by decide +kernel
theorem dX9_spreadAt_31 : decode cX9_spreadAt 31 = .ok (.iload_n 1, 1) := by decide +kernel
theorem dX9_spreadAt_32 : decode cX9_spreadAt 32 = .ok (.imul, 1) := by decide +kernel
theorem dX9_spreadAt_33 : decode cX9_spreadAt 33 = .ok (.iload 4, 2) := by decide +kernel
theorem dX9_spreadAt_35 : decode cX9_spreadAt 35 = .ok (.iadd, 1) := by decide +kernel
theorem dX9_spreadAt_36 : decode cX9_spreadAt 36 = .ok (.iaload, 1) := by decide +kernel
theorem dX9_spreadAt_37 : decode cX9_spreadAt 37 = .ok (.isub, 1) := by decide +kernel
theorem dX9_spreadAt_38 : decode cX9_spreadAt 38 = .ok (.istore 5, 2) := by decide +kernel
theorem dX9_spreadAt_40 : decode cX9_spreadAt 40 = .ok (.iload 5, 2) := by decide +kernel
theorem dX9_spreadAt_42 : decode cX9_spreadAt 42 = .ok (.iload_n 2, 1) := by decide +kernel
theorem dX9_spreadAt_43 : decode cX9_spreadAt 43 = .ok (.if_icmp .ge 8, 3) := by decide +kernel
theorem dX9_spreadAt_46 : decode cX9_spreadAt 46 = .ok (.iload 5, 2) := by decide +kernel
theorem dX9_spreadAt_48 : decode cX9_spreadAt 48 = .ok (.goto 4, 3) := by decide +kernel
theorem dX9_spreadAt_51 : decode cX9_spreadAt 51 = .ok (.iload_n 2, 1) := by decide +kernel
theorem dX9_spreadAt_52 : decode cX9_spreadAt 52 = .ok (.istore_n 2, 1) := by decide +kernel
theorem dX9_spreadAt_53 : decode cX9_spreadAt 53 = .ok (.iload 5, 2) := by decide +kernel
theorem dX9_spreadAt_55 : decode cX9_spreadAt 55 = .ok (.iload_n 3, 1) := by decide +kernel
theorem dX9_spreadAt_56 : decode cX9_spreadAt 56 = .ok (.if_icmp .le 8, 3) := by decide +kernel
theorem dX9_spreadAt_59 : decode cX9_spreadAt 59 = .ok (.iload 5, 2) := by decide +kernel
theorem dX9_spreadAt_61 : decode cX9_spreadAt 61 = .ok (.goto 4, 3) := by decide +kernel
theorem dX9_spreadAt_64 : decode cX9_spreadAt 64 = .ok (.iload_n 3, 1) := by decide +kernel
theorem dX9_spreadAt_65 : decode cX9_spreadAt 65 = .ok (.istore_n 3, 1) := by decide +kernel
theorem dX9_spreadAt_66 : decode cX9_spreadAt 66 = .ok (.iinc 4 1, 3) := by decide +kernel
theorem dX9_spreadAt_69 : decode cX9_spreadAt 69 = .ok (.goto (-60), 3) := by decide +kernel
theorem dX9_spreadAt_72 : decode cX9_spreadAt 72 = .ok (.iload_n 3, 1) := by decide +kernel
theorem dX9_spreadAt_73 : decode cX9_spreadAt 73 = .ok (.iload_n 2, 1) := by decide +kernel
theorem dX9_spreadAt_74 : decode cX9_spreadAt 74 = .ok (.isub, 1) := by decide +kernel
theorem dX9_spreadAt_75 : decode cX9_spreadAt 75 = .ok (.ireturn, 1) := by decide +kernel
theorem dX9_momentAt_0 : decode cX9_momentAt 0 = .ok (.ldc 93, 2) := by decide +kernel
theorem dX9_momentAt_2 : decode cX9_momentAt 2 = .ok (.istore_n 2, 1) := by decide +kernel
theorem dX9_momentAt_3 : decode cX9_momentAt 3 = .ok (.iconst 0, 1) := by decide +kernel
theorem dX9_momentAt_4 : decode cX9_momentAt 4 = .ok (.istore_n 3, 1) := by decide +kernel
theorem dX9_momentAt_5 : decode cX9_momentAt 5 = .ok (.iload_n 3, 1) := by decide +kernel
theorem dX9_momentAt_6 : decode cX9_momentAt 6 = .ok (.iconst 4, 1) := by decide +kernel
theorem dX9_momentAt_7 : decode cX9_momentAt 7 = .ok (.if_icmp .ge 45, 3) := by decide +kernel
theorem dX9_momentAt_10 : decode cX9_momentAt 10 = .ok (.aload_n 0, 1) := by decide +kernel
theorem dX9_momentAt_11 : decode cX9_momentAt 11 = .ok (.aload_n 0, 1) := by decide +kernel
theorem dX9_momentAt_12 : decode cX9_momentAt 12 = .ok (.getfield 49, 3) := by decide +kernel
theorem dX9_momentAt_15 : decode cX9_momentAt 15 = .ok (.iload_n 3, 1) := by decide +kernel
theorem dX9_momentAt_16 : decode cX9_momentAt 16 = .ok (.iaload, 1) := by decide +kernel
theorem dX9_momentAt_17 : decode cX9_momentAt 17 = .ok (.invokevirtual 90, 3) := by decide +kernel
theorem dX9_momentAt_20 : decode cX9_momentAt 20 = .ok (.aload_n 0, 1) := by decide +kernel
theorem dX9_momentAt_21 : decode cX9_momentAt 21 = .ok (.getfield 31, 3) := by decide +kernel
theorem dX9_momentAt_24 : decode cX9_momentAt 24 = .ok (.iconst 4, 1) := by decide +kernel
theorem dX9_momentAt_25 : decode cX9_momentAt 25 = .ok (.iload_n 1, 1) := by decide +kernel
theorem dX9_momentAt_26 : decode cX9_momentAt 26 = .ok (.imul, 1) := by decide +kernel
theorem dX9_momentAt_27 : decode cX9_momentAt 27 = .ok (.iload_n 3, 1) := by decide +kernel
theorem dX9_momentAt_28 : decode cX9_momentAt 28 = .ok (.iadd, 1) := by decide +kernel
theorem dX9_momentAt_29 : decode cX9_momentAt 29 = .ok (.iaload, 1) := by decide +kernel
theorem dX9_momentAt_30 : decode cX9_momentAt 30 = .ok (.isub, 1) := by decide +kernel
theorem dX9_momentAt_31 : decode cX9_momentAt 31 = .ok (.istore 4, 2) := by decide +kernel
theorem dX9_momentAt_33 : decode cX9_momentAt 33 = .ok (.iload 4, 2) := by decide +kernel
theorem dX9_momentAt_35 : decode cX9_momentAt 35 = .ok (.iload_n 2, 1) := by decide +kernel
theorem dX9_momentAt_36 : decode cX9_momentAt 36 = .ok (.if_icmp .ge 8, 3) := by decide +kernel
theorem dX9_momentAt_39 : decode cX9_momentAt 39 = .ok (.iload 4, 2) := by decide +kernel
theorem dX9_momentAt_41 : decode cX9_momentAt 41 = .ok (.goto 4, 3) := by decide +kernel
theorem dX9_momentAt_44 : decode cX9_momentAt 44 = .ok (.iload_n 2, 1) := by decide +kernel
theorem dX9_momentAt_45 : decode cX9_momentAt 45 = .ok (.istore_n 2, 1) := by decide +kernel
theorem dX9_momentAt_46 : decode cX9_momentAt 46 = .ok (.iinc 3 1, 3) := by decide +kernel
theorem dX9_momentAt_49 : decode cX9_momentAt 49 = .ok (.goto (-44), 3) := by decide +kernel
theorem dX9_momentAt_52 : decode cX9_momentAt 52 = .ok (.iload_n 2, 1) := by decide +kernel
theorem dX9_momentAt_53 : decode cX9_momentAt 53 = .ok (.ireturn, 1) := by decide +kernel
theorem dX9_findPlace_0 : decode cX9_findPlace 0 = .ok (.aload_n 0, 1) := by decide +kernel
theorem dX9_findPlace_1 : decode cX9_findPlace 1 = .ok (.iconst 0, 1) := by decide +kernel
theorem dX9_findPlace_2 : decode cX9_findPlace 2 = .ok (.putfield 95, 3) := by decide +kernel
theorem dX9_findPlace_5 : decode cX9_findPlace 5 = .ok (.aload_n 0, 1) := by decide +kernel
theorem dX9_findPlace_6 : decode cX9_findPlace 6 = .ok (.aload_n 0, 1) := by decide +kernel
theorem dX9_findPlace_7 : decode cX9_findPlace 7 = .ok (.iconst 0, 1) := by decide +kernel
theorem dX9_findPlace_8 : decode cX9_findPlace 8 = .ok (.invokevirtual 98, 3) := by decide +kernel
theorem dX9_findPlace_11 : decode cX9_findPlace 11 = .ok (.putfield 101, 3) := by decide +kernel
theorem dX9_findPlace_14 : decode cX9_findPlace 14 = .ok (.iconst 1, 1) := by decide +kernel
theorem dX9_findPlace_15 : decode cX9_findPlace 15 = .ok (.istore_n 1, 1) := by decide +kernel
theorem dX9_findPlace_16 : decode cX9_findPlace 16 = .ok (.iload_n 1, 1) := by decide +kernel
theorem dX9_findPlace_17 : decode cX9_findPlace 17 = .ok (.sipush 1681, 3) := by decide +kernel
theorem dX9_findPlace_20 : decode cX9_findPlace 20 = .ok (.if_icmp .ge 55, 3) := by decide +kernel
theorem dX9_findPlace_23 : decode cX9_findPlace 23 = .ok (.aload_n 0, 1) := by decide +kernel
theorem dX9_findPlace_24 : decode cX9_findPlace 24 = .ok (.iload_n 1, 1) := by decide +kernel
theorem dX9_findPlace_25 : decode cX9_findPlace 25 = .ok (.invokevirtual 98, 3) := by decide +kernel
theorem dX9_findPlace_28 : decode cX9_findPlace 28 = .ok (.istore_n 2, 1) := by decide +kernel
theorem dX9_findPlace_29 : decode cX9_findPlace 29 = .ok (.aload_n 0, 1) := by decide +kernel
theorem dX9_findPlace_30 : decode cX9_findPlace 30 = .ok (.iload_n 2, 1) := by decide +kernel
theorem dX9_findPlace_31 : decode cX9_findPlace 31 = .ok (.aload_n 0, 1) := by decide +kernel
theorem dX9_findPlace_32 : decode cX9_findPlace 32 = .ok (.getfield 101, 3) := by decide +kernel
theorem dX9_findPlace_35 : decode cX9_findPlace 35 = .ok (.if_icmp .ge 7, 3) := by decide +kernel
theorem dX9_findPlace_38 : decode cX9_findPlace 38 = .ok (.iload_n 1, 1) := by decide +kernel
theorem dX9_findPlace_39 : decode cX9_findPlace 39 = .ok (.goto 7, 3) := by decide +kernel
theorem dX9_findPlace_42 : decode cX9_findPlace 42 = .ok (.aload_n 0, 1) := by decide +kernel
theorem dX9_findPlace_43 : decode cX9_findPlace 43 = .ok (.getfield 95, 3) := by decide +kernel
theorem dX9_findPlace_46 : decode cX9_findPlace 46 = .ok (.putfield 95, 3) := by decide +kernel
theorem dX9_findPlace_49 : decode cX9_findPlace 49 = .ok (.aload_n 0, 1) := by decide +kernel
theorem dX9_findPlace_50 : decode cX9_findPlace 50 = .ok (.iload_n 2, 1) := by decide +kernel
theorem dX9_findPlace_51 : decode cX9_findPlace 51 = .ok (.aload_n 0, 1) := by decide +kernel
theorem dX9_findPlace_52 : decode cX9_findPlace 52 = .ok (.getfield 101, 3) := by decide +kernel
theorem dX9_findPlace_55 : decode cX9_findPlace 55 = .ok (.if_icmp .ge 7, 3) := by decide +kernel
theorem dX9_findPlace_58 : decode cX9_findPlace 58 = .ok (.iload_n 2, 1) := by decide +kernel
theorem dX9_findPlace_59 : decode cX9_findPlace 59 = .ok (.goto 7, 3) := by decide +kernel
theorem dX9_findPlace_62 : decode cX9_findPlace 62 = .ok (.aload_n 0, 1) := by decide +kernel
theorem dX9_findPlace_63 : decode cX9_findPlace 63 = .ok (.getfield 101, 3) := by decide +kernel
theorem dX9_findPlace_66 : decode cX9_findPlace 66 = .ok (.putfield 101, 3) := by decide +kernel
theorem dX9_findPlace_69 : decode cX9_findPlace 69 = .ok (.iinc 1 1, 3) := by decide +kernel
theorem dX9_findPlace_72 : decode cX9_findPlace 72 = .ok (.goto (-56), 3) := by decide +kernel
theorem dX9_findPlace_75 : decode cX9_findPlace 75 = .ok (.return_, 1) := by decide +kernel
theorem dX9_findCandidates_0 : decode cX9_findCandidates 0 = .ok (.iconst 1, 1) := by decide +kernel
theorem dX9_findCandidates_1 : decode cX9_findCandidates 1 = .ok (.istore_n 2, 1) := by decide +kernel
theorem dX9_findCandidates_2 : decode cX9_findCandidates 2 = .ok (.iconst 0, 1) := by decide +kernel
theorem dX9_findCandidates_3 : decode cX9_findCandidates 3 = .ok (.istore_n 3, 1) := by decide +kernel
theorem dX9_findCandidates_4 : decode cX9_findCandidates 4 = .ok (.iload_n 3, 1) := by decide +kernel
theorem dX9_findCandidates_5 : decode cX9_findCandidates 5 = .ok (.iconst 4, 1) := by decide +kernel
theorem dX9_findCandidates_6 : decode cX9_findCandidates 6 = .ok (.if_icmp .ge 169, 3) := by decide +kernel
theorem dX9_findCandidates_9 : decode cX9_findCandidates 9 = .ok (.iconst 0, 1) := by decide +kernel
theorem dX9_findCandidates_10 : decode cX9_findCandidates 10 = .ok (.istore 4, 2) := by decide +kernel
theorem dX9_findCandidates_12 : decode cX9_findCandidates 12 = .ok (.aload_n 0, 1) := by decide +kernel
theorem dX9_findCandidates_13 : decode cX9_findCandidates 13 = .ok (.getfield 52, 3) := by decide +kernel
theorem dX9_findCandidates_16 : decode cX9_findCandidates 16 = .ok (.iconst 2, 1) := by decide +kernel
theorem dX9_findCandidates_17 : decode cX9_findCandidates 17 = .ok (.iload_n 3, 1) := by decide +kernel
theorem dX9_findCandidates_18 : decode cX9_findCandidates 18 = .ok (.imul, 1) := by decide +kernel
theorem dX9_findCandidates_19 : decode cX9_findCandidates 19 = .ok (.bipush (-6), 2) := by decide +kernel
theorem dX9_findCandidates_21 : decode cX9_findCandidates 21 = .ok (.iastore, 1) := by decide +kernel
theorem dX9_findCandidates_22 : decode cX9_findCandidates 22 = .ok (.aload_n 0, 1) := by decide +kernel
theorem dX9_findCandidates_23 : decode cX9_findCandidates 23 = .ok (.getfield 52, 3) := by decide +kernel
theorem dX9_findCandidates_26 : decode cX9_findCandidates 26 = .ok (.iconst 2, 1) := by decide +kernel
theorem dX9_findCandidates_27 : decode cX9_findCandidates 27 = .ok (.iload_n 3, 1) := by decide +kernel
theorem dX9_findCandidates_28 : decode cX9_findCandidates 28 = .ok (.imul, 1) := by decide +kernel
theorem dX9_findCandidates_29 : decode cX9_findCandidates 29 = .ok (.iconst 1, 1) := by decide +kernel
theorem dX9_findCandidates_30 : decode cX9_findCandidates 30 = .ok (.iadd, 1) := by decide +kernel
theorem dX9_findCandidates_31 : decode cX9_findCandidates 31 = .ok (.bipush (-6), 2) := by decide +kernel
theorem dX9_findCandidates_33 : decode cX9_findCandidates 33 = .ok (.iastore, 1) := by decide +kernel
theorem dX9_findCandidates_34 : decode cX9_findCandidates 34 = .ok (.iconst 0, 1) := by decide +kernel
theorem dX9_findCandidates_35 : decode cX9_findCandidates 35 = .ok (.istore 5, 2) := by decide +kernel
theorem dX9_findCandidates_37 : decode cX9_findCandidates 37 = .ok (.iload 5, 2) := by decide +kernel
theorem dX9_findCandidates_39 : decode cX9_findCandidates 39 = .ok (.aload_n 0, 1) := by decide +kernel
theorem dX9_findCandidates_40 : decode cX9_findCandidates 40 = .ok (.getfield 7, 3) := by decide +kernel
theorem dX9_findCandidates_43 : decode cX9_findCandidates 43 = .ok (.iconst 3, 1) := by decide +kernel
theorem dX9_findCandidates_44 : decode cX9_findCandidates 44 = .ok (.iaload, 1) := by decide +kernel
theorem dX9_findCandidates_45 : decode cX9_findCandidates 45 = .ok (.if_icmp .ge 100, 3) := by decide +kernel
theorem dX9_findCandidates_48 : decode cX9_findCandidates 48 = .ok (.iload 4, 2) := by decide +kernel
theorem dX9_findCandidates_50 : decode cX9_findCandidates 50 = .ok (.iconst 2, 1) := by decide +kernel
theorem dX9_findCandidates_51 : decode cX9_findCandidates 51 = .ok (.if_icmp .ge 94, 3) := by decide +kernel
theorem dX9_findCandidates_54 : decode cX9_findCandidates 54 = .ok (.aload_n 0, 1) := by decide +kernel
theorem dX9_findCandidates_55 : decode cX9_findCandidates 55 = .ok (.iload 5, 2) := by decide +kernel
theorem dX9_findCandidates_57 : decode cX9_findCandidates 57 = .ok (.invokevirtual 87, 3) := by decide +kernel
theorem dX9_findCandidates_60 : decode cX9_findCandidates 60 = .ok (.iload_n 3, 1) := by decide +kernel
theorem dX9_findCandidates_61 : decode cX9_findCandidates 61 = .ok (.if_icmp .ne 54, 3) := by decide +kernel
theorem dX9_findCandidates_64 : decode cX9_findCandidates 64 = .ok (.aload_n 0, 1) := by decide +kernel
theorem dX9_findCandidates_65 : decode cX9_findCandidates 65 = .ok (.getfield 34, 3) := by decide +kernel
theorem dX9_findCandidates_68 : decode cX9_findCandidates 68 = .ok (.iload 5, 2) := by decide +kernel
theorem dX9_findCandidates_70 : decode cX9_findCandidates 70 = .ok (.iaload, 1) := by decide +kernel
theorem dX9_findCandidates_71 : decode cX9_findCandidates 71 = .ok (.bipush 40, 2) := by decide +kernel
theorem dX9_findCandidates_73 : decode cX9_findCandidates 73 = .ok (.if_icmp .ne 42, 3) := by decide +kernel
theorem dX9_findCandidates_76 : decode cX9_findCandidates 76 = .ok (.aload_n 0, 1) := by decide +kernel
theorem dX9_findCandidates_77 : decode cX9_findCandidates 77 = .ok (.iload 5, 2) := by decide +kernel
theorem dX9_findCandidates_79 : decode cX9_findCandidates 79 = .ok (.invokevirtual 90, 3) := by decide +kernel
theorem dX9_findCandidates_82 : decode cX9_findCandidates 82 = .ok (.aload_n 0, 1) := by decide +kernel
theorem dX9_findCandidates_83 : decode cX9_findCandidates 83 = .ok (.iload_n 1, 1) := by decide +kernel
theorem dX9_findCandidates_84 : decode cX9_findCandidates 84 = .ok (.invokevirtual 90, 3) := by decide +kernel
theorem dX9_findCandidates_87 : decode cX9_findCandidates 87 = .ok (.if_icmp .lt 28, 3) := by decide +kernel
theorem dX9_findCandidates_90 : decode cX9_findCandidates 90 = .ok (.aload_n 0, 1) := by decide +kernel
theorem dX9_findCandidates_91 : decode cX9_findCandidates 91 = .ok (.iload 5, 2) := by decide +kernel
theorem dX9_findCandidates_93 : decode cX9_findCandidates 93 = .ok (.invokevirtual 90, 3) := by decide +kernel
theorem dX9_findCandidates_96 : decode cX9_findCandidates 96 = .ok (.aload_n 0, 1) := by decide +kernel
theorem dX9_findCandidates_97 : decode cX9_findCandidates 97 = .ok (.iload_n 1, 1) := by decide +kernel
theorem dX9_findCandidates_98 : decode cX9_findCandidates 98 = .ok (.invokevirtual 90, 3) := by decide +kernel
theorem dX9_findCandidates_101 : decode cX9_findCandidates 101 = .ok (.isub, 1) := by decide +kernel
theorem dX9_findCandidates_102 : decode cX9_findCandidates 102 = .ok (.aload_n 0, 1) := by decide +kernel
theorem dX9_findCandidates_103 : decode cX9_findCandidates 103 = .ok (.getfield 7, 3) := by decide +kernel
theorem dX9_findCandidates_106 : decode cX9_findCandidates 106 = .ok (.iconst 1, 1) := by decide +kernel
theorem dX9_findCandidates_107 : decode cX9_findCandidates 107 = .ok (.iaload, 1) := by decide +kernel
theorem dX9_findCandidates_108 : decode cX9_findCandidates 108 = .ok (.if_icmp .gt 7, 3) := by decide +kernel
theorem dX9_findCandidates_111 : decode cX9_findCandidates 111 = .ok (.iconst 1, 1) := by decide +kernel
theorem dX9_findCandidates_112 : decode cX9_findCandidates 112 = .ok (.goto 4, 3) := by decide +kernel
theorem dX9_findCandidates_115 : decode cX9_findCandidates 115 = .ok (.iconst 0, 1) := by decide +kernel
theorem dX9_findCandidates_116 : decode cX9_findCandidates 116 = .ok (.istore 6, 2) := by decide +kernel
theorem dX9_findCandidates_118 : decode cX9_findCandidates 118 = .ok (.iload 6, 2) := by decide +kernel
theorem dX9_findCandidates_120 : decode cX9_findCandidates 120 = .ok (.ifCond .eq 19, 3) := by decide +kernel
theorem dX9_findCandidates_123 : decode cX9_findCandidates 123 = .ok (.aload_n 0, 1) := by decide +kernel
theorem dX9_findCandidates_124 : decode cX9_findCandidates 124 = .ok (.getfield 52, 3) := by decide +kernel
theorem dX9_findCandidates_127 : decode cX9_findCandidates 127 = .ok (.iconst 2, 1) := by decide +kernel
theorem dX9_findCandidates_128 : decode cX9_findCandidates 128 = .ok (.iload_n 3, 1) := by decide +kernel
theorem dX9_findCandidates_129 : decode cX9_findCandidates 129 = .ok (.imul, 1) := by decide +kernel
theorem dX9_findCandidates_130 : decode cX9_findCandidates 130 = .ok (.iload 4, 2) := by decide +kernel
theorem dX9_findCandidates_132 : decode cX9_findCandidates 132 = .ok (.iadd, 1) := by decide +kernel
theorem dX9_findCandidates_133 : decode cX9_findCandidates 133 = .ok (.iload 5, 2) := by decide +kernel
theorem dX9_findCandidates_135 : decode cX9_findCandidates 135 = .ok (.iastore, 1) := by decide +kernel
theorem dX9_findCandidates_136 : decode cX9_findCandidates 136 = .ok (.iinc 4 1, 3) := by decide +kernel
theorem dX9_findCandidates_139 : decode cX9_findCandidates 139 = .ok (.iinc 5 1, 3) := by decide +kernel
theorem dX9_findCandidates_142 : decode cX9_findCandidates 142 = .ok (.goto (-105), 3) := by decide +kernel
theorem dX9_findCandidates_145 : decode cX9_findCandidates 145 = .ok (.iload_n 2, 1) := by decide +kernel
theorem dX9_findCandidates_146 : decode cX9_findCandidates 146 = .ok (.ifCond .eq 21, 3) := by decide +kernel
theorem dX9_findCandidates_149 : decode cX9_findCandidates 149 = .ok (.iload_n 3, 1) := by decide +kernel
theorem dX9_findCandidates_150 : decode cX9_findCandidates 150 = .ok (.aload_n 0, 1) := by decide +kernel
theorem dX9_findCandidates_151 : decode cX9_findCandidates 151 = .ok (.iload_n 1, 1) := by decide +kernel
theorem dX9_findCandidates_152 : decode cX9_findCandidates 152 = .ok (.invokevirtual 87, 3) := by decide +kernel
theorem dX9_findCandidates_155 : decode cX9_findCandidates 155 = .ok (.if_icmp .eq 8, 3) := by decide +kernel
theorem dX9_findCandidates_158 : decode cX9_findCandidates 158 = .ok (.iload 4, 2) := by decide +kernel
theorem dX9_findCandidates_160 : decode cX9_findCandidates 160 = .ok (.ifCond .le 7, 3) := by decide +kernel
theorem dX9_findCandidates_163 : decode cX9_findCandidates 163 = .ok (.iconst 1, 1) := by decide +kernel
theorem dX9_findCandidates_164 : decode cX9_findCandidates 164 = .ok (.goto 4, 3) := by decide +kernel
theorem dX9_findCandidates_167 : decode cX9_findCandidates 167 = .ok (.iconst 0, 1) := by decide +kernel
theorem dX9_findCandidates_168 : decode cX9_findCandidates 168 = .ok (.istore_n 2, 1) := by decide +kernel
theorem dX9_findCandidates_169 : decode cX9_findCandidates 169 = .ok (.iinc 3 1, 3) := by decide +kernel
theorem dX9_findCandidates_172 : decode cX9_findCandidates 172 = .ok (.goto (-168), 3) := by decide +kernel
theorem dX9_findCandidates_175 : decode cX9_findCandidates 175 = .ok (.aload_n 0, 1) := by decide +kernel
theorem dX9_findCandidates_176 : decode cX9_findCandidates 176 = .ok (.getfield 52, 3) := by decide +kernel
theorem dX9_findCandidates_179 : decode cX9_findCandidates 179 = .ok (.iconst 2, 1) := by decide +kernel
theorem dX9_findCandidates_180 : decode cX9_findCandidates 180 = .ok (.aload_n 0, 1) := by decide +kernel
theorem dX9_findCandidates_181 : decode cX9_findCandidates 181 = .ok (.iload_n 1, 1) := by decide +kernel
theorem dX9_findCandidates_182 : decode cX9_findCandidates 182 = .ok (.invokevirtual 87, 3) := by decide +kernel
theorem dX9_findCandidates_185 : decode cX9_findCandidates 185 = .ok (.imul, 1) := by decide +kernel
theorem dX9_findCandidates_186 : decode cX9_findCandidates 186 = .ok (.iload_n 1, 1) := by decide +kernel
theorem dX9_findCandidates_187 : decode cX9_findCandidates 187 = .ok (.iastore, 1) := by decide +kernel
theorem dX9_findCandidates_188 : decode cX9_findCandidates 188 = .ok (.aload_n 0, 1) := by decide +kernel
theorem dX9_findCandidates_189 : decode cX9_findCandidates 189 = .ok (.getfield 52, 3) := by decide +kernel
theorem dX9_findCandidates_192 : decode cX9_findCandidates 192 = .ok (.iconst 2, 1) := by decide +kernel
theorem dX9_findCandidates_193 : decode cX9_findCandidates 193 = .ok (.aload_n 0, 1) := by decide +kernel
theorem dX9_findCandidates_194 : decode cX9_findCandidates 194 = .ok (.iload_n 1, 1) := by decide +kernel
theorem dX9_findCandidates_195 : decode cX9_findCandidates 195 = .ok (.invokevirtual 87, 3) := by decide +kernel
theorem dX9_findCandidates_198 : decode cX9_findCandidates 198 = .ok (.imul, 1) := by decide +kernel
theorem dX9_findCandidates_199 : decode cX9_findCandidates 199 = .ok (.iconst 1, 1) := by decide +kernel
theorem dX9_findCandidates_200 : decode cX9_findCandidates 200 = .ok (.iadd, 1) := by decide +kernel
theorem dX9_findCandidates_201 : decode cX9_findCandidates 201 = .ok (.bipush (-6), 2) := by decide +kernel
theorem dX9_findCandidates_203 : decode cX9_findCandidates 203 = .ok (.iastore, 1) := by decide +kernel
theorem dX9_findCandidates_204 : decode cX9_findCandidates 204 = .ok (.iload_n 2, 1) := by decide +kernel
theorem dX9_findCandidates_205 : decode cX9_findCandidates 205 = .ok (.ireturn, 1) := by decide +kernel
theorem dX9_takeRow_0 : decode cX9_takeRow 0 = .ok (.iconst 0, 1) := by decide +kernel
theorem dX9_takeRow_1 : decode cX9_takeRow 1 = .ok (.istore_n 2, 1) := by decide +kernel
theorem dX9_takeRow_2 : decode cX9_takeRow 2 = .ok (.iload_n 2, 1) := by decide +kernel
theorem dX9_takeRow_3 : decode cX9_takeRow 3 = .ok (.iconst 4, 1) := by decide +kernel
theorem dX9_takeRow_4 : decode cX9_takeRow 4 = .ok (.if_icmp .ge 31, 3) := by decide +kernel
theorem dX9_takeRow_7 : decode cX9_takeRow 7 = .ok (.aload_n 0, 1) := by decide +kernel
theorem dX9_takeRow_8 : decode cX9_takeRow 8 = .ok (.getfield 49, 3) := by decide +kernel
theorem dX9_takeRow_11 : decode cX9_takeRow 11 = .ok (.iload_n 2, 1) := by decide +kernel
theorem dX9_takeRow_12 : decode cX9_takeRow 12 = .ok (.aload_n 0, 1) := by decide +kernel
theorem dX9_takeRow_13 : decode cX9_takeRow 13 = .ok (.getfield 52, 3) := by decide +kernel
theorem dX9_takeRow_16 : decode cX9_takeRow 16 = .ok (.iconst 2, 1) := by decide +kernel
theorem dX9_takeRow_17 : decode cX9_takeRow 17 = .ok (.iload_n 2, 1) := by decide +kernel
theorem dX9_takeRow_18 : decode cX9_takeRow 18 = .ok (.imul, 1) := by decide +kernel
theorem dX9_takeRow_19 : decode cX9_takeRow 19 = .ok (.iload_n 1, 1) := by decide +kernel
theorem dX9_takeRow_20 : decode cX9_takeRow 20 = .ok (.iconst 3, 1) := by decide +kernel
theorem dX9_takeRow_21 : decode cX9_takeRow 21 = .ok (.iload_n 2, 1) := by decide +kernel
theorem dX9_takeRow_22 : decode cX9_takeRow 22 = .ok (.isub, 1) := by decide +kernel
theorem dX9_takeRow_23 : decode cX9_takeRow 23 = .ok (.ishr, 1) := by decide +kernel
theorem dX9_takeRow_24 : decode cX9_takeRow 24 = .ok (.iconst 1, 1) := by decide +kernel
theorem dX9_takeRow_25 : decode cX9_takeRow 25 = .ok (.iand, 1) := by decide +kernel
theorem dX9_takeRow_26 : decode cX9_takeRow 26 = .ok (.iadd, 1) := by decide +kernel
theorem dX9_takeRow_27 : decode cX9_takeRow 27 = .ok (.iaload, 1) := by decide +kernel
theorem dX9_takeRow_28 : decode cX9_takeRow 28 = .ok (.iastore, 1) := by decide +kernel
theorem dX9_takeRow_29 : decode cX9_takeRow 29 = .ok (.iinc 2 1, 3) := by decide +kernel
theorem dX9_takeRow_32 : decode cX9_takeRow 32 = .ok (.goto (-30), 3) := by decide +kernel
theorem dX9_takeRow_35 : decode cX9_takeRow 35 = .ok (.return_, 1) := by decide +kernel
theorem dX9_isRow_0 : decode cX9_isRow 0 = .ok (.iconst 1, 1) := by decide +kernel
theorem dX9_isRow_1 : decode cX9_isRow 1 = .ok (.istore_n 1, 1) := by decide +kernel
theorem dX9_isRow_2 : decode cX9_isRow 2 = .ok (.iconst 0, 1) := by decide +kernel
theorem dX9_isRow_3 : decode cX9_isRow 3 = .ok (.istore_n 2, 1) := by decide +kernel
theorem dX9_isRow_4 : decode cX9_isRow 4 = .ok (.iload_n 2, 1) := by decide +kernel
theorem dX9_isRow_5 : decode cX9_isRow 5 = .ok (.iconst 4, 1) := by decide +kernel
theorem dX9_isRow_6 : decode cX9_isRow 6 = .ok (.if_icmp .ge 30, 3) := by decide +kernel
theorem dX9_isRow_9 : decode cX9_isRow 9 = .ok (.iload_n 1, 1) := by decide +kernel
theorem dX9_isRow_10 : decode cX9_isRow 10 = .ok (.ifCond .eq 18, 3) := by decide +kernel
theorem dX9_isRow_13 : decode cX9_isRow 13 = .ok (.aload_n 0, 1) := by decide +kernel
theorem dX9_isRow_14 : decode cX9_isRow 14 = .ok (.getfield 49, 3) := by decide +kernel
theorem dX9_isRow_17 : decode cX9_isRow 17 = .ok (.iload_n 2, 1) := by decide +kernel
theorem dX9_isRow_18 : decode cX9_isRow 18 = .ok (.iaload, 1) := by decide +kernel
theorem dX9_isRow_19 : decode cX9_isRow 19 = .ok (.bipush (-6), 2) := by decide +kernel
theorem dX9_isRow_21 : decode cX9_isRow 21 = .ok (.if_icmp .eq 7, 3) := by decide +kernel
theorem dX9_isRow_24 : decode cX9_isRow 24 = .ok (.iconst 1, 1) := by decide +kernel
theorem dX9_isRow_25 : decode cX9_isRow 25 = .ok (.goto 4, 3) := by decide +kernel
theorem dX9_isRow_28 : decode cX9_isRow 28 = .ok (.iconst 0, 1) := by decide +kernel
theorem dX9_isRow_29 : decode cX9_isRow 29 = .ok (.istore_n 1, 1) := by decide +kernel
theorem dX9_isRow_30 : decode cX9_isRow 30 = .ok (.iinc 2 1, 3) := by decide +kernel
theorem dX9_isRow_33 : decode cX9_isRow 33 = .ok (.goto (-29), 3) := by decide +kernel
theorem dX9_isRow_36 : decode cX9_isRow 36 = .ok (.iload_n 1, 1) := by decide +kernel
theorem dX9_isRow_37 : decode cX9_isRow 37 = .ok (.ireturn, 1) := by decide +kernel
theorem dX9_findBest_0 : decode cX9_findBest 0 = .ok (.aload_n 0, 1) := by decide +kernel
theorem dX9_findBest_1 : decode cX9_findBest 1 = .ok (.bipush (-6), 2) := by decide +kernel
theorem dX9_findBest_3 : decode cX9_findBest 3 = .ok (.putfield 104, 3) := by decide +kernel
theorem dX9_findBest_6 : decode cX9_findBest 6 = .ok (.iconst 0, 1) := by decide +kernel
theorem dX9_findBest_7 : decode cX9_findBest 7 = .ok (.istore_n 1, 1) := by decide +kernel
theorem dX9_findBest_8 : decode cX9_findBest 8 = .ok (.iload_n 1, 1) := by decide +kernel
theorem dX9_findBest_9 : decode cX9_findBest 9 = .ok (.bipush 16, 2) := by decide +kernel
theorem dX9_findBest_11 : decode cX9_findBest 11 = .ok (.if_icmp .ge 86, 3) := by decide +kernel
theorem dX9_findBest_14 : decode cX9_findBest 14 = .ok (.aload_n 0, 1) := by decide +kernel
theorem dX9_findBest_15 : decode cX9_findBest 15 = .ok (.iload_n 1, 1) := by decide +kernel
theorem dX9_findBest_16 : decode cX9_findBest 16 = .ok (.invokevirtual 107, 3) := by decide +kernel
theorem dX9_findBest_19 : decode cX9_findBest 19 = .ok (.aload_n 0, 1) := by decide +kernel
theorem dX9_findBest_20 : decode cX9_findBest 20 = .ok (.invokevirtual 111, 3) := by decide +kernel
theorem dX9_findBest_23 : decode cX9_findBest 23 = .ok (.ifCond .eq 68, 3) := by decide +kernel
theorem dX9_findBest_26 : decode cX9_findBest 26 = .ok (.aload_n 0, 1) := by decide +kernel
theorem dX9_findBest_27 : decode cX9_findBest 27 = .ok (.invokevirtual 115, 3) := by decide +kernel
theorem dX9_findBest_30 : decode cX9_findBest 30 = .ok (.aload_n 0, 1) := by decide +kernel
theorem dX9_findBest_31 : decode cX9_findBest 31 = .ok (.getfield 104, 3) := by decide +kernel
theorem dX9_findBest_34 : decode cX9_findBest 34 = .ok (.bipush (-6), 2) := by decide +kernel
theorem dX9_findBest_36 : decode cX9_findBest 36 = .ok (.if_icmp .eq 14, 3) := by decide +kernel
theorem dX9_findBest_39 : decode cX9_findBest 39 = .ok (.aload_n 0, 1) := by decide +kernel
theorem dX9_findBest_40 : decode cX9_findBest 40 = .ok (.getfield 101, 3) := by decide +kernel
theorem dX9_findBest_43 : decode cX9_findBest 43 = .ok (.aload_n 0, 1) := by decide +kernel
theorem dX9_findBest_44 : decode cX9_findBest 44 = .ok (.getfield 104, 3) := by decide +kernel
theorem dX9_findBest_47 : decode cX9_findBest 47 = .ok (.if_icmp .ge 44, 3) := by decide +kernel
theorem dX9_findBest_50 : decode cX9_findBest 50 = .ok (.aload_n 0, 1) := by decide +kernel
theorem dX9_findBest_51 : decode cX9_findBest 51 = .ok (.aload_n 0, 1) := by decide +kernel
theorem dX9_findBest_52 : decode cX9_findBest 52 = .ok (.getfield 101, 3) := by decide +kernel
theorem dX9_findBest_55 : decode cX9_findBest 55 = .ok (.putfield 104, 3) := by decide +kernel
theorem dX9_findBest_58 : decode cX9_findBest 58 = .ok (.aload_n 0, 1) := by decide +kernel
theorem dX9_findBest_59 : decode cX9_findBest 59 = .ok (.aload_n 0, 1) := by decide +kernel
theorem dX9_findBest_60 : decode cX9_findBest 60 = .ok (.getfield 95, 3) := by decide +kernel
theorem dX9_findBest_63 : decode cX9_findBest 63 = .ok (.putfield 118, 3) := by decide +kernel
theorem dX9_findBest_66 : decode cX9_findBest 66 = .ok (.iconst 0, 1) := by decide +kernel
theorem dX9_findBest_67 : decode cX9_findBest 67 = .ok (.istore_n 2, 1) := by decide +kernel
theorem dX9_findBest_68 : decode cX9_findBest 68 = .ok (.iload_n 2, 1) := by decide +kernel
end
section
theorem dX9_findBest_69 : decode cX9_findBest 69 = .ok (.iconst 4, 1) := by decide +kernel
theorem dX9_findBest_70 : decode cX9_findBest 70 = .ok (.if_icmp .ge 21, 3) := by decide +kernel
theorem dX9_findBest_73 : decode cX9_findBest 73 = .ok (.aload_n 0, 1) := by decide +kernel
theorem dX9_findBest_74 : decode cX9_findBest 74 = .ok (.getfield 55, 3) := by decide +kernel
theorem dX9_findBest_77 : decode cX9_findBest 77 = .ok (.iload_n 2, 1) := by decide +kernel
theorem dX9_findBest_78 : decode cX9_findBest 78 = .ok (.aload_n 0, 1) := by decide +kernel
theorem dX9_findBest_79 : decode cX9_findBest 79 = .ok (.getfield 49, 3) := by decide +kernel
theorem dX9_findBest_82 : decode cX9_findBest 82 = .ok (.iload_n 2, 1) := by decide +kernel
theorem dX9_findBest_83 : decode cX9_findBest 83 = .ok (.iaload, 1) := by decide +kernel
theorem dX9_findBest_84 : decode cX9_findBest 84 = .ok (.iastore, 1) := by decide +kernel
theorem dX9_findBest_85 : decode cX9_findBest 85 = .ok (.iinc 2 1, 3) := by decide +kernel
theorem dX9_findBest_88 : decode cX9_findBest 88 = .ok (.goto (-20), 3) := by decide +kernel
theorem dX9_findBest_91 : decode cX9_findBest 91 = .ok (.iinc 1 1, 3) := by decide +kernel
theorem dX9_findBest_94 : decode cX9_findBest 94 = .ok (.goto (-86), 3) := by decide +kernel
theorem dX9_findBest_97 : decode cX9_findBest 97 = .ok (.return_, 1) := by decide +kernel
theorem dX9_becomesShot_0 : decode cX9_becomesShot 0 = .ok (.iconst 0, 1) := by decide +kernel
theorem dX9_becomesShot_1 : decode cX9_becomesShot 1 = .ok (.istore_n 1, 1) := by decide +kernel
theorem dX9_becomesShot_2 : decode cX9_becomesShot 2 = .ok (.iload_n 1, 1) := by decide +kernel
theorem dX9_becomesShot_3 : decode cX9_becomesShot 3 = .ok (.iconst 4, 1) := by decide +kernel
theorem dX9_becomesShot_4 : decode cX9_becomesShot 4 = .ok (.if_icmp .ge 55, 3) := by decide +kernel
theorem dX9_becomesShot_7 : decode cX9_becomesShot 7 = .ok (.aload_n 0, 1) := by decide +kernel
theorem dX9_becomesShot_8 : decode cX9_becomesShot 8 = .ok (.getfield 49, 3) := by decide +kernel
theorem dX9_becomesShot_11 : decode cX9_becomesShot 11 = .ok (.iload_n 1, 1) := by decide +kernel
theorem dX9_becomesShot_12 : decode cX9_becomesShot 12 = .ok (.aload_n 0, 1) := by decide +kernel
theorem dX9_becomesShot_13 : decode cX9_becomesShot 13 = .ok (.getfield 55, 3) := by decide +kernel
theorem dX9_becomesShot_16 : decode cX9_becomesShot 16 = .ok (.iload_n 1, 1) := by decide +kernel
theorem dX9_becomesShot_17 : decode cX9_becomesShot 17 = .ok (.iaload, 1) := by decide +kernel
theorem dX9_becomesShot_18 : decode cX9_becomesShot 18 = .ok (.iastore, 1) := by decide +kernel
theorem dX9_becomesShot_19 : decode cX9_becomesShot 19 = .ok (.aload_n 0, 1) := by decide +kernel
theorem dX9_becomesShot_20 : decode cX9_becomesShot 20 = .ok (.getfield 34, 3) := by decide +kernel
theorem dX9_becomesShot_23 : decode cX9_becomesShot 23 = .ok (.aload_n 0, 1) := by decide +kernel
theorem dX9_becomesShot_24 : decode cX9_becomesShot 24 = .ok (.getfield 55, 3) := by decide +kernel
theorem dX9_becomesShot_27 : decode cX9_becomesShot 27 = .ok (.iload_n 1, 1) := by decide +kernel
theorem dX9_becomesShot_28 : decode cX9_becomesShot 28 = .ok (.iaload, 1) := by decide +kernel
theorem dX9_becomesShot_29 : decode cX9_becomesShot 29 = .ok (.aload_n 0, 1) := by decide +kernel
theorem dX9_becomesShot_30 : decode cX9_becomesShot 30 = .ok (.getfield 121, 3) := by decide +kernel
theorem dX9_becomesShot_33 : decode cX9_becomesShot 33 = .ok (.iastore, 1) := by decide +kernel
theorem dX9_becomesShot_34 : decode cX9_becomesShot 34 = .ok (.aload_n 0, 1) := by decide +kernel
theorem dX9_becomesShot_35 : decode cX9_becomesShot 35 = .ok (.getfield 46, 3) := by decide +kernel
theorem dX9_becomesShot_38 : decode cX9_becomesShot 38 = .ok (.iconst 4, 1) := by decide +kernel
theorem dX9_becomesShot_39 : decode cX9_becomesShot 39 = .ok (.aload_n 0, 1) := by decide +kernel
theorem dX9_becomesShot_40 : decode cX9_becomesShot 40 = .ok (.getfield 121, 3) := by decide +kernel
theorem dX9_becomesShot_43 : decode cX9_becomesShot 43 = .ok (.imul, 1) := by decide +kernel
theorem dX9_becomesShot_44 : decode cX9_becomesShot 44 = .ok (.iload_n 1, 1) := by decide +kernel
theorem dX9_becomesShot_45 : decode cX9_becomesShot 45 = .ok (.iadd, 1) := by decide +kernel
theorem dX9_becomesShot_46 : decode cX9_becomesShot 46 = .ok (.aload_n 0, 1) := by decide +kernel
theorem dX9_becomesShot_47 : decode cX9_becomesShot 47 = .ok (.getfield 55, 3) := by decide +kernel
theorem dX9_becomesShot_50 : decode cX9_becomesShot 50 = .ok (.iload_n 1, 1) := by decide +kernel
theorem dX9_becomesShot_51 : decode cX9_becomesShot 51 = .ok (.iaload, 1) := by decide +kernel
theorem dX9_becomesShot_52 : decode cX9_becomesShot 52 = .ok (.iastore, 1) := by decide +kernel
theorem dX9_becomesShot_53 : decode cX9_becomesShot 53 = .ok (.iinc 1 1, 3) := by decide +kernel
theorem dX9_becomesShot_56 : decode cX9_becomesShot 56 = .ok (.goto (-54), 3) := by decide +kernel
theorem dX9_becomesShot_59 : decode cX9_becomesShot 59 = .ok (.aload_n 0, 1) := by decide +kernel
theorem dX9_becomesShot_60 : decode cX9_becomesShot 60 = .ok (.getfield 37, 3) := by decide +kernel
theorem dX9_becomesShot_63 : decode cX9_becomesShot 63 = .ok (.aload_n 0, 1) := by decide +kernel
theorem dX9_becomesShot_64 : decode cX9_becomesShot 64 = .ok (.getfield 121, 3) := by decide +kernel
theorem dX9_becomesShot_67 : decode cX9_becomesShot 67 = .ok (.aload_n 0, 1) := by decide +kernel
theorem dX9_becomesShot_68 : decode cX9_becomesShot 68 = .ok (.getfield 118, 3) := by decide +kernel
theorem dX9_becomesShot_71 : decode cX9_becomesShot 71 = .ok (.iastore, 1) := by decide +kernel
theorem dX9_becomesShot_72 : decode cX9_becomesShot 72 = .ok (.aload_n 0, 1) := by decide +kernel
theorem dX9_becomesShot_73 : decode cX9_becomesShot 73 = .ok (.getfield 40, 3) := by decide +kernel
theorem dX9_becomesShot_76 : decode cX9_becomesShot 76 = .ok (.aload_n 0, 1) := by decide +kernel
theorem dX9_becomesShot_77 : decode cX9_becomesShot 77 = .ok (.getfield 121, 3) := by decide +kernel
theorem dX9_becomesShot_80 : decode cX9_becomesShot 80 = .ok (.aload_n 0, 1) := by decide +kernel
theorem dX9_becomesShot_81 : decode cX9_becomesShot 81 = .ok (.getfield 104, 3) := by decide +kernel
theorem dX9_becomesShot_84 : decode cX9_becomesShot 84 = .ok (.iastore, 1) := by decide +kernel
theorem dX9_becomesShot_85 : decode cX9_becomesShot 85 = .ok (.aload_n 0, 1) := by decide +kernel
theorem dX9_becomesShot_86 : decode cX9_becomesShot 86 = .ok (.getfield 43, 3) := by decide +kernel
theorem dX9_becomesShot_89 : decode cX9_becomesShot 89 = .ok (.aload_n 0, 1) := by decide +kernel
theorem dX9_becomesShot_90 : decode cX9_becomesShot 90 = .ok (.getfield 121, 3) := by decide +kernel
theorem dX9_becomesShot_93 : decode cX9_becomesShot 93 = .ok (.aload_n 0, 1) := by decide +kernel
theorem dX9_becomesShot_94 : decode cX9_becomesShot 94 = .ok (.aload_n 0, 1) := by decide +kernel
theorem dX9_becomesShot_95 : decode cX9_becomesShot 95 = .ok (.getfield 118, 3) := by decide +kernel
theorem dX9_becomesShot_98 : decode cX9_becomesShot 98 = .ok (.invokevirtual 124, 3) := by decide +kernel
theorem dX9_becomesShot_101 : decode cX9_becomesShot 101 = .ok (.iastore, 1) := by decide +kernel
theorem dX9_becomesShot_102 : decode cX9_becomesShot 102 = .ok (.aload_n 0, 1) := by decide +kernel
theorem dX9_becomesShot_103 : decode cX9_becomesShot 103 = .ok (.dup, 1) := by decide +kernel
theorem dX9_becomesShot_104 : decode cX9_becomesShot 104 = .ok (.getfield 121, 3) := by decide +kernel
theorem dX9_becomesShot_107 : decode cX9_becomesShot 107 = .ok (.iconst 1, 1) := by decide +kernel
theorem dX9_becomesShot_108 : decode cX9_becomesShot 108 = .ok (.iadd, 1) := by decide +kernel
theorem dX9_becomesShot_109 : decode cX9_becomesShot 109 = .ok (.putfield 121, 3) := by decide +kernel
theorem dX9_becomesShot_112 : decode cX9_becomesShot 112 = .ok (.return_, 1) := by decide +kernel
theorem dX9_findShots_0 : decode cX9_findShots 0 = .ok (.aload_n 0, 1) := by decide +kernel
theorem dX9_findShots_1 : decode cX9_findShots 1 = .ok (.iload_n 1, 1) := by decide +kernel
theorem dX9_findShots_2 : decode cX9_findShots 2 = .ok (.invokestatic 127, 3) := by decide +kernel
theorem dX9_findShots_5 : decode cX9_findShots 5 = .ok (.invokevirtual 130, 3) := by decide +kernel
theorem dX9_findShots_8 : decode cX9_findShots 8 = .ok (.aload_n 0, 1) := by decide +kernel
theorem dX9_findShots_9 : decode cX9_findShots 9 = .ok (.iconst 0, 1) := by decide +kernel
theorem dX9_findShots_10 : decode cX9_findShots 10 = .ok (.putfield 121, 3) := by decide +kernel
theorem dX9_findShots_13 : decode cX9_findShots 13 = .ok (.iconst 0, 1) := by decide +kernel
theorem dX9_findShots_14 : decode cX9_findShots 14 = .ok (.istore_n 2, 1) := by decide +kernel
theorem dX9_findShots_15 : decode cX9_findShots 15 = .ok (.iload_n 2, 1) := by decide +kernel
theorem dX9_findShots_16 : decode cX9_findShots 16 = .ok (.bipush 32, 2) := by decide +kernel
theorem dX9_findShots_18 : decode cX9_findShots 18 = .ok (.if_icmp .ge 17, 3) := by decide +kernel
theorem dX9_findShots_21 : decode cX9_findShots 21 = .ok (.aload_n 0, 1) := by decide +kernel
theorem dX9_findShots_22 : decode cX9_findShots 22 = .ok (.getfield 34, 3) := by decide +kernel
theorem dX9_findShots_25 : decode cX9_findShots 25 = .ok (.iload_n 2, 1) := by decide +kernel
theorem dX9_findShots_26 : decode cX9_findShots 26 = .ok (.bipush 40, 2) := by decide +kernel
theorem dX9_findShots_28 : decode cX9_findShots 28 = .ok (.iastore, 1) := by decide +kernel
theorem dX9_findShots_29 : decode cX9_findShots 29 = .ok (.iinc 2 1, 3) := by decide +kernel
theorem dX9_findShots_32 : decode cX9_findShots 32 = .ok (.goto (-17), 3) := by decide +kernel
theorem dX9_findShots_35 : decode cX9_findShots 35 = .ok (.iconst 0, 1) := by decide +kernel
theorem dX9_findShots_36 : decode cX9_findShots 36 = .ok (.istore_n 2, 1) := by decide +kernel
theorem dX9_findShots_37 : decode cX9_findShots 37 = .ok (.iload_n 2, 1) := by decide +kernel
theorem dX9_findShots_38 : decode cX9_findShots 38 = .ok (.aload_n 0, 1) := by decide +kernel
theorem dX9_findShots_39 : decode cX9_findShots 39 = .ok (.getfield 7, 3) := by decide +kernel
theorem dX9_findShots_42 : decode cX9_findShots 42 = .ok (.iconst 3, 1) := by decide +kernel
theorem dX9_findShots_43 : decode cX9_findShots 43 = .ok (.iaload, 1) := by decide +kernel
theorem dX9_findShots_44 : decode cX9_findShots 44 = .ok (.if_icmp .ge 63, 3) := by decide +kernel
theorem dX9_findShots_47 : decode cX9_findShots 47 = .ok (.aload_n 0, 1) := by decide +kernel
theorem dX9_findShots_48 : decode cX9_findShots 48 = .ok (.getfield 34, 3) := by decide +kernel
theorem dX9_findShots_51 : decode cX9_findShots 51 = .ok (.iload_n 2, 1) := by decide +kernel
theorem dX9_findShots_52 : decode cX9_findShots 52 = .ok (.iaload, 1) := by decide +kernel
theorem dX9_findShots_53 : decode cX9_findShots 53 = .ok (.bipush 40, 2) := by decide +kernel
theorem dX9_findShots_55 : decode cX9_findShots 55 = .ok (.if_icmp .ne 46, 3) := by decide +kernel
theorem dX9_findShots_58 : decode cX9_findShots 58 = .ok (.aload_n 0, 1) := by decide +kernel
theorem dX9_findShots_59 : decode cX9_findShots 59 = .ok (.getfield 34, 3) := by decide +kernel
theorem dX9_findShots_62 : decode cX9_findShots 62 = .ok (.iload_n 2, 1) := by decide +kernel
theorem dX9_findShots_63 : decode cX9_findShots 63 = .ok (.bipush (-6), 2) := by decide +kernel
theorem dX9_findShots_65 : decode cX9_findShots 65 = .ok (.iastore, 1) := by decide +kernel
theorem dX9_findShots_66 : decode cX9_findShots 66 = .ok (.aload_n 0, 1) := by decide +kernel
theorem dX9_findShots_67 : decode cX9_findShots 67 = .ok (.iload_n 2, 1) := by decide +kernel
theorem dX9_findShots_68 : decode cX9_findShots 68 = .ok (.invokevirtual 133, 3) := by decide +kernel
theorem dX9_findShots_71 : decode cX9_findShots 71 = .ok (.istore_n 3, 1) := by decide +kernel
theorem dX9_findShots_72 : decode cX9_findShots 72 = .ok (.iload_n 3, 1) := by decide +kernel
theorem dX9_findShots_73 : decode cX9_findShots 73 = .ok (.ifCond .eq 7, 3) := by decide +kernel
theorem dX9_findShots_76 : decode cX9_findShots 76 = .ok (.aload_n 0, 1) := by decide +kernel
theorem dX9_findShots_77 : decode cX9_findShots 77 = .ok (.invokevirtual 137, 3) := by decide +kernel
theorem dX9_findShots_80 : decode cX9_findShots 80 = .ok (.iload_n 3, 1) := by decide +kernel
theorem dX9_findShots_81 : decode cX9_findShots 81 = .ok (.ifCond .eq 20, 3) := by decide +kernel
theorem dX9_findShots_84 : decode cX9_findShots 84 = .ok (.aload_n 0, 1) := by decide +kernel
theorem dX9_findShots_85 : decode cX9_findShots 85 = .ok (.getfield 104, 3) := by decide +kernel
theorem dX9_findShots_88 : decode cX9_findShots 88 = .ok (.aload_n 0, 1) := by decide +kernel
theorem dX9_findShots_89 : decode cX9_findShots 89 = .ok (.getfield 7, 3) := by decide +kernel
theorem dX9_findShots_92 : decode cX9_findShots 92 = .ok (.iconst 2, 1) := by decide +kernel
theorem dX9_findShots_93 : decode cX9_findShots 93 = .ok (.iaload, 1) := by decide +kernel
theorem dX9_findShots_94 : decode cX9_findShots 94 = .ok (.if_icmp .gt 7, 3) := by decide +kernel
theorem dX9_findShots_97 : decode cX9_findShots 97 = .ok (.aload_n 0, 1) := by decide +kernel
theorem dX9_findShots_98 : decode cX9_findShots 98 = .ok (.invokevirtual 140, 3) := by decide +kernel
theorem dX9_findShots_101 : decode cX9_findShots 101 = .ok (.iinc 2 1, 3) := by decide +kernel
theorem dX9_findShots_104 : decode cX9_findShots 104 = .ok (.goto (-67), 3) := by decide +kernel
theorem dX9_findShots_107 : decode cX9_findShots 107 = .ok (.return_, 1) := by decide +kernel
theorem dX9_find_0 : decode cX9_find 0 = .ok (.aload_n 0, 1) := by decide +kernel
theorem dX9_find_1 : decode cX9_find 1 = .ok (.aload_n 0, 1) := by decide +kernel
theorem dX9_find_2 : decode cX9_find 2 = .ok (.getfield 7, 3) := by decide +kernel
theorem dX9_find_5 : decode cX9_find 5 = .ok (.iconst 0, 1) := by decide +kernel
theorem dX9_find_6 : decode cX9_find 6 = .ok (.iaload, 1) := by decide +kernel
theorem dX9_find_7 : decode cX9_find 7 = .ok (.invokevirtual 143, 3) := by decide +kernel
theorem dX9_find_10 : decode cX9_find 10 = .ok (.return_, 1) := by decide +kernel
theorem dX9_ringOf_0 : decode cX9_ringOf 0 = .ok (.bipush 10, 2) := by decide +kernel
theorem dX9_ringOf_2 : decode cX9_ringOf 2 = .ok (.aload_n 0, 1) := by decide +kernel
theorem dX9_ringOf_3 : decode cX9_ringOf 3 = .ok (.aload_n 0, 1) := by decide +kernel
theorem dX9_ringOf_4 : decode cX9_ringOf 4 = .ok (.getfield 37, 3) := by decide +kernel
theorem dX9_ringOf_7 : decode cX9_ringOf 7 = .ok (.iload_n 1, 1) := by decide +kernel
theorem dX9_ringOf_8 : decode cX9_ringOf 8 = .ok (.iaload, 1) := by decide +kernel
theorem dX9_ringOf_9 : decode cX9_ringOf 9 = .ok (.bipush 41, 2) := by decide +kernel
theorem dX9_ringOf_11 : decode cX9_ringOf 11 = .ok (.irem, 1) := by decide +kernel
theorem dX9_ringOf_12 : decode cX9_ringOf 12 = .ok (.aload_n 0, 1) := by decide +kernel
theorem dX9_ringOf_13 : decode cX9_ringOf 13 = .ok (.getfield 37, 3) := by decide +kernel
theorem dX9_ringOf_16 : decode cX9_ringOf 16 = .ok (.iload_n 1, 1) := by decide +kernel
theorem dX9_ringOf_17 : decode cX9_ringOf 17 = .ok (.iaload, 1) := by decide +kernel
theorem dX9_ringOf_18 : decode cX9_ringOf 18 = .ok (.bipush 41, 2) := by decide +kernel
theorem dX9_ringOf_20 : decode cX9_ringOf 20 = .ok (.idiv, 1) := by decide +kernel
theorem dX9_ringOf_21 : decode cX9_ringOf 21 = .ok (.bipush 20, 2) := by decide +kernel
theorem dX9_ringOf_23 : decode cX9_ringOf 23 = .ok (.bipush 20, 2) := by decide +kernel
theorem dX9_ringOf_25 : decode cX9_ringOf 25 = .ok (.invokevirtual 77, 3) := by decide +kernel
theorem dX9_ringOf_28 : decode cX9_ringOf 28 = .ok (.sipush 200, 3) := by decide +kernel
theorem dX9_ringOf_31 : decode cX9_ringOf 31 = .ok (.idiv, 1) := by decide +kernel
theorem dX9_ringOf_32 : decode cX9_ringOf 32 = .ok (.isub, 1) := by decide +kernel
theorem dX9_ringOf_33 : decode cX9_ringOf 33 = .ok (.istore_n 2, 1) := by decide +kernel
theorem dX9_ringOf_34 : decode cX9_ringOf 34 = .ok (.iload_n 2, 1) := by decide +kernel
theorem dX9_ringOf_35 : decode cX9_ringOf 35 = .ok (.ifCond .ge 7, 3) := by decide +kernel
theorem dX9_ringOf_38 : decode cX9_ringOf 38 = .ok (.iconst 0, 1) := by decide +kernel
theorem dX9_ringOf_39 : decode cX9_ringOf 39 = .ok (.goto 4, 3) := by decide +kernel
theorem dX9_ringOf_42 : decode cX9_ringOf 42 = .ok (.iload_n 2, 1) := by decide +kernel
theorem dX9_ringOf_43 : decode cX9_ringOf 43 = .ok (.ireturn, 1) := by decide +kernel
theorem dX9_sumOfRings_0 : decode cX9_sumOfRings 0 = .ok (.iconst 0, 1) := by decide +kernel
theorem dX9_sumOfRings_1 : decode cX9_sumOfRings 1 = .ok (.istore_n 1, 1) := by decide +kernel
theorem dX9_sumOfRings_2 : decode cX9_sumOfRings 2 = .ok (.iconst 0, 1) := by decide +kernel
theorem dX9_sumOfRings_3 : decode cX9_sumOfRings 3 = .ok (.istore_n 2, 1) := by decide +kernel
theorem dX9_sumOfRings_4 : decode cX9_sumOfRings 4 = .ok (.iload_n 2, 1) := by decide +kernel
theorem dX9_sumOfRings_5 : decode cX9_sumOfRings 5 = .ok (.aload_n 0, 1) := by decide +kernel
theorem dX9_sumOfRings_6 : decode cX9_sumOfRings 6 = .ok (.getfield 121, 3) := by decide +kernel
theorem dX9_sumOfRings_9 : decode cX9_sumOfRings 9 = .ok (.if_icmp .ge 17, 3) := by decide +kernel
theorem dX9_sumOfRings_12 : decode cX9_sumOfRings 12 = .ok (.iload_n 1, 1) := by decide +kernel
theorem dX9_sumOfRings_13 : decode cX9_sumOfRings 13 = .ok (.aload_n 0, 1) := by decide +kernel
theorem dX9_sumOfRings_14 : decode cX9_sumOfRings 14 = .ok (.iload_n 2, 1) := by decide +kernel
theorem dX9_sumOfRings_15 : decode cX9_sumOfRings 15 = .ok (.invokevirtual 146, 3) := by decide +kernel
theorem dX9_sumOfRings_18 : decode cX9_sumOfRings 18 = .ok (.iadd, 1) := by decide +kernel
theorem dX9_sumOfRings_19 : decode cX9_sumOfRings 19 = .ok (.istore_n 1, 1) := by decide +kernel
theorem dX9_sumOfRings_20 : decode cX9_sumOfRings 20 = .ok (.iinc 2 1, 3) := by decide +kernel
theorem dX9_sumOfRings_23 : decode cX9_sumOfRings 23 = .ok (.goto (-19), 3) := by decide +kernel
theorem dX9_sumOfRings_26 : decode cX9_sumOfRings 26 = .ok (.iload_n 1, 1) := by decide +kernel
theorem dX9_sumOfRings_27 : decode cX9_sumOfRings 27 = .ok (.ireturn, 1) := by decide +kernel
theorem dX9_sumOfSpreads_0 : decode cX9_sumOfSpreads 0 = .ok (.iconst 0, 1) := by decide +kernel
theorem dX9_sumOfSpreads_1 : decode cX9_sumOfSpreads 1 = .ok (.istore_n 1, 1) := by decide +kernel
theorem dX9_sumOfSpreads_2 : decode cX9_sumOfSpreads 2 = .ok (.iconst 0, 1) := by decide +kernel
theorem dX9_sumOfSpreads_3 : decode cX9_sumOfSpreads 3 = .ok (.istore_n 2, 1) := by decide +kernel
theorem dX9_sumOfSpreads_4 : decode cX9_sumOfSpreads 4 = .ok (.iload_n 2, 1) := by decide +kernel
theorem dX9_sumOfSpreads_5 : decode cX9_sumOfSpreads 5 = .ok (.aload_n 0, 1) := by decide +kernel
theorem dX9_sumOfSpreads_6 : decode cX9_sumOfSpreads 6 = .ok (.getfield 121, 3) := by decide +kernel
theorem dX9_sumOfSpreads_9 : decode cX9_sumOfSpreads 9 = .ok (.if_icmp .ge 18, 3) := by decide +kernel
theorem dX9_sumOfSpreads_12 : decode cX9_sumOfSpreads 12 = .ok (.iload_n 1, 1) := by decide +kernel
theorem dX9_sumOfSpreads_13 : decode cX9_sumOfSpreads 13 = .ok (.aload_n 0, 1) := by decide +kernel
theorem dX9_sumOfSpreads_14 : decode cX9_sumOfSpreads 14 = .ok (.getfield 40, 3) := by decide +kernel
theorem dX9_sumOfSpreads_17 : decode cX9_sumOfSpreads 17 = .ok (.iload_n 2, 1) := by decide +kernel
theorem dX9_sumOfSpreads_18 : decode cX9_sumOfSpreads 18 = .ok (.iaload, 1) := by decide +kernel
theorem dX9_sumOfSpreads_19 : decode cX9_sumOfSpreads 19 = .ok (.iadd, 1) := by decide +kernel
theorem dX9_sumOfSpreads_20 : decode cX9_sumOfSpreads 20 = .ok (.istore_n 1, 1) := by decide +kernel
theorem dX9_sumOfSpreads_21 : decode cX9_sumOfSpreads 21 = .ok (.iinc 2 1, 3) := by decide +kernel
theorem dX9_sumOfSpreads_24 : decode cX9_sumOfSpreads 24 = .ok (.goto (-20), 3) := by decide +kernel
theorem dX9_sumOfSpreads_27 : decode cX9_sumOfSpreads 27 = .ok (.iload_n 1, 1) := by decide +kernel
theorem dX9_sumOfSpreads_28 : decode cX9_sumOfSpreads 28 = .ok (.ireturn, 1) := by decide +kernel
theorem dX9_isValue_0 : decode cX9_isValue 0 = .ok (.iload_n 0, 1) := by decide +kernel
theorem dX9_isValue_1 : decode cX9_isValue 1 = .ok (.ifCond .ne 14, 3) := by decide +kernel
theorem dX9_isValue_4 : decode cX9_isValue 4 = .ok (.iload_n 1, 1) := by decide +kernel
theorem dX9_isValue_5 : decode cX9_isValue 5 = .ok (.bipush (-30), 2) := by decide +kernel
theorem dX9_isValue_7 : decode cX9_isValue 7 = .ok (.bipush 50, 2) := by decide +kernel
theorem dX9_isValue_9 : decode cX9_isValue 9 = .ok (.invokestatic 70, 3) := by decide +kernel
theorem dX9_isValue_12 : decode cX9_isValue 12 = .ok (.goto 41, 3) := by decide +kernel
theorem dX9_isValue_15 : decode cX9_isValue 15 = .ok (.iload_n 0, 1) := by decide +kernel
theorem dX9_isValue_16 : decode cX9_isValue 16 = .ok (.iconst 1, 1) := by decide +kernel
theorem dX9_isValue_17 : decode cX9_isValue 17 = .ok (.if_icmp .ne 15, 3) := by decide +kernel
theorem dX9_isValue_20 : decode cX9_isValue 20 = .ok (.iload_n 1, 1) := by decide +kernel
theorem dX9_isValue_21 : decode cX9_isValue 21 = .ok (.bipush 100, 2) := by decide +kernel
theorem dX9_isValue_23 : decode cX9_isValue 23 = .ok (.sipush 4000, 3) := by decide +kernel
theorem dX9_isValue_26 : decode cX9_isValue 26 = .ok (.invokestatic 70, 3) := by decide +kernel
theorem dX9_isValue_29 : decode cX9_isValue 29 = .ok (.goto 24, 3) := by decide +kernel
theorem dX9_isValue_32 : decode cX9_isValue 32 = .ok (.iload_n 0, 1) := by decide +kernel
theorem dX9_isValue_33 : decode cX9_isValue 33 = .ok (.iconst 2, 1) := by decide +kernel
theorem dX9_isValue_34 : decode cX9_isValue 34 = .ok (.if_icmp .ne 18, 3) := by decide +kernel
theorem dX9_isValue_37 : decode cX9_isValue 37 = .ok (.iload_n 1, 1) := by decide +kernel
theorem dX9_isValue_38 : decode cX9_isValue 38 = .ok (.iconst 0, 1) := by decide +kernel
theorem dX9_isValue_39 : decode cX9_isValue 39 = .ok (.sipush 300, 3) := by decide +kernel
theorem dX9_isValue_42 : decode cX9_isValue 42 = .ok (.invokestatic 70, 3) := by decide +kernel
theorem dX9_isValue_45 : decode cX9_isValue 45 = .ok (.ifCond .eq 7, 3) := by decide +kernel
theorem dX9_isValue_48 : decode cX9_isValue 48 = .ok (.iconst 1, 1) := by decide +kernel
theorem dX9_isValue_49 : decode cX9_isValue 49 = .ok (.goto 4, 3) := by decide +kernel
theorem dX9_isValue_52 : decode cX9_isValue 52 = .ok (.iconst 0, 1) := by decide +kernel
theorem dX9_isValue_53 : decode cX9_isValue 53 = .ok (.ireturn, 1) := by decide +kernel
theorem dX9_set_0 : decode cX9_set 0 = .ok (.iload_n 1, 1) := by decide +kernel
theorem dX9_set_1 : decode cX9_set 1 = .ok (.iload_n 2, 1) := by decide +kernel
theorem dX9_set_2 : decode cX9_set 2 = .ok (.invokestatic 149, 3) := by decide +kernel
theorem dX9_set_5 : decode cX9_set 5 = .ok (.ifCond .ne 6, 3) := by decide +kernel
theorem dX9_set_8 : decode cX9_set 8 = .ok (.bipush (-2), 2) := by decide +kernel
theorem dX9_set_10 : decode cX9_set 10 = .ok (.ireturn, 1) := by decide +kernel
theorem dX9_set_11 : decode cX9_set 11 = .ok (.aload_n 0, 1) := by decide +kernel
theorem dX9_set_12 : decode cX9_set 12 = .ok (.invokevirtual 153, 3) := by decide +kernel
theorem dX9_set_15 : decode cX9_set 15 = .ok (.aload_n 0, 1) := by decide +kernel
theorem dX9_set_16 : decode cX9_set 16 = .ok (.getfield 7, 3) := by decide +kernel
theorem dX9_set_19 : decode cX9_set 19 = .ok (.iload_n 1, 1) := by decide +kernel
theorem dX9_set_20 : decode cX9_set 20 = .ok (.iaload, 1) := by decide +kernel
theorem dX9_set_21 : decode cX9_set 21 = .ok (.istore_n 3, 1) := by decide +kernel
theorem dX9_set_22 : decode cX9_set 22 = .ok (.aload_n 0, 1) := by decide +kernel
theorem dX9_set_23 : decode cX9_set 23 = .ok (.getfield 7, 3) := by decide +kernel
theorem dX9_set_26 : decode cX9_set 26 = .ok (.iload_n 1, 1) := by decide +kernel
theorem dX9_set_27 : decode cX9_set 27 = .ok (.iload_n 2, 1) := by decide +kernel
theorem dX9_set_28 : decode cX9_set 28 = .ok (.iastore, 1) := by decide +kernel
theorem dX9_set_29 : decode cX9_set 29 = .ok (.iload_n 3, 1) := by decide +kernel
theorem dX9_set_30 : decode cX9_set 30 = .ok (.bipush 100, 2) := by decide +kernel
theorem dX9_set_32 : decode cX9_set 32 = .ok (.iadd, 1) := by decide +kernel
theorem dX9_set_33 : decode cX9_set 33 = .ok (.ireturn, 1) := by decide +kernel
theorem dX9_whyNotHeard_0 : decode cX9_whyNotHeard 0 = .ok (.iload_n 1, 1) := by decide +kernel
theorem dX9_whyNotHeard_1 : decode cX9_whyNotHeard 1 = .ok (.invokestatic 156, 3) := by decide +kernel
theorem dX9_whyNotHeard_4 : decode cX9_whyNotHeard 4 = .ok (.ifCond .ne 5, 3) := by decide +kernel
theorem dX9_whyNotHeard_7 : decode cX9_whyNotHeard 7 = .ok (.iconst (-1), 1) := by decide +kernel
theorem dX9_whyNotHeard_8 : decode cX9_whyNotHeard 8 = .ok (.ireturn, 1) := by decide +kernel
theorem dX9_whyNotHeard_9 : decode cX9_whyNotHeard 9 = .ok (.iload_n 2, 1) := by decide +kernel
theorem dX9_whyNotHeard_10 : decode cX9_whyNotHeard 10 = .ok (.iconst 0, 1) := by decide +kernel
theorem dX9_whyNotHeard_11 : decode cX9_whyNotHeard 11 = .ok (.ldc 93, 2) := by decide +kernel
theorem dX9_whyNotHeard_13 : decode cX9_whyNotHeard 13 = .ok (.invokestatic 70, 3) := by decide +kernel
theorem dX9_whyNotHeard_16 : decode cX9_whyNotHeard 16 = .ok (.ifCond .ne 6, 3) := by decide +kernel
theorem dX9_whyNotHeard_19 : decode cX9_whyNotHeard 19 = .ok (.bipush (-2), 2) := by decide +kernel
theorem dX9_whyNotHeard_21 : decode cX9_whyNotHeard 21 = .ok (.ireturn, 1) := by decide +kernel
theorem dX9_whyNotHeard_22 : decode cX9_whyNotHeard 22 = .ok (.aload_n 0, 1) := by decide +kernel
theorem dX9_whyNotHeard_23 : decode cX9_whyNotHeard 23 = .ok (.iload_n 1, 1) := by decide +kernel
theorem dX9_whyNotHeard_24 : decode cX9_whyNotHeard 24 = .ok (.iload_n 2, 1) := by decide +kernel
theorem dX9_whyNotHeard_25 : decode cX9_whyNotHeard 25 = .ok (.invokevirtual 159, 3) := by decide +kernel
theorem dX9_whyNotHeard_28 : decode cX9_whyNotHeard 28 = .ok (.ifCond .eq 8, 3) := by decide +kernel
theorem dX9_whyNotHeard_31 : decode cX9_whyNotHeard 31 = .ok (.bipush (-5), 2) := by decide +kernel
theorem dX9_whyNotHeard_33 : decode cX9_whyNotHeard 33 = .ok (.goto 20, 3) := by decide +kernel
theorem dX9_whyNotHeard_36 : decode cX9_whyNotHeard 36 = .ok (.aload_n 0, 1) := by decide +kernel
theorem dX9_whyNotHeard_37 : decode cX9_whyNotHeard 37 = .ok (.getfield 7, 3) := by decide +kernel
theorem dX9_whyNotHeard_40 : decode cX9_whyNotHeard 40 = .ok (.iconst 3, 1) := by decide +kernel
theorem dX9_whyNotHeard_41 : decode cX9_whyNotHeard 41 = .ok (.iaload, 1) := by decide +kernel
theorem dX9_whyNotHeard_42 : decode cX9_whyNotHeard 42 = .ok (.bipush 32, 2) := by decide +kernel
theorem dX9_whyNotHeard_44 : decode cX9_whyNotHeard 44 = .ok (.if_icmp .ne 8, 3) := by decide +kernel
theorem dX9_whyNotHeard_47 : decode cX9_whyNotHeard 47 = .ok (.bipush (-4), 2) := by decide +kernel
theorem dX9_whyNotHeard_49 : decode cX9_whyNotHeard 49 = .ok (.goto 4, 3) := by decide +kernel
theorem dX9_whyNotHeard_52 : decode cX9_whyNotHeard 52 = .ok (.iconst 0, 1) := by decide +kernel
theorem dX9_whyNotHeard_53 : decode cX9_whyNotHeard 53 = .ok (.ireturn, 1) := by decide +kernel
theorem dX9_hear_0 : decode cX9_hear 0 = .ok (.aload_n 0, 1) := by decide +kernel
theorem dX9_hear_1 : decode cX9_hear 1 = .ok (.iload_n 1, 1) := by decide +kernel
theorem dX9_hear_2 : decode cX9_hear 2 = .ok (.iload_n 2, 1) := by decide +kernel
theorem dX9_hear_3 : decode cX9_hear 3 = .ok (.invokevirtual 162, 3) := by decide +kernel
theorem dX9_hear_6 : decode cX9_hear 6 = .ok (.istore_n 3, 1) := by decide +kernel
theorem dX9_hear_7 : decode cX9_hear 7 = .ok (.iload_n 3, 1) := by decide +kernel
theorem dX9_hear_8 : decode cX9_hear 8 = .ok (.ifCond .ge 5, 3) := by decide +kernel
theorem dX9_hear_11 : decode cX9_hear 11 = .ok (.iload_n 3, 1) := by decide +kernel
theorem dX9_hear_12 : decode cX9_hear 12 = .ok (.ireturn, 1) := by decide +kernel
theorem dX9_hear_13 : decode cX9_hear 13 = .ok (.aload_n 0, 1) := by decide +kernel
theorem dX9_hear_14 : decode cX9_hear 14 = .ok (.invokevirtual 153, 3) := by decide +kernel
theorem dX9_hear_17 : decode cX9_hear 17 = .ok (.aload_n 0, 1) := by decide +kernel
theorem dX9_hear_18 : decode cX9_hear 18 = .ok (.iload_n 1, 1) := by decide +kernel
theorem dX9_hear_19 : decode cX9_hear 19 = .ok (.iload_n 2, 1) := by decide +kernel
theorem dX9_hear_20 : decode cX9_hear 20 = .ok (.invokevirtual 166, 3) := by decide +kernel
theorem dX9_hear_23 : decode cX9_hear 23 = .ok (.ireturn, 1) := by decide +kernel
theorem dX9_fire_0 : decode cX9_fire 0 = .ok (.iload_n 1, 1) := by decide +kernel
theorem dX9_fire_1 : decode cX9_fire 1 = .ok (.iload_n 2, 1) := by decide +kernel
theorem dX9_fire_2 : decode cX9_fire 2 = .ok (.invokestatic 169, 3) := by decide +kernel
theorem dX9_fire_5 : decode cX9_fire 5 = .ok (.ifCond .ne 5, 3) := by decide +kernel
theorem dX9_fire_8 : decode cX9_fire 8 = .ok (.iconst (-1), 1) := by decide +kernel
theorem dX9_fire_9 : decode cX9_fire 9 = .ok (.ireturn, 1) := by decide +kernel
theorem dX9_fire_10 : decode cX9_fire 10 = .ok (.iload_n 3, 1) := by decide +kernel
theorem dX9_fire_11 : decode cX9_fire 11 = .ok (.iconst 0, 1) := by decide +kernel
theorem dX9_fire_12 : decode cX9_fire 12 = .ok (.ldc 172, 2) := by decide +kernel
theorem dX9_fire_14 : decode cX9_fire 14 = .ok (.invokestatic 70, 3) := by decide +kernel
theorem dX9_fire_17 : decode cX9_fire 17 = .ok (.ifCond .ne 6, 3) := by decide +kernel
theorem dX9_fire_20 : decode cX9_fire 20 = .ok (.bipush (-2), 2) := by decide +kernel
theorem dX9_fire_22 : decode cX9_fire 22 = .ok (.ireturn, 1) := by decide +kernel
theorem dX9_fire_23 : decode cX9_fire 23 = .ok (.aload_n 0, 1) := by decide +kernel
theorem dX9_fire_24 : decode cX9_fire 24 = .ok (.getfield 7, 3) := by decide +kernel
theorem dX9_fire_27 : decode cX9_fire 27 = .ok (.iconst 0, 1) := by decide +kernel
theorem dX9_fire_28 : decode cX9_fire 28 = .ok (.iaload, 1) := by decide +kernel
theorem dX9_fire_29 : decode cX9_fire 29 = .ok (.invokestatic 127, 3) := by decide +kernel
theorem dX9_fire_32 : decode cX9_fire 32 = .ok (.istore 4, 2) := by decide +kernel
theorem dX9_fire_34 : decode cX9_fire 34 = .ok (.iconst 0, 1) := by decide +kernel
theorem dX9_fire_35 : decode cX9_fire 35 = .ok (.istore 5, 2) := by decide +kernel
theorem dX9_fire_37 : decode cX9_fire 37 = .ok (.iconst 0, 1) := by decide +kernel
theorem dX9_fire_38 : decode cX9_fire 38 = .ok (.istore 6, 2) := by decide +kernel
theorem dX9_fire_40 : decode cX9_fire 40 = .ok (.iload 6, 2) := by decide +kernel
theorem dX9_fire_42 : decode cX9_fire 42 = .ok (.iconst 4, 1) := by decide +kernel
theorem dX9_fire_43 : decode cX9_fire 43 = .ok (.if_icmp .ge 42, 3) := by decide +kernel
theorem dX9_fire_46 : decode cX9_fire 46 = .ok (.iload 5, 2) := by decide +kernel
theorem dX9_fire_48 : decode cX9_fire 48 = .ok (.ifCond .ne 24, 3) := by decide +kernel
theorem dX9_fire_51 : decode cX9_fire 51 = .ok (.aload_n 0, 1) := by decide +kernel
theorem dX9_fire_52 : decode cX9_fire 52 = .ok (.iload 6, 2) := by decide +kernel
theorem dX9_fire_54 : decode cX9_fire 54 = .ok (.iload_n 3, 1) := by decide +kernel
theorem dX9_fire_55 : decode cX9_fire 55 = .ok (.aload_n 0, 1) := by decide +kernel
theorem dX9_fire_56 : decode cX9_fire 56 = .ok (.iload 4, 2) := by decide +kernel
theorem dX9_fire_58 : decode cX9_fire 58 = .ok (.iload_n 1, 1) := by decide +kernel
theorem dX9_fire_59 : decode cX9_fire 59 = .ok (.iload_n 2, 1) := by decide +kernel
theorem dX9_fire_60 : decode cX9_fire 60 = .ok (.iload 6, 2) := by decide +kernel
theorem dX9_fire_62 : decode cX9_fire 62 = .ok (.invokevirtual 84, 3) := by decide +kernel
theorem dX9_fire_65 : decode cX9_fire 65 = .ok (.iadd, 1) := by decide +kernel
theorem dX9_fire_66 : decode cX9_fire 66 = .ok (.invokevirtual 159, 3) := by decide +kernel
theorem dX9_fire_69 : decode cX9_fire 69 = .ok (.ifCond .eq 7, 3) := by decide +kernel
theorem dX9_fire_72 : decode cX9_fire 72 = .ok (.iconst 1, 1) := by decide +kernel
theorem dX9_fire_73 : decode cX9_fire 73 = .ok (.goto 4, 3) := by decide +kernel
theorem dX9_fire_76 : decode cX9_fire 76 = .ok (.iconst 0, 1) := by decide +kernel
theorem dX9_fire_77 : decode cX9_fire 77 = .ok (.istore 5, 2) := by decide +kernel
theorem dX9_fire_79 : decode cX9_fire 79 = .ok (.iinc 6 1, 3) := by decide +kernel
theorem dX9_fire_82 : decode cX9_fire 82 = .ok (.goto (-42), 3) := by decide +kernel
theorem dX9_fire_85 : decode cX9_fire 85 = .ok (.iload 5, 2) := by decide +kernel
theorem dX9_fire_87 : decode cX9_fire 87 = .ok (.ifCond .ne 16, 3) := by decide +kernel
theorem dX9_fire_90 : decode cX9_fire 90 = .ok (.aload_n 0, 1) := by decide +kernel
theorem dX9_fire_91 : decode cX9_fire 91 = .ok (.getfield 7, 3) := by decide +kernel
theorem dX9_fire_94 : decode cX9_fire 94 = .ok (.iconst 3, 1) := by decide +kernel
theorem dX9_fire_95 : decode cX9_fire 95 = .ok (.iaload, 1) := by decide +kernel
theorem dX9_fire_96 : decode cX9_fire 96 = .ok (.iconst 4, 1) := by decide +kernel
theorem dX9_fire_97 : decode cX9_fire 97 = .ok (.iadd, 1) := by decide +kernel
theorem dX9_fire_98 : decode cX9_fire 98 = .ok (.bipush 32, 2) := by decide +kernel
theorem dX9_fire_100 : decode cX9_fire 100 = .ok (.if_icmp .le 16, 3) := by decide +kernel
theorem dX9_fire_103 : decode cX9_fire 103 = .ok (.iload 5, 2) := by decide +kernel
theorem dX9_fire_105 : decode cX9_fire 105 = .ok (.ifCond .eq 8, 3) := by decide +kernel
theorem dX9_fire_108 : decode cX9_fire 108 = .ok (.bipush (-5), 2) := by decide +kernel
theorem dX9_fire_110 : decode cX9_fire 110 = .ok (.goto 5, 3) := by decide +kernel
theorem dX9_fire_113 : decode cX9_fire 113 = .ok (.bipush (-4), 2) := by decide +kernel
theorem dX9_fire_115 : decode cX9_fire 115 = .ok (.ireturn, 1) := by decide +kernel
theorem dX9_fire_116 : decode cX9_fire 116 = .ok (.aload_n 0, 1) := by decide +kernel
theorem dX9_fire_117 : decode cX9_fire 117 = .ok (.invokevirtual 153, 3) := by decide +kernel
theorem dX9_fire_120 : decode cX9_fire 120 = .ok (.iconst 0, 1) := by decide +kernel
theorem dX9_fire_121 : decode cX9_fire 121 = .ok (.istore 6, 2) := by decide +kernel
theorem dX9_fire_123 : decode cX9_fire 123 = .ok (.iload 6, 2) := by decide +kernel
theorem dX9_fire_125 : decode cX9_fire 125 = .ok (.iconst 4, 1) := by decide +kernel
theorem dX9_fire_126 : decode cX9_fire 126 = .ok (.if_icmp .ge 28, 3) := by decide +kernel
theorem dX9_fire_129 : decode cX9_fire 129 = .ok (.aload_n 0, 1) := by decide +kernel
theorem dX9_fire_130 : decode cX9_fire 130 = .ok (.iload 6, 2) := by decide +kernel
theorem dX9_fire_132 : decode cX9_fire 132 = .ok (.iload_n 3, 1) := by decide +kernel
theorem dX9_fire_133 : decode cX9_fire 133 = .ok (.aload_n 0, 1) := by decide +kernel
theorem dX9_fire_134 : decode cX9_fire 134 = .ok (.iload 4, 2) := by decide +kernel
theorem dX9_fire_136 : decode cX9_fire 136 = .ok (.iload_n 1, 1) := by decide +kernel
theorem dX9_fire_137 : decode cX9_fire 137 = .ok (.iload_n 2, 1) := by decide +kernel
theorem dX9_fire_138 : decode cX9_fire 138 = .ok (.iload 6, 2) := by decide +kernel
theorem dX9_fire_140 : decode cX9_fire 140 = .ok (.invokevirtual 84, 3) := by decide +kernel
theorem dX9_fire_143 : decode cX9_fire 143 = .ok (.iadd, 1) := by decide +kernel
theorem dX9_fire_144 : decode cX9_fire 144 = .ok (.invokevirtual 166, 3) := by decide +kernel
theorem dX9_fire_147 : decode cX9_fire 147 = .ok (.pop, 1) := by decide +kernel
theorem dX9_fire_148 : decode cX9_fire 148 = .ok (.iinc 6 1, 3) := by decide +kernel
theorem dX9_fire_151 : decode cX9_fire 151 = .ok (.goto (-28), 3) := by decide +kernel
theorem dX9_fire_154 : decode cX9_fire 154 = .ok (.aload_n 0, 1) := by decide +kernel
theorem dX9_fire_155 : decode cX9_fire 155 = .ok (.getfield 7, 3) := by decide +kernel
theorem dX9_fire_158 : decode cX9_fire 158 = .ok (.iconst 3, 1) := by decide +kernel
theorem dX9_fire_159 : decode cX9_fire 159 = .ok (.iaload, 1) := by decide +kernel
theorem dX9_fire_160 : decode cX9_fire 160 = .ok (.ireturn, 1) := by decide +kernel
theorem dX9_forget_0 : decode cX9_forget 0 = .ok (.aload_n 0, 1) := by decide +kernel
theorem dX9_forget_1 : decode cX9_forget 1 = .ok (.iload_n 1, 1) := by decide +kernel
theorem dX9_forget_2 : decode cX9_forget 2 = .ok (.invokevirtual 173, 3) := by decide +kernel
theorem dX9_forget_5 : decode cX9_forget 5 = .ok (.ifCond .ne 5, 3) := by decide +kernel
theorem dX9_forget_8 : decode cX9_forget 8 = .ok (.iconst (-1), 1) := by decide +kernel
theorem dX9_forget_9 : decode cX9_forget 9 = .ok (.ireturn, 1) := by decide +kernel
theorem dX9_forget_10 : decode cX9_forget 10 = .ok (.aload_n 0, 1) := by decide +kernel
theorem dX9_forget_11 : decode cX9_forget 11 = .ok (.invokevirtual 153, 3) := by decide +kernel
theorem dX9_forget_14 : decode cX9_forget 14 = .ok (.aload_n 0, 1) := by decide +kernel
theorem dX9_forget_15 : decode cX9_forget 15 = .ok (.iload_n 1, 1) := by decide +kernel
theorem dX9_forget_16 : decode cX9_forget 16 = .ok (.invokevirtual 90, 3) := by decide +kernel
theorem dX9_forget_19 : decode cX9_forget 19 = .ok (.istore_n 2, 1) := by decide +kernel
theorem dX9_forget_20 : decode cX9_forget 20 = .ok (.aload_n 0, 1) := by decide +kernel
theorem dX9_forget_21 : decode cX9_forget 21 = .ok (.iload_n 1, 1) := by decide +kernel
theorem dX9_forget_22 : decode cX9_forget 22 = .ok (.invokevirtual 176, 3) := by decide +kernel
theorem dX9_forget_25 : decode cX9_forget 25 = .ok (.iload_n 2, 1) := by decide +kernel
theorem dX9_forget_26 : decode cX9_forget 26 = .ok (.ireturn, 1) := by decide +kernel
theorem dX9_clear_0 : decode cX9_clear 0 = .ok (.aload_n 0, 1) := by decide +kernel
theorem dX9_clear_1 : decode cX9_clear 1 = .ok (.invokevirtual 153, 3) := by decide +kernel
theorem dX9_clear_4 : decode cX9_clear 4 = .ok (.aload_n 0, 1) := by decide +kernel
theorem dX9_clear_5 : decode cX9_clear 5 = .ok (.getfield 7, 3) := by decide +kernel
theorem dX9_clear_8 : decode cX9_clear 8 = .ok (.iconst 3, 1) := by decide +kernel
theorem dX9_clear_9 : decode cX9_clear 9 = .ok (.iaload, 1) := by decide +kernel
theorem dX9_clear_10 : decode cX9_clear 10 = .ok (.istore_n 1, 1) := by decide +kernel
theorem dX9_clear_11 : decode cX9_clear 11 = .ok (.aload_n 0, 1) := by decide +kernel
theorem dX9_clear_12 : decode cX9_clear 12 = .ok (.getfield 7, 3) := by decide +kernel
theorem dX9_clear_15 : decode cX9_clear 15 = .ok (.iconst 3, 1) := by decide +kernel
theorem dX9_clear_16 : decode cX9_clear 16 = .ok (.iconst 0, 1) := by decide +kernel
theorem dX9_clear_17 : decode cX9_clear 17 = .ok (.iastore, 1) := by decide +kernel
theorem dX9_clear_18 : decode cX9_clear 18 = .ok (.iload_n 1, 1) := by decide +kernel
theorem dX9_clear_19 : decode cX9_clear 19 = .ok (.ireturn, 1) := by decide +kernel
theorem dX9_takes_0 : decode cX9_takes 0 = .ok (.iload_n 1, 1) := by decide +kernel
theorem dX9_takes_1 : decode cX9_takes 1 = .ok (.iload_n 2, 1) := by decide +kernel
theorem dX9_takes_2 : decode cX9_takes 2 = .ok (.invokestatic 169, 3) := by decide +kernel
theorem dX9_takes_5 : decode cX9_takes 5 = .ok (.ifCond .eq 29, 3) := by decide +kernel
theorem dX9_takes_8 : decode cX9_takes 8 = .ok (.iload_n 3, 1) := by decide +kernel
theorem dX9_takes_9 : decode cX9_takes 9 = .ok (.invokestatic 156, 3) := by decide +kernel
theorem dX9_takes_12 : decode cX9_takes 12 = .ok (.ifCond .eq 22, 3) := by decide +kernel
theorem dX9_takes_15 : decode cX9_takes 15 = .ok (.aload_n 0, 1) := by decide +kernel
theorem dX9_takes_16 : decode cX9_takes 16 = .ok (.aload_n 0, 1) := by decide +kernel
theorem dX9_takes_17 : decode cX9_takes 17 = .ok (.getfield 7, 3) := by decide +kernel
theorem dX9_takes_20 : decode cX9_takes 20 = .ok (.iconst 0, 1) := by decide +kernel
theorem dX9_takes_21 : decode cX9_takes 21 = .ok (.iaload, 1) := by decide +kernel
theorem dX9_takes_22 : decode cX9_takes 22 = .ok (.invokestatic 127, 3) := by decide +kernel
theorem dX9_takes_25 : decode cX9_takes 25 = .ok (.iload_n 1, 1) := by decide +kernel
theorem dX9_takes_26 : decode cX9_takes 26 = .ok (.iload_n 2, 1) := by decide +kernel
theorem dX9_takes_27 : decode cX9_takes 27 = .ok (.iload_n 3, 1) := by decide +kernel
theorem dX9_takes_28 : decode cX9_takes 28 = .ok (.invokevirtual 84, 3) := by decide +kernel
theorem dX9_takes_31 : decode cX9_takes 31 = .ok (.goto 4, 3) := by decide +kernel
theorem dX9_takes_34 : decode cX9_takes 34 = .ok (.iconst (-1), 1) := by decide +kernel
theorem dX9_takes_35 : decode cX9_takes 35 = .ok (.ireturn, 1) := by decide +kernel
theorem dX9_pulse_0 : decode cX9_pulse 0 = .ok (.aload_n 0, 1) := by decide +kernel
theorem dX9_pulse_1 : decode cX9_pulse 1 = .ok (.iload_n 1, 1) := by decide +kernel
theorem dX9_pulse_2 : decode cX9_pulse 2 = .ok (.invokevirtual 173, 3) := by decide +kernel
theorem dX9_pulse_5 : decode cX9_pulse 5 = .ok (.ifCond .ne 5, 3) := by decide +kernel
theorem dX9_pulse_8 : decode cX9_pulse 8 = .ok (.iconst (-1), 1) := by decide +kernel
theorem dX9_pulse_9 : decode cX9_pulse 9 = .ok (.ireturn, 1) := by decide +kernel
theorem dX9_pulse_10 : decode cX9_pulse 10 = .ok (.iload_n 2, 1) := by decide +kernel
theorem dX9_pulse_11 : decode cX9_pulse 11 = .ok (.tableswitch 48 0 2 #[25, 31, 37], 25) := by decide +kernel
theorem dX9_pulse_36 : decode cX9_pulse 36 = .ok (.aload_n 0, 1) := by decide +kernel
theorem dX9_pulse_37 : decode cX9_pulse 37 = .ok (.iload_n 1, 1) := by decide +kernel
theorem dX9_pulse_38 : decode cX9_pulse 38 = .ok (.invokevirtual 87, 3) := by decide +kernel
theorem dX9_pulse_41 : decode cX9_pulse 41 = .ok (.ireturn, 1) := by decide +kernel
theorem dX9_pulse_42 : decode cX9_pulse 42 = .ok (.aload_n 0, 1) := by decide +kernel
theorem dX9_pulse_43 : decode cX9_pulse 43 = .ok (.iload_n 1, 1) := by decide +kernel
theorem dX9_pulse_44 : decode cX9_pulse 44 = .ok (.invokevirtual 90, 3) := by decide +kernel
theorem dX9_pulse_47 : decode cX9_pulse 47 = .ok (.ireturn, 1) := by decide +kernel
theorem dX9_pulse_48 : decode cX9_pulse 48 = .ok (.aload_n 0, 1) := by decide +kernel
theorem dX9_pulse_49 : decode cX9_pulse 49 = .ok (.invokevirtual 179, 3) := by decide +kernel
theorem dX9_pulse_52 : decode cX9_pulse 52 = .ok (.aload_n 0, 1) := by decide +kernel
theorem dX9_pulse_53 : decode cX9_pulse 53 = .ok (.getfield 34, 3) := by decide +kernel
theorem dX9_pulse_56 : decode cX9_pulse 56 = .ok (.iload_n 1, 1) := by decide +kernel
theorem dX9_pulse_57 : decode cX9_pulse 57 = .ok (.iaload, 1) := by decide +kernel
theorem dX9_pulse_58 : decode cX9_pulse 58 = .ok (.ireturn, 1) := by decide +kernel
theorem dX9_pulse_59 : decode cX9_pulse 59 = .ok (.bipush (-2), 2) := by decide +kernel
theorem dX9_pulse_61 : decode cX9_pulse 61 = .ok (.ireturn, 1) := by decide +kernel
theorem dX9_isShot_0 : decode cX9_isShot 0 = .ok (.aload_n 0, 1) := by decide +kernel
theorem dX9_isShot_1 : decode cX9_isShot 1 = .ok (.invokevirtual 179, 3) := by decide +kernel
theorem dX9_isShot_4 : decode cX9_isShot 4 = .ok (.iload_n 1, 1) := by decide +kernel
theorem dX9_isShot_5 : decode cX9_isShot 5 = .ok (.iconst 0, 1) := by decide +kernel
theorem dX9_isShot_6 : decode cX9_isShot 6 = .ok (.aload_n 0, 1) := by decide +kernel
theorem dX9_isShot_7 : decode cX9_isShot 7 = .ok (.getfield 121, 3) := by decide +kernel
theorem dX9_isShot_10 : decode cX9_isShot 10 = .ok (.iconst 1, 1) := by decide +kernel
theorem dX9_isShot_11 : decode cX9_isShot 11 = .ok (.isub, 1) := by decide +kernel
theorem dX9_isShot_12 : decode cX9_isShot 12 = .ok (.invokestatic 70, 3) := by decide +kernel
theorem dX9_isShot_15 : decode cX9_isShot 15 = .ok (.ireturn, 1) := by decide +kernel
theorem dX9_shot_0 : decode cX9_shot 0 = .ok (.aload_n 0, 1) := by decide +kernel
theorem dX9_shot_1 : decode cX9_shot 1 = .ok (.iload_n 1, 1) := by decide +kernel
theorem dX9_shot_2 : decode cX9_shot 2 = .ok (.invokevirtual 182, 3) := by decide +kernel
theorem dX9_shot_5 : decode cX9_shot 5 = .ok (.ifCond .ne 5, 3) := by decide +kernel
theorem dX9_shot_8 : decode cX9_shot 8 = .ok (.iconst (-1), 1) := by decide +kernel
theorem dX9_shot_9 : decode cX9_shot 9 = .ok (.ireturn, 1) := by decide +kernel
theorem dX9_shot_10 : decode cX9_shot 10 = .ok (.iload_n 2, 1) := by decide +kernel
theorem dX9_shot_11 : decode cX9_shot 11 = .ok (.tableswitch 106 0 8 #[49, 59, 69, 76, 87, 93, 93, 93, 93], 49) := by decide +kernel
theorem dX9_shot_60 : decode cX9_shot 60 = .ok (.aload_n 0, 1) := by decide +kernel
theorem dX9_shot_61 : decode cX9_shot 61 = .ok (.getfield 37, 3) := by decide +kernel
theorem dX9_shot_64 : decode cX9_shot 64 = .ok (.iload_n 1, 1) := by decide +kernel
theorem dX9_shot_65 : decode cX9_shot 65 = .ok (.iaload, 1) := by decide +kernel
theorem dX9_shot_66 : decode cX9_shot 66 = .ok (.bipush 41, 2) := by decide +kernel
theorem dX9_shot_68 : decode cX9_shot 68 = .ok (.irem, 1) := by decide +kernel
theorem dX9_shot_69 : decode cX9_shot 69 = .ok (.ireturn, 1) := by decide +kernel
theorem dX9_shot_70 : decode cX9_shot 70 = .ok (.aload_n 0, 1) := by decide +kernel
theorem dX9_shot_71 : decode cX9_shot 71 = .ok (.getfield 37, 3) := by decide +kernel
theorem dX9_shot_74 : decode cX9_shot 74 = .ok (.iload_n 1, 1) := by decide +kernel
theorem dX9_shot_75 : decode cX9_shot 75 = .ok (.iaload, 1) := by decide +kernel
theorem dX9_shot_76 : decode cX9_shot 76 = .ok (.bipush 41, 2) := by decide +kernel
theorem dX9_shot_78 : decode cX9_shot 78 = .ok (.idiv, 1) := by decide +kernel
theorem dX9_shot_79 : decode cX9_shot 79 = .ok (.ireturn, 1) := by decide +kernel
theorem dX9_shot_80 : decode cX9_shot 80 = .ok (.aload_n 0, 1) := by decide +kernel
theorem dX9_shot_81 : decode cX9_shot 81 = .ok (.getfield 40, 3) := by decide +kernel
theorem dX9_shot_84 : decode cX9_shot 84 = .ok (.iload_n 1, 1) := by decide +kernel
theorem dX9_shot_85 : decode cX9_shot 85 = .ok (.iaload, 1) := by decide +kernel
theorem dX9_shot_86 : decode cX9_shot 86 = .ok (.ireturn, 1) := by decide +kernel
theorem dX9_shot_87 : decode cX9_shot 87 = .ok (.aload_n 0, 1) := by decide +kernel
theorem dX9_shot_88 : decode cX9_shot 88 = .ok (.getfield 43, 3) := by decide +kernel
theorem dX9_shot_91 : decode cX9_shot 91 = .ok (.iload_n 1, 1) := by decide +kernel
theorem dX9_shot_92 : decode cX9_shot 92 = .ok (.iaload, 1) := by decide +kernel
theorem dX9_shot_93 : decode cX9_shot 93 = .ok (.sipush 10000, 3) := by decide +kernel
theorem dX9_shot_96 : decode cX9_shot 96 = .ok (.iadd, 1) := by decide +kernel
theorem dX9_shot_97 : decode cX9_shot 97 = .ok (.ireturn, 1) := by decide +kernel
theorem dX9_shot_98 : decode cX9_shot 98 = .ok (.aload_n 0, 1) := by decide +kernel
theorem dX9_shot_99 : decode cX9_shot 99 = .ok (.iload_n 1, 1) := by decide +kernel
theorem dX9_shot_100 : decode cX9_shot 100 = .ok (.invokevirtual 146, 3) := by decide +kernel
theorem dX9_shot_103 : decode cX9_shot 103 = .ok (.ireturn, 1) := by decide +kernel
theorem dX9_shot_104 : decode cX9_shot 104 = .ok (.aload_n 0, 1) := by decide +kernel
theorem dX9_shot_105 : decode cX9_shot 105 = .ok (.getfield 46, 3) := by decide +kernel
theorem dX9_shot_108 : decode cX9_shot 108 = .ok (.iconst 4, 1) := by decide +kernel
theorem dX9_shot_109 : decode cX9_shot 109 = .ok (.iload_n 1, 1) := by decide +kernel
theorem dX9_shot_110 : decode cX9_shot 110 = .ok (.imul, 1) := by decide +kernel
theorem dX9_shot_111 : decode cX9_shot 111 = .ok (.iload_n 2, 1) := by decide +kernel
theorem dX9_shot_112 : decode cX9_shot 112 = .ok (.iadd, 1) := by decide +kernel
theorem dX9_shot_113 : decode cX9_shot 113 = .ok (.iconst 5, 1) := by decide +kernel
theorem dX9_shot_114 : decode cX9_shot 114 = .ok (.isub, 1) := by decide +kernel
theorem dX9_shot_115 : decode cX9_shot 115 = .ok (.iaload, 1) := by decide +kernel
theorem dX9_shot_116 : decode cX9_shot 116 = .ok (.ireturn, 1) := by decide +kernel
theorem dX9_shot_117 : decode cX9_shot 117 = .ok (.bipush (-2), 2) := by decide +kernel
theorem dX9_shot_119 : decode cX9_shot 119 = .ok (.ireturn, 1) := by decide +kernel
theorem dX9_bestShot_0 : decode cX9_bestShot 0 = .ok (.bipush (-6), 2) := by decide +kernel
theorem dX9_bestShot_2 : decode cX9_bestShot 2 = .ok (.istore_n 1, 1) := by decide +kernel
theorem dX9_bestShot_3 : decode cX9_bestShot 3 = .ok (.aload_n 0, 1) := by decide +kernel
theorem dX9_bestShot_4 : decode cX9_bestShot 4 = .ok (.getfield 121, 3) := by decide +kernel
theorem dX9_bestShot_7 : decode cX9_bestShot 7 = .ok (.iconst 1, 1) := by decide +kernel
theorem dX9_bestShot_8 : decode cX9_bestShot 8 = .ok (.isub, 1) := by decide +kernel
theorem dX9_bestShot_9 : decode cX9_bestShot 9 = .ok (.istore_n 2, 1) := by decide +kernel
theorem dX9_bestShot_10 : decode cX9_bestShot 10 = .ok (.iload_n 2, 1) := by decide +kernel
theorem dX9_bestShot_11 : decode cX9_bestShot 11 = .ok (.ifCond .lt 34, 3) := by decide +kernel
theorem dX9_bestShot_14 : decode cX9_bestShot 14 = .ok (.iload_n 1, 1) := by decide +kernel
theorem dX9_bestShot_15 : decode cX9_bestShot 15 = .ok (.bipush (-6), 2) := by decide +kernel
theorem dX9_bestShot_17 : decode cX9_bestShot 17 = .ok (.if_icmp .eq 16, 3) := by decide +kernel
theorem dX9_bestShot_20 : decode cX9_bestShot 20 = .ok (.aload_n 0, 1) := by decide +kernel
theorem dX9_bestShot_21 : decode cX9_bestShot 21 = .ok (.iload_n 2, 1) := by decide +kernel
theorem dX9_bestShot_22 : decode cX9_bestShot 22 = .ok (.invokevirtual 146, 3) := by decide +kernel
theorem dX9_bestShot_25 : decode cX9_bestShot 25 = .ok (.aload_n 0, 1) := by decide +kernel
theorem dX9_bestShot_26 : decode cX9_bestShot 26 = .ok (.iload_n 1, 1) := by decide +kernel
theorem dX9_bestShot_27 : decode cX9_bestShot 27 = .ok (.invokevirtual 146, 3) := by decide +kernel
theorem dX9_bestShot_30 : decode cX9_bestShot 30 = .ok (.if_icmp .lt 7, 3) := by decide +kernel
theorem dX9_bestShot_33 : decode cX9_bestShot 33 = .ok (.iload_n 2, 1) := by decide +kernel
theorem dX9_bestShot_34 : decode cX9_bestShot 34 = .ok (.goto 4, 3) := by decide +kernel
theorem dX9_bestShot_37 : decode cX9_bestShot 37 = .ok (.iload_n 1, 1) := by decide +kernel
theorem dX9_bestShot_38 : decode cX9_bestShot 38 = .ok (.istore_n 1, 1) := by decide +kernel
theorem dX9_bestShot_39 : decode cX9_bestShot 39 = .ok (.iinc 2 (-1), 3) := by decide +kernel
theorem dX9_bestShot_42 : decode cX9_bestShot 42 = .ok (.goto (-32), 3) := by decide +kernel
theorem dX9_bestShot_45 : decode cX9_bestShot 45 = .ok (.iload_n 1, 1) := by decide +kernel
theorem dX9_bestShot_46 : decode cX9_bestShot 46 = .ok (.ireturn, 1) := by decide +kernel
theorem dX9_widest_0 : decode cX9_widest 0 = .ok (.iconst 0, 1) := by decide +kernel
theorem dX9_widest_1 : decode cX9_widest 1 = .ok (.istore_n 1, 1) := by decide +kernel
theorem dX9_widest_2 : decode cX9_widest 2 = .ok (.iconst 0, 1) := by decide +kernel
theorem dX9_widest_3 : decode cX9_widest 3 = .ok (.istore_n 2, 1) := by decide +kernel
theorem dX9_widest_4 : decode cX9_widest 4 = .ok (.iload_n 2, 1) := by decide +kernel
theorem dX9_widest_5 : decode cX9_widest 5 = .ok (.aload_n 0, 1) := by decide +kernel
theorem dX9_widest_6 : decode cX9_widest 6 = .ok (.getfield 121, 3) := by decide +kernel
theorem dX9_widest_9 : decode cX9_widest 9 = .ok (.if_icmp .ge 77, 3) := by decide +kernel
theorem dX9_widest_12 : decode cX9_widest 12 = .ok (.iconst 0, 1) := by decide +kernel
theorem dX9_widest_13 : decode cX9_widest 13 = .ok (.istore_n 3, 1) := by decide +kernel
theorem dX9_widest_14 : decode cX9_widest 14 = .ok (.iload_n 3, 1) := by decide +kernel
theorem dX9_widest_15 : decode cX9_widest 15 = .ok (.iload_n 2, 1) := by decide +kernel
theorem dX9_widest_16 : decode cX9_widest 16 = .ok (.if_icmp .ge 64, 3) := by decide +kernel
theorem dX9_widest_19 : decode cX9_widest 19 = .ok (.aload_n 0, 1) := by decide +kernel
theorem dX9_widest_20 : decode cX9_widest 20 = .ok (.aload_n 0, 1) := by decide +kernel
theorem dX9_widest_21 : decode cX9_widest 21 = .ok (.getfield 37, 3) := by decide +kernel
theorem dX9_widest_24 : decode cX9_widest 24 = .ok (.iload_n 2, 1) := by decide +kernel
theorem dX9_widest_25 : decode cX9_widest 25 = .ok (.iaload, 1) := by decide +kernel
theorem dX9_widest_26 : decode cX9_widest 26 = .ok (.bipush 41, 2) := by decide +kernel
theorem dX9_widest_28 : decode cX9_widest 28 = .ok (.irem, 1) := by decide +kernel
theorem dX9_widest_29 : decode cX9_widest 29 = .ok (.aload_n 0, 1) := by decide +kernel
theorem dX9_widest_30 : decode cX9_widest 30 = .ok (.getfield 37, 3) := by decide +kernel
theorem dX9_widest_33 : decode cX9_widest 33 = .ok (.iload_n 2, 1) := by decide +kernel
theorem dX9_widest_34 : decode cX9_widest 34 = .ok (.iaload, 1) := by decide +kernel
theorem dX9_widest_35 : decode cX9_widest 35 = .ok (.bipush 41, 2) := by decide +kernel
theorem dX9_widest_37 : decode cX9_widest 37 = .ok (.idiv, 1) := by decide +kernel
theorem dX9_widest_38 : decode cX9_widest 38 = .ok (.aload_n 0, 1) := by decide +kernel
theorem dX9_widest_39 : decode cX9_widest 39 = .ok (.getfield 37, 3) := by decide +kernel
theorem dX9_widest_42 : decode cX9_widest 42 = .ok (.iload_n 3, 1) := by decide +kernel
theorem dX9_widest_43 : decode cX9_widest 43 = .ok (.iaload, 1) := by decide +kernel
theorem dX9_widest_44 : decode cX9_widest 44 = .ok (.bipush 41, 2) := by decide +kernel
theorem dX9_widest_46 : decode cX9_widest 46 = .ok (.irem, 1) := by decide +kernel
theorem dX9_widest_47 : decode cX9_widest 47 = .ok (.aload_n 0, 1) := by decide +kernel
theorem dX9_widest_48 : decode cX9_widest 48 = .ok (.getfield 37, 3) := by decide +kernel
theorem dX9_widest_51 : decode cX9_widest 51 = .ok (.iload_n 3, 1) := by decide +kernel
theorem dX9_widest_52 : decode cX9_widest 52 = .ok (.iaload, 1) := by decide +kernel
theorem dX9_widest_53 : decode cX9_widest 53 = .ok (.bipush 41, 2) := by decide +kernel
theorem dX9_widest_55 : decode cX9_widest 55 = .ok (.idiv, 1) := by decide +kernel
theorem dX9_widest_56 : decode cX9_widest 56 = .ok (.invokevirtual 77, 3) := by decide +kernel
theorem dX9_widest_59 : decode cX9_widest 59 = .ok (.istore 4, 2) := by decide +kernel
theorem dX9_widest_61 : decode cX9_widest 61 = .ok (.iload 4, 2) := by decide +kernel
theorem dX9_widest_63 : decode cX9_widest 63 = .ok (.iload_n 1, 1) := by decide +kernel
theorem dX9_widest_64 : decode cX9_widest 64 = .ok (.if_icmp .le 8, 3) := by decide +kernel
theorem dX9_widest_67 : decode cX9_widest 67 = .ok (.iload 4, 2) := by decide +kernel
theorem dX9_widest_69 : decode cX9_widest 69 = .ok (.goto 4, 3) := by decide +kernel
theorem dX9_widest_72 : decode cX9_widest 72 = .ok (.iload_n 1, 1) := by decide +kernel
theorem dX9_widest_73 : decode cX9_widest 73 = .ok (.istore_n 1, 1) := by decide +kernel
theorem dX9_widest_74 : decode cX9_widest 74 = .ok (.iinc 3 1, 3) := by decide +kernel
theorem dX9_widest_77 : decode cX9_widest 77 = .ok (.goto (-63), 3) := by decide +kernel
theorem dX9_widest_80 : decode cX9_widest 80 = .ok (.iinc 2 1, 3) := by decide +kernel
theorem dX9_widest_83 : decode cX9_widest 83 = .ok (.goto (-79), 3) := by decide +kernel
theorem dX9_widest_86 : decode cX9_widest 86 = .ok (.iload_n 1, 1) := by decide +kernel
theorem dX9_widest_87 : decode cX9_widest 87 = .ok (.ireturn, 1) := by decide +kernel
theorem dX9_count_0 : decode cX9_count 0 = .ok (.iload_n 1, 1) := by decide +kernel
theorem dX9_count_1 : decode cX9_count 1 = .ok (.iconst 0, 1) := by decide +kernel
theorem dX9_count_2 : decode cX9_count 2 = .ok (.bipush 12, 2) := by decide +kernel
theorem dX9_count_4 : decode cX9_count 4 = .ok (.invokestatic 70, 3) := by decide +kernel
theorem dX9_count_7 : decode cX9_count 7 = .ok (.ifCond .ne 6, 3) := by decide +kernel
theorem dX9_count_10 : decode cX9_count 10 = .ok (.bipush (-2), 2) := by decide +kernel
theorem dX9_count_12 : decode cX9_count 12 = .ok (.ireturn, 1) := by decide +kernel
theorem dX9_count_13 : decode cX9_count 13 = .ok (.aload_n 0, 1) := by decide +kernel
end
section
theorem dX9_count_14 : decode cX9_count 14 = .ok (.invokevirtual 179, 3) := by decide +kernel
theorem dX9_count_17 : decode cX9_count 17 = .ok (.iload_n 1, 1) := by decide +kernel
theorem dX9_count_18 : decode cX9_count 18 = .ok (.tableswitch 143 0 11 #[62, 69, 74, 88, 93, 98, 103, 108, 118, 128, 128, 138], 62) := by decide +kernel
theorem dX9_count_80 : decode cX9_count 80 = .ok (.aload_n 0, 1) := by decide +kernel
theorem dX9_count_81 : decode cX9_count 81 = .ok (.getfield 7, 3) := by decide +kernel
theorem dX9_count_84 : decode cX9_count 84 = .ok (.iconst 3, 1) := by decide +kernel
theorem dX9_count_85 : decode cX9_count 85 = .ok (.iaload, 1) := by decide +kernel
theorem dX9_count_86 : decode cX9_count 86 = .ok (.ireturn, 1) := by decide +kernel
theorem dX9_count_87 : decode cX9_count 87 = .ok (.aload_n 0, 1) := by decide +kernel
theorem dX9_count_88 : decode cX9_count 88 = .ok (.getfield 121, 3) := by decide +kernel
theorem dX9_count_91 : decode cX9_count 91 = .ok (.ireturn, 1) := by decide +kernel
theorem dX9_count_92 : decode cX9_count 92 = .ok (.aload_n 0, 1) := by decide +kernel
theorem dX9_count_93 : decode cX9_count 93 = .ok (.getfield 7, 3) := by decide +kernel
theorem dX9_count_96 : decode cX9_count 96 = .ok (.iconst 3, 1) := by decide +kernel
theorem dX9_count_97 : decode cX9_count 97 = .ok (.iaload, 1) := by decide +kernel
theorem dX9_count_98 : decode cX9_count 98 = .ok (.iconst 4, 1) := by decide +kernel
theorem dX9_count_99 : decode cX9_count 99 = .ok (.aload_n 0, 1) := by decide +kernel
theorem dX9_count_100 : decode cX9_count 100 = .ok (.getfield 121, 3) := by decide +kernel
theorem dX9_count_103 : decode cX9_count 103 = .ok (.imul, 1) := by decide +kernel
theorem dX9_count_104 : decode cX9_count 104 = .ok (.isub, 1) := by decide +kernel
theorem dX9_count_105 : decode cX9_count 105 = .ok (.ireturn, 1) := by decide +kernel
theorem dX9_count_106 : decode cX9_count 106 = .ok (.aload_n 0, 1) := by decide +kernel
theorem dX9_count_107 : decode cX9_count 107 = .ok (.invokevirtual 185, 3) := by decide +kernel
theorem dX9_count_110 : decode cX9_count 110 = .ok (.ireturn, 1) := by decide +kernel
theorem dX9_count_111 : decode cX9_count 111 = .ok (.aload_n 0, 1) := by decide +kernel
theorem dX9_count_112 : decode cX9_count 112 = .ok (.invokevirtual 189, 3) := by decide +kernel
theorem dX9_count_115 : decode cX9_count 115 = .ok (.ireturn, 1) := by decide +kernel
theorem dX9_count_116 : decode cX9_count 116 = .ok (.aload_n 0, 1) := by decide +kernel
theorem dX9_count_117 : decode cX9_count 117 = .ok (.invokevirtual 192, 3) := by decide +kernel
theorem dX9_count_120 : decode cX9_count 120 = .ok (.ireturn, 1) := by decide +kernel
theorem dX9_count_121 : decode cX9_count 121 = .ok (.aload_n 0, 1) := by decide +kernel
theorem dX9_count_122 : decode cX9_count 122 = .ok (.invokevirtual 195, 3) := by decide +kernel
theorem dX9_count_125 : decode cX9_count 125 = .ok (.ireturn, 1) := by decide +kernel
theorem dX9_count_126 : decode cX9_count 126 = .ok (.aload_n 0, 1) := by decide +kernel
theorem dX9_count_127 : decode cX9_count 127 = .ok (.getfield 7, 3) := by decide +kernel
theorem dX9_count_130 : decode cX9_count 130 = .ok (.iconst 0, 1) := by decide +kernel
theorem dX9_count_131 : decode cX9_count 131 = .ok (.iaload, 1) := by decide +kernel
theorem dX9_count_132 : decode cX9_count 132 = .ok (.invokestatic 127, 3) := by decide +kernel
theorem dX9_count_135 : decode cX9_count 135 = .ok (.ireturn, 1) := by decide +kernel
theorem dX9_count_136 : decode cX9_count 136 = .ok (.aload_n 0, 1) := by decide +kernel
theorem dX9_count_137 : decode cX9_count 137 = .ok (.getfield 7, 3) := by decide +kernel
theorem dX9_count_140 : decode cX9_count 140 = .ok (.iconst 0, 1) := by decide +kernel
theorem dX9_count_141 : decode cX9_count 141 = .ok (.iaload, 1) := by decide +kernel
theorem dX9_count_142 : decode cX9_count 142 = .ok (.bipush 100, 2) := by decide +kernel
theorem dX9_count_144 : decode cX9_count 144 = .ok (.iadd, 1) := by decide +kernel
theorem dX9_count_145 : decode cX9_count 145 = .ok (.ireturn, 1) := by decide +kernel
theorem dX9_count_146 : decode cX9_count 146 = .ok (.aload_n 0, 1) := by decide +kernel
theorem dX9_count_147 : decode cX9_count 147 = .ok (.getfield 7, 3) := by decide +kernel
theorem dX9_count_150 : decode cX9_count 150 = .ok (.iload_n 1, 1) := by decide +kernel
theorem dX9_count_151 : decode cX9_count 151 = .ok (.bipush 8, 2) := by decide +kernel
theorem dX9_count_153 : decode cX9_count 153 = .ok (.isub, 1) := by decide +kernel
theorem dX9_count_154 : decode cX9_count 154 = .ok (.iaload, 1) := by decide +kernel
theorem dX9_count_155 : decode cX9_count 155 = .ok (.ireturn, 1) := by decide +kernel
theorem dX9_count_156 : decode cX9_count 156 = .ok (.aload_n 0, 1) := by decide +kernel
theorem dX9_count_157 : decode cX9_count 157 = .ok (.getfield 198, 3) := by decide +kernel
theorem dX9_count_160 : decode cX9_count 160 = .ok (.ireturn, 1) := by decide +kernel
theorem dX9_count_161 : decode cX9_count 161 = .ok (.aload_n 0, 1) := by decide +kernel
theorem dX9_count_162 : decode cX9_count 162 = .ok (.getfield 62, 3) := by decide +kernel
theorem dX9_count_165 : decode cX9_count 165 = .ok (.ireturn, 1) := by decide +kernel
theorem dX9_fits_0 : decode cX9_fits 0 = .ok (.aload_n 0, 1) := by decide +kernel
theorem dX9_fits_1 : decode cX9_fits 1 = .ok (.iload_n 1, 1) := by decide +kernel
theorem dX9_fits_2 : decode cX9_fits 2 = .ok (.invokevirtual 182, 3) := by decide +kernel
theorem dX9_fits_5 : decode cX9_fits 5 = .ok (.ifCond .eq 11, 3) := by decide +kernel
theorem dX9_fits_8 : decode cX9_fits 8 = .ok (.iload_n 2, 1) := by decide +kernel
theorem dX9_fits_9 : decode cX9_fits 9 = .ok (.iload_n 3, 1) := by decide +kernel
theorem dX9_fits_10 : decode cX9_fits 10 = .ok (.invokestatic 169, 3) := by decide +kernel
theorem dX9_fits_13 : decode cX9_fits 13 = .ok (.ifCond .ne 5, 3) := by decide +kernel
theorem dX9_fits_16 : decode cX9_fits 16 = .ok (.iconst (-1), 1) := by decide +kernel
theorem dX9_fits_17 : decode cX9_fits 17 = .ok (.ireturn, 1) := by decide +kernel
theorem dX9_fits_18 : decode cX9_fits 18 = .ok (.iconst 0, 1) := by decide +kernel
theorem dX9_fits_19 : decode cX9_fits 19 = .ok (.istore 4, 2) := by decide +kernel
theorem dX9_fits_21 : decode cX9_fits 21 = .ok (.iload 4, 2) := by decide +kernel
theorem dX9_fits_23 : decode cX9_fits 23 = .ok (.iconst 4, 1) := by decide +kernel
theorem dX9_fits_24 : decode cX9_fits 24 = .ok (.if_icmp .ge 27, 3) := by decide +kernel
theorem dX9_fits_27 : decode cX9_fits 27 = .ok (.aload_n 0, 1) := by decide +kernel
theorem dX9_fits_28 : decode cX9_fits 28 = .ok (.getfield 49, 3) := by decide +kernel
theorem dX9_fits_31 : decode cX9_fits 31 = .ok (.iload 4, 2) := by decide +kernel
theorem dX9_fits_33 : decode cX9_fits 33 = .ok (.aload_n 0, 1) := by decide +kernel
theorem dX9_fits_34 : decode cX9_fits 34 = .ok (.getfield 46, 3) := by decide +kernel
theorem dX9_fits_37 : decode cX9_fits 37 = .ok (.iconst 4, 1) := by decide +kernel
theorem dX9_fits_38 : decode cX9_fits 38 = .ok (.iload_n 1, 1) := by decide +kernel
theorem dX9_fits_39 : decode cX9_fits 39 = .ok (.imul, 1) := by decide +kernel
theorem dX9_fits_40 : decode cX9_fits 40 = .ok (.iload 4, 2) := by decide +kernel
theorem dX9_fits_42 : decode cX9_fits 42 = .ok (.iadd, 1) := by decide +kernel
theorem dX9_fits_43 : decode cX9_fits 43 = .ok (.iaload, 1) := by decide +kernel
theorem dX9_fits_44 : decode cX9_fits 44 = .ok (.iastore, 1) := by decide +kernel
theorem dX9_fits_45 : decode cX9_fits 45 = .ok (.iinc 4 1, 3) := by decide +kernel
theorem dX9_fits_48 : decode cX9_fits 48 = .ok (.goto (-27), 3) := by decide +kernel
theorem dX9_fits_51 : decode cX9_fits 51 = .ok (.aload_n 0, 1) := by decide +kernel
theorem dX9_fits_52 : decode cX9_fits 52 = .ok (.bipush 41, 2) := by decide +kernel
theorem dX9_fits_54 : decode cX9_fits 54 = .ok (.iload_n 3, 1) := by decide +kernel
theorem dX9_fits_55 : decode cX9_fits 55 = .ok (.imul, 1) := by decide +kernel
theorem dX9_fits_56 : decode cX9_fits 56 = .ok (.iload_n 2, 1) := by decide +kernel
theorem dX9_fits_57 : decode cX9_fits 57 = .ok (.iadd, 1) := by decide +kernel
theorem dX9_fits_58 : decode cX9_fits 58 = .ok (.invokevirtual 98, 3) := by decide +kernel
theorem dX9_fits_61 : decode cX9_fits 61 = .ok (.ireturn, 1) := by decide +kernel
theorem dX9_mean_0 : decode cX9_mean 0 = .ok (.iload_n 1, 1) := by decide +kernel
theorem dX9_mean_1 : decode cX9_mean 1 = .ok (.iconst 0, 1) := by decide +kernel
theorem dX9_mean_2 : decode cX9_mean 2 = .ok (.iconst 1, 1) := by decide +kernel
theorem dX9_mean_3 : decode cX9_mean 3 = .ok (.invokestatic 70, 3) := by decide +kernel
theorem dX9_mean_6 : decode cX9_mean 6 = .ok (.ifCond .ne 6, 3) := by decide +kernel
theorem dX9_mean_9 : decode cX9_mean 9 = .ok (.bipush (-2), 2) := by decide +kernel
theorem dX9_mean_11 : decode cX9_mean 11 = .ok (.ireturn, 1) := by decide +kernel
theorem dX9_mean_12 : decode cX9_mean 12 = .ok (.aload_n 0, 1) := by decide +kernel
theorem dX9_mean_13 : decode cX9_mean 13 = .ok (.invokevirtual 179, 3) := by decide +kernel
theorem dX9_mean_16 : decode cX9_mean 16 = .ok (.iconst 0, 1) := by decide +kernel
theorem dX9_mean_17 : decode cX9_mean 17 = .ok (.istore_n 2, 1) := by decide +kernel
theorem dX9_mean_18 : decode cX9_mean 18 = .ok (.iconst 0, 1) := by decide +kernel
theorem dX9_mean_19 : decode cX9_mean 19 = .ok (.istore_n 3, 1) := by decide +kernel
theorem dX9_mean_20 : decode cX9_mean 20 = .ok (.iload_n 3, 1) := by decide +kernel
theorem dX9_mean_21 : decode cX9_mean 21 = .ok (.aload_n 0, 1) := by decide +kernel
theorem dX9_mean_22 : decode cX9_mean 22 = .ok (.getfield 121, 3) := by decide +kernel
theorem dX9_mean_25 : decode cX9_mean 25 = .ok (.if_icmp .ge 37, 3) := by decide +kernel
theorem dX9_mean_28 : decode cX9_mean 28 = .ok (.iload_n 2, 1) := by decide +kernel
theorem dX9_mean_29 : decode cX9_mean 29 = .ok (.iload_n 1, 1) := by decide +kernel
theorem dX9_mean_30 : decode cX9_mean 30 = .ok (.ifCond .ne 15, 3) := by decide +kernel
theorem dX9_mean_33 : decode cX9_mean 33 = .ok (.aload_n 0, 1) := by decide +kernel
theorem dX9_mean_34 : decode cX9_mean 34 = .ok (.getfield 37, 3) := by decide +kernel
theorem dX9_mean_37 : decode cX9_mean 37 = .ok (.iload_n 3, 1) := by decide +kernel
theorem dX9_mean_38 : decode cX9_mean 38 = .ok (.iaload, 1) := by decide +kernel
theorem dX9_mean_39 : decode cX9_mean 39 = .ok (.bipush 41, 2) := by decide +kernel
theorem dX9_mean_41 : decode cX9_mean 41 = .ok (.irem, 1) := by decide +kernel
theorem dX9_mean_42 : decode cX9_mean 42 = .ok (.goto 12, 3) := by decide +kernel
theorem dX9_mean_45 : decode cX9_mean 45 = .ok (.aload_n 0, 1) := by decide +kernel
theorem dX9_mean_46 : decode cX9_mean 46 = .ok (.getfield 37, 3) := by decide +kernel
theorem dX9_mean_49 : decode cX9_mean 49 = .ok (.iload_n 3, 1) := by decide +kernel
theorem dX9_mean_50 : decode cX9_mean 50 = .ok (.iaload, 1) := by decide +kernel
theorem dX9_mean_51 : decode cX9_mean 51 = .ok (.bipush 41, 2) := by decide +kernel
theorem dX9_mean_53 : decode cX9_mean 53 = .ok (.idiv, 1) := by decide +kernel
theorem dX9_mean_54 : decode cX9_mean 54 = .ok (.iadd, 1) := by decide +kernel
theorem dX9_mean_55 : decode cX9_mean 55 = .ok (.istore_n 2, 1) := by decide +kernel
theorem dX9_mean_56 : decode cX9_mean 56 = .ok (.iinc 3 1, 3) := by decide +kernel
theorem dX9_mean_59 : decode cX9_mean 59 = .ok (.goto (-39), 3) := by decide +kernel
theorem dX9_mean_62 : decode cX9_mean 62 = .ok (.aload_n 0, 1) := by decide +kernel
theorem dX9_mean_63 : decode cX9_mean 63 = .ok (.getfield 121, 3) := by decide +kernel
theorem dX9_mean_66 : decode cX9_mean 66 = .ok (.ifCond .ne 8, 3) := by decide +kernel
theorem dX9_mean_69 : decode cX9_mean 69 = .ok (.bipush (-6), 2) := by decide +kernel
theorem dX9_mean_71 : decode cX9_mean 71 = .ok (.goto 12, 3) := by decide +kernel
theorem dX9_mean_74 : decode cX9_mean 74 = .ok (.bipush 100, 2) := by decide +kernel
theorem dX9_mean_76 : decode cX9_mean 76 = .ok (.iload_n 2, 1) := by decide +kernel
theorem dX9_mean_77 : decode cX9_mean 77 = .ok (.imul, 1) := by decide +kernel
theorem dX9_mean_78 : decode cX9_mean 78 = .ok (.aload_n 0, 1) := by decide +kernel
theorem dX9_mean_79 : decode cX9_mean 79 = .ok (.getfield 121, 3) := by decide +kernel
theorem dX9_mean_82 : decode cX9_mean 82 = .ok (.idiv, 1) := by decide +kernel
theorem dX9_mean_83 : decode cX9_mean 83 = .ok (.ireturn, 1) := by decide +kernel
theorem dX9_ifHeat_0 : decode cX9_ifHeat 0 = .ok (.iload_n 1, 1) := by decide +kernel
theorem dX9_ifHeat_1 : decode cX9_ifHeat 1 = .ok (.bipush (-30), 2) := by decide +kernel
theorem dX9_ifHeat_3 : decode cX9_ifHeat 3 = .ok (.bipush 50, 2) := by decide +kernel
theorem dX9_ifHeat_5 : decode cX9_ifHeat 5 = .ok (.invokestatic 70, 3) := by decide +kernel
theorem dX9_ifHeat_8 : decode cX9_ifHeat 8 = .ok (.ifCond .eq 12, 3) := by decide +kernel
theorem dX9_ifHeat_11 : decode cX9_ifHeat 11 = .ok (.iload_n 2, 1) := by decide +kernel
theorem dX9_ifHeat_12 : decode cX9_ifHeat 12 = .ok (.iconst 0, 1) := by decide +kernel
theorem dX9_ifHeat_13 : decode cX9_ifHeat 13 = .ok (.iconst 2, 1) := by decide +kernel
theorem dX9_ifHeat_14 : decode cX9_ifHeat 14 = .ok (.invokestatic 70, 3) := by decide +kernel
theorem dX9_ifHeat_17 : decode cX9_ifHeat 17 = .ok (.ifCond .ne 6, 3) := by decide +kernel
theorem dX9_ifHeat_20 : decode cX9_ifHeat 20 = .ok (.bipush (-2), 2) := by decide +kernel
theorem dX9_ifHeat_22 : decode cX9_ifHeat 22 = .ok (.ireturn, 1) := by decide +kernel
theorem dX9_ifHeat_23 : decode cX9_ifHeat 23 = .ok (.aload_n 0, 1) := by decide +kernel
theorem dX9_ifHeat_24 : decode cX9_ifHeat 24 = .ok (.iload_n 1, 1) := by decide +kernel
theorem dX9_ifHeat_25 : decode cX9_ifHeat 25 = .ok (.invokevirtual 143, 3) := by decide +kernel
theorem dX9_ifHeat_28 : decode cX9_ifHeat 28 = .ok (.iload_n 2, 1) := by decide +kernel
theorem dX9_ifHeat_29 : decode cX9_ifHeat 29 = .ok (.ifCond .ne 10, 3) := by decide +kernel
theorem dX9_ifHeat_32 : decode cX9_ifHeat 32 = .ok (.aload_n 0, 1) := by decide +kernel
theorem dX9_ifHeat_33 : decode cX9_ifHeat 33 = .ok (.getfield 121, 3) := by decide +kernel
theorem dX9_ifHeat_36 : decode cX9_ifHeat 36 = .ok (.goto 19, 3) := by decide +kernel
theorem dX9_ifHeat_39 : decode cX9_ifHeat 39 = .ok (.iload_n 2, 1) := by decide +kernel
theorem dX9_ifHeat_40 : decode cX9_ifHeat 40 = .ok (.iconst 1, 1) := by decide +kernel
theorem dX9_ifHeat_41 : decode cX9_ifHeat 41 = .ok (.if_icmp .ne 10, 3) := by decide +kernel
theorem dX9_ifHeat_44 : decode cX9_ifHeat 44 = .ok (.aload_n 0, 1) := by decide +kernel
theorem dX9_ifHeat_45 : decode cX9_ifHeat 45 = .ok (.invokevirtual 185, 3) := by decide +kernel
theorem dX9_ifHeat_48 : decode cX9_ifHeat 48 = .ok (.goto 7, 3) := by decide +kernel
theorem dX9_ifHeat_51 : decode cX9_ifHeat 51 = .ok (.aload_n 0, 1) := by decide +kernel
theorem dX9_ifHeat_52 : decode cX9_ifHeat 52 = .ok (.invokevirtual 192, 3) := by decide +kernel
theorem dX9_ifHeat_55 : decode cX9_ifHeat 55 = .ok (.ireturn, 1) := by decide +kernel
theorem dX9_bestHeat_0 : decode cX9_bestHeat 0 = .ok (.bipush (-6), 2) := by decide +kernel
theorem dX9_bestHeat_2 : decode cX9_bestHeat 2 = .ok (.istore_n 1, 1) := by decide +kernel
theorem dX9_bestHeat_3 : decode cX9_bestHeat 3 = .ok (.iconst 0, 1) := by decide +kernel
theorem dX9_bestHeat_4 : decode cX9_bestHeat 4 = .ok (.istore_n 2, 1) := by decide +kernel
theorem dX9_bestHeat_5 : decode cX9_bestHeat 5 = .ok (.iconst 0, 1) := by decide +kernel
theorem dX9_bestHeat_6 : decode cX9_bestHeat 6 = .ok (.istore_n 3, 1) := by decide +kernel
theorem dX9_bestHeat_7 : decode cX9_bestHeat 7 = .ok (.bipush (-30), 2) := by decide +kernel
theorem dX9_bestHeat_9 : decode cX9_bestHeat 9 = .ok (.istore 4, 2) := by decide +kernel
theorem dX9_bestHeat_11 : decode cX9_bestHeat 11 = .ok (.iload 4, 2) := by decide +kernel
theorem dX9_bestHeat_13 : decode cX9_bestHeat 13 = .ok (.bipush 50, 2) := by decide +kernel
theorem dX9_bestHeat_15 : decode cX9_bestHeat 15 = .ok (.if_icmp .gt 95, 3) := by decide +kernel
theorem dX9_bestHeat_18 : decode cX9_bestHeat 18 = .ok (.aload_n 0, 1) := by decide +kernel
theorem dX9_bestHeat_19 : decode cX9_bestHeat 19 = .ok (.iload 4, 2) := by decide +kernel
theorem dX9_bestHeat_21 : decode cX9_bestHeat 21 = .ok (.invokevirtual 143, 3) := by decide +kernel
theorem dX9_bestHeat_24 : decode cX9_bestHeat 24 = .ok (.iload_n 1, 1) := by decide +kernel
theorem dX9_bestHeat_25 : decode cX9_bestHeat 25 = .ok (.bipush (-6), 2) := by decide +kernel
theorem dX9_bestHeat_27 : decode cX9_bestHeat 27 = .ok (.if_icmp .eq 27, 3) := by decide +kernel
theorem dX9_bestHeat_30 : decode cX9_bestHeat 30 = .ok (.aload_n 0, 1) := by decide +kernel
theorem dX9_bestHeat_31 : decode cX9_bestHeat 31 = .ok (.getfield 121, 3) := by decide +kernel
theorem dX9_bestHeat_34 : decode cX9_bestHeat 34 = .ok (.iload_n 2, 1) := by decide +kernel
theorem dX9_bestHeat_35 : decode cX9_bestHeat 35 = .ok (.if_icmp .gt 19, 3) := by decide +kernel
theorem dX9_bestHeat_38 : decode cX9_bestHeat 38 = .ok (.aload_n 0, 1) := by decide +kernel
theorem dX9_bestHeat_39 : decode cX9_bestHeat 39 = .ok (.getfield 121, 3) := by decide +kernel
theorem dX9_bestHeat_42 : decode cX9_bestHeat 42 = .ok (.iload_n 2, 1) := by decide +kernel
theorem dX9_bestHeat_43 : decode cX9_bestHeat 43 = .ok (.if_icmp .ne 15, 3) := by decide +kernel
theorem dX9_bestHeat_46 : decode cX9_bestHeat 46 = .ok (.aload_n 0, 1) := by decide +kernel
theorem dX9_bestHeat_47 : decode cX9_bestHeat 47 = .ok (.invokevirtual 192, 3) := by decide +kernel
theorem dX9_bestHeat_50 : decode cX9_bestHeat 50 = .ok (.iload_n 3, 1) := by decide +kernel
theorem dX9_bestHeat_51 : decode cX9_bestHeat 51 = .ok (.if_icmp .ge 7, 3) := by decide +kernel
theorem dX9_bestHeat_54 : decode cX9_bestHeat 54 = .ok (.iconst 1, 1) := by decide +kernel
theorem dX9_bestHeat_55 : decode cX9_bestHeat 55 = .ok (.goto 4, 3) := by decide +kernel
theorem dX9_bestHeat_58 : decode cX9_bestHeat 58 = .ok (.iconst 0, 1) := by decide +kernel
theorem dX9_bestHeat_59 : decode cX9_bestHeat 59 = .ok (.istore 5, 2) := by decide +kernel
theorem dX9_bestHeat_61 : decode cX9_bestHeat 61 = .ok (.iload 5, 2) := by decide +kernel
theorem dX9_bestHeat_63 : decode cX9_bestHeat 63 = .ok (.ifCond .eq 11, 3) := by decide +kernel
theorem dX9_bestHeat_66 : decode cX9_bestHeat 66 = .ok (.iload 4, 2) := by decide +kernel
theorem dX9_bestHeat_68 : decode cX9_bestHeat 68 = .ok (.bipush 100, 2) := by decide +kernel
theorem dX9_bestHeat_70 : decode cX9_bestHeat 70 = .ok (.iadd, 1) := by decide +kernel
theorem dX9_bestHeat_71 : decode cX9_bestHeat 71 = .ok (.goto 4, 3) := by decide +kernel
theorem dX9_bestHeat_74 : decode cX9_bestHeat 74 = .ok (.iload_n 1, 1) := by decide +kernel
theorem dX9_bestHeat_75 : decode cX9_bestHeat 75 = .ok (.istore_n 1, 1) := by decide +kernel
theorem dX9_bestHeat_76 : decode cX9_bestHeat 76 = .ok (.iload 5, 2) := by decide +kernel
theorem dX9_bestHeat_78 : decode cX9_bestHeat 78 = .ok (.ifCond .eq 10, 3) := by decide +kernel
theorem dX9_bestHeat_81 : decode cX9_bestHeat 81 = .ok (.aload_n 0, 1) := by decide +kernel
theorem dX9_bestHeat_82 : decode cX9_bestHeat 82 = .ok (.getfield 121, 3) := by decide +kernel
theorem dX9_bestHeat_85 : decode cX9_bestHeat 85 = .ok (.goto 4, 3) := by decide +kernel
theorem dX9_bestHeat_88 : decode cX9_bestHeat 88 = .ok (.iload_n 2, 1) := by decide +kernel
theorem dX9_bestHeat_89 : decode cX9_bestHeat 89 = .ok (.istore_n 2, 1) := by decide +kernel
theorem dX9_bestHeat_90 : decode cX9_bestHeat 90 = .ok (.iload 5, 2) := by decide +kernel
theorem dX9_bestHeat_92 : decode cX9_bestHeat 92 = .ok (.ifCond .eq 10, 3) := by decide +kernel
theorem dX9_bestHeat_95 : decode cX9_bestHeat 95 = .ok (.aload_n 0, 1) := by decide +kernel
theorem dX9_bestHeat_96 : decode cX9_bestHeat 96 = .ok (.invokevirtual 192, 3) := by decide +kernel
theorem dX9_bestHeat_99 : decode cX9_bestHeat 99 = .ok (.goto 4, 3) := by decide +kernel
theorem dX9_bestHeat_102 : decode cX9_bestHeat 102 = .ok (.iload_n 3, 1) := by decide +kernel
theorem dX9_bestHeat_103 : decode cX9_bestHeat 103 = .ok (.istore_n 3, 1) := by decide +kernel
theorem dX9_bestHeat_104 : decode cX9_bestHeat 104 = .ok (.iinc 4 10, 3) := by decide +kernel
theorem dX9_bestHeat_107 : decode cX9_bestHeat 107 = .ok (.goto (-96), 3) := by decide +kernel
theorem dX9_bestHeat_110 : decode cX9_bestHeat 110 = .ok (.iload_n 1, 1) := by decide +kernel
theorem dX9_bestHeat_111 : decode cX9_bestHeat 111 = .ok (.ireturn, 1) := by decide +kernel
theorem dX9_ifForgot_0 : decode cX9_ifForgot 0 = .ok (.aload_n 0, 1) := by decide +kernel
theorem dX9_ifForgot_1 : decode cX9_ifForgot 1 = .ok (.iload_n 1, 1) := by decide +kernel
theorem dX9_ifForgot_2 : decode cX9_ifForgot 2 = .ok (.invokevirtual 173, 3) := by decide +kernel
theorem dX9_ifForgot_5 : decode cX9_ifForgot 5 = .ok (.ifCond .ne 5, 3) := by decide +kernel
theorem dX9_ifForgot_8 : decode cX9_ifForgot 8 = .ok (.iconst (-1), 1) := by decide +kernel
theorem dX9_ifForgot_9 : decode cX9_ifForgot 9 = .ok (.ireturn, 1) := by decide +kernel
theorem dX9_ifForgot_10 : decode cX9_ifForgot 10 = .ok (.aload_n 0, 1) := by decide +kernel
theorem dX9_ifForgot_11 : decode cX9_ifForgot 11 = .ok (.getfield 7, 3) := by decide +kernel
theorem dX9_ifForgot_14 : decode cX9_ifForgot 14 = .ok (.iconst 0, 1) := by decide +kernel
theorem dX9_ifForgot_15 : decode cX9_ifForgot 15 = .ok (.aload_n 0, 1) := by decide +kernel
theorem dX9_ifForgot_16 : decode cX9_ifForgot 16 = .ok (.getfield 13, 3) := by decide +kernel
theorem dX9_ifForgot_19 : decode cX9_ifForgot 19 = .ok (.iconst 0, 1) := by decide +kernel
theorem dX9_ifForgot_20 : decode cX9_ifForgot 20 = .ok (.invokestatic 66, 3) := by decide +kernel
theorem dX9_ifForgot_23 : decode cX9_ifForgot 23 = .ok (.aload_n 0, 1) := by decide +kernel
theorem dX9_ifForgot_24 : decode cX9_ifForgot 24 = .ok (.iload_n 1, 1) := by decide +kernel
theorem dX9_ifForgot_25 : decode cX9_ifForgot 25 = .ok (.invokevirtual 176, 3) := by decide +kernel
theorem dX9_ifForgot_28 : decode cX9_ifForgot 28 = .ok (.aload_n 0, 1) := by decide +kernel
theorem dX9_ifForgot_29 : decode cX9_ifForgot 29 = .ok (.invokevirtual 179, 3) := by decide +kernel
theorem dX9_ifForgot_32 : decode cX9_ifForgot 32 = .ok (.aload_n 0, 1) := by decide +kernel
theorem dX9_ifForgot_33 : decode cX9_ifForgot 33 = .ok (.getfield 13, 3) := by decide +kernel
theorem dX9_ifForgot_36 : decode cX9_ifForgot 36 = .ok (.iconst 0, 1) := by decide +kernel
theorem dX9_ifForgot_37 : decode cX9_ifForgot 37 = .ok (.aload_n 0, 1) := by decide +kernel
theorem dX9_ifForgot_38 : decode cX9_ifForgot 38 = .ok (.getfield 7, 3) := by decide +kernel
theorem dX9_ifForgot_41 : decode cX9_ifForgot 41 = .ok (.iconst 0, 1) := by decide +kernel
theorem dX9_ifForgot_42 : decode cX9_ifForgot 42 = .ok (.invokestatic 66, 3) := by decide +kernel
theorem dX9_ifForgot_45 : decode cX9_ifForgot 45 = .ok (.aload_n 0, 1) := by decide +kernel
theorem dX9_ifForgot_46 : decode cX9_ifForgot 46 = .ok (.getfield 121, 3) := by decide +kernel
theorem dX9_ifForgot_49 : decode cX9_ifForgot 49 = .ok (.ireturn, 1) := by decide +kernel
theorem dX9_put_0 : decode cX9_put 0 = .ok (.iconst 0, 1) := by decide +kernel
theorem dX9_put_1 : decode cX9_put 1 = .ok (.istore_n 3, 1) := by decide +kernel
theorem dX9_put_2 : decode cX9_put 2 = .ok (.lload_n 1, 1) := by decide +kernel
theorem dX9_put_3 : decode cX9_put 3 = .ok (.lstore 4, 2) := by decide +kernel
theorem dX9_put_5 : decode cX9_put 5 = .ok (.iconst 1, 1) := by decide +kernel
theorem dX9_put_6 : decode cX9_put 6 = .ok (.istore 6, 2) := by decide +kernel
theorem dX9_put_8 : decode cX9_put 8 = .ok (.iload_n 3, 1) := by decide +kernel
theorem dX9_put_9 : decode cX9_put 9 = .ok (.bipush 8, 2) := by decide +kernel
theorem dX9_put_11 : decode cX9_put 11 = .ok (.if_icmp .ge 56, 3) := by decide +kernel
theorem dX9_put_14 : decode cX9_put 14 = .ok (.lload 4, 2) := by decide +kernel
theorem dX9_put_16 : decode cX9_put 16 = .ok (.ldc2_w 201, 3) := by decide +kernel
theorem dX9_put_19 : decode cX9_put 19 = .ok (.land, 1) := by decide +kernel
theorem dX9_put_20 : decode cX9_put 20 = .ok (.lconst 0, 1) := by decide +kernel
theorem dX9_put_21 : decode cX9_put 21 = .ok (.lcmp, 1) := by decide +kernel
theorem dX9_put_22 : decode cX9_put 22 = .ok (.ifCond .eq 45, 3) := by decide +kernel
theorem dX9_put_25 : decode cX9_put 25 = .ok (.iload 6, 2) := by decide +kernel
theorem dX9_put_27 : decode cX9_put 27 = .ok (.ifCond .eq 24, 3) := by decide +kernel
theorem dX9_put_30 : decode cX9_put 30 = .ok (.lload 4, 2) := by decide +kernel
theorem dX9_put_32 : decode cX9_put 32 = .ok (.ldc2_w 201, 3) := by decide +kernel
theorem dX9_put_35 : decode cX9_put 35 = .ok (.land, 1) := by decide +kernel
theorem dX9_put_36 : decode cX9_put 36 = .ok (.l2i, 1) := by decide +kernel
theorem dX9_put_37 : decode cX9_put 37 = .ok (.bipush 33, 2) := by decide +kernel
theorem dX9_put_39 : decode cX9_put 39 = .ok (.bipush 126, 2) := by decide +kernel
theorem dX9_put_41 : decode cX9_put 41 = .ok (.invokestatic 70, 3) := by decide +kernel
theorem dX9_put_44 : decode cX9_put 44 = .ok (.ifCond .eq 7, 3) := by decide +kernel
theorem dX9_put_47 : decode cX9_put 47 = .ok (.iconst 1, 1) := by decide +kernel
theorem dX9_put_48 : decode cX9_put 48 = .ok (.goto 4, 3) := by decide +kernel
theorem dX9_put_51 : decode cX9_put 51 = .ok (.iconst 0, 1) := by decide +kernel
theorem dX9_put_52 : decode cX9_put 52 = .ok (.istore 6, 2) := by decide +kernel
theorem dX9_put_54 : decode cX9_put 54 = .ok (.lload 4, 2) := by decide +kernel
theorem dX9_put_56 : decode cX9_put 56 = .ok (.bipush 8, 2) := by decide +kernel
theorem dX9_put_58 : decode cX9_put 58 = .ok (.lushr, 1) := by decide +kernel
theorem dX9_put_59 : decode cX9_put 59 = .ok (.lstore 4, 2) := by decide +kernel
theorem dX9_put_61 : decode cX9_put 61 = .ok (.iinc 3 1, 3) := by decide +kernel
theorem dX9_put_64 : decode cX9_put 64 = .ok (.goto (-56), 3) := by decide +kernel
theorem dX9_put_67 : decode cX9_put 67 = .ok (.iload_n 3, 1) := by decide +kernel
theorem dX9_put_68 : decode cX9_put 68 = .ok (.ifCond .eq 15, 3) := by decide +kernel
theorem dX9_put_71 : decode cX9_put 71 = .ok (.iload 6, 2) := by decide +kernel
theorem dX9_put_73 : decode cX9_put 73 = .ok (.ifCond .eq 10, 3) := by decide +kernel
theorem dX9_put_76 : decode cX9_put 76 = .ok (.lload 4, 2) := by decide +kernel
theorem dX9_put_78 : decode cX9_put 78 = .ok (.lconst 0, 1) := by decide +kernel
theorem dX9_put_79 : decode cX9_put 79 = .ok (.lcmp, 1) := by decide +kernel
theorem dX9_put_80 : decode cX9_put 80 = .ok (.ifCond .eq 6, 3) := by decide +kernel
theorem dX9_put_83 : decode cX9_put 83 = .ok (.bipush (-2), 2) := by decide +kernel
theorem dX9_put_85 : decode cX9_put 85 = .ok (.ireturn, 1) := by decide +kernel
theorem dX9_put_86 : decode cX9_put 86 = .ok (.aload_n 0, 1) := by decide +kernel
theorem dX9_put_87 : decode cX9_put 87 = .ok (.getfield 198, 3) := by decide +kernel
theorem dX9_put_90 : decode cX9_put 90 = .ok (.iload_n 3, 1) := by decide +kernel
theorem dX9_put_91 : decode cX9_put 91 = .ok (.iadd, 1) := by decide +kernel
theorem dX9_put_92 : decode cX9_put 92 = .ok (.bipush 80, 2) := by decide +kernel
theorem dX9_put_94 : decode cX9_put 94 = .ok (.if_icmp .le 6, 3) := by decide +kernel
theorem dX9_put_97 : decode cX9_put 97 = .ok (.bipush (-4), 2) := by decide +kernel
theorem dX9_put_99 : decode cX9_put 99 = .ok (.ireturn, 1) := by decide +kernel
theorem dX9_put_100 : decode cX9_put 100 = .ok (.iload_n 3, 1) := by decide +kernel
theorem dX9_put_101 : decode cX9_put 101 = .ok (.iconst 1, 1) := by decide +kernel
theorem dX9_put_102 : decode cX9_put 102 = .ok (.isub, 1) := by decide +kernel
theorem dX9_put_103 : decode cX9_put 103 = .ok (.istore 7, 2) := by decide +kernel
theorem dX9_put_105 : decode cX9_put 105 = .ok (.iload 7, 2) := by decide +kernel
theorem dX9_put_107 : decode cX9_put 107 = .ok (.ifCond .lt 40, 3) := by decide +kernel
theorem dX9_put_110 : decode cX9_put 110 = .ok (.aload_n 0, 1) := by decide +kernel
theorem dX9_put_111 : decode cX9_put 111 = .ok (.getfield 25, 3) := by decide +kernel
theorem dX9_put_114 : decode cX9_put 114 = .ok (.aload_n 0, 1) := by decide +kernel
theorem dX9_put_115 : decode cX9_put 115 = .ok (.getfield 198, 3) := by decide +kernel
theorem dX9_put_118 : decode cX9_put 118 = .ok (.lload_n 1, 1) := by decide +kernel
theorem dX9_put_119 : decode cX9_put 119 = .ok (.bipush 8, 2) := by decide +kernel
theorem dX9_put_121 : decode cX9_put 121 = .ok (.iload 7, 2) := by decide +kernel
theorem dX9_put_123 : decode cX9_put 123 = .ok (.imul, 1) := by decide +kernel
theorem dX9_put_124 : decode cX9_put 124 = .ok (.lushr, 1) := by decide +kernel
theorem dX9_put_125 : decode cX9_put 125 = .ok (.ldc2_w 201, 3) := by decide +kernel
theorem dX9_put_128 : decode cX9_put 128 = .ok (.land, 1) := by decide +kernel
theorem dX9_put_129 : decode cX9_put 129 = .ok (.l2i, 1) := by decide +kernel
theorem dX9_put_130 : decode cX9_put 130 = .ok (.iastore, 1) := by decide +kernel
theorem dX9_put_131 : decode cX9_put 131 = .ok (.aload_n 0, 1) := by decide +kernel
theorem dX9_put_132 : decode cX9_put 132 = .ok (.dup, 1) := by decide +kernel
theorem dX9_put_133 : decode cX9_put 133 = .ok (.getfield 198, 3) := by decide +kernel
theorem dX9_put_136 : decode cX9_put 136 = .ok (.iconst 1, 1) := by decide +kernel
theorem dX9_put_137 : decode cX9_put 137 = .ok (.iadd, 1) := by decide +kernel
theorem dX9_put_138 : decode cX9_put 138 = .ok (.putfield 198, 3) := by decide +kernel
theorem dX9_put_141 : decode cX9_put 141 = .ok (.iinc 7 (-1), 3) := by decide +kernel
theorem dX9_put_144 : decode cX9_put 144 = .ok (.goto (-39), 3) := by decide +kernel
theorem dX9_put_147 : decode cX9_put 147 = .ok (.aload_n 0, 1) := by decide +kernel
theorem dX9_put_148 : decode cX9_put 148 = .ok (.getfield 198, 3) := by decide +kernel
theorem dX9_put_151 : decode cX9_put 151 = .ok (.ireturn, 1) := by decide +kernel
theorem dX9_wipe_0 : decode cX9_wipe 0 = .ok (.aload_n 0, 1) := by decide +kernel
theorem dX9_wipe_1 : decode cX9_wipe 1 = .ok (.getfield 198, 3) := by decide +kernel
theorem dX9_wipe_4 : decode cX9_wipe 4 = .ok (.istore_n 1, 1) := by decide +kernel
theorem dX9_wipe_5 : decode cX9_wipe 5 = .ok (.aload_n 0, 1) := by decide +kernel
theorem dX9_wipe_6 : decode cX9_wipe 6 = .ok (.iconst 0, 1) := by decide +kernel
theorem dX9_wipe_7 : decode cX9_wipe 7 = .ok (.putfield 198, 3) := by decide +kernel
theorem dX9_wipe_10 : decode cX9_wipe 10 = .ok (.iload_n 1, 1) := by decide +kernel
theorem dX9_wipe_11 : decode cX9_wipe 11 = .ok (.ireturn, 1) := by decide +kernel
theorem dX9_character_0 : decode cX9_character 0 = .ok (.iload_n 1, 1) := by decide +kernel
theorem dX9_character_1 : decode cX9_character 1 = .ok (.aload_n 0, 1) := by decide +kernel
theorem dX9_character_2 : decode cX9_character 2 = .ok (.getfield 198, 3) := by decide +kernel
theorem dX9_character_5 : decode cX9_character 5 = .ok (.if_icmp .ge 12, 3) := by decide +kernel
theorem dX9_character_8 : decode cX9_character 8 = .ok (.aload_n 0, 1) := by decide +kernel
theorem dX9_character_9 : decode cX9_character 9 = .ok (.getfield 25, 3) := by decide +kernel
theorem dX9_character_12 : decode cX9_character 12 = .ok (.iload_n 1, 1) := by decide +kernel
theorem dX9_character_13 : decode cX9_character 13 = .ok (.iaload, 1) := by decide +kernel
theorem dX9_character_14 : decode cX9_character 14 = .ok (.goto 4, 3) := by decide +kernel
theorem dX9_character_17 : decode cX9_character 17 = .ok (.iconst (-1), 1) := by decide +kernel
theorem dX9_character_18 : decode cX9_character 18 = .ok (.ireturn, 1) := by decide +kernel
theorem dX9_isNext_0 : decode cX9_isNext 0 = .ok (.aload_n 0, 1) := by decide +kernel
theorem dX9_isNext_1 : decode cX9_isNext 1 = .ok (.aload_n 0, 1) := by decide +kernel
theorem dX9_isNext_2 : decode cX9_isNext 2 = .ok (.getfield 203, 3) := by decide +kernel
theorem dX9_isNext_5 : decode cX9_isNext 5 = .ok (.invokevirtual 206, 3) := by decide +kernel
theorem dX9_isNext_8 : decode cX9_isNext 8 = .ok (.iload_n 1, 1) := by decide +kernel
theorem dX9_isNext_9 : decode cX9_isNext 9 = .ok (.if_icmp .ne 7, 3) := by decide +kernel
theorem dX9_isNext_12 : decode cX9_isNext 12 = .ok (.iconst 1, 1) := by decide +kernel
theorem dX9_isNext_13 : decode cX9_isNext 13 = .ok (.goto 4, 3) := by decide +kernel
theorem dX9_isNext_16 : decode cX9_isNext 16 = .ok (.iconst 0, 1) := by decide +kernel
theorem dX9_isNext_17 : decode cX9_isNext 17 = .ok (.istore_n 2, 1) := by decide +kernel
theorem dX9_isNext_18 : decode cX9_isNext 18 = .ok (.aload_n 0, 1) := by decide +kernel
theorem dX9_isNext_19 : decode cX9_isNext 19 = .ok (.dup, 1) := by decide +kernel
theorem dX9_isNext_20 : decode cX9_isNext 20 = .ok (.getfield 203, 3) := by decide +kernel
theorem dX9_isNext_23 : decode cX9_isNext 23 = .ok (.iload_n 2, 1) := by decide +kernel
theorem dX9_isNext_24 : decode cX9_isNext 24 = .ok (.ifCond .eq 7, 3) := by decide +kernel
theorem dX9_isNext_27 : decode cX9_isNext 27 = .ok (.iconst 1, 1) := by decide +kernel
theorem dX9_isNext_28 : decode cX9_isNext 28 = .ok (.goto 4, 3) := by decide +kernel
theorem dX9_isNext_31 : decode cX9_isNext 31 = .ok (.iconst 0, 1) := by decide +kernel
theorem dX9_isNext_32 : decode cX9_isNext 32 = .ok (.iadd, 1) := by decide +kernel
theorem dX9_isNext_33 : decode cX9_isNext 33 = .ok (.putfield 203, 3) := by decide +kernel
theorem dX9_isNext_36 : decode cX9_isNext 36 = .ok (.iload_n 2, 1) := by decide +kernel
theorem dX9_isNext_37 : decode cX9_isNext 37 = .ok (.ireturn, 1) := by decide +kernel
theorem dX9_takeDigit_0 : decode cX9_takeDigit 0 = .ok (.aload_n 0, 1) := by decide +kernel
theorem dX9_takeDigit_1 : decode cX9_takeDigit 1 = .ok (.aload_n 0, 1) := by decide +kernel
theorem dX9_takeDigit_2 : decode cX9_takeDigit 2 = .ok (.getfield 203, 3) := by decide +kernel
theorem dX9_takeDigit_5 : decode cX9_takeDigit 5 = .ok (.invokevirtual 206, 3) := by decide +kernel
theorem dX9_takeDigit_8 : decode cX9_takeDigit 8 = .ok (.bipush 48, 2) := by decide +kernel
theorem dX9_takeDigit_10 : decode cX9_takeDigit 10 = .ok (.isub, 1) := by decide +kernel
theorem dX9_takeDigit_11 : decode cX9_takeDigit 11 = .ok (.istore_n 2, 1) := by decide +kernel
theorem dX9_takeDigit_12 : decode cX9_takeDigit 12 = .ok (.iload_n 2, 1) := by decide +kernel
theorem dX9_takeDigit_13 : decode cX9_takeDigit 13 = .ok (.iconst 0, 1) := by decide +kernel
theorem dX9_takeDigit_14 : decode cX9_takeDigit 14 = .ok (.iload_n 1, 1) := by decide +kernel
theorem dX9_takeDigit_15 : decode cX9_takeDigit 15 = .ok (.invokestatic 70, 3) := by decide +kernel
theorem dX9_takeDigit_18 : decode cX9_takeDigit 18 = .ok (.ifCond .ne 5, 3) := by decide +kernel
theorem dX9_takeDigit_21 : decode cX9_takeDigit 21 = .ok (.iconst (-1), 1) := by decide +kernel
theorem dX9_takeDigit_22 : decode cX9_takeDigit 22 = .ok (.ireturn, 1) := by decide +kernel
theorem dX9_takeDigit_23 : decode cX9_takeDigit 23 = .ok (.aload_n 0, 1) := by decide +kernel
theorem dX9_takeDigit_24 : decode cX9_takeDigit 24 = .ok (.dup, 1) := by decide +kernel
theorem dX9_takeDigit_25 : decode cX9_takeDigit 25 = .ok (.getfield 203, 3) := by decide +kernel
theorem dX9_takeDigit_28 : decode cX9_takeDigit 28 = .ok (.iconst 1, 1) := by decide +kernel
theorem dX9_takeDigit_29 : decode cX9_takeDigit 29 = .ok (.iadd, 1) := by decide +kernel
theorem dX9_takeDigit_30 : decode cX9_takeDigit 30 = .ok (.putfield 203, 3) := by decide +kernel
theorem dX9_takeDigit_33 : decode cX9_takeDigit 33 = .ok (.iload_n 2, 1) := by decide +kernel
theorem dX9_takeDigit_34 : decode cX9_takeDigit 34 = .ok (.ireturn, 1) := by decide +kernel
theorem dX9_takeNumber_0 : decode cX9_takeNumber 0 = .ok (.aload_n 0, 1) := by decide +kernel
theorem dX9_takeNumber_1 : decode cX9_takeNumber 1 = .ok (.bipush 9, 2) := by decide +kernel
theorem dX9_takeNumber_3 : decode cX9_takeNumber 3 = .ok (.invokevirtual 209, 3) := by decide +kernel
theorem dX9_takeNumber_6 : decode cX9_takeNumber 6 = .ok (.istore_n 1, 1) := by decide +kernel
theorem dX9_takeNumber_7 : decode cX9_takeNumber 7 = .ok (.iload_n 1, 1) := by decide +kernel
theorem dX9_takeNumber_8 : decode cX9_takeNumber 8 = .ok (.ifCond .le 43, 3) := by decide +kernel
theorem dX9_takeNumber_11 : decode cX9_takeNumber 11 = .ok (.iload_n 1, 1) := by decide +kernel
theorem dX9_takeNumber_12 : decode cX9_takeNumber 12 = .ok (.sipush 10000, 3) := by decide +kernel
theorem dX9_takeNumber_15 : decode cX9_takeNumber 15 = .ok (.if_icmp .ge 36, 3) := by decide +kernel
theorem dX9_takeNumber_18 : decode cX9_takeNumber 18 = .ok (.aload_n 0, 1) := by decide +kernel
theorem dX9_takeNumber_19 : decode cX9_takeNumber 19 = .ok (.aload_n 0, 1) := by decide +kernel
theorem dX9_takeNumber_20 : decode cX9_takeNumber 20 = .ok (.getfield 203, 3) := by decide +kernel
theorem dX9_takeNumber_23 : decode cX9_takeNumber 23 = .ok (.invokevirtual 206, 3) := by decide +kernel
theorem dX9_takeNumber_26 : decode cX9_takeNumber 26 = .ok (.bipush 48, 2) := by decide +kernel
theorem dX9_takeNumber_28 : decode cX9_takeNumber 28 = .ok (.bipush 57, 2) := by decide +kernel
theorem dX9_takeNumber_30 : decode cX9_takeNumber 30 = .ok (.invokestatic 70, 3) := by decide +kernel
theorem dX9_takeNumber_33 : decode cX9_takeNumber 33 = .ok (.ifCond .eq 18, 3) := by decide +kernel
theorem dX9_takeNumber_36 : decode cX9_takeNumber 36 = .ok (.bipush 10, 2) := by decide +kernel
theorem dX9_takeNumber_38 : decode cX9_takeNumber 38 = .ok (.iload_n 1, 1) := by decide +kernel
theorem dX9_takeNumber_39 : decode cX9_takeNumber 39 = .ok (.imul, 1) := by decide +kernel
theorem dX9_takeNumber_40 : decode cX9_takeNumber 40 = .ok (.aload_n 0, 1) := by decide +kernel
theorem dX9_takeNumber_41 : decode cX9_takeNumber 41 = .ok (.bipush 9, 2) := by decide +kernel
theorem dX9_takeNumber_43 : decode cX9_takeNumber 43 = .ok (.invokevirtual 209, 3) := by decide +kernel
theorem dX9_takeNumber_46 : decode cX9_takeNumber 46 = .ok (.iadd, 1) := by decide +kernel
theorem dX9_takeNumber_47 : decode cX9_takeNumber 47 = .ok (.istore_n 1, 1) := by decide +kernel
theorem dX9_takeNumber_48 : decode cX9_takeNumber 48 = .ok (.goto (-41), 3) := by decide +kernel
theorem dX9_takeNumber_51 : decode cX9_takeNumber 51 = .ok (.iload_n 1, 1) := by decide +kernel
theorem dX9_takeNumber_52 : decode cX9_takeNumber 52 = .ok (.ireturn, 1) := by decide +kernel
theorem dX9_readsPulse_0 : decode cX9_readsPulse 0 = .ok (.aload_n 0, 1) := by decide +kernel
theorem dX9_readsPulse_1 : decode cX9_readsPulse 1 = .ok (.aload_n 0, 1) := by decide +kernel
theorem dX9_readsPulse_2 : decode cX9_readsPulse 2 = .ok (.iconst 3, 1) := by decide +kernel
theorem dX9_readsPulse_3 : decode cX9_readsPulse 3 = .ok (.invokevirtual 209, 3) := by decide +kernel
theorem dX9_readsPulse_6 : decode cX9_readsPulse 6 = .ok (.putfield 212, 3) := by decide +kernel
theorem dX9_readsPulse_9 : decode cX9_readsPulse 9 = .ok (.aload_n 0, 1) := by decide +kernel
theorem dX9_readsPulse_10 : decode cX9_readsPulse 10 = .ok (.aload_n 0, 1) := by decide +kernel
theorem dX9_readsPulse_11 : decode cX9_readsPulse 11 = .ok (.getfield 212, 3) := by decide +kernel
theorem dX9_readsPulse_14 : decode cX9_readsPulse 14 = .ok (.ifCond .lt 19, 3) := by decide +kernel
theorem dX9_readsPulse_17 : decode cX9_readsPulse 17 = .ok (.aload_n 0, 1) := by decide +kernel
theorem dX9_readsPulse_18 : decode cX9_readsPulse 18 = .ok (.bipush 58, 2) := by decide +kernel
theorem dX9_readsPulse_20 : decode cX9_readsPulse 20 = .ok (.invokevirtual 215, 3) := by decide +kernel
theorem dX9_readsPulse_23 : decode cX9_readsPulse 23 = .ok (.ifCond .eq 10, 3) := by decide +kernel
theorem dX9_readsPulse_26 : decode cX9_readsPulse 26 = .ok (.aload_n 0, 1) := by decide +kernel
theorem dX9_readsPulse_27 : decode cX9_readsPulse 27 = .ok (.invokevirtual 218, 3) := by decide +kernel
theorem dX9_readsPulse_30 : decode cX9_readsPulse 30 = .ok (.goto 4, 3) := by decide +kernel
theorem dX9_readsPulse_33 : decode cX9_readsPulse 33 = .ok (.iconst (-1), 1) := by decide +kernel
theorem dX9_readsPulse_34 : decode cX9_readsPulse 34 = .ok (.putfield 221, 3) := by decide +kernel
theorem dX9_readsPulse_37 : decode cX9_readsPulse 37 = .ok (.aload_n 0, 1) := by decide +kernel
theorem dX9_readsPulse_38 : decode cX9_readsPulse 38 = .ok (.getfield 221, 3) := by decide +kernel
theorem dX9_readsPulse_41 : decode cX9_readsPulse 41 = .ok (.ifCond .lt 7, 3) := by decide +kernel
theorem dX9_readsPulse_44 : decode cX9_readsPulse 44 = .ok (.iconst 1, 1) := by decide +kernel
theorem dX9_readsPulse_45 : decode cX9_readsPulse 45 = .ok (.goto 4, 3) := by decide +kernel
theorem dX9_readsPulse_48 : decode cX9_readsPulse 48 = .ok (.iconst 0, 1) := by decide +kernel
theorem dX9_readsPulse_49 : decode cX9_readsPulse 49 = .ok (.ireturn, 1) := by decide +kernel
theorem dX9_findFault_0 : decode cX9_findFault 0 = .ok (.aload_n 0, 1) := by decide +kernel
theorem dX9_findFault_1 : decode cX9_findFault 1 = .ok (.iconst 0, 1) := by decide +kernel
theorem dX9_findFault_2 : decode cX9_findFault 2 = .ok (.putfield 203, 3) := by decide +kernel
theorem dX9_findFault_5 : decode cX9_findFault 5 = .ok (.aload_n 0, 1) := by decide +kernel
theorem dX9_findFault_6 : decode cX9_findFault 6 = .ok (.invokevirtual 224, 3) := by decide +kernel
theorem dX9_findFault_9 : decode cX9_findFault 9 = .ok (.ifCond .ne 8, 3) := by decide +kernel
theorem dX9_findFault_12 : decode cX9_findFault 12 = .ok (.aload_n 0, 1) := by decide +kernel
theorem dX9_findFault_13 : decode cX9_findFault 13 = .ok (.getfield 203, 3) := by decide +kernel
theorem dX9_findFault_16 : decode cX9_findFault 16 = .ok (.ireturn, 1) := by decide +kernel
theorem dX9_findFault_17 : decode cX9_findFault 17 = .ok (.aload_n 0, 1) := by decide +kernel
theorem dX9_findFault_18 : decode cX9_findFault 18 = .ok (.getfield 203, 3) := by decide +kernel
theorem dX9_findFault_21 : decode cX9_findFault 21 = .ok (.aload_n 0, 1) := by decide +kernel
theorem dX9_findFault_22 : decode cX9_findFault 22 = .ok (.getfield 198, 3) := by decide +kernel
theorem dX9_findFault_25 : decode cX9_findFault 25 = .ok (.if_icmp .ne 6, 3) := by decide +kernel
theorem dX9_findFault_28 : decode cX9_findFault 28 = .ok (.bipush (-6), 2) := by decide +kernel
theorem dX9_findFault_30 : decode cX9_findFault 30 = .ok (.ireturn, 1) := by decide +kernel
theorem dX9_findFault_31 : decode cX9_findFault 31 = .ok (.aload_n 0, 1) := by decide +kernel
theorem dX9_findFault_32 : decode cX9_findFault 32 = .ok (.bipush 59, 2) := by decide +kernel
theorem dX9_findFault_34 : decode cX9_findFault 34 = .ok (.invokevirtual 215, 3) := by decide +kernel
theorem dX9_findFault_37 : decode cX9_findFault 37 = .ok (.ifCond .ne (-32), 3) := by decide +kernel
theorem dX9_findFault_40 : decode cX9_findFault 40 = .ok (.aload_n 0, 1) := by decide +kernel
theorem dX9_findFault_41 : decode cX9_findFault 41 = .ok (.getfield 203, 3) := by decide +kernel
theorem dX9_findFault_44 : decode cX9_findFault 44 = .ok (.ireturn, 1) := by decide +kernel
theorem dX9_fault_0 : decode cX9_fault 0 = .ok (.aload_n 0, 1) := by decide +kernel
theorem dX9_fault_1 : decode cX9_fault 1 = .ok (.invokevirtual 227, 3) := by decide +kernel
theorem dX9_fault_4 : decode cX9_fault 4 = .ok (.ireturn, 1) := by decide +kernel
theorem dX9_hearAll_0 : decode cX9_hearAll 0 = .ok (.aload_n 0, 1) := by decide +kernel
theorem dX9_hearAll_1 : decode cX9_hearAll 1 = .ok (.invokevirtual 227, 3) := by decide +kernel
theorem dX9_hearAll_4 : decode cX9_hearAll 4 = .ok (.bipush (-6), 2) := by decide +kernel
theorem dX9_hearAll_6 : decode cX9_hearAll 6 = .ok (.if_icmp .eq 6, 3) := by decide +kernel
theorem dX9_hearAll_9 : decode cX9_hearAll 9 = .ok (.bipush (-3), 2) := by decide +kernel
theorem dX9_hearAll_11 : decode cX9_hearAll 11 = .ok (.ireturn, 1) := by decide +kernel
theorem dX9_hearAll_12 : decode cX9_hearAll 12 = .ok (.aload_n 0, 1) := by decide +kernel
theorem dX9_hearAll_13 : decode cX9_hearAll 13 = .ok (.invokevirtual 153, 3) := by decide +kernel
theorem dX9_hearAll_16 : decode cX9_hearAll 16 = .ok (.iconst 0, 1) := by decide +kernel
theorem dX9_hearAll_17 : decode cX9_hearAll 17 = .ok (.istore_n 1, 1) := by decide +kernel
theorem dX9_hearAll_18 : decode cX9_hearAll 18 = .ok (.aload_n 0, 1) := by decide +kernel
theorem dX9_hearAll_19 : decode cX9_hearAll 19 = .ok (.iconst 0, 1) := by decide +kernel
theorem dX9_hearAll_20 : decode cX9_hearAll 20 = .ok (.putfield 203, 3) := by decide +kernel
theorem dX9_hearAll_23 : decode cX9_hearAll 23 = .ok (.iconst 1, 1) := by decide +kernel
theorem dX9_hearAll_24 : decode cX9_hearAll 24 = .ok (.istore_n 2, 1) := by decide +kernel
theorem dX9_hearAll_25 : decode cX9_hearAll 25 = .ok (.iload_n 2, 1) := by decide +kernel
theorem dX9_hearAll_26 : decode cX9_hearAll 26 = .ok (.ifCond .eq 70, 3) := by decide +kernel
theorem dX9_hearAll_29 : decode cX9_hearAll 29 = .ok (.aload_n 0, 1) := by decide +kernel
theorem dX9_hearAll_30 : decode cX9_hearAll 30 = .ok (.getfield 203, 3) := by decide +kernel
theorem dX9_hearAll_33 : decode cX9_hearAll 33 = .ok (.aload_n 0, 1) := by decide +kernel
theorem dX9_hearAll_34 : decode cX9_hearAll 34 = .ok (.getfield 198, 3) := by decide +kernel
theorem dX9_hearAll_37 : decode cX9_hearAll 37 = .ok (.if_icmp .ge 59, 3) := by decide +kernel
theorem dX9_hearAll_40 : decode cX9_hearAll 40 = .ok (.aload_n 0, 1) := by decide +kernel
theorem dX9_hearAll_41 : decode cX9_hearAll 41 = .ok (.invokevirtual 224, 3) := by decide +kernel
theorem dX9_hearAll_44 : decode cX9_hearAll 44 = .ok (.pop, 1) := by decide +kernel
theorem dX9_hearAll_45 : decode cX9_hearAll 45 = .ok (.aload_n 0, 1) := by decide +kernel
theorem dX9_hearAll_46 : decode cX9_hearAll 46 = .ok (.bipush 59, 2) := by decide +kernel
theorem dX9_hearAll_48 : decode cX9_hearAll 48 = .ok (.invokevirtual 215, 3) := by decide +kernel
theorem dX9_hearAll_51 : decode cX9_hearAll 51 = .ok (.pop, 1) := by decide +kernel
theorem dX9_hearAll_52 : decode cX9_hearAll 52 = .ok (.aload_n 0, 1) := by decide +kernel
theorem dX9_hearAll_53 : decode cX9_hearAll 53 = .ok (.aload_n 0, 1) := by decide +kernel
theorem dX9_hearAll_54 : decode cX9_hearAll 54 = .ok (.getfield 212, 3) := by decide +kernel
theorem dX9_hearAll_57 : decode cX9_hearAll 57 = .ok (.aload_n 0, 1) := by decide +kernel
theorem dX9_hearAll_58 : decode cX9_hearAll 58 = .ok (.getfield 221, 3) := by decide +kernel
theorem dX9_hearAll_61 : decode cX9_hearAll 61 = .ok (.invokevirtual 162, 3) := by decide +kernel
theorem dX9_hearAll_64 : decode cX9_hearAll 64 = .ok (.ifCond .ne 7, 3) := by decide +kernel
theorem dX9_hearAll_67 : decode cX9_hearAll 67 = .ok (.iconst 1, 1) := by decide +kernel
theorem dX9_hearAll_68 : decode cX9_hearAll 68 = .ok (.goto 4, 3) := by decide +kernel
theorem dX9_hearAll_71 : decode cX9_hearAll 71 = .ok (.iconst 0, 1) := by decide +kernel
theorem dX9_hearAll_72 : decode cX9_hearAll 72 = .ok (.istore_n 2, 1) := by decide +kernel
theorem dX9_hearAll_73 : decode cX9_hearAll 73 = .ok (.iload_n 2, 1) := by decide +kernel
theorem dX9_hearAll_74 : decode cX9_hearAll 74 = .ok (.ifCond .eq (-49), 3) := by decide +kernel
theorem dX9_hearAll_77 : decode cX9_hearAll 77 = .ok (.aload_n 0, 1) := by decide +kernel
theorem dX9_hearAll_78 : decode cX9_hearAll 78 = .ok (.aload_n 0, 1) := by decide +kernel
theorem dX9_hearAll_79 : decode cX9_hearAll 79 = .ok (.getfield 212, 3) := by decide +kernel
theorem dX9_hearAll_82 : decode cX9_hearAll 82 = .ok (.aload_n 0, 1) := by decide +kernel
theorem dX9_hearAll_83 : decode cX9_hearAll 83 = .ok (.getfield 221, 3) := by decide +kernel
theorem dX9_hearAll_86 : decode cX9_hearAll 86 = .ok (.invokevirtual 166, 3) := by decide +kernel
theorem dX9_hearAll_89 : decode cX9_hearAll 89 = .ok (.pop, 1) := by decide +kernel
theorem dX9_hearAll_90 : decode cX9_hearAll 90 = .ok (.iinc 1 1, 3) := by decide +kernel
theorem dX9_hearAll_93 : decode cX9_hearAll 93 = .ok (.goto (-68), 3) := by decide +kernel
theorem dX9_hearAll_96 : decode cX9_hearAll 96 = .ok (.aload_n 0, 1) := by decide +kernel
theorem dX9_hearAll_97 : decode cX9_hearAll 97 = .ok (.iconst 0, 1) := by decide +kernel
theorem dX9_hearAll_98 : decode cX9_hearAll 98 = .ok (.putfield 198, 3) := by decide +kernel
theorem dX9_hearAll_101 : decode cX9_hearAll 101 = .ok (.iload_n 1, 1) := by decide +kernel
theorem dX9_hearAll_102 : decode cX9_hearAll 102 = .ok (.ireturn, 1) := by decide +kernel
theorem dX9_undo_0 : decode cX9_undo 0 = .ok (.aload_n 0, 1) := by decide +kernel
theorem dX9_undo_1 : decode cX9_undo 1 = .ok (.getfield 62, 3) := by decide +kernel
theorem dX9_undo_4 : decode cX9_undo 4 = .ok (.ifCond .ne 6, 3) := by decide +kernel
theorem dX9_undo_7 : decode cX9_undo 7 = .ok (.bipush (-5), 2) := by decide +kernel
theorem dX9_undo_9 : decode cX9_undo 9 = .ok (.ireturn, 1) := by decide +kernel
theorem dX9_undo_10 : decode cX9_undo 10 = .ok (.aload_n 0, 1) := by decide +kernel
theorem dX9_undo_11 : decode cX9_undo 11 = .ok (.dup, 1) := by decide +kernel
theorem dX9_undo_12 : decode cX9_undo 12 = .ok (.getfield 62, 3) := by decide +kernel
theorem dX9_undo_15 : decode cX9_undo 15 = .ok (.iconst 1, 1) := by decide +kernel
theorem dX9_undo_16 : decode cX9_undo 16 = .ok (.isub, 1) := by decide +kernel
theorem dX9_undo_17 : decode cX9_undo 17 = .ok (.putfield 62, 3) := by decide +kernel
theorem dX9_undo_20 : decode cX9_undo 20 = .ok (.aload_n 0, 1) := by decide +kernel
theorem dX9_undo_21 : decode cX9_undo 21 = .ok (.getfield 16, 3) := by decide +kernel
theorem dX9_undo_24 : decode cX9_undo 24 = .ok (.aload_n 0, 1) := by decide +kernel
theorem dX9_undo_25 : decode cX9_undo 25 = .ok (.getfield 62, 3) := by decide +kernel
theorem dX9_undo_28 : decode cX9_undo 28 = .ok (.bipush 68, 2) := by decide +kernel
theorem dX9_undo_30 : decode cX9_undo 30 = .ok (.imul, 1) := by decide +kernel
theorem dX9_undo_31 : decode cX9_undo 31 = .ok (.aload_n 0, 1) := by decide +kernel
theorem dX9_undo_32 : decode cX9_undo 32 = .ok (.getfield 7, 3) := by decide +kernel
theorem dX9_undo_35 : decode cX9_undo 35 = .ok (.iconst 0, 1) := by decide +kernel
theorem dX9_undo_36 : decode cX9_undo 36 = .ok (.invokestatic 66, 3) := by decide +kernel
theorem dX9_undo_39 : decode cX9_undo 39 = .ok (.aload_n 0, 1) := by decide +kernel
theorem dX9_undo_40 : decode cX9_undo 40 = .ok (.getfield 62, 3) := by decide +kernel
theorem dX9_undo_43 : decode cX9_undo 43 = .ok (.ireturn, 1) := by decide +kernel
theorem dX9_save_0 : decode cX9_save 0 = .ok (.iload_n 1, 1) := by decide +kernel
theorem dX9_save_1 : decode cX9_save 1 = .ok (.iconst 0, 1) := by decide +kernel
theorem dX9_save_2 : decode cX9_save 2 = .ok (.iconst 1, 1) := by decide +kernel
theorem dX9_save_3 : decode cX9_save 3 = .ok (.invokestatic 70, 3) := by decide +kernel
theorem dX9_save_6 : decode cX9_save 6 = .ok (.ifCond .ne 6, 3) := by decide +kernel
theorem dX9_save_9 : decode cX9_save 9 = .ok (.bipush (-2), 2) := by decide +kernel
theorem dX9_save_11 : decode cX9_save 11 = .ok (.ireturn, 1) := by decide +kernel
theorem dX9_save_12 : decode cX9_save 12 = .ok (.aload_n 0, 1) := by decide +kernel
theorem dX9_save_13 : decode cX9_save 13 = .ok (.getfield 7, 3) := by decide +kernel
theorem dX9_save_16 : decode cX9_save 16 = .ok (.iconst 0, 1) := by decide +kernel
theorem dX9_save_17 : decode cX9_save 17 = .ok (.aload_n 0, 1) := by decide +kernel
theorem dX9_save_18 : decode cX9_save 18 = .ok (.getfield 19, 3) := by decide +kernel
theorem dX9_save_21 : decode cX9_save 21 = .ok (.bipush 68, 2) := by decide +kernel
theorem dX9_save_23 : decode cX9_save 23 = .ok (.iload_n 1, 1) := by decide +kernel
theorem dX9_save_24 : decode cX9_save 24 = .ok (.imul, 1) := by decide +kernel
theorem dX9_save_25 : decode cX9_save 25 = .ok (.invokestatic 66, 3) := by decide +kernel
theorem dX9_save_28 : decode cX9_save 28 = .ok (.aload_n 0, 1) := by decide +kernel
theorem dX9_save_29 : decode cX9_save 29 = .ok (.getfield 22, 3) := by decide +kernel
theorem dX9_save_32 : decode cX9_save 32 = .ok (.iload_n 1, 1) := by decide +kernel
theorem dX9_save_33 : decode cX9_save 33 = .ok (.iconst 1, 1) := by decide +kernel
theorem dX9_save_34 : decode cX9_save 34 = .ok (.iastore, 1) := by decide +kernel
theorem dX9_save_35 : decode cX9_save 35 = .ok (.aload_n 0, 1) := by decide +kernel
theorem dX9_save_36 : decode cX9_save 36 = .ok (.getfield 7, 3) := by decide +kernel
theorem dX9_save_39 : decode cX9_save 39 = .ok (.iconst 3, 1) := by decide +kernel
theorem dX9_save_40 : decode cX9_save 40 = .ok (.iaload, 1) := by decide +kernel
theorem dX9_save_41 : decode cX9_save 41 = .ok (.ireturn, 1) := by decide +kernel
theorem dX9_restore_0 : decode cX9_restore 0 = .ok (.iload_n 1, 1) := by decide +kernel
theorem dX9_restore_1 : decode cX9_restore 1 = .ok (.iconst 0, 1) := by decide +kernel
theorem dX9_restore_2 : decode cX9_restore 2 = .ok (.iconst 1, 1) := by decide +kernel
theorem dX9_restore_3 : decode cX9_restore 3 = .ok (.invokestatic 70, 3) := by decide +kernel
theorem dX9_restore_6 : decode cX9_restore 6 = .ok (.ifCond .ne 6, 3) := by decide +kernel
theorem dX9_restore_9 : decode cX9_restore 9 = .ok (.bipush (-2), 2) := by decide +kernel
theorem dX9_restore_11 : decode cX9_restore 11 = .ok (.ireturn, 1) := by decide +kernel
theorem dX9_restore_12 : decode cX9_restore 12 = .ok (.aload_n 0, 1) := by decide +kernel
theorem dX9_restore_13 : decode cX9_restore 13 = .ok (.getfield 22, 3) := by decide +kernel
theorem dX9_restore_16 : decode cX9_restore 16 = .ok (.iload_n 1, 1) := by decide +kernel
theorem dX9_restore_17 : decode cX9_restore 17 = .ok (.iaload, 1) := by decide +kernel
theorem dX9_restore_18 : decode cX9_restore 18 = .ok (.ifCond .ne 6, 3) := by decide +kernel
theorem dX9_restore_21 : decode cX9_restore 21 = .ok (.bipush (-5), 2) := by decide +kernel
theorem dX9_restore_23 : decode cX9_restore 23 = .ok (.ireturn, 1) := by decide +kernel
theorem dX9_restore_24 : decode cX9_restore 24 = .ok (.aload_n 0, 1) := by decide +kernel
theorem dX9_restore_25 : decode cX9_restore 25 = .ok (.invokevirtual 153, 3) := by decide +kernel
theorem dX9_restore_28 : decode cX9_restore 28 = .ok (.aload_n 0, 1) := by decide +kernel
theorem dX9_restore_29 : decode cX9_restore 29 = .ok (.getfield 19, 3) := by decide +kernel
theorem dX9_restore_32 : decode cX9_restore 32 = .ok (.bipush 68, 2) := by decide +kernel
theorem dX9_restore_34 : decode cX9_restore 34 = .ok (.iload_n 1, 1) := by decide +kernel
theorem dX9_restore_35 : decode cX9_restore 35 = .ok (.imul, 1) := by decide +kernel
theorem dX9_restore_36 : decode cX9_restore 36 = .ok (.aload_n 0, 1) := by decide +kernel
theorem dX9_restore_37 : decode cX9_restore 37 = .ok (.getfield 7, 3) := by decide +kernel
theorem dX9_restore_40 : decode cX9_restore 40 = .ok (.iconst 0, 1) := by decide +kernel
theorem dX9_restore_41 : decode cX9_restore 41 = .ok (.invokestatic 66, 3) := by decide +kernel
theorem dX9_restore_44 : decode cX9_restore 44 = .ok (.aload_n 0, 1) := by decide +kernel
theorem dX9_restore_45 : decode cX9_restore 45 = .ok (.getfield 7, 3) := by decide +kernel
theorem dX9_restore_48 : decode cX9_restore 48 = .ok (.iconst 3, 1) := by decide +kernel
end
section
theorem dX9_restore_49 : decode cX9_restore 49 = .ok (.iaload, 1) := by decide +kernel
theorem dX9_restore_50 : decode cX9_restore 50 = .ok (.ireturn, 1) := by decide +kernel
theorem dJ9_floorDiv_7cf53_0 : decode cJ9_floorDiv_7cf53 0 = .ok (.iload_n 0, 1) := by decide +kernel
theorem dJ9_floorDiv_7cf53_1 : decode cJ9_floorDiv_7cf53 1 = .ok (.iload_n 1, 1) := by decide +kernel
theorem dJ9_floorDiv_7cf53_2 : decode cJ9_floorDiv_7cf53 2 = .ok (.idiv, 1) := by decide +kernel
theorem dJ9_floorDiv_7cf53_3 : decode cJ9_floorDiv_7cf53 3 = .ok (.istore_n 2, 1) := by decide +kernel
theorem dJ9_floorDiv_7cf53_4 : decode cJ9_floorDiv_7cf53 4 = .ok (.iload_n 0, 1) := by decide +kernel
theorem dJ9_floorDiv_7cf53_5 : decode cJ9_floorDiv_7cf53 5 = .ok (.iload_n 1, 1) := by decide +kernel
theorem dJ9_floorDiv_7cf53_6 : decode cJ9_floorDiv_7cf53 6 = .ok (.ixor, 1) := by decide +kernel
theorem dJ9_floorDiv_7cf53_7 : decode cJ9_floorDiv_7cf53 7 = .ok (.ifCond .ge 14, 3) := by decide +kernel
theorem dJ9_floorDiv_7cf53_10 : decode cJ9_floorDiv_7cf53 10 = .ok (.iload_n 2, 1) := by decide +kernel
theorem dJ9_floorDiv_7cf53_11 : decode cJ9_floorDiv_7cf53 11 = .ok (.iload_n 1, 1) := by decide +kernel
theorem dJ9_floorDiv_7cf53_12 : decode cJ9_floorDiv_7cf53 12 = .ok (.imul, 1) := by decide +kernel
theorem dJ9_floorDiv_7cf53_13 : decode cJ9_floorDiv_7cf53 13 = .ok (.iload_n 0, 1) := by decide +kernel
theorem dJ9_floorDiv_7cf53_14 : decode cJ9_floorDiv_7cf53 14 = .ok (.if_icmp .eq 7, 3) := by decide +kernel
theorem dJ9_floorDiv_7cf53_17 : decode cJ9_floorDiv_7cf53 17 = .ok (.iload_n 2, 1) := by decide +kernel
theorem dJ9_floorDiv_7cf53_18 : decode cJ9_floorDiv_7cf53 18 = .ok (.iconst 1, 1) := by decide +kernel
theorem dJ9_floorDiv_7cf53_19 : decode cJ9_floorDiv_7cf53 19 = .ok (.isub, 1) := by decide +kernel
theorem dJ9_floorDiv_7cf53_20 : decode cJ9_floorDiv_7cf53 20 = .ok (.ireturn, 1) := by decide +kernel
theorem dJ9_floorDiv_7cf53_21 : decode cJ9_floorDiv_7cf53 21 = .ok (.iload_n 2, 1) := by decide +kernel
theorem dJ9_floorDiv_7cf53_22 : decode cJ9_floorDiv_7cf53 22 = .ok (.ireturn, 1) := by decide +kernel
theorem dJ9_abs_0f7a4_0 : decode cJ9_abs_0f7a4 0 = .ok (.iload_n 0, 1) := by decide +kernel
theorem dJ9_abs_0f7a4_1 : decode cJ9_abs_0f7a4 1 = .ok (.ifCond .ge 8, 3) := by decide +kernel
theorem dJ9_abs_0f7a4_4 : decode cJ9_abs_0f7a4 4 = .ok (.iload_n 0, 1) := by decide +kernel
theorem dJ9_abs_0f7a4_5 : decode cJ9_abs_0f7a4 5 = .ok (.ineg, 1) := by decide +kernel
theorem dJ9_abs_0f7a4_6 : decode cJ9_abs_0f7a4 6 = .ok (.goto 4, 3) := by decide +kernel
theorem dJ9_abs_0f7a4_9 : decode cJ9_abs_0f7a4 9 = .ok (.iload_n 0, 1) := by decide +kernel
theorem dJ9_abs_0f7a4_10 : decode cJ9_abs_0f7a4 10 = .ok (.ireturn, 1) := by decide +kernel
theorem dJ9_max_7cf53_0 : decode cJ9_max_7cf53 0 = .ok (.iload_n 0, 1) := by decide +kernel
theorem dJ9_max_7cf53_1 : decode cJ9_max_7cf53 1 = .ok (.iload_n 1, 1) := by decide +kernel
theorem dJ9_max_7cf53_2 : decode cJ9_max_7cf53 2 = .ok (.if_icmp .lt 7, 3) := by decide +kernel
theorem dJ9_max_7cf53_5 : decode cJ9_max_7cf53 5 = .ok (.iload_n 0, 1) := by decide +kernel
theorem dJ9_max_7cf53_6 : decode cJ9_max_7cf53 6 = .ok (.goto 4, 3) := by decide +kernel
theorem dJ9_max_7cf53_9 : decode cJ9_max_7cf53 9 = .ok (.iload_n 1, 1) := by decide +kernel
theorem dJ9_max_7cf53_10 : decode cJ9_max_7cf53 10 = .ok (.ireturn, 1) := by decide +kernel
theorem dJ9_min_7cf53_0 : decode cJ9_min_7cf53 0 = .ok (.iload_n 0, 1) := by decide +kernel
theorem dJ9_min_7cf53_1 : decode cJ9_min_7cf53 1 = .ok (.iload_n 1, 1) := by decide +kernel
theorem dJ9_min_7cf53_2 : decode cJ9_min_7cf53 2 = .ok (.if_icmp .gt 7, 3) := by decide +kernel
theorem dJ9_min_7cf53_5 : decode cJ9_min_7cf53 5 = .ok (.iload_n 0, 1) := by decide +kernel
theorem dJ9_min_7cf53_6 : decode cJ9_min_7cf53 6 = .ok (.goto 4, 3) := by decide +kernel
theorem dJ9_min_7cf53_9 : decode cJ9_min_7cf53 9 = .ok (.iload_n 1, 1) := by decide +kernel
theorem dJ9_min_7cf53_10 : decode cJ9_min_7cf53 10 = .ok (.ireturn, 1) := by decide +kernel
theorem dL_law_0 : decode cL_law 0 = .ok (.new 7, 3) := by decide +kernel
theorem dL_law_3 : decode cL_law 3 = .ok (.dup, 1) := by decide +kernel
theorem dL_law_4 : decode cL_law 4 = .ok (.invokespecial 9, 3) := by decide +kernel
theorem dL_law_7 : decode cL_law 7 = .ok (.astore_n 1, 1) := by decide +kernel
theorem dL_law_8 : decode cL_law 8 = .ok (.new 10, 3) := by decide +kernel
theorem dL_law_11 : decode cL_law 11 = .ok (.dup, 1) := by decide +kernel
theorem dL_law_12 : decode cL_law 12 = .ok (.invokespecial 12, 3) := by decide +kernel
theorem dL_law_15 : decode cL_law 15 = .ok (.astore_n 2, 1) := by decide +kernel
theorem dL_law_16 : decode cL_law 16 = .ok (.iconst 0, 1) := by decide +kernel
theorem dL_law_17 : decode cL_law 17 = .ok (.istore_n 3, 1) := by decide +kernel
theorem dL_law_18 : decode cL_law 18 = .ok (.iload_n 3, 1) := by decide +kernel
theorem dL_law_19 : decode cL_law 19 = .ok (.aload_n 0, 1) := by decide +kernel
theorem dL_law_20 : decode cL_law 20 = .ok (.arraylength, 1) := by decide +kernel
theorem dL_law_21 : decode cL_law 21 = .ok (.iconst 4, 1) := by decide +kernel
theorem dL_law_22 : decode cL_law 22 = .ok (.isub, 1) := by decide +kernel
theorem dL_law_23 : decode cL_law 23 = .ok (.if_icmp .gt 678, 3) := by decide +kernel
theorem dL_law_26 : decode cL_law 26 = .ok (.aload_n 0, 1) := by decide +kernel
theorem dL_law_27 : decode cL_law 27 = .ok (.iload_n 3, 1) := by decide +kernel
theorem dL_law_28 : decode cL_law 28 = .ok (.iaload, 1) := by decide +kernel
theorem dL_law_29 : decode cL_law 29 = .ok (.bipush 31, 2) := by decide +kernel
theorem dL_law_31 : decode cL_law 31 = .ok (.iand, 1) := by decide +kernel
theorem dL_law_32 : decode cL_law 32 = .ok (.tableswitch 663 0 20 #[100, 133, 166, 209, 222, 245, 258, 301, 334, 367, 390, 433, 456, 489, 502, 525, 578, 591, 604, 617, 640], 100) := by decide +kernel
theorem dL_law_132 : decode cL_law 132 = .ok (.aload_n 1, 1) := by decide +kernel
theorem dL_law_133 : decode cL_law 133 = .ok (.aload_n 0, 1) := by decide +kernel
theorem dL_law_134 : decode cL_law 134 = .ok (.iload_n 3, 1) := by decide +kernel
theorem dL_law_135 : decode cL_law 135 = .ok (.iconst 1, 1) := by decide +kernel
theorem dL_law_136 : decode cL_law 136 = .ok (.iadd, 1) := by decide +kernel
theorem dL_law_137 : decode cL_law 137 = .ok (.iaload, 1) := by decide +kernel
theorem dL_law_138 : decode cL_law 138 = .ok (.aload_n 0, 1) := by decide +kernel
theorem dL_law_139 : decode cL_law 139 = .ok (.iload_n 3, 1) := by decide +kernel
theorem dL_law_140 : decode cL_law 140 = .ok (.iconst 2, 1) := by decide +kernel
theorem dL_law_141 : decode cL_law 141 = .ok (.iadd, 1) := by decide +kernel
theorem dL_law_142 : decode cL_law 142 = .ok (.iaload, 1) := by decide +kernel
theorem dL_law_143 : decode cL_law 143 = .ok (.invokevirtual 13, 3) := by decide +kernel
theorem dL_law_146 : decode cL_law 146 = .ok (.aload_n 2, 1) := by decide +kernel
theorem dL_law_147 : decode cL_law 147 = .ok (.aload_n 0, 1) := by decide +kernel
theorem dL_law_148 : decode cL_law 148 = .ok (.iload_n 3, 1) := by decide +kernel
theorem dL_law_149 : decode cL_law 149 = .ok (.iconst 1, 1) := by decide +kernel
theorem dL_law_150 : decode cL_law 150 = .ok (.iadd, 1) := by decide +kernel
theorem dL_law_151 : decode cL_law 151 = .ok (.iaload, 1) := by decide +kernel
theorem dL_law_152 : decode cL_law 152 = .ok (.aload_n 0, 1) := by decide +kernel
theorem dL_law_153 : decode cL_law 153 = .ok (.iload_n 3, 1) := by decide +kernel
theorem dL_law_154 : decode cL_law 154 = .ok (.iconst 2, 1) := by decide +kernel
theorem dL_law_155 : decode cL_law 155 = .ok (.iadd, 1) := by decide +kernel
theorem dL_law_156 : decode cL_law 156 = .ok (.iaload, 1) := by decide +kernel
theorem dL_law_157 : decode cL_law 157 = .ok (.invokevirtual 17, 3) := by decide +kernel
theorem dL_law_160 : decode cL_law 160 = .ok (.if_icmp .eq 535, 3) := by decide +kernel
theorem dL_law_163 : decode cL_law 163 = .ok (.iconst 0, 1) := by decide +kernel
theorem dL_law_164 : decode cL_law 164 = .ok (.ireturn, 1) := by decide +kernel
theorem dL_law_165 : decode cL_law 165 = .ok (.aload_n 1, 1) := by decide +kernel
theorem dL_law_166 : decode cL_law 166 = .ok (.aload_n 0, 1) := by decide +kernel
theorem dL_law_167 : decode cL_law 167 = .ok (.iload_n 3, 1) := by decide +kernel
theorem dL_law_168 : decode cL_law 168 = .ok (.iconst 1, 1) := by decide +kernel
theorem dL_law_169 : decode cL_law 169 = .ok (.iadd, 1) := by decide +kernel
theorem dL_law_170 : decode cL_law 170 = .ok (.iaload, 1) := by decide +kernel
theorem dL_law_171 : decode cL_law 171 = .ok (.aload_n 0, 1) := by decide +kernel
theorem dL_law_172 : decode cL_law 172 = .ok (.iload_n 3, 1) := by decide +kernel
theorem dL_law_173 : decode cL_law 173 = .ok (.iconst 2, 1) := by decide +kernel
theorem dL_law_174 : decode cL_law 174 = .ok (.iadd, 1) := by decide +kernel
theorem dL_law_175 : decode cL_law 175 = .ok (.iaload, 1) := by decide +kernel
theorem dL_law_176 : decode cL_law 176 = .ok (.invokevirtual 18, 3) := by decide +kernel
theorem dL_law_179 : decode cL_law 179 = .ok (.aload_n 2, 1) := by decide +kernel
theorem dL_law_180 : decode cL_law 180 = .ok (.aload_n 0, 1) := by decide +kernel
theorem dL_law_181 : decode cL_law 181 = .ok (.iload_n 3, 1) := by decide +kernel
theorem dL_law_182 : decode cL_law 182 = .ok (.iconst 1, 1) := by decide +kernel
theorem dL_law_183 : decode cL_law 183 = .ok (.iadd, 1) := by decide +kernel
theorem dL_law_184 : decode cL_law 184 = .ok (.iaload, 1) := by decide +kernel
theorem dL_law_185 : decode cL_law 185 = .ok (.aload_n 0, 1) := by decide +kernel
theorem dL_law_186 : decode cL_law 186 = .ok (.iload_n 3, 1) := by decide +kernel
theorem dL_law_187 : decode cL_law 187 = .ok (.iconst 2, 1) := by decide +kernel
theorem dL_law_188 : decode cL_law 188 = .ok (.iadd, 1) := by decide +kernel
theorem dL_law_189 : decode cL_law 189 = .ok (.iaload, 1) := by decide +kernel
theorem dL_law_190 : decode cL_law 190 = .ok (.invokevirtual 21, 3) := by decide +kernel
theorem dL_law_193 : decode cL_law 193 = .ok (.if_icmp .eq 502, 3) := by decide +kernel
theorem dL_law_196 : decode cL_law 196 = .ok (.iconst 0, 1) := by decide +kernel
theorem dL_law_197 : decode cL_law 197 = .ok (.ireturn, 1) := by decide +kernel
theorem dL_law_198 : decode cL_law 198 = .ok (.aload_n 1, 1) := by decide +kernel
theorem dL_law_199 : decode cL_law 199 = .ok (.aload_n 0, 1) := by decide +kernel
theorem dL_law_200 : decode cL_law 200 = .ok (.iload_n 3, 1) := by decide +kernel
theorem dL_law_201 : decode cL_law 201 = .ok (.iconst 1, 1) := by decide +kernel
theorem dL_law_202 : decode cL_law 202 = .ok (.iadd, 1) := by decide +kernel
theorem dL_law_203 : decode cL_law 203 = .ok (.iaload, 1) := by decide +kernel
theorem dL_law_204 : decode cL_law 204 = .ok (.aload_n 0, 1) := by decide +kernel
theorem dL_law_205 : decode cL_law 205 = .ok (.iload_n 3, 1) := by decide +kernel
theorem dL_law_206 : decode cL_law 206 = .ok (.iconst 2, 1) := by decide +kernel
theorem dL_law_207 : decode cL_law 207 = .ok (.iadd, 1) := by decide +kernel
theorem dL_law_208 : decode cL_law 208 = .ok (.iaload, 1) := by decide +kernel
theorem dL_law_209 : decode cL_law 209 = .ok (.aload_n 0, 1) := by decide +kernel
theorem dL_law_210 : decode cL_law 210 = .ok (.iload_n 3, 1) := by decide +kernel
theorem dL_law_211 : decode cL_law 211 = .ok (.iconst 3, 1) := by decide +kernel
theorem dL_law_212 : decode cL_law 212 = .ok (.iadd, 1) := by decide +kernel
theorem dL_law_213 : decode cL_law 213 = .ok (.iaload, 1) := by decide +kernel
theorem dL_law_214 : decode cL_law 214 = .ok (.invokevirtual 22, 3) := by decide +kernel
theorem dL_law_217 : decode cL_law 217 = .ok (.aload_n 2, 1) := by decide +kernel
theorem dL_law_218 : decode cL_law 218 = .ok (.aload_n 0, 1) := by decide +kernel
theorem dL_law_219 : decode cL_law 219 = .ok (.iload_n 3, 1) := by decide +kernel
theorem dL_law_220 : decode cL_law 220 = .ok (.iconst 1, 1) := by decide +kernel
theorem dL_law_221 : decode cL_law 221 = .ok (.iadd, 1) := by decide +kernel
theorem dL_law_222 : decode cL_law 222 = .ok (.iaload, 1) := by decide +kernel
theorem dL_law_223 : decode cL_law 223 = .ok (.aload_n 0, 1) := by decide +kernel
theorem dL_law_224 : decode cL_law 224 = .ok (.iload_n 3, 1) := by decide +kernel
theorem dL_law_225 : decode cL_law 225 = .ok (.iconst 2, 1) := by decide +kernel
theorem dL_law_226 : decode cL_law 226 = .ok (.iadd, 1) := by decide +kernel
theorem dL_law_227 : decode cL_law 227 = .ok (.iaload, 1) := by decide +kernel
theorem dL_law_228 : decode cL_law 228 = .ok (.aload_n 0, 1) := by decide +kernel
theorem dL_law_229 : decode cL_law 229 = .ok (.iload_n 3, 1) := by decide +kernel
theorem dL_law_230 : decode cL_law 230 = .ok (.iconst 3, 1) := by decide +kernel
theorem dL_law_231 : decode cL_law 231 = .ok (.iadd, 1) := by decide +kernel
theorem dL_law_232 : decode cL_law 232 = .ok (.iaload, 1) := by decide +kernel
theorem dL_law_233 : decode cL_law 233 = .ok (.invokevirtual 26, 3) := by decide +kernel
theorem dL_law_236 : decode cL_law 236 = .ok (.if_icmp .eq 459, 3) := by decide +kernel
theorem dL_law_239 : decode cL_law 239 = .ok (.iconst 0, 1) := by decide +kernel
theorem dL_law_240 : decode cL_law 240 = .ok (.ireturn, 1) := by decide +kernel
theorem dL_law_241 : decode cL_law 241 = .ok (.aload_n 1, 1) := by decide +kernel
theorem dL_law_242 : decode cL_law 242 = .ok (.invokevirtual 27, 3) := by decide +kernel
theorem dL_law_245 : decode cL_law 245 = .ok (.aload_n 2, 1) := by decide +kernel
theorem dL_law_246 : decode cL_law 246 = .ok (.invokevirtual 31, 3) := by decide +kernel
theorem dL_law_249 : decode cL_law 249 = .ok (.if_icmp .eq 446, 3) := by decide +kernel
theorem dL_law_252 : decode cL_law 252 = .ok (.iconst 0, 1) := by decide +kernel
theorem dL_law_253 : decode cL_law 253 = .ok (.ireturn, 1) := by decide +kernel
theorem dL_law_254 : decode cL_law 254 = .ok (.aload_n 1, 1) := by decide +kernel
theorem dL_law_255 : decode cL_law 255 = .ok (.aload_n 0, 1) := by decide +kernel
theorem dL_law_256 : decode cL_law 256 = .ok (.iload_n 3, 1) := by decide +kernel
theorem dL_law_257 : decode cL_law 257 = .ok (.iconst 1, 1) := by decide +kernel
theorem dL_law_258 : decode cL_law 258 = .ok (.iadd, 1) := by decide +kernel
theorem dL_law_259 : decode cL_law 259 = .ok (.iaload, 1) := by decide +kernel
theorem dL_law_260 : decode cL_law 260 = .ok (.invokevirtual 32, 3) := by decide +kernel
theorem dL_law_263 : decode cL_law 263 = .ok (.aload_n 2, 1) := by decide +kernel
theorem dL_law_264 : decode cL_law 264 = .ok (.aload_n 0, 1) := by decide +kernel
theorem dL_law_265 : decode cL_law 265 = .ok (.iload_n 3, 1) := by decide +kernel
theorem dL_law_266 : decode cL_law 266 = .ok (.iconst 1, 1) := by decide +kernel
theorem dL_law_267 : decode cL_law 267 = .ok (.iadd, 1) := by decide +kernel
theorem dL_law_268 : decode cL_law 268 = .ok (.iaload, 1) := by decide +kernel
theorem dL_law_269 : decode cL_law 269 = .ok (.invokevirtual 36, 3) := by decide +kernel
theorem dL_law_272 : decode cL_law 272 = .ok (.if_icmp .eq 423, 3) := by decide +kernel
theorem dL_law_275 : decode cL_law 275 = .ok (.iconst 0, 1) := by decide +kernel
theorem dL_law_276 : decode cL_law 276 = .ok (.ireturn, 1) := by decide +kernel
theorem dL_law_277 : decode cL_law 277 = .ok (.aload_n 1, 1) := by decide +kernel
theorem dL_law_278 : decode cL_law 278 = .ok (.invokevirtual 37, 3) := by decide +kernel
theorem dL_law_281 : decode cL_law 281 = .ok (.aload_n 2, 1) := by decide +kernel
theorem dL_law_282 : decode cL_law 282 = .ok (.invokevirtual 40, 3) := by decide +kernel
theorem dL_law_285 : decode cL_law 285 = .ok (.if_icmp .eq 410, 3) := by decide +kernel
theorem dL_law_288 : decode cL_law 288 = .ok (.iconst 0, 1) := by decide +kernel
theorem dL_law_289 : decode cL_law 289 = .ok (.ireturn, 1) := by decide +kernel
theorem dL_law_290 : decode cL_law 290 = .ok (.aload_n 1, 1) := by decide +kernel
theorem dL_law_291 : decode cL_law 291 = .ok (.aload_n 0, 1) := by decide +kernel
theorem dL_law_292 : decode cL_law 292 = .ok (.iload_n 3, 1) := by decide +kernel
theorem dL_law_293 : decode cL_law 293 = .ok (.iconst 1, 1) := by decide +kernel
theorem dL_law_294 : decode cL_law 294 = .ok (.iadd, 1) := by decide +kernel
theorem dL_law_295 : decode cL_law 295 = .ok (.iaload, 1) := by decide +kernel
theorem dL_law_296 : decode cL_law 296 = .ok (.aload_n 0, 1) := by decide +kernel
theorem dL_law_297 : decode cL_law 297 = .ok (.iload_n 3, 1) := by decide +kernel
theorem dL_law_298 : decode cL_law 298 = .ok (.iconst 2, 1) := by decide +kernel
theorem dL_law_299 : decode cL_law 299 = .ok (.iadd, 1) := by decide +kernel
theorem dL_law_300 : decode cL_law 300 = .ok (.iaload, 1) := by decide +kernel
theorem dL_law_301 : decode cL_law 301 = .ok (.aload_n 0, 1) := by decide +kernel
theorem dL_law_302 : decode cL_law 302 = .ok (.iload_n 3, 1) := by decide +kernel
theorem dL_law_303 : decode cL_law 303 = .ok (.iconst 3, 1) := by decide +kernel
theorem dL_law_304 : decode cL_law 304 = .ok (.iadd, 1) := by decide +kernel
theorem dL_law_305 : decode cL_law 305 = .ok (.iaload, 1) := by decide +kernel
theorem dL_law_306 : decode cL_law 306 = .ok (.invokevirtual 41, 3) := by decide +kernel
theorem dL_law_309 : decode cL_law 309 = .ok (.aload_n 2, 1) := by decide +kernel
theorem dL_law_310 : decode cL_law 310 = .ok (.aload_n 0, 1) := by decide +kernel
theorem dL_law_311 : decode cL_law 311 = .ok (.iload_n 3, 1) := by decide +kernel
theorem dL_law_312 : decode cL_law 312 = .ok (.iconst 1, 1) := by decide +kernel
theorem dL_law_313 : decode cL_law 313 = .ok (.iadd, 1) := by decide +kernel
theorem dL_law_314 : decode cL_law 314 = .ok (.iaload, 1) := by decide +kernel
theorem dL_law_315 : decode cL_law 315 = .ok (.aload_n 0, 1) := by decide +kernel
theorem dL_law_316 : decode cL_law 316 = .ok (.iload_n 3, 1) := by decide +kernel
theorem dL_law_317 : decode cL_law 317 = .ok (.iconst 2, 1) := by decide +kernel
theorem dL_law_318 : decode cL_law 318 = .ok (.iadd, 1) := by decide +kernel
theorem dL_law_319 : decode cL_law 319 = .ok (.iaload, 1) := by decide +kernel
theorem dL_law_320 : decode cL_law 320 = .ok (.aload_n 0, 1) := by decide +kernel
theorem dL_law_321 : decode cL_law 321 = .ok (.iload_n 3, 1) := by decide +kernel
theorem dL_law_322 : decode cL_law 322 = .ok (.iconst 3, 1) := by decide +kernel
theorem dL_law_323 : decode cL_law 323 = .ok (.iadd, 1) := by decide +kernel
theorem dL_law_324 : decode cL_law 324 = .ok (.iaload, 1) := by decide +kernel
theorem dL_law_325 : decode cL_law 325 = .ok (.invokevirtual 44, 3) := by decide +kernel
theorem dL_law_328 : decode cL_law 328 = .ok (.if_icmp .eq 367, 3) := by decide +kernel
theorem dL_law_331 : decode cL_law 331 = .ok (.iconst 0, 1) := by decide +kernel
theorem dL_law_332 : decode cL_law 332 = .ok (.ireturn, 1) := by decide +kernel
theorem dL_law_333 : decode cL_law 333 = .ok (.aload_n 1, 1) := by decide +kernel
theorem dL_law_334 : decode cL_law 334 = .ok (.aload_n 0, 1) := by decide +kernel
theorem dL_law_335 : decode cL_law 335 = .ok (.iload_n 3, 1) := by decide +kernel
theorem dL_law_336 : decode cL_law 336 = .ok (.iconst 1, 1) := by decide +kernel
theorem dL_law_337 : decode cL_law 337 = .ok (.iadd, 1) := by decide +kernel
theorem dL_law_338 : decode cL_law 338 = .ok (.iaload, 1) := by decide +kernel
theorem dL_law_339 : decode cL_law 339 = .ok (.aload_n 0, 1) := by decide +kernel
theorem dL_law_340 : decode cL_law 340 = .ok (.iload_n 3, 1) := by decide +kernel
theorem dL_law_341 : decode cL_law 341 = .ok (.iconst 2, 1) := by decide +kernel
theorem dL_law_342 : decode cL_law 342 = .ok (.iadd, 1) := by decide +kernel
theorem dL_law_343 : decode cL_law 343 = .ok (.iaload, 1) := by decide +kernel
theorem dL_law_344 : decode cL_law 344 = .ok (.invokevirtual 45, 3) := by decide +kernel
theorem dL_law_347 : decode cL_law 347 = .ok (.aload_n 2, 1) := by decide +kernel
theorem dL_law_348 : decode cL_law 348 = .ok (.aload_n 0, 1) := by decide +kernel
theorem dL_law_349 : decode cL_law 349 = .ok (.iload_n 3, 1) := by decide +kernel
theorem dL_law_350 : decode cL_law 350 = .ok (.iconst 1, 1) := by decide +kernel
theorem dL_law_351 : decode cL_law 351 = .ok (.iadd, 1) := by decide +kernel
theorem dL_law_352 : decode cL_law 352 = .ok (.iaload, 1) := by decide +kernel
theorem dL_law_353 : decode cL_law 353 = .ok (.aload_n 0, 1) := by decide +kernel
theorem dL_law_354 : decode cL_law 354 = .ok (.iload_n 3, 1) := by decide +kernel
theorem dL_law_355 : decode cL_law 355 = .ok (.iconst 2, 1) := by decide +kernel
theorem dL_law_356 : decode cL_law 356 = .ok (.iadd, 1) := by decide +kernel
theorem dL_law_357 : decode cL_law 357 = .ok (.iaload, 1) := by decide +kernel
theorem dL_law_358 : decode cL_law 358 = .ok (.invokevirtual 48, 3) := by decide +kernel
theorem dL_law_361 : decode cL_law 361 = .ok (.if_icmp .eq 334, 3) := by decide +kernel
theorem dL_law_364 : decode cL_law 364 = .ok (.iconst 0, 1) := by decide +kernel
theorem dL_law_365 : decode cL_law 365 = .ok (.ireturn, 1) := by decide +kernel
theorem dL_law_366 : decode cL_law 366 = .ok (.aload_n 1, 1) := by decide +kernel
theorem dL_law_367 : decode cL_law 367 = .ok (.aload_n 0, 1) := by decide +kernel
theorem dL_law_368 : decode cL_law 368 = .ok (.iload_n 3, 1) := by decide +kernel
theorem dL_law_369 : decode cL_law 369 = .ok (.iconst 1, 1) := by decide +kernel
theorem dL_law_370 : decode cL_law 370 = .ok (.iadd, 1) := by decide +kernel
theorem dL_law_371 : decode cL_law 371 = .ok (.iaload, 1) := by decide +kernel
theorem dL_law_372 : decode cL_law 372 = .ok (.aload_n 0, 1) := by decide +kernel
theorem dL_law_373 : decode cL_law 373 = .ok (.iload_n 3, 1) := by decide +kernel
theorem dL_law_374 : decode cL_law 374 = .ok (.iconst 2, 1) := by decide +kernel
theorem dL_law_375 : decode cL_law 375 = .ok (.iadd, 1) := by decide +kernel
theorem dL_law_376 : decode cL_law 376 = .ok (.iaload, 1) := by decide +kernel
theorem dL_law_377 : decode cL_law 377 = .ok (.invokevirtual 49, 3) := by decide +kernel
theorem dL_law_380 : decode cL_law 380 = .ok (.aload_n 2, 1) := by decide +kernel
theorem dL_law_381 : decode cL_law 381 = .ok (.aload_n 0, 1) := by decide +kernel
theorem dL_law_382 : decode cL_law 382 = .ok (.iload_n 3, 1) := by decide +kernel
theorem dL_law_383 : decode cL_law 383 = .ok (.iconst 1, 1) := by decide +kernel
theorem dL_law_384 : decode cL_law 384 = .ok (.iadd, 1) := by decide +kernel
theorem dL_law_385 : decode cL_law 385 = .ok (.iaload, 1) := by decide +kernel
theorem dL_law_386 : decode cL_law 386 = .ok (.aload_n 0, 1) := by decide +kernel
theorem dL_law_387 : decode cL_law 387 = .ok (.iload_n 3, 1) := by decide +kernel
theorem dL_law_388 : decode cL_law 388 = .ok (.iconst 2, 1) := by decide +kernel
theorem dL_law_389 : decode cL_law 389 = .ok (.iadd, 1) := by decide +kernel
theorem dL_law_390 : decode cL_law 390 = .ok (.iaload, 1) := by decide +kernel
theorem dL_law_391 : decode cL_law 391 = .ok (.invokevirtual 52, 3) := by decide +kernel
theorem dL_law_394 : decode cL_law 394 = .ok (.if_icmp .eq 301, 3) := by decide +kernel
theorem dL_law_397 : decode cL_law 397 = .ok (.iconst 0, 1) := by decide +kernel
theorem dL_law_398 : decode cL_law 398 = .ok (.ireturn, 1) := by decide +kernel
theorem dL_law_399 : decode cL_law 399 = .ok (.aload_n 1, 1) := by decide +kernel
theorem dL_law_400 : decode cL_law 400 = .ok (.aload_n 0, 1) := by decide +kernel
theorem dL_law_401 : decode cL_law 401 = .ok (.iload_n 3, 1) := by decide +kernel
theorem dL_law_402 : decode cL_law 402 = .ok (.iconst 1, 1) := by decide +kernel
theorem dL_law_403 : decode cL_law 403 = .ok (.iadd, 1) := by decide +kernel
theorem dL_law_404 : decode cL_law 404 = .ok (.iaload, 1) := by decide +kernel
theorem dL_law_405 : decode cL_law 405 = .ok (.invokevirtual 53, 3) := by decide +kernel
theorem dL_law_408 : decode cL_law 408 = .ok (.aload_n 2, 1) := by decide +kernel
theorem dL_law_409 : decode cL_law 409 = .ok (.aload_n 0, 1) := by decide +kernel
theorem dL_law_410 : decode cL_law 410 = .ok (.iload_n 3, 1) := by decide +kernel
theorem dL_law_411 : decode cL_law 411 = .ok (.iconst 1, 1) := by decide +kernel
theorem dL_law_412 : decode cL_law 412 = .ok (.iadd, 1) := by decide +kernel
theorem dL_law_413 : decode cL_law 413 = .ok (.iaload, 1) := by decide +kernel
theorem dL_law_414 : decode cL_law 414 = .ok (.invokevirtual 56, 3) := by decide +kernel
theorem dL_law_417 : decode cL_law 417 = .ok (.if_icmp .eq 278, 3) := by decide +kernel
theorem dL_law_420 : decode cL_law 420 = .ok (.iconst 0, 1) := by decide +kernel
theorem dL_law_421 : decode cL_law 421 = .ok (.ireturn, 1) := by decide +kernel
theorem dL_law_422 : decode cL_law 422 = .ok (.aload_n 1, 1) := by decide +kernel
theorem dL_law_423 : decode cL_law 423 = .ok (.aload_n 0, 1) := by decide +kernel
theorem dL_law_424 : decode cL_law 424 = .ok (.iload_n 3, 1) := by decide +kernel
theorem dL_law_425 : decode cL_law 425 = .ok (.iconst 1, 1) := by decide +kernel
theorem dL_law_426 : decode cL_law 426 = .ok (.iadd, 1) := by decide +kernel
theorem dL_law_427 : decode cL_law 427 = .ok (.iaload, 1) := by decide +kernel
theorem dL_law_428 : decode cL_law 428 = .ok (.aload_n 0, 1) := by decide +kernel
theorem dL_law_429 : decode cL_law 429 = .ok (.iload_n 3, 1) := by decide +kernel
theorem dL_law_430 : decode cL_law 430 = .ok (.iconst 2, 1) := by decide +kernel
theorem dL_law_431 : decode cL_law 431 = .ok (.iadd, 1) := by decide +kernel
theorem dL_law_432 : decode cL_law 432 = .ok (.iaload, 1) := by decide +kernel
theorem dL_law_433 : decode cL_law 433 = .ok (.aload_n 0, 1) := by decide +kernel
theorem dL_law_434 : decode cL_law 434 = .ok (.iload_n 3, 1) := by decide +kernel
theorem dL_law_435 : decode cL_law 435 = .ok (.iconst 3, 1) := by decide +kernel
theorem dL_law_436 : decode cL_law 436 = .ok (.iadd, 1) := by decide +kernel
theorem dL_law_437 : decode cL_law 437 = .ok (.iaload, 1) := by decide +kernel
theorem dL_law_438 : decode cL_law 438 = .ok (.invokevirtual 57, 3) := by decide +kernel
theorem dL_law_441 : decode cL_law 441 = .ok (.aload_n 2, 1) := by decide +kernel
theorem dL_law_442 : decode cL_law 442 = .ok (.aload_n 0, 1) := by decide +kernel
theorem dL_law_443 : decode cL_law 443 = .ok (.iload_n 3, 1) := by decide +kernel
theorem dL_law_444 : decode cL_law 444 = .ok (.iconst 1, 1) := by decide +kernel
theorem dL_law_445 : decode cL_law 445 = .ok (.iadd, 1) := by decide +kernel
theorem dL_law_446 : decode cL_law 446 = .ok (.iaload, 1) := by decide +kernel
theorem dL_law_447 : decode cL_law 447 = .ok (.aload_n 0, 1) := by decide +kernel
theorem dL_law_448 : decode cL_law 448 = .ok (.iload_n 3, 1) := by decide +kernel
theorem dL_law_449 : decode cL_law 449 = .ok (.iconst 2, 1) := by decide +kernel
theorem dL_law_450 : decode cL_law 450 = .ok (.iadd, 1) := by decide +kernel
theorem dL_law_451 : decode cL_law 451 = .ok (.iaload, 1) := by decide +kernel
theorem dL_law_452 : decode cL_law 452 = .ok (.aload_n 0, 1) := by decide +kernel
theorem dL_law_453 : decode cL_law 453 = .ok (.iload_n 3, 1) := by decide +kernel
theorem dL_law_454 : decode cL_law 454 = .ok (.iconst 3, 1) := by decide +kernel
theorem dL_law_455 : decode cL_law 455 = .ok (.iadd, 1) := by decide +kernel
theorem dL_law_456 : decode cL_law 456 = .ok (.iaload, 1) := by decide +kernel
theorem dL_law_457 : decode cL_law 457 = .ok (.invokevirtual 60, 3) := by decide +kernel
theorem dL_law_460 : decode cL_law 460 = .ok (.if_icmp .eq 235, 3) := by decide +kernel
theorem dL_law_463 : decode cL_law 463 = .ok (.iconst 0, 1) := by decide +kernel
theorem dL_law_464 : decode cL_law 464 = .ok (.ireturn, 1) := by decide +kernel
theorem dL_law_465 : decode cL_law 465 = .ok (.aload_n 1, 1) := by decide +kernel
theorem dL_law_466 : decode cL_law 466 = .ok (.aload_n 0, 1) := by decide +kernel
theorem dL_law_467 : decode cL_law 467 = .ok (.iload_n 3, 1) := by decide +kernel
theorem dL_law_468 : decode cL_law 468 = .ok (.iconst 1, 1) := by decide +kernel
theorem dL_law_469 : decode cL_law 469 = .ok (.iadd, 1) := by decide +kernel
theorem dL_law_470 : decode cL_law 470 = .ok (.iaload, 1) := by decide +kernel
theorem dL_law_471 : decode cL_law 471 = .ok (.invokevirtual 61, 3) := by decide +kernel
theorem dL_law_474 : decode cL_law 474 = .ok (.aload_n 2, 1) := by decide +kernel
theorem dL_law_475 : decode cL_law 475 = .ok (.aload_n 0, 1) := by decide +kernel
theorem dL_law_476 : decode cL_law 476 = .ok (.iload_n 3, 1) := by decide +kernel
theorem dL_law_477 : decode cL_law 477 = .ok (.iconst 1, 1) := by decide +kernel
theorem dL_law_478 : decode cL_law 478 = .ok (.iadd, 1) := by decide +kernel
theorem dL_law_479 : decode cL_law 479 = .ok (.iaload, 1) := by decide +kernel
theorem dL_law_480 : decode cL_law 480 = .ok (.invokevirtual 64, 3) := by decide +kernel
theorem dL_law_483 : decode cL_law 483 = .ok (.if_icmp .eq 212, 3) := by decide +kernel
theorem dL_law_486 : decode cL_law 486 = .ok (.iconst 0, 1) := by decide +kernel
theorem dL_law_487 : decode cL_law 487 = .ok (.ireturn, 1) := by decide +kernel
theorem dL_law_488 : decode cL_law 488 = .ok (.aload_n 1, 1) := by decide +kernel
theorem dL_law_489 : decode cL_law 489 = .ok (.aload_n 0, 1) := by decide +kernel
theorem dL_law_490 : decode cL_law 490 = .ok (.iload_n 3, 1) := by decide +kernel
theorem dL_law_491 : decode cL_law 491 = .ok (.iconst 1, 1) := by decide +kernel
theorem dL_law_492 : decode cL_law 492 = .ok (.iadd, 1) := by decide +kernel
theorem dL_law_493 : decode cL_law 493 = .ok (.iaload, 1) := by decide +kernel
theorem dL_law_494 : decode cL_law 494 = .ok (.aload_n 0, 1) := by decide +kernel
theorem dL_law_495 : decode cL_law 495 = .ok (.iload_n 3, 1) := by decide +kernel
theorem dL_law_496 : decode cL_law 496 = .ok (.iconst 2, 1) := by decide +kernel
theorem dL_law_497 : decode cL_law 497 = .ok (.iadd, 1) := by decide +kernel
theorem dL_law_498 : decode cL_law 498 = .ok (.iaload, 1) := by decide +kernel
theorem dL_law_499 : decode cL_law 499 = .ok (.invokevirtual 65, 3) := by decide +kernel
theorem dL_law_502 : decode cL_law 502 = .ok (.aload_n 2, 1) := by decide +kernel
theorem dL_law_503 : decode cL_law 503 = .ok (.aload_n 0, 1) := by decide +kernel
theorem dL_law_504 : decode cL_law 504 = .ok (.iload_n 3, 1) := by decide +kernel
theorem dL_law_505 : decode cL_law 505 = .ok (.iconst 1, 1) := by decide +kernel
theorem dL_law_506 : decode cL_law 506 = .ok (.iadd, 1) := by decide +kernel
theorem dL_law_507 : decode cL_law 507 = .ok (.iaload, 1) := by decide +kernel
theorem dL_law_508 : decode cL_law 508 = .ok (.aload_n 0, 1) := by decide +kernel
theorem dL_law_509 : decode cL_law 509 = .ok (.iload_n 3, 1) := by decide +kernel
theorem dL_law_510 : decode cL_law 510 = .ok (.iconst 2, 1) := by decide +kernel
theorem dL_law_511 : decode cL_law 511 = .ok (.iadd, 1) := by decide +kernel
theorem dL_law_512 : decode cL_law 512 = .ok (.iaload, 1) := by decide +kernel
theorem dL_law_513 : decode cL_law 513 = .ok (.invokevirtual 68, 3) := by decide +kernel
theorem dL_law_516 : decode cL_law 516 = .ok (.if_icmp .eq 179, 3) := by decide +kernel
theorem dL_law_519 : decode cL_law 519 = .ok (.iconst 0, 1) := by decide +kernel
theorem dL_law_520 : decode cL_law 520 = .ok (.ireturn, 1) := by decide +kernel
theorem dL_law_521 : decode cL_law 521 = .ok (.aload_n 1, 1) := by decide +kernel
theorem dL_law_522 : decode cL_law 522 = .ok (.invokevirtual 69, 3) := by decide +kernel
theorem dL_law_525 : decode cL_law 525 = .ok (.aload_n 2, 1) := by decide +kernel
theorem dL_law_526 : decode cL_law 526 = .ok (.invokevirtual 72, 3) := by decide +kernel
theorem dL_law_529 : decode cL_law 529 = .ok (.if_icmp .eq 166, 3) := by decide +kernel
theorem dL_law_532 : decode cL_law 532 = .ok (.iconst 0, 1) := by decide +kernel
theorem dL_law_533 : decode cL_law 533 = .ok (.ireturn, 1) := by decide +kernel
theorem dL_law_534 : decode cL_law 534 = .ok (.aload_n 1, 1) := by decide +kernel
theorem dL_law_535 : decode cL_law 535 = .ok (.aload_n 0, 1) := by decide +kernel
theorem dL_law_536 : decode cL_law 536 = .ok (.iload_n 3, 1) := by decide +kernel
theorem dL_law_537 : decode cL_law 537 = .ok (.iconst 1, 1) := by decide +kernel
theorem dL_law_538 : decode cL_law 538 = .ok (.iadd, 1) := by decide +kernel
theorem dL_law_539 : decode cL_law 539 = .ok (.iaload, 1) := by decide +kernel
theorem dL_law_540 : decode cL_law 540 = .ok (.invokevirtual 73, 3) := by decide +kernel
theorem dL_law_543 : decode cL_law 543 = .ok (.aload_n 2, 1) := by decide +kernel
theorem dL_law_544 : decode cL_law 544 = .ok (.aload_n 0, 1) := by decide +kernel
theorem dL_law_545 : decode cL_law 545 = .ok (.iload_n 3, 1) := by decide +kernel
theorem dL_law_546 : decode cL_law 546 = .ok (.iconst 1, 1) := by decide +kernel
theorem dL_law_547 : decode cL_law 547 = .ok (.iadd, 1) := by decide +kernel
theorem dL_law_548 : decode cL_law 548 = .ok (.iaload, 1) := by decide +kernel
theorem dL_law_549 : decode cL_law 549 = .ok (.invokevirtual 76, 3) := by decide +kernel
theorem dL_law_552 : decode cL_law 552 = .ok (.if_icmp .eq 143, 3) := by decide +kernel
theorem dL_law_555 : decode cL_law 555 = .ok (.iconst 0, 1) := by decide +kernel
theorem dL_law_556 : decode cL_law 556 = .ok (.ireturn, 1) := by decide +kernel
theorem dL_law_557 : decode cL_law 557 = .ok (.aload_n 1, 1) := by decide +kernel
theorem dL_law_558 : decode cL_law 558 = .ok (.aload_n 0, 1) := by decide +kernel
theorem dL_law_559 : decode cL_law 559 = .ok (.iload_n 3, 1) := by decide +kernel
theorem dL_law_560 : decode cL_law 560 = .ok (.iconst 1, 1) := by decide +kernel
theorem dL_law_561 : decode cL_law 561 = .ok (.iadd, 1) := by decide +kernel
theorem dL_law_562 : decode cL_law 562 = .ok (.iaload, 1) := by decide +kernel
theorem dL_law_563 : decode cL_law 563 = .ok (.i2l, 1) := by decide +kernel
theorem dL_law_564 : decode cL_law 564 = .ok (.bipush 32, 2) := by decide +kernel
theorem dL_law_566 : decode cL_law 566 = .ok (.lshl, 1) := by decide +kernel
theorem dL_law_567 : decode cL_law 567 = .ok (.aload_n 0, 1) := by decide +kernel
theorem dL_law_568 : decode cL_law 568 = .ok (.iload_n 3, 1) := by decide +kernel
theorem dL_law_569 : decode cL_law 569 = .ok (.iconst 2, 1) := by decide +kernel
theorem dL_law_570 : decode cL_law 570 = .ok (.iadd, 1) := by decide +kernel
theorem dL_law_571 : decode cL_law 571 = .ok (.iaload, 1) := by decide +kernel
theorem dL_law_572 : decode cL_law 572 = .ok (.i2l, 1) := by decide +kernel
theorem dL_law_573 : decode cL_law 573 = .ok (.ldc2_w 77, 3) := by decide +kernel
theorem dL_law_576 : decode cL_law 576 = .ok (.land, 1) := by decide +kernel
theorem dL_law_577 : decode cL_law 577 = .ok (.lor, 1) := by decide +kernel
theorem dL_law_578 : decode cL_law 578 = .ok (.invokevirtual 79, 3) := by decide +kernel
theorem dL_law_581 : decode cL_law 581 = .ok (.aload_n 2, 1) := by decide +kernel
theorem dL_law_582 : decode cL_law 582 = .ok (.aload_n 0, 1) := by decide +kernel
theorem dL_law_583 : decode cL_law 583 = .ok (.iload_n 3, 1) := by decide +kernel
theorem dL_law_584 : decode cL_law 584 = .ok (.iconst 1, 1) := by decide +kernel
theorem dL_law_585 : decode cL_law 585 = .ok (.iadd, 1) := by decide +kernel
theorem dL_law_586 : decode cL_law 586 = .ok (.iaload, 1) := by decide +kernel
theorem dL_law_587 : decode cL_law 587 = .ok (.i2l, 1) := by decide +kernel
theorem dL_law_588 : decode cL_law 588 = .ok (.bipush 32, 2) := by decide +kernel
theorem dL_law_590 : decode cL_law 590 = .ok (.lshl, 1) := by decide +kernel
theorem dL_law_591 : decode cL_law 591 = .ok (.aload_n 0, 1) := by decide +kernel
theorem dL_law_592 : decode cL_law 592 = .ok (.iload_n 3, 1) := by decide +kernel
theorem dL_law_593 : decode cL_law 593 = .ok (.iconst 2, 1) := by decide +kernel
theorem dL_law_594 : decode cL_law 594 = .ok (.iadd, 1) := by decide +kernel
theorem dL_law_595 : decode cL_law 595 = .ok (.iaload, 1) := by decide +kernel
theorem dL_law_596 : decode cL_law 596 = .ok (.i2l, 1) := by decide +kernel
theorem dL_law_597 : decode cL_law 597 = .ok (.ldc2_w 77, 3) := by decide +kernel
theorem dL_law_600 : decode cL_law 600 = .ok (.land, 1) := by decide +kernel
theorem dL_law_601 : decode cL_law 601 = .ok (.lor, 1) := by decide +kernel
theorem dL_law_602 : decode cL_law 602 = .ok (.invokevirtual 83, 3) := by decide +kernel
theorem dL_law_605 : decode cL_law 605 = .ok (.if_icmp .eq 90, 3) := by decide +kernel
theorem dL_law_608 : decode cL_law 608 = .ok (.iconst 0, 1) := by decide +kernel
theorem dL_law_609 : decode cL_law 609 = .ok (.ireturn, 1) := by decide +kernel
theorem dL_law_610 : decode cL_law 610 = .ok (.aload_n 1, 1) := by decide +kernel
theorem dL_law_611 : decode cL_law 611 = .ok (.invokevirtual 84, 3) := by decide +kernel
theorem dL_law_614 : decode cL_law 614 = .ok (.aload_n 2, 1) := by decide +kernel
theorem dL_law_615 : decode cL_law 615 = .ok (.invokevirtual 87, 3) := by decide +kernel
theorem dL_law_618 : decode cL_law 618 = .ok (.if_icmp .eq 77, 3) := by decide +kernel
theorem dL_law_621 : decode cL_law 621 = .ok (.iconst 0, 1) := by decide +kernel
theorem dL_law_622 : decode cL_law 622 = .ok (.ireturn, 1) := by decide +kernel
theorem dL_law_623 : decode cL_law 623 = .ok (.aload_n 1, 1) := by decide +kernel
theorem dL_law_624 : decode cL_law 624 = .ok (.invokevirtual 88, 3) := by decide +kernel
theorem dL_law_627 : decode cL_law 627 = .ok (.aload_n 2, 1) := by decide +kernel
theorem dL_law_628 : decode cL_law 628 = .ok (.invokevirtual 91, 3) := by decide +kernel
theorem dL_law_631 : decode cL_law 631 = .ok (.if_icmp .eq 64, 3) := by decide +kernel
theorem dL_law_634 : decode cL_law 634 = .ok (.iconst 0, 1) := by decide +kernel
theorem dL_law_635 : decode cL_law 635 = .ok (.ireturn, 1) := by decide +kernel
theorem dL_law_636 : decode cL_law 636 = .ok (.aload_n 1, 1) := by decide +kernel
theorem dL_law_637 : decode cL_law 637 = .ok (.invokevirtual 92, 3) := by decide +kernel
theorem dL_law_640 : decode cL_law 640 = .ok (.aload_n 2, 1) := by decide +kernel
theorem dL_law_641 : decode cL_law 641 = .ok (.invokevirtual 95, 3) := by decide +kernel
theorem dL_law_644 : decode cL_law 644 = .ok (.if_icmp .eq 51, 3) := by decide +kernel
theorem dL_law_647 : decode cL_law 647 = .ok (.iconst 0, 1) := by decide +kernel
theorem dL_law_648 : decode cL_law 648 = .ok (.ireturn, 1) := by decide +kernel
theorem dL_law_649 : decode cL_law 649 = .ok (.aload_n 1, 1) := by decide +kernel
theorem dL_law_650 : decode cL_law 650 = .ok (.aload_n 0, 1) := by decide +kernel
theorem dL_law_651 : decode cL_law 651 = .ok (.iload_n 3, 1) := by decide +kernel
theorem dL_law_652 : decode cL_law 652 = .ok (.iconst 1, 1) := by decide +kernel
theorem dL_law_653 : decode cL_law 653 = .ok (.iadd, 1) := by decide +kernel
theorem dL_law_654 : decode cL_law 654 = .ok (.iaload, 1) := by decide +kernel
theorem dL_law_655 : decode cL_law 655 = .ok (.invokevirtual 96, 3) := by decide +kernel
theorem dL_law_658 : decode cL_law 658 = .ok (.aload_n 2, 1) := by decide +kernel
theorem dL_law_659 : decode cL_law 659 = .ok (.aload_n 0, 1) := by decide +kernel
theorem dL_law_660 : decode cL_law 660 = .ok (.iload_n 3, 1) := by decide +kernel
theorem dL_law_661 : decode cL_law 661 = .ok (.iconst 1, 1) := by decide +kernel
theorem dL_law_662 : decode cL_law 662 = .ok (.iadd, 1) := by decide +kernel
theorem dL_law_663 : decode cL_law 663 = .ok (.iaload, 1) := by decide +kernel
theorem dL_law_664 : decode cL_law 664 = .ok (.invokevirtual 99, 3) := by decide +kernel
theorem dL_law_667 : decode cL_law 667 = .ok (.if_icmp .eq 28, 3) := by decide +kernel
theorem dL_law_670 : decode cL_law 670 = .ok (.iconst 0, 1) := by decide +kernel
theorem dL_law_671 : decode cL_law 671 = .ok (.ireturn, 1) := by decide +kernel
theorem dL_law_672 : decode cL_law 672 = .ok (.aload_n 1, 1) := by decide +kernel
theorem dL_law_673 : decode cL_law 673 = .ok (.aload_n 0, 1) := by decide +kernel
theorem dL_law_674 : decode cL_law 674 = .ok (.iload_n 3, 1) := by decide +kernel
theorem dL_law_675 : decode cL_law 675 = .ok (.iconst 1, 1) := by decide +kernel
theorem dL_law_676 : decode cL_law 676 = .ok (.iadd, 1) := by decide +kernel
theorem dL_law_677 : decode cL_law 677 = .ok (.iaload, 1) := by decide +kernel
theorem dL_law_678 : decode cL_law 678 = .ok (.invokevirtual 100, 3) := by decide +kernel
theorem dL_law_681 : decode cL_law 681 = .ok (.aload_n 2, 1) := by decide +kernel
theorem dL_law_682 : decode cL_law 682 = .ok (.aload_n 0, 1) := by decide +kernel
theorem dL_law_683 : decode cL_law 683 = .ok (.iload_n 3, 1) := by decide +kernel
theorem dL_law_684 : decode cL_law 684 = .ok (.iconst 1, 1) := by decide +kernel
theorem dL_law_685 : decode cL_law 685 = .ok (.iadd, 1) := by decide +kernel
theorem dL_law_686 : decode cL_law 686 = .ok (.iaload, 1) := by decide +kernel
theorem dL_law_687 : decode cL_law 687 = .ok (.invokevirtual 103, 3) := by decide +kernel
theorem dL_law_690 : decode cL_law 690 = .ok (.if_icmp .eq 5, 3) := by decide +kernel
theorem dL_law_693 : decode cL_law 693 = .ok (.iconst 0, 1) := by decide +kernel
theorem dL_law_694 : decode cL_law 694 = .ok (.ireturn, 1) := by decide +kernel
theorem dL_law_695 : decode cL_law 695 = .ok (.iinc 3 4, 3) := by decide +kernel
theorem dL_law_698 : decode cL_law 698 = .ok (.goto (-680), 3) := by decide +kernel
theorem dL_law_701 : decode cL_law 701 = .ok (.iconst 1, 1) := by decide +kernel
theorem dL_law_702 : decode cL_law 702 = .ok (.ireturn, 1) := by decide +kernel
end
section
section JMS
/-- an array of references to objects in a row -/
def jm_lst (b s n : Nat) : Nat → Option Nat := fun j => if j < n then some (b + s * j) else none
def jm_shHeard (h : Nat) : List jm_Sh := [.inl (3, [some (some (h + 1)), some (some (h + 2)), none]), .inr (0, 3, none), .inr (0, 32, none)]
def jm_shShot (t : Nat) : List jm_Sh := [.inl (6, [some (some (t + 1)), none, none, none, none, none]), .inr (0, 4, none)]
def jm_shShots (u : Nat) : List jm_Sh := [.inl (7, [some (some (u + 1)), some (some (u + 2)), none]), .inr (4, 8, some (jm_lst (u + 3) 2 8)), .inr (0, 32, none)] ++ (jm_shShot (u + 3) ++ jm_shShot (u + 5) ++ jm_shShot (u + 7) ++ jm_shShot (u + 9) ++ jm_shShot (u + 11) ++ jm_shShot (u + 13) ++ jm_shShot (u + 15) ++ jm_shShot (u + 17))
/-- the class's cells, and the reference's, once both are made -/
def jm_GA : List jm_Sh := [.inl (8, [some (some 1), some (some 4), some (some 24), some (some 25), some (some 26), some (some 29), some (some 32), some (some 38), some (some 57), none])] ++ jm_shHeard 1 ++ [.inl (4, [some (some 5), none, none]), .inr (3, 6, some (jm_lst 6 3 6))] ++ jm_shHeard 6 ++ jm_shHeard 9 ++ jm_shHeard 12 ++ jm_shHeard 15 ++ jm_shHeard 18 ++ jm_shHeard 21 ++ [.inr (3, 2, some (jm_lst 76 3 2)), .inr (2, 2, none)] ++ [.inl (5, [some (some 27), some (some 28), none, none, none, none]), .inr (1, 80, none), .inr (0, 20, none)] ++ [.inl (2, [some (some 30), some (some 31), none]), .inr (0, 1681, none), .inr (0, 1681, none)] ++ [.inl (0, [some (some 33), some (some 35), some (some 36), some (some 37)]), .inl (1, [some (some 34), none, none, none]), .inr (0, 4, none), .inr (0, 8, none), .inr (0, 4, none), .inr (0, 4, none)] ++ jm_shShots 38 ++ jm_shShots 57 ++ jm_shHeard 76 ++ jm_shHeard 79
def jm_GB : List jm_Sh := [.inl (9, [some (some 83), some (some 84), some (some 85), none, some (some 86), some (some 87), some (some 88), none, some (some 89), some (some 90), none, none, some (some 91), some (some 92), some (some 93), some (some 94), some (some 95), some (some 96), some (some 97), some (some 98), none, none, none, none, none, none, none]), .inr (0, 68, none), .inr (0, 68, none), .inr (0, 408, none), .inr (0, 136, none), .inr (0, 2, none), .inr (0, 80, none), .inr (0, 1681, none), .inr (0, 6724, none), .inr (0, 32, none), .inr (0, 8, none), .inr (0, 8, none), .inr (0, 8, none), .inr (0, 32, none), .inr (0, 4, none), .inr (0, 8, none), .inr (0, 4, none)]
def jm_GAM : List jm_Sh := jm_GA ++ jm_GB
def jm_Heard (h : Nat) : Prop := jm_GAM[h]? = some (.inl (3, [some (some (h + 1)), some (some (h + 2)), none])) ∧ jm_GAM[h + 1]? = some (.inr (0, 3, none)) ∧ jm_GAM[h + 2]? = some (.inr (0, 32, none))
def jm_Shot (t : Nat) : Prop := jm_GAM[t]? = some (.inl (6, [some (some (t + 1)), none, none, none, none, none])) ∧ jm_GAM[t + 1]? = some (.inr (0, 4, none))
def jm_Shots (u : Nat) : Prop := jm_GAM[u]? = some (.inl (7, [some (some (u + 1)), some (some (u + 2)), none])) ∧ jm_GAM[u + 1]? = some (.inr (4, 8, some (jm_lst (u + 3) 2 8))) ∧ jm_GAM[u + 2]? = some (.inr (0, 32, none)) ∧ ∀ j : Nat, j < 8 → jm_Shot (u + 3 + 2 * j)
theorem jm_heard1 : jm_Heard 1 := ⟨rfl, rfl, rfl⟩
theorem jm_lt6 {P : Nat → Prop} (h0 : P 0) (h1 : P 1) (h2 : P 2) (h3 : P 3) (h4 : P 4) (h5 : P 5) {j : Nat} (h : j < 6) : P j := by
  rcases (show j = 0 ∨ j = 1 ∨ j = 2 ∨ j = 3 ∨ j = 4 ∨ j = 5 by omega) with rfl | rfl | rfl | rfl | rfl | rfl <;> assumption
theorem jm_lt8 {P : Nat → Prop} (h0 : P 0) (h1 : P 1) (h2 : P 2) (h3 : P 3) (h4 : P 4) (h5 : P 5) (h6 : P 6) (h7 : P 7) (j : Nat) (h : j < 8) : P j := by
  rcases (show j = 0 ∨ j = 1 ∨ j = 2 ∨ j = 3 ∨ j = 4 ∨ j = 5 ∨ j = 6 ∨ j = 7 by omega) with rfl | rfl | rfl | rfl | rfl | rfl | rfl | rfl <;> assumption
theorem jm_states_heard {j : Nat} (h : j < 6) : jm_Heard (6 + 3 * j) := jm_lt6 (P := fun j => jm_Heard (6 + 3 * j)) ⟨rfl, rfl, rfl⟩ ⟨rfl, rfl, rfl⟩ ⟨rfl, rfl, rfl⟩ ⟨rfl, rfl, rfl⟩ ⟨rfl, rfl, rfl⟩ ⟨rfl, rfl, rfl⟩ h
theorem jm_slots_heard {j : Nat} (h : j < 2) : jm_Heard (76 + 3 * j) := by
  rcases (show j = 0 ∨ j = 1 by omega) with rfl | rfl
  · exact ⟨rfl, rfl, rfl⟩
  · exact ⟨rfl, rfl, rfl⟩
theorem jm_shots38 : jm_Shots 38 := ⟨rfl, rfl, rfl, jm_lt8 ⟨rfl, rfl⟩ ⟨rfl, rfl⟩ ⟨rfl, rfl⟩ ⟨rfl, rfl⟩ ⟨rfl, rfl⟩ ⟨rfl, rfl⟩ ⟨rfl, rfl⟩ ⟨rfl, rfl⟩⟩
theorem jm_shots57 : jm_Shots 57 := ⟨rfl, rfl, rfl, jm_lt8 ⟨rfl, rfl⟩ ⟨rfl, rfl⟩ ⟨rfl, rfl⟩ ⟨rfl, rfl⟩ ⟨rfl, rfl⟩ ⟨rfl, rfl⟩ ⟨rfl, rfl⟩ ⟨rfl, rfl⟩⟩
theorem jm_inlt {i : Int32} {n : Nat} (h : vp_in i n) : i.toNatClampNeg < n := Nat.not_le.mp fun q => h (Or.inr q)
/-- the judgement over the steady world: nothing is made -/
abbrev jS (g : jm_G) (ad : Nat → Nat) (M : jm_M) (κ : jm_K) (pc : Nat) (ls : List (Option Value)) (st : List Value) (μ : Nat → Nat → Int32) : Prop := jm_R g M κ 0 0 pc ls st (jm_GAM, ad, μ)
abbrev jQ (ad : Nat → Nat) (P : Option Value → (Nat → Nat → Int32) → Prop) : Option Value → jm_W → Prop := fun v w' => ∃ μ', w' = (jm_GAM, ad, μ') ∧ P v μ'
def jD (g : jm_G) (ad : Nat → Nat) (M : jm_M) (av : List Value) (μ : Nat → Nat → Int32) (P : Option Value → (Nat → Nat → Int32) → Prop) : Prop := jm_Cp g M av (jm_GAM, ad, μ) (jQ ad P)
def jE (g : jm_G) (ad : Nat → Nat) (M : jm_M) (P : Option Value → (Nat → Nat → Int32) → Prop) (κ : jm_K) : Prop := jm_E g M (jQ ad P) κ
section
variable {g : jm_G} {ad : Nat → Nat} {M M2 : jm_M} {κ : jm_K} {pc : Nat} {ls : List (Option Value)} {st : List Value} {μ : Nat → Nat → Int32} {P : Option Value → (Nat → Nat → Int32) → Prop}
theorem jd_intro {av : List Value} (ls : List (Option Value)) (hy : plainName M.1.cls = true) (hav : jm_ok0 av M.2.2.1 = true) (hls : jm_l0 av ++ List.replicate (M.2.2.1 - (jm_l0 av).length) none = ls) (body : ∀ κ : jm_K, jE g ad M P κ → jS g ad M κ 0 ls [] μ) : jD g ad M av μ P := jm_intro ls hy hav hls body
theorem js_drop (i : Nat) (ls' : List (Option Value)) (h : ls.set i none = ls') {n k : Nat} {w : jm_W} (kk : jm_R g M κ k n pc ls' st w) : jm_R g M κ k n pc ls st w := by
  obtain ⟨p, e, s, m, args, below, meth, c, A, Q⟩ := κ
  intro C H locs la hP hD hS hl
  subst h
  refine kk C H locs la hP hD hS (jm_has hl (fun q hq => ?_))
  obtain ⟨v, h1, h2⟩ := jm_ls_in.mp hq
  refine jm_ls_in.mpr ⟨v, ?_, h2⟩
  by_cases hi : i = q.1
  · rw [← hi, List.getElem?_set_self'] at h1
    cases hz : ls[i]? with
    | none => simp [hz] at h1
    | some z => simp [hz] at h1
  · rwa [List.getElem?_set_ne hi] at h1
theorem js_iret {v : Int32} (hE : jE g ad M P κ) (hret : M.2.2.2.1 = some .int) (hdg : decode M.2.1 pc = .ok (.ireturn, 1)) (hkn : decide (0 ≤ M.2.2.2.2.cells ∧ 0 ≤ M.2.2.2.2.slots) = true) (hp : P (some (.int v)) μ) : jS g ad M κ pc ls [.int v] μ := jr_iret hE hret hdg hkn ⟨μ, rfl, hp⟩
theorem js_zret {v : Int32} (hE : jE g ad M P κ) (hret : M.2.2.2.1 = some .boolean) (hdg : decode M.2.1 pc = .ok (.ireturn, 1)) (hkn : decide (0 ≤ M.2.2.2.2.cells ∧ 0 ≤ M.2.2.2.2.slots) = true) (hv : v = 0 ∨ v = 1) (hp : P (some (.int v)) μ) : jS g ad M κ pc ls [.int v] μ := jr_zret hE hret hdg hkn hv ⟨μ, rfl, hp⟩
theorem js_vret (hE : jE g ad M P κ) (hret : M.2.2.2.1 = none) (hdg : decode M.2.1 pc = .ok (.return_, 1)) (hkn : decide (0 ≤ M.2.2.2.2.cells ∧ 0 ≤ M.2.2.2.2.slots) = true) (hp : P none μ) : jS g ad M κ pc ls [] μ := jr_vret hE hret hdg hkn ⟨μ, rfl, hp⟩
theorem js_aret {q : Nat} {rt : FieldType} (hE : jE g ad M P κ) (hret : M.2.2.2.1 = some rt) (hrt : (∃ nm, rt = .object nm) ∨ ∃ t, rt = .array t) (hdg : decode M.2.1 pc = .ok (.areturn, 1)) (hkn : decide (0 ≤ M.2.2.2.2.cells ∧ 0 ≤ M.2.2.2.2.slots) = true) (hp : P (some (.ref q)) μ) : jS g ad M κ pc ls [.ref q] μ := jr_aret hE hret hrt hdg hkn ⟨μ, rfl, hp⟩
/-- a contract says less, if less is asked -/
theorem jm_Cp.mono {g : jm_G} {M : jm_M} {av : List Value} {w : jm_W} {P P' : Option Value → jm_W → Prop} (h : jm_Cp g M av w P) (hp : ∀ v w', P v w' → P' v w') : jm_Cp g M av w P' := by
  intro sz
  have h1 := h sz
  intro p e ha hc hk s m args below hf happ hpre hK
  obtain ⟨t, o, h2, h3, h4, ⟨⟨⟨v, w', e1, e2, e3⟩, e4⟩, e5⟩⟩ := h1 p e ha hc hk s m args below hf happ hpre hK
  exact ⟨t, o, h2, h3, h4, ⟨⟨⟨v, w', e1, hp _ _ e2, e3⟩, e4⟩, e5⟩⟩
theorem js_callV {idx np q : Nat} {st0 : List Value} (As : List Value) {ci : Nat} {fs : List (Option (Option Nat))} (hL : jm_LV M.1.cls idx M2 np) (hfit : jm_fit M M2 = true) (hdg : decode M.2.1 pc = .ok (.invokevirtual idx, 3)) (hg : jm_GAM[q]? = some (.inl (ci, fs))) (hci : (vwCl[ci]?).map (fun r => r.1) = some M2.1.cls) (hst : st0 = As.reverse ++ .ref q :: st) (hnp : As.length = np) (hlow : jm_low st = true) (hz : M2.2.2.2.2.cells = 0 ∧ M2.2.2.2.2.slots = 0 := by exact ⟨rfl, rfl⟩)
    (kk : jD g ad M2 (.ref q :: As) μ (fun v μ' => jS g ad M κ (pc + 3) ls (jm_ps v st) μ')) : jS g ad M κ pc ls st0 μ := by
  refine jr_callV (w := (jm_GAM, ad, μ)) As hL hfit hdg hg hci hst hnp hlow (by rw [hz.1, hz.2]; simp) (jm_Cp.mono kk (fun v w' hw => ?_))
  obtain ⟨μ', rfl, h⟩ := hw
  refine ⟨rfl, ?_⟩
  rw [hz.1, hz.2]
  exact h
theorem js_callS {idx np : Nat} {st0 : List Value} (As : List Value) (hL : jm_LS M.1.cls idx M2 np) (hfit : jm_fit M M2 = true) (hdg : decode M.2.1 pc = .ok (.invokestatic idx, 3)) (hst : st0 = As.reverse ++ st) (hnp : As.length = np) (hlow : jm_low st = true) (hz : M2.2.2.2.2.cells = 0 ∧ M2.2.2.2.2.slots = 0 := by exact ⟨rfl, rfl⟩)
    (kk : jD g ad M2 As μ (fun v μ' => jS g ad M κ (pc + 3) ls (jm_ps v st) μ')) : jS g ad M κ pc ls st0 μ := by
  refine jr_callS (w := (jm_GAM, ad, μ)) As hL hfit hdg hst hnp hlow (by rw [hz.1, hz.2]; simp) (jm_Cp.mono kk (fun v w' hw => ?_))
  obtain ⟨μ', rfl, h⟩ := hw
  refine ⟨rfl, ?_⟩
  rw [hz.1, hz.2]
  exact h
theorem js_callNS {idx np : Nat} {st0 : List Value} (As : List Value) (hL : jm_LNS M.1.cls idx M2 np) (hfit : jm_fit M M2 = true) (hdg : decode M.2.1 pc = .ok (.invokestatic idx, 3)) (hst : st0 = As.reverse ++ st) (hnp : As.length = np) (hlow : jm_low st = true) (hz : M2.2.2.2.2.cells = 0 ∧ M2.2.2.2.2.slots = 0 := by exact ⟨rfl, rfl⟩)
    (kk : jD g ad M2 As μ (fun v μ' => jS g ad M κ (pc + 3) ls (jm_ps v st) μ')) : jS g ad M κ pc ls st0 μ := by
  refine jr_callNS (w := (jm_GAM, ad, μ)) As hL hfit hdg hst hnp hlow (by rw [hz.1, hz.2]; simp) (jm_Cp.mono kk (fun v w' hw => ?_))
  obtain ⟨μ', rfl, h⟩ := hw
  refine ⟨rfl, ?_⟩
  rw [hz.1, hz.2]
  exact h
end
section
variable {g : jm_G} {M : jm_M} {κ : jm_K} {k n pc : Nat} {ls : List (Option Value)} {st : List Value} {w : jm_W}
theorem jr_ialdn {q : Nat} {len : Nat} {i : Int32} (j : Nat) (hdg : decode M.2.1 pc = .ok (.iaload, 1)) (hg : w.1[q]? = some (.inr (0, len, none))) (hi : vp_in i len) (hj : i.toNatClampNeg = j) (kk : jm_R g M κ k n (pc + 1) ls (.int (w.2.2 q j) :: st) w) : jm_R g M κ k n pc ls (.int i :: .ref q :: st) w := by
  subst hj; exact jr_iald hdg hg hi kk
theorem jr_caldn {q : Nat} {len : Nat} {i : Int32} (j : Nat) (hdg : decode M.2.1 pc = .ok (.caload, 1)) (hg : w.1[q]? = some (.inr (1, len, none))) (hi : vp_in i len) (hj : i.toNatClampNeg = j) (kk : jm_R g M κ k n (pc + 1) ls (.int (w.2.2 q j) :: st) w) : jm_R g M κ k n pc ls (.int i :: .ref q :: st) w := by
  subst hj; exact jr_cald hdg hg hi kk
theorem jr_zaldn {q : Nat} {len : Nat} {i : Int32} (j : Nat) (hdg : decode M.2.1 pc = .ok (.baload, 1)) (hg : w.1[q]? = some (.inr (2, len, none))) (hi : vp_in i len) (hj : i.toNatClampNeg = j) (kk : jm_R g M κ k n (pc + 1) ls (.int (w.2.2 q j) :: st) w) : jm_R g M κ k n pc ls (.int i :: .ref q :: st) w := by
  subst hj; exact jr_zald hdg hg hi kk
theorem jr_iastn {q : Nat} {len : Nat} {i x : Int32} {Γ : List jm_Sh} {ad : Nat → Nat} {μ : Nat → Nat → Int32} (j : Nat) (hdg : decode M.2.1 pc = .ok (.iastore, 1)) (hg : Γ[q]? = some (.inr (0, len, none))) (hi : vp_in i len) (hj : i.toNatClampNeg = j) (kk : jm_R g M κ k n (pc + 1) ls st (Γ, ad, jm_st μ q j x)) : jm_R g M κ k n pc ls (.int x :: .int i :: .ref q :: st) (Γ, ad, μ) := by
  subst hj; exact jr_iast hdg hg hi kk
theorem jr_castn {q : Nat} {len : Nat} {i x : Int32} {Γ : List jm_Sh} {ad : Nat → Nat} {μ : Nat → Nat → Int32} (j : Nat) (hdg : decode M.2.1 pc = .ok (.castore, 1)) (hg : Γ[q]? = some (.inr (1, len, none))) (hi : vp_in i len) (hj : i.toNatClampNeg = j) (kk : jm_R g M κ k n (pc + 1) ls st (Γ, ad, jm_st μ q j (vp_nar .char x))) : jm_R g M κ k n pc ls (.int x :: .int i :: .ref q :: st) (Γ, ad, μ) := by
  subst hj; exact jr_cast hdg hg hi kk
theorem jr_zastn {q : Nat} {len : Nat} {i x : Int32} {Γ : List jm_Sh} {ad : Nat → Nat} {μ : Nat → Nat → Int32} (j : Nat) (hdg : decode M.2.1 pc = .ok (.bastore, 1)) (hg : Γ[q]? = some (.inr (2, len, none))) (hi : vp_in i len) (hj : i.toNatClampNeg = j) (kk : jm_R g M κ k n (pc + 1) ls st (Γ, ad, jm_st μ q j (vp_nar .boolean x))) : jm_R g M κ k n pc ls (.int x :: .int i :: .ref q :: st) (Γ, ad, μ) := by
  subst hj; exact jr_zast hdg hg hi kk
end
end JMS
end
section
section
set_option maxRecDepth 100000 in
set_option maxHeartbeats 4000000 in
theorem sX3_isPulse_0 {g : jm_G} {ad : Nat → Nat} {κ : jm_K} {P : Option Value → (Nat → Nat → Int32) → Prop} (hE : jE g ad m_X3_isPulse P κ) {μ : Nat → Nat → Int32} (q : Nat) (hq : jm_Heard q) (p1 : Int32)
    (h : ((p1 < 0 →
    P (some (.int (0 : Int32))) μ) ∧
    (¬ p1 < 0 →
    (((μ q 2) ≤ p1 →
    P (some (.int (0 : Int32))) μ) ∧
    (¬ (μ q 2) ≤ p1 →
    P (some (.int (1 : Int32))) μ))))) :
    jS g ad m_X3_isPulse κ 0 [some (.ref q), some (.int p1)] [] μ := by
  refine jr_iload_n dX3_isPulse_0 rfl ?_
  obtain ⟨hA, hB⟩ := h
  refine jr_if_lt 16 dX3_isPulse_1 rfl (fun c => ?_) (fun c => ?_)
  · have h := hA c
    refine jr_iconst (0 : Int32) dX3_isPulse_16 (by decide) ?_
    exact js_zret hE rfl dX3_isPulse_17 rfl (by decide) h
  · have h := hB c
    refine jr_iload_n dX3_isPulse_4 rfl ?_
    refine jr_aload_n dX3_isPulse_5 rfl ?_
    refine jr_get 3 2 jf_RX3_18 dX3_isPulse_6 hq.1 rfl (.int (μ q 2)) rfl ?_
    obtain ⟨hA, hB⟩ := h
    refine jr_icmp_ge 16 dX3_isPulse_9 rfl (fun c => ?_) (fun c => ?_)
    · have h := hA c
      refine jr_iconst (0 : Int32) dX3_isPulse_16 (by decide) ?_
      exact js_zret hE rfl dX3_isPulse_17 rfl (by decide) h
    · have h := hB c
      refine jr_iconst (1 : Int32) dX3_isPulse_12 (by decide) ?_
      refine jr_goto 17 dX3_isPulse_13 rfl ?_
      exact js_zret hE rfl dX3_isPulse_17 rfl (by decide) h

set_option maxRecDepth 100000 in
set_option maxHeartbeats 4000000 in
theorem sX3_earOf_0 {g : jm_G} {ad : Nat → Nat} {κ : jm_K} {P : Option Value → (Nat → Nat → Int32) → Prop} (hE : jE g ad m_X3_earOf P κ) {μ : Nat → Nat → Int32} (q : Nat) (hq : jm_Heard q) (p1 : Int32)
    (h : vp_in p1 32 ∧
    P (some (.int ((μ (q + 2) p1.toNatClampNeg) - (μ (q + 2) p1.toNatClampNeg) / (4 : Int32) * (4 : Int32)))) μ) :
    jS g ad m_X3_earOf κ 0 [some (.ref q), some (.int p1)] [] μ := by
  refine jr_aload_n dX3_earOf_0 rfl ?_
  refine jr_get 3 1 jf_RX3_15 dX3_earOf_1 hq.1 rfl (.ref (q + 2)) rfl ?_
  refine jr_iload_n dX3_earOf_4 rfl ?_
  obtain ⟨o1, h⟩ := h
  refine jr_ialdn _ dX3_earOf_5 hq.2.2 o1 rfl ?_
  refine jr_iconst (4 : Int32) dX3_earOf_6 (by decide) ?_
  refine jr_irem dX3_earOf_7 (by decide) ?_
  exact js_iret hE rfl dX3_earOf_8 rfl h

set_option maxRecDepth 100000 in
set_option maxHeartbeats 4000000 in
theorem sX3_timeOf_0 {g : jm_G} {ad : Nat → Nat} {κ : jm_K} {P : Option Value → (Nat → Nat → Int32) → Prop} (hE : jE g ad m_X3_timeOf P κ) {μ : Nat → Nat → Int32} (q : Nat) (hq : jm_Heard q) (p1 : Int32)
    (h : vp_in p1 32 ∧
    P (some (.int ((μ (q + 2) p1.toNatClampNeg) / (4 : Int32)))) μ) :
    jS g ad m_X3_timeOf κ 0 [some (.ref q), some (.int p1)] [] μ := by
  refine jr_aload_n dX3_timeOf_0 rfl ?_
  refine jr_get 3 1 jf_RX3_15 dX3_timeOf_1 hq.1 rfl (.ref (q + 2)) rfl ?_
  refine jr_iload_n dX3_timeOf_4 rfl ?_
  obtain ⟨o1, h⟩ := h
  refine jr_ialdn _ dX3_timeOf_5 hq.2.2 o1 rfl ?_
  refine jr_iconst (4 : Int32) dX3_timeOf_6 (by decide) ?_
  refine jr_idiv dX3_timeOf_7 (by decide) ?_
  exact js_iret hE rfl dX3_timeOf_8 rfl h

set_option maxRecDepth 100000 in
set_option maxHeartbeats 4000000 in
theorem sX3_has_0 {g : jm_G} {ad : Nat → Nat} {κ : jm_K} {P : Option Value → (Nat → Nat → Int32) → Prop} (hE : jE g ad m_X3_has P κ) {μ : Nat → Nat → Int32} (q : Nat) (hq : jm_Heard q) (p1 : Int32)
    (h : jD g ad m_X3_placeOf [.ref q, .int p1] μ (fun v μ' => jS g ad m_X3_has κ 5 [some (.ref q), some (.int p1), none] (jm_ps v []) μ')) :
    jS g ad m_X3_has κ 0 [some (.ref q), some (.int p1), none] [] μ := by
  refine jr_aload_n dX3_has_0 rfl ?_
  refine jr_iload_n dX3_has_1 rfl ?_
  refine js_callV (st := []) [.int p1] jc_RX3_22 rfl dX3_has_2 hq.1 rfl rfl rfl rfl (kk := ?_)
  exact h

set_option maxRecDepth 100000 in
set_option maxHeartbeats 4000000 in
theorem sX3_has_5 {g : jm_G} {ad : Nat → Nat} {κ : jm_K} {P : Option Value → (Nat → Nat → Int32) → Prop} (hE : jE g ad m_X3_has P κ) {μ : Nat → Nat → Int32} (q : Nat) (hq : jm_Heard q) (x1 : Int32) (r : Int32)
    (h : (((μ q 2) ≤ r →
    P (some (.int (0 : Int32))) μ) ∧
    (¬ (μ q 2) ≤ r →
    vp_in r 32 ∧
    ((¬ (μ (q + 2) r.toNatClampNeg) = x1 →
    P (some (.int (0 : Int32))) μ) ∧
    ((μ (q + 2) r.toNatClampNeg) = x1 →
    P (some (.int (1 : Int32))) μ))))) :
    jS g ad m_X3_has κ 5 [some (.ref q), some (.int x1), none] [.int r] μ := by
  refine jr_istore_n [some (.ref q), some (.int x1), some (.int r)] dX3_has_5 rfl rfl rfl ?_
  refine jr_iload_n dX3_has_6 rfl ?_
  refine jr_aload_n dX3_has_7 rfl ?_
  refine jr_get 3 2 jf_RX3_18 dX3_has_8 hq.1 rfl (.int (μ q 2)) rfl ?_
  obtain ⟨hA, hB⟩ := h
  refine jr_icmp_ge 28 dX3_has_11 rfl (fun c => ?_) (fun c => ?_)
  · have h := hA c
    refine jr_iconst (0 : Int32) dX3_has_28 (by decide) ?_
    exact js_zret hE rfl dX3_has_29 rfl (by decide) h
  · have h := hB c
    refine jr_aload_n dX3_has_14 rfl ?_
    refine jr_get 3 1 jf_RX3_15 dX3_has_15 hq.1 rfl (.ref (q + 2)) rfl ?_
    refine jr_iload_n dX3_has_18 rfl ?_
    obtain ⟨o1, h⟩ := h
    refine jr_ialdn _ dX3_has_19 hq.2.2 o1 rfl ?_
    refine jr_iload_n dX3_has_20 rfl ?_
    obtain ⟨hA, hB⟩ := h
    refine jr_icmp_ne 28 dX3_has_21 rfl (fun c => ?_) (fun c => ?_)
    · have h := hA c
      refine jr_iconst (0 : Int32) dX3_has_28 (by decide) ?_
      exact js_zret hE rfl dX3_has_29 rfl (by decide) h
    · have h := hB c
      refine jr_iconst (1 : Int32) dX3_has_24 (by decide) ?_
      refine jr_goto 29 dX3_has_25 rfl ?_
      exact js_zret hE rfl dX3_has_29 rfl (by decide) h

set_option maxRecDepth 100000 in
set_option maxHeartbeats 4000000 in
theorem sX3_refusalOf_0 {g : jm_G} {ad : Nat → Nat} {κ : jm_K} {P : Option Value → (Nat → Nat → Int32) → Prop} (hE : jE g ad m_X3_refusalOf P κ) {μ : Nat → Nat → Int32} (q : Nat) (hq : jm_Heard q) (p1 : Int32)
    (h : jD g ad m_X3_has [.ref q, .int p1] μ (fun v μ' => jS g ad m_X3_refusalOf κ 5 [some (.ref q), none] (jm_ps v []) μ')) :
    jS g ad m_X3_refusalOf κ 0 [some (.ref q), some (.int p1)] [] μ := by
  refine jr_aload_n dX3_refusalOf_0 rfl ?_
  refine jr_iload_n dX3_refusalOf_1 rfl ?_
  refine js_drop 1 [some (.ref q), none] rfl ?_
  refine js_callV (st := []) [.int p1] jc_RX3_26 rfl dX3_refusalOf_2 hq.1 rfl rfl rfl rfl (kk := ?_)
  exact h

set_option maxRecDepth 100000 in
set_option maxHeartbeats 4000000 in
theorem sX3_refusalOf_5 {g : jm_G} {ad : Nat → Nat} {κ : jm_K} {P : Option Value → (Nat → Nat → Int32) → Prop} (hE : jE g ad m_X3_refusalOf P κ) {μ : Nat → Nat → Int32} (q : Nat) (hq : jm_Heard q) (r : Int32)
    (h : ((r = 0 →
    (((32 : Int32) ≤ (μ q 2) →
    P (some (.int (-4 : Int32))) μ) ∧
    (¬ (32 : Int32) ≤ (μ q 2) →
    P (some (.int (0 : Int32))) μ))) ∧
    (¬ r = 0 →
    P (some (.int (-5 : Int32))) μ))) :
    jS g ad m_X3_refusalOf κ 5 [some (.ref q), none] [.int r] μ := by
  obtain ⟨hA, hB⟩ := h
  refine jr_if_eq 11 dX3_refusalOf_5 rfl (fun c => ?_) (fun c => ?_)
  · have h := hA c
    refine jr_aload_n dX3_refusalOf_11 rfl ?_
    refine jr_get 3 2 jf_RX3_18 dX3_refusalOf_12 hq.1 rfl (.int (μ q 2)) rfl ?_
    refine jr_bipush (32 : Int32) dX3_refusalOf_15 (by decide) ?_
    obtain ⟨hA, hB⟩ := h
    refine jr_icmp_ge 24 dX3_refusalOf_17 rfl (fun c => ?_) (fun c => ?_)
    · have h := hA c
      refine jr_bipush (-4 : Int32) dX3_refusalOf_24 (by decide) ?_
      exact js_iret hE rfl dX3_refusalOf_26 rfl h
    · have h := hB c
      refine jr_iconst (0 : Int32) dX3_refusalOf_20 (by decide) ?_
      refine jr_goto 26 dX3_refusalOf_21 rfl ?_
      exact js_iret hE rfl dX3_refusalOf_26 rfl h
  · have h := hB c
    refine jr_bipush (-5 : Int32) dX3_refusalOf_8 (by decide) ?_
    exact js_iret hE rfl dX3_refusalOf_10 rfl h

set_option maxRecDepth 100000 in
set_option maxHeartbeats 4000000 in
theorem sX3_add_0 {g : jm_G} {ad : Nat → Nat} {κ : jm_K} {P : Option Value → (Nat → Nat → Int32) → Prop} (hE : jE g ad m_X3_add P κ) {μ : Nat → Nat → Int32} (q : Nat) (hq : jm_Heard q) (p1 : Int32)
    (h : (((μ q 2) < (32 : Int32) →
    jD g ad m_X3_placeOf [.ref q, .int p1] μ (fun v μ' => jS g ad m_X3_add κ 17 [some (.ref q), some (.int p1), none] (jm_ps v []) μ')) ∧
    (¬ (μ q 2) < (32 : Int32) →
    P (some (.int (-4 : Int32))) μ))) :
    jS g ad m_X3_add κ 0 [some (.ref q), some (.int p1), none] [] μ := by
  refine jr_aload_n dX3_add_0 rfl ?_
  refine jr_get 3 2 jf_RX3_18 dX3_add_1 hq.1 rfl (.int (μ q 2)) rfl ?_
  refine jr_bipush (32 : Int32) dX3_add_4 (by decide) ?_
  obtain ⟨hA, hB⟩ := h
  refine jr_icmp_lt 12 dX3_add_6 rfl (fun c => ?_) (fun c => ?_)
  · have h := hA c
    refine jr_aload_n dX3_add_12 rfl ?_
    refine jr_iload_n dX3_add_13 rfl ?_
    refine js_callV (st := []) [.int p1] jc_RX3_22 rfl dX3_add_14 hq.1 rfl rfl rfl rfl (kk := ?_)
    exact h
  · have h := hB c
    refine jr_bipush (-4 : Int32) dX3_add_9 (by decide) ?_
    exact js_iret hE rfl dX3_add_11 rfl h

set_option maxRecDepth 100000 in
set_option maxHeartbeats 4000000 in
theorem sX3_add_17 {g : jm_G} {ad : Nat → Nat} {κ : jm_K} {P : Option Value → (Nat → Nat → Int32) → Prop} (hE : jE g ad m_X3_add P κ) {μ : Nat → Nat → Int32} (q : Nat) (hq : jm_Heard q) (x1 : Int32) (r : Int32)
    (h : ¬ r < 0 ∧ ¬ (r + (1 : Int32)) < 0 ∧ ¬ ((μ q 2) - r) < 0 ∧ r.toNatClampNeg + ((μ q 2) - r).toNatClampNeg ≤ 32 ∧ (r + (1 : Int32)).toNatClampNeg + ((μ q 2) - r).toNatClampNeg ≤ 32 ∧
    vp_in r 32 ∧
    P (some (.int r)) (jm_st (jm_st (jm_up μ (q + 2) (va_cpy (μ (q + 2)) (μ (q + 2)) r.toNatClampNeg (r + (1 : Int32)).toNatClampNeg ((μ q 2) - r).toNatClampNeg)) (q + 2) r.toNatClampNeg x1) q 2 (((jm_st (jm_up μ (q + 2) (va_cpy (μ (q + 2)) (μ (q + 2)) r.toNatClampNeg (r + (1 : Int32)).toNatClampNeg ((μ q 2) - r).toNatClampNeg)) (q + 2) r.toNatClampNeg x1) q 2) + (1 : Int32)))) :
    jS g ad m_X3_add κ 17 [some (.ref q), some (.int x1), none] [.int r] μ := by
  refine jr_istore_n [some (.ref q), some (.int x1), some (.int r)] dX3_add_17 rfl rfl rfl ?_
  refine jr_aload_n dX3_add_18 rfl ?_
  refine jr_get 3 1 jf_RX3_15 dX3_add_19 hq.1 rfl (.ref (q + 2)) rfl ?_
  refine jr_iload_n dX3_add_22 rfl ?_
  refine jr_aload_n dX3_add_23 rfl ?_
  refine jr_get 3 1 jf_RX3_15 dX3_add_24 hq.1 rfl (.ref (q + 2)) rfl ?_
  refine jr_iload_n dX3_add_27 rfl ?_
  refine jr_iconst (1 : Int32) dX3_add_28 (by decide) ?_
  refine jr_iadd dX3_add_29 ?_
  refine jr_aload_n dX3_add_30 rfl ?_
  refine jr_get 3 2 jf_RX3_18 dX3_add_31 hq.1 rfl (.int (μ q 2)) rfl ?_
  refine jr_iload_n dX3_add_34 rfl ?_
  refine jr_isub dX3_add_35 ?_
  obtain ⟨o1, o2, o3, o4, o5, h⟩ := h
  refine jr_copy jc_RX3_30 dX3_add_36 rfl rfl hq.2.2 hq.2.2 o1 o2 o3 o4 o5 ?_
  refine jr_aload_n dX3_add_39 rfl ?_
  refine jr_get 3 1 jf_RX3_15 dX3_add_40 hq.1 rfl (.ref (q + 2)) rfl ?_
  refine jr_iload_n dX3_add_43 rfl ?_
  refine jr_iload_n dX3_add_44 rfl ?_
  obtain ⟨o6, h⟩ := h
  refine jr_iastn _ dX3_add_45 hq.2.2 o6 rfl ?_
  refine jr_aload_n dX3_add_46 rfl ?_
  refine jr_dup dX3_add_47 rfl ?_
  refine jr_get 3 2 jf_RX3_18 dX3_add_48 hq.1 rfl (.int ((jm_st (jm_up μ (q + 2) (va_cpy (μ (q + 2)) (μ (q + 2)) r.toNatClampNeg (r + (1 : Int32)).toNatClampNeg ((μ q 2) - r).toNatClampNeg)) (q + 2) r.toNatClampNeg x1) q 2)) rfl ?_
  refine jr_iconst (1 : Int32) dX3_add_51 (by decide) ?_
  refine jr_iadd dX3_add_52 ?_
  refine jr_putI 3 2 jf_RX3_18 dX3_add_53 hq.1 rfl ?_
  refine jr_iload_n dX3_add_56 rfl ?_
  exact js_iret hE rfl dX3_add_57 rfl h

set_option maxRecDepth 100000 in
set_option maxHeartbeats 4000000 in
theorem sX3_remove_0 {g : jm_G} {ad : Nat → Nat} {κ : jm_K} {P : Option Value → (Nat → Nat → Int32) → Prop} (hE : jE g ad m_X3_remove P κ) {μ : Nat → Nat → Int32} (q : Nat) (hq : jm_Heard q) (p1 : Int32)
    (h : jD g ad m_X3_isPulse [.ref q, .int p1] μ (fun v μ' => jS g ad m_X3_remove κ 5 [some (.ref q), some (.int p1)] (jm_ps v []) μ')) :
    jS g ad m_X3_remove κ 0 [some (.ref q), some (.int p1)] [] μ := by
  refine jr_aload_n dX3_remove_0 rfl ?_
  refine jr_iload_n dX3_remove_1 rfl ?_
  refine js_callV (st := []) [.int p1] jc_RX3_36 rfl dX3_remove_2 hq.1 rfl rfl rfl rfl (kk := ?_)
  exact h

set_option maxRecDepth 100000 in
set_option maxHeartbeats 4000000 in
theorem sX3_remove_5 {g : jm_G} {ad : Nat → Nat} {κ : jm_K} {P : Option Value → (Nat → Nat → Int32) → Prop} (hE : jE g ad m_X3_remove P κ) {μ : Nat → Nat → Int32} (q : Nat) (hq : jm_Heard q) (x1 : Int32) (r : Int32)
    (h : ((r = 0 →
    P none μ) ∧
    (¬ r = 0 →
    ¬ (x1 + (1 : Int32)) < 0 ∧ ¬ x1 < 0 ∧ ¬ (((jm_st μ q 2 ((μ q 2) - (1 : Int32))) q 2) - x1) < 0 ∧ (x1 + (1 : Int32)).toNatClampNeg + (((jm_st μ q 2 ((μ q 2) - (1 : Int32))) q 2) - x1).toNatClampNeg ≤ 32 ∧ x1.toNatClampNeg + (((jm_st μ q 2 ((μ q 2) - (1 : Int32))) q 2) - x1).toNatClampNeg ≤ 32 ∧
    P none (jm_up (jm_st μ q 2 ((μ q 2) - (1 : Int32))) (q + 2) (va_cpy ((jm_st μ q 2 ((μ q 2) - (1 : Int32))) (q + 2)) ((jm_st μ q 2 ((μ q 2) - (1 : Int32))) (q + 2)) (x1 + (1 : Int32)).toNatClampNeg x1.toNatClampNeg (((jm_st μ q 2 ((μ q 2) - (1 : Int32))) q 2) - x1).toNatClampNeg))))) :
    jS g ad m_X3_remove κ 5 [some (.ref q), some (.int x1)] [.int r] μ := by
  obtain ⟨hA, hB⟩ := h
  refine jr_if_eq 39 dX3_remove_5 rfl (fun c => ?_) (fun c => ?_)
  · have h := hA c
    exact js_vret hE rfl dX3_remove_39 rfl h
  · have h := hB c
    refine jr_aload_n dX3_remove_8 rfl ?_
    refine jr_dup dX3_remove_9 rfl ?_
    refine jr_get 3 2 jf_RX3_18 dX3_remove_10 hq.1 rfl (.int (μ q 2)) rfl ?_
    refine jr_iconst (1 : Int32) dX3_remove_13 (by decide) ?_
    refine jr_isub dX3_remove_14 ?_
    refine jr_putI 3 2 jf_RX3_18 dX3_remove_15 hq.1 rfl ?_
    refine jr_aload_n dX3_remove_18 rfl ?_
    refine jr_get 3 1 jf_RX3_15 dX3_remove_19 hq.1 rfl (.ref (q + 2)) rfl ?_
    refine jr_iload_n dX3_remove_22 rfl ?_
    refine jr_iconst (1 : Int32) dX3_remove_23 (by decide) ?_
    refine jr_iadd dX3_remove_24 ?_
    refine jr_aload_n dX3_remove_25 rfl ?_
    refine jr_get 3 1 jf_RX3_15 dX3_remove_26 hq.1 rfl (.ref (q + 2)) rfl ?_
    refine jr_iload_n dX3_remove_29 rfl ?_
    refine jr_aload_n dX3_remove_30 rfl ?_
    refine jr_get 3 2 jf_RX3_18 dX3_remove_31 hq.1 rfl (.int ((jm_st μ q 2 ((μ q 2) - (1 : Int32))) q 2)) rfl ?_
    refine jr_iload_n dX3_remove_34 rfl ?_
    refine jr_isub dX3_remove_35 ?_
    obtain ⟨o1, o2, o3, o4, o5, h⟩ := h
    refine jr_copy jc_RX3_30 dX3_remove_36 rfl rfl hq.2.2 hq.2.2 o1 o2 o3 o4 o5 ?_
    exact js_vret hE rfl dX3_remove_39 rfl h

set_option maxRecDepth 100000 in
set_option maxHeartbeats 4000000 in
theorem sX3_become_0 {g : jm_G} {ad : Nat → Nat} {κ : jm_K} {P : Option Value → (Nat → Nat → Int32) → Prop} (hE : jE g ad m_X3_become P κ) {μ : Nat → Nat → Int32} (q : Nat) (hq : jm_Heard q) (q2 : Nat) (hq2 : jm_Heard q2) 
    (h : ¬ (0 : Int32) < 0 ∧ ¬ (0 : Int32) < 0 ∧ ¬ (3 : Int32) < 0 ∧ (0 : Int32).toNatClampNeg + (3 : Int32).toNatClampNeg ≤ 3 ∧ (0 : Int32).toNatClampNeg + (3 : Int32).toNatClampNeg ≤ 3 ∧
    ¬ (0 : Int32) < 0 ∧ ¬ (0 : Int32) < 0 ∧ ¬ ((jm_up μ (q + 1) (va_cpy (μ (q2 + 1)) (μ (q + 1)) (0 : Int32).toNatClampNeg (0 : Int32).toNatClampNeg (3 : Int32).toNatClampNeg)) q2 2) < 0 ∧ (0 : Int32).toNatClampNeg + ((jm_up μ (q + 1) (va_cpy (μ (q2 + 1)) (μ (q + 1)) (0 : Int32).toNatClampNeg (0 : Int32).toNatClampNeg (3 : Int32).toNatClampNeg)) q2 2).toNatClampNeg ≤ 32 ∧ (0 : Int32).toNatClampNeg + ((jm_up μ (q + 1) (va_cpy (μ (q2 + 1)) (μ (q + 1)) (0 : Int32).toNatClampNeg (0 : Int32).toNatClampNeg (3 : Int32).toNatClampNeg)) q2 2).toNatClampNeg ≤ 32 ∧
    P none (jm_st (jm_up (jm_up μ (q + 1) (va_cpy (μ (q2 + 1)) (μ (q + 1)) (0 : Int32).toNatClampNeg (0 : Int32).toNatClampNeg (3 : Int32).toNatClampNeg)) (q + 2) (va_cpy ((jm_up μ (q + 1) (va_cpy (μ (q2 + 1)) (μ (q + 1)) (0 : Int32).toNatClampNeg (0 : Int32).toNatClampNeg (3 : Int32).toNatClampNeg)) (q2 + 2)) ((jm_up μ (q + 1) (va_cpy (μ (q2 + 1)) (μ (q + 1)) (0 : Int32).toNatClampNeg (0 : Int32).toNatClampNeg (3 : Int32).toNatClampNeg)) (q + 2)) (0 : Int32).toNatClampNeg (0 : Int32).toNatClampNeg ((jm_up μ (q + 1) (va_cpy (μ (q2 + 1)) (μ (q + 1)) (0 : Int32).toNatClampNeg (0 : Int32).toNatClampNeg (3 : Int32).toNatClampNeg)) q2 2).toNatClampNeg)) q 2 ((jm_up (jm_up μ (q + 1) (va_cpy (μ (q2 + 1)) (μ (q + 1)) (0 : Int32).toNatClampNeg (0 : Int32).toNatClampNeg (3 : Int32).toNatClampNeg)) (q + 2) (va_cpy ((jm_up μ (q + 1) (va_cpy (μ (q2 + 1)) (μ (q + 1)) (0 : Int32).toNatClampNeg (0 : Int32).toNatClampNeg (3 : Int32).toNatClampNeg)) (q2 + 2)) ((jm_up μ (q + 1) (va_cpy (μ (q2 + 1)) (μ (q + 1)) (0 : Int32).toNatClampNeg (0 : Int32).toNatClampNeg (3 : Int32).toNatClampNeg)) (q + 2)) (0 : Int32).toNatClampNeg (0 : Int32).toNatClampNeg ((jm_up μ (q + 1) (va_cpy (μ (q2 + 1)) (μ (q + 1)) (0 : Int32).toNatClampNeg (0 : Int32).toNatClampNeg (3 : Int32).toNatClampNeg)) q2 2).toNatClampNeg)) q2 2))) :
    jS g ad m_X3_become κ 0 [some (.ref q), some (.ref q2)] [] μ := by
  refine jr_aload_n dX3_become_0 rfl ?_
  refine jr_get 3 0 jf_RX3_9 dX3_become_1 hq2.1 rfl (.ref (q2 + 1)) rfl ?_
  refine jr_iconst (0 : Int32) dX3_become_4 (by decide) ?_
  refine jr_aload_n dX3_become_5 rfl ?_
  refine jr_get 3 0 jf_RX3_9 dX3_become_6 hq.1 rfl (.ref (q + 1)) rfl ?_
  refine jr_iconst (0 : Int32) dX3_become_9 (by decide) ?_
  refine jr_aload_n dX3_become_10 rfl ?_
  refine jr_get 3 0 jf_RX3_9 dX3_become_11 hq.1 rfl (.ref (q + 1)) rfl ?_
  refine jr_alen dX3_become_14 hq.2.1 (by decide) (3 : Int32) (by decide) ?_
  obtain ⟨o1, o2, o3, o4, o5, h⟩ := h
  refine jr_copy jc_RX3_30 dX3_become_15 rfl rfl hq2.2.1 hq.2.1 o1 o2 o3 o4 o5 ?_
  refine jr_aload_n dX3_become_18 rfl ?_
  refine jr_get 3 1 jf_RX3_15 dX3_become_19 hq2.1 rfl (.ref (q2 + 2)) rfl ?_
  refine jr_iconst (0 : Int32) dX3_become_22 (by decide) ?_
  refine jr_aload_n dX3_become_23 rfl ?_
  refine jr_get 3 1 jf_RX3_15 dX3_become_24 hq.1 rfl (.ref (q + 2)) rfl ?_
  refine jr_iconst (0 : Int32) dX3_become_27 (by decide) ?_
  refine jr_aload_n dX3_become_28 rfl ?_
  refine jr_get 3 2 jf_RX3_18 dX3_become_29 hq2.1 rfl (.int ((jm_up μ (q + 1) (va_cpy (μ (q2 + 1)) (μ (q + 1)) (0 : Int32).toNatClampNeg (0 : Int32).toNatClampNeg (3 : Int32).toNatClampNeg)) q2 2)) rfl ?_
  obtain ⟨o6, o7, o8, o9, o10, h⟩ := h
  refine jr_copy jc_RX3_30 dX3_become_32 rfl rfl hq2.2.2 hq.2.2 o6 o7 o8 o9 o10 ?_
  refine jr_aload_n dX3_become_35 rfl ?_
  refine jr_aload_n dX3_become_36 rfl ?_
  refine jr_get 3 2 jf_RX3_18 dX3_become_37 hq2.1 rfl (.int ((jm_up (jm_up μ (q + 1) (va_cpy (μ (q2 + 1)) (μ (q + 1)) (0 : Int32).toNatClampNeg (0 : Int32).toNatClampNeg (3 : Int32).toNatClampNeg)) (q + 2) (va_cpy ((jm_up μ (q + 1) (va_cpy (μ (q2 + 1)) (μ (q + 1)) (0 : Int32).toNatClampNeg (0 : Int32).toNatClampNeg (3 : Int32).toNatClampNeg)) (q2 + 2)) ((jm_up μ (q + 1) (va_cpy (μ (q2 + 1)) (μ (q + 1)) (0 : Int32).toNatClampNeg (0 : Int32).toNatClampNeg (3 : Int32).toNatClampNeg)) (q + 2)) (0 : Int32).toNatClampNeg (0 : Int32).toNatClampNeg ((jm_up μ (q + 1) (va_cpy (μ (q2 + 1)) (μ (q + 1)) (0 : Int32).toNatClampNeg (0 : Int32).toNatClampNeg (3 : Int32).toNatClampNeg)) q2 2).toNatClampNeg)) q2 2)) rfl ?_
  refine jr_putI 3 2 jf_RX3_18 dX3_become_40 hq.1 rfl ?_
  exact js_vret hE rfl dX3_become_43 rfl h

set_option maxRecDepth 100000 in
set_option maxHeartbeats 4000000 in
theorem sX3_placeOf_0 {g : jm_G} {ad : Nat → Nat} {κ : jm_K} {P : Option Value → (Nat → Nat → Int32) → Prop} (hE : jE g ad m_X3_placeOf P κ) {μ : Nat → Nat → Int32} (q : Nat) (hq : jm_Heard q) (p1 : Int32)
    (h : jS g ad m_X3_placeOf κ 2 [some (.ref q), some (.int p1), some (.int (0 : Int32))] [] μ) :
    jS g ad m_X3_placeOf κ 0 [some (.ref q), some (.int p1), none] [] μ := by
  refine jr_iconst (0 : Int32) dX3_placeOf_0 (by decide) ?_
  refine jr_istore_n [some (.ref q), some (.int p1), some (.int (0 : Int32))] dX3_placeOf_1 rfl rfl rfl ?_
  exact h

set_option maxRecDepth 100000 in
set_option maxHeartbeats 4000000 in
theorem sX3_placeOf_2 {g : jm_G} {ad : Nat → Nat} {κ : jm_K} {P : Option Value → (Nat → Nat → Int32) → Prop} (hE : jE g ad m_X3_placeOf P κ) {μ : Nat → Nat → Int32} (q : Nat) (hq : jm_Heard q) (x1 : Int32) (x2 : Int32)
    (h : (((μ q 2) ≤ x2 →
    P (some (.int x2)) μ) ∧
    (¬ (μ q 2) ≤ x2 →
    vp_in x2 32 ∧
    ((x1 ≤ (μ (q + 2) x2.toNatClampNeg) →
    P (some (.int x2)) μ) ∧
    (¬ x1 ≤ (μ (q + 2) x2.toNatClampNeg) →
    jS g ad m_X3_placeOf κ 2 [some (.ref q), some (.int x1), some (.int (x2 + 1))] [] μ))))) :
    jS g ad m_X3_placeOf κ 2 [some (.ref q), some (.int x1), some (.int x2)] [] μ := by
  refine jr_iload_n dX3_placeOf_2 rfl ?_
  refine jr_aload_n dX3_placeOf_3 rfl ?_
  refine jr_get 3 2 jf_RX3_18 dX3_placeOf_4 hq.1 rfl (.int (μ q 2)) rfl ?_
  obtain ⟨hA, hB⟩ := h
  refine jr_icmp_ge 26 dX3_placeOf_7 rfl (fun c => ?_) (fun c => ?_)
  · have h := hA c
    refine jr_iload_n dX3_placeOf_26 rfl ?_
    exact js_iret hE rfl dX3_placeOf_27 rfl h
  · have h := hB c
    refine jr_aload_n dX3_placeOf_10 rfl ?_
    refine jr_get 3 1 jf_RX3_15 dX3_placeOf_11 hq.1 rfl (.ref (q + 2)) rfl ?_
    refine jr_iload_n dX3_placeOf_14 rfl ?_
    obtain ⟨o1, h⟩ := h
    refine jr_ialdn _ dX3_placeOf_15 hq.2.2 o1 rfl ?_
    refine jr_iload_n dX3_placeOf_16 rfl ?_
    obtain ⟨hA, hB⟩ := h
    refine jr_icmp_ge 26 dX3_placeOf_17 rfl (fun c => ?_) (fun c => ?_)
    · have h := hA c
      refine jr_iload_n dX3_placeOf_26 rfl ?_
      exact js_iret hE rfl dX3_placeOf_27 rfl h
    · have h := hB c
      refine jr_iinc [some (.ref q), some (.int x1), some (.int (x2 + 1))] dX3_placeOf_20 rfl rfl rfl rfl rfl ?_
      refine jr_goto 2 dX3_placeOf_23 rfl ?_
      exact h

end
end
