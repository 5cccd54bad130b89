section
-- ===== PART A: goes FIRST, ahead of the names: the tables' words, and 'selects' of the private methods out of them =====
/-- a private method of a class that the tables say can be made, by its rows of tables_1 -/
def lw_okq (q : MethodName × Nat) : Prop := (q.1.cls ≠ "java/lang/invoke/MethodHandle" ∧ q.1.cls ≠ "java/lang/invoke/VarHandle") ∧ Cond.instantiable q.1.cls q.2 ∈ tables_1 ∧ Cond.privateMethod q.1 ∈ tables_1 ∧ Cond.instanceMethod q.1 ∈ tables_1
theorem lw_p0 : lw_okq (⟨"ParkingTrees$Reader", "readToken", "()V"⟩, 10) := ⟨⟨by decide +kernel, by decide +kernel⟩, List.mem_of_getElem? (i := 44) (by decide +kernel), List.mem_of_getElem? (i := 328) (by decide +kernel), List.mem_of_getElem? (i := 329) (by decide +kernel)⟩
theorem lw_p1 : lw_okq (⟨"ParkingTrees$Reader", "readLetters", "()V"⟩, 10) := ⟨⟨by decide +kernel, by decide +kernel⟩, List.mem_of_getElem? (i := 44) (by decide +kernel), List.mem_of_getElem? (i := 335) (by decide +kernel), List.mem_of_getElem? (i := 336) (by decide +kernel)⟩
theorem lw_p2 : lw_okq (⟨"ParkingTrees$Reader", "readDigits", "()V"⟩, 10) := ⟨⟨by decide +kernel, by decide +kernel⟩, List.mem_of_getElem? (i := 44) (by decide +kernel), List.mem_of_getElem? (i := 342) (by decide +kernel), List.mem_of_getElem? (i := 343) (by decide +kernel)⟩
theorem lw_p3 : lw_okq (⟨"ParkingTrees$Reader", "readLine", "()Z"⟩, 10) := ⟨⟨by decide +kernel, by decide +kernel⟩, List.mem_of_getElem? (i := 44) (by decide +kernel), List.mem_of_getElem? (i := 346) (by decide +kernel), List.mem_of_getElem? (i := 347) (by decide +kernel)⟩
theorem lw_p4 : lw_okq (⟨"ParkingTrees$Reader", "readHead", "()Z"⟩, 10) := ⟨⟨by decide +kernel, by decide +kernel⟩, List.mem_of_getElem? (i := 44) (by decide +kernel), List.mem_of_getElem? (i := 350) (by decide +kernel), List.mem_of_getElem? (i := 351) (by decide +kernel)⟩
theorem lw_p5 : lw_okq (⟨"ParkingTrees$Reader", "takeWord", "(Ljava/lang/String;)Z"⟩, 10) := ⟨⟨by decide +kernel, by decide +kernel⟩, List.mem_of_getElem? (i := 44) (by decide +kernel), List.mem_of_getElem? (i := 355) (by decide +kernel), List.mem_of_getElem? (i := 356) (by decide +kernel)⟩
theorem lw_p6 : lw_okq (⟨"ParkingTrees$Reader", "isWord", "(Ljava/lang/String;)Z"⟩, 10) := ⟨⟨by decide +kernel, by decide +kernel⟩, List.mem_of_getElem? (i := 44) (by decide +kernel), List.mem_of_getElem? (i := 359) (by decide +kernel), List.mem_of_getElem? (i := 360) (by decide +kernel)⟩
theorem lw_p7 : lw_okq (⟨"ParkingTrees$Reader", "refuse", "(I)Z"⟩, 10) := ⟨⟨by decide +kernel, by decide +kernel⟩, List.mem_of_getElem? (i := 44) (by decide +kernel), List.mem_of_getElem? (i := 411) (by decide +kernel), List.mem_of_getElem? (i := 412) (by decide +kernel)⟩
theorem lw_p8 : lw_okq (⟨"ParkingTrees$Reader", "takeNumber", "(II)Z"⟩, 10) := ⟨⟨by decide +kernel, by decide +kernel⟩, List.mem_of_getElem? (i := 44) (by decide +kernel), List.mem_of_getElem? (i := 416) (by decide +kernel), List.mem_of_getElem? (i := 417) (by decide +kernel)⟩
theorem lw_p9 : lw_okq (⟨"ParkingTrees$Reader", "readCar", "()Z"⟩, 10) := ⟨⟨by decide +kernel, by decide +kernel⟩, List.mem_of_getElem? (i := 44) (by decide +kernel), List.mem_of_getElem? (i := 430) (by decide +kernel), List.mem_of_getElem? (i := 431) (by decide +kernel)⟩
theorem lw_p10 : lw_okq (⟨"ParkingTrees$Reader", "readJoin", "()Z"⟩, 10) := ⟨⟨by decide +kernel, by decide +kernel⟩, List.mem_of_getElem? (i := 44) (by decide +kernel), List.mem_of_getElem? (i := 440) (by decide +kernel), List.mem_of_getElem? (i := 441) (by decide +kernel)⟩
theorem lw_p11 : lw_okq (⟨"ParkingTrees$Blocks", "crosses", "(II)Z"⟩, 2) := ⟨⟨by decide +kernel, by decide +kernel⟩, List.mem_of_getElem? (i := 120) (by decide +kernel), List.mem_of_getElem? (i := 449) (by decide +kernel), List.mem_of_getElem? (i := 450) (by decide +kernel)⟩
theorem lw_p12 : lw_okq (⟨"ParkingTrees$Reader", "takeSemicolon", "()Z"⟩, 10) := ⟨⟨by decide +kernel, by decide +kernel⟩, List.mem_of_getElem? (i := 44) (by decide +kernel), List.mem_of_getElem? (i := 461) (by decide +kernel), List.mem_of_getElem? (i := 462) (by decide +kernel)⟩
theorem lw_p13 : lw_okq (⟨"ParkingTrees", "hasCar", "(I)Z"⟩, 12) := ⟨⟨by decide +kernel, by decide +kernel⟩, List.mem_of_getElem? (i := 19) (by decide +kernel), List.mem_of_getElem? (i := 477) (by decide +kernel), List.mem_of_getElem? (i := 478) (by decide +kernel)⟩
theorem lw_p14 : lw_okq (⟨"ParkingTrees", "parkAll", "()V"⟩, 12) := ⟨⟨by decide +kernel, by decide +kernel⟩, List.mem_of_getElem? (i := 19) (by decide +kernel), List.mem_of_getElem? (i := 488) (by decide +kernel), List.mem_of_getElem? (i := 489) (by decide +kernel)⟩
theorem lw_p15 : lw_okq (⟨"ParkingTrees", "everyCar", "()I"⟩, 12) := ⟨⟨by decide +kernel, by decide +kernel⟩, List.mem_of_getElem? (i := 19) (by decide +kernel), List.mem_of_getElem? (i := 492) (by decide +kernel), List.mem_of_getElem? (i := 493) (by decide +kernel)⟩
def lw_privs_1 : List (MethodName × Nat) := [(⟨"ParkingTrees$Reader", "readToken", "()V"⟩, 10), (⟨"ParkingTrees$Reader", "readLetters", "()V"⟩, 10), (⟨"ParkingTrees$Reader", "readDigits", "()V"⟩, 10), (⟨"ParkingTrees$Reader", "readLine", "()Z"⟩, 10), (⟨"ParkingTrees$Reader", "readHead", "()Z"⟩, 10), (⟨"ParkingTrees$Reader", "takeWord", "(Ljava/lang/String;)Z"⟩, 10), (⟨"ParkingTrees$Reader", "isWord", "(Ljava/lang/String;)Z"⟩, 10), (⟨"ParkingTrees$Reader", "refuse", "(I)Z"⟩, 10), (⟨"ParkingTrees$Reader", "takeNumber", "(II)Z"⟩, 10), (⟨"ParkingTrees$Reader", "readCar", "()Z"⟩, 10), (⟨"ParkingTrees$Reader", "readJoin", "()Z"⟩, 10), (⟨"ParkingTrees$Blocks", "crosses", "(II)Z"⟩, 2), (⟨"ParkingTrees$Reader", "takeSemicolon", "()Z"⟩, 10), (⟨"ParkingTrees", "hasCar", "(I)Z"⟩, 12), (⟨"ParkingTrees", "parkAll", "()V"⟩, 12), (⟨"ParkingTrees", "everyCar", "()I"⟩, 12)]
theorem lw_r1 : ∀ q ∈ lw_privs_1, lw_okq q := List.forall_mem_cons.mpr ⟨lw_p0, List.forall_mem_cons.mpr ⟨lw_p1, List.forall_mem_cons.mpr ⟨lw_p2, List.forall_mem_cons.mpr ⟨lw_p3, List.forall_mem_cons.mpr ⟨lw_p4, List.forall_mem_cons.mpr ⟨lw_p5, List.forall_mem_cons.mpr ⟨lw_p6, List.forall_mem_cons.mpr ⟨lw_p7, List.forall_mem_cons.mpr ⟨lw_p8, List.forall_mem_cons.mpr ⟨lw_p9, List.forall_mem_cons.mpr ⟨lw_p10, List.forall_mem_cons.mpr ⟨lw_p11, List.forall_mem_cons.mpr ⟨lw_p12, List.forall_mem_cons.mpr ⟨lw_p13, List.forall_mem_cons.mpr ⟨lw_p14, List.forall_mem_cons.mpr ⟨lw_p15, fun _ h => absurd h List.not_mem_nil⟩⟩⟩⟩⟩⟩⟩⟩⟩⟩⟩⟩⟩⟩⟩⟩
theorem lw_p16 : lw_okq (⟨"ParkingTrees$Lot", "come", "(III)V"⟩, 4) := ⟨⟨by decide +kernel, by decide +kernel⟩, List.mem_of_getElem? (i := 196) (by decide +kernel), List.mem_of_getElem? (i := 512) (by decide +kernel), List.mem_of_getElem? (i := 513) (by decide +kernel)⟩
theorem lw_p17 : lw_okq (⟨"ParkingTrees", "stepsInLot", "(I)I"⟩, 12) := ⟨⟨by decide +kernel, by decide +kernel⟩, List.mem_of_getElem? (i := 19) (by decide +kernel), List.mem_of_getElem? (i := 524) (by decide +kernel), List.mem_of_getElem? (i := 525) (by decide +kernel)⟩
theorem lw_p18 : lw_okq (⟨"ParkingTrees", "hasStreet", "()Z"⟩, 12) := ⟨⟨by decide +kernel, by decide +kernel⟩, List.mem_of_getElem? (i := 19) (by decide +kernel), List.mem_of_getElem? (i := 533) (by decide +kernel), List.mem_of_getElem? (i := 534) (by decide +kernel)⟩
theorem lw_p19 : lw_okq (⟨"ParkingTrees", "hasPlace", "(I)Z"⟩, 12) := ⟨⟨by decide +kernel, by decide +kernel⟩, List.mem_of_getElem? (i := 19) (by decide +kernel), List.mem_of_getElem? (i := 545) (by decide +kernel), List.mem_of_getElem? (i := 546) (by decide +kernel)⟩
theorem lw_p20 : lw_okq (⟨"ParkingTrees", "wishesUpTo", "(I)I"⟩, 12) := ⟨⟨by decide +kernel, by decide +kernel⟩, List.mem_of_getElem? (i := 19) (by decide +kernel), List.mem_of_getElem? (i := 575) (by decide +kernel), List.mem_of_getElem? (i := 576) (by decide +kernel)⟩
theorem lw_p21 : lw_okq (⟨"ParkingTrees", "isLawful", "()Z"⟩, 12) := ⟨⟨by decide +kernel, by decide +kernel⟩, List.mem_of_getElem? (i := 19) (by decide +kernel), List.mem_of_getElem? (i := 583) (by decide +kernel), List.mem_of_getElem? (i := 584) (by decide +kernel)⟩
theorem lw_p22 : lw_okq (⟨"ParkingTrees", "rowRefusal", "(Z)I"⟩, 12) := ⟨⟨by decide +kernel, by decide +kernel⟩, List.mem_of_getElem? (i := 19) (by decide +kernel), List.mem_of_getElem? (i := 595) (by decide +kernel), List.mem_of_getElem? (i := 596) (by decide +kernel)⟩
theorem lw_p23 : lw_okq (⟨"ParkingTrees", "park", "([II)V"⟩, 12) := ⟨⟨by decide +kernel, by decide +kernel⟩, List.mem_of_getElem? (i := 19) (by decide +kernel), List.mem_of_getElem? (i := 603) (by decide +kernel), List.mem_of_getElem? (i := 604) (by decide +kernel)⟩
theorem lw_p24 : lw_okq (⟨"ParkingTrees", "parkOnRing", "()V"⟩, 12) := ⟨⟨by decide +kernel, by decide +kernel⟩, List.mem_of_getElem? (i := 19) (by decide +kernel), List.mem_of_getElem? (i := 616) (by decide +kernel), List.mem_of_getElem? (i := 617) (by decide +kernel)⟩
theorem lw_p25 : lw_okq (⟨"ParkingTrees", "hangTree", "(Z)I"⟩, 12) := ⟨⟨by decide +kernel, by decide +kernel⟩, List.mem_of_getElem? (i := 19) (by decide +kernel), List.mem_of_getElem? (i := 637) (by decide +kernel), List.mem_of_getElem? (i := 638) (by decide +kernel)⟩
theorem lw_p26 : lw_okq (⟨"ParkingTrees$Tree", "begin", "(I)V"⟩, 7) := ⟨⟨by decide +kernel, by decide +kernel⟩, List.mem_of_getElem? (i := 219) (by decide +kernel), List.mem_of_getElem? (i := 645) (by decide +kernel), List.mem_of_getElem? (i := 646) (by decide +kernel)⟩
theorem lw_p27 : lw_okq (⟨"ParkingTrees$Tree", "bring", "(II)V"⟩, 7) := ⟨⟨by decide +kernel, by decide +kernel⟩, List.mem_of_getElem? (i := 219) (by decide +kernel), List.mem_of_getElem? (i := 649) (by decide +kernel), List.mem_of_getElem? (i := 650) (by decide +kernel)⟩
theorem lw_p28 : lw_okq (⟨"ParkingTrees$Tree", "clearLimbs", "()V"⟩, 7) := ⟨⟨by decide +kernel, by decide +kernel⟩, List.mem_of_getElem? (i := 219) (by decide +kernel), List.mem_of_getElem? (i := 693) (by decide +kernel), List.mem_of_getElem? (i := 694) (by decide +kernel)⟩
theorem lw_p29 : lw_okq (⟨"ParkingTrees$Tree", "addLimb", "(II)V"⟩, 7) := ⟨⟨by decide +kernel, by decide +kernel⟩, List.mem_of_getElem? (i := 219) (by decide +kernel), List.mem_of_getElem? (i := 697) (by decide +kernel), List.mem_of_getElem? (i := 698) (by decide +kernel)⟩
theorem lw_p30 : lw_okq (⟨"ParkingTrees$Tree", "leastWithOneLimb", "()I"⟩, 7) := ⟨⟨by decide +kernel, by decide +kernel⟩, List.mem_of_getElem? (i := 219) (by decide +kernel), List.mem_of_getElem? (i := 701) (by decide +kernel), List.mem_of_getElem? (i := 702) (by decide +kernel)⟩
theorem lw_p31 : lw_okq (⟨"ParkingTrees", "searchTree", "(Z)I"⟩, 12) := ⟨⟨by decide +kernel, by decide +kernel⟩, List.mem_of_getElem? (i := 19) (by decide +kernel), List.mem_of_getElem? (i := 713) (by decide +kernel), List.mem_of_getElem? (i := 714) (by decide +kernel)⟩
def lw_privs_2 : List (MethodName × Nat) := [(⟨"ParkingTrees$Lot", "come", "(III)V"⟩, 4), (⟨"ParkingTrees", "stepsInLot", "(I)I"⟩, 12), (⟨"ParkingTrees", "hasStreet", "()Z"⟩, 12), (⟨"ParkingTrees", "hasPlace", "(I)Z"⟩, 12), (⟨"ParkingTrees", "wishesUpTo", "(I)I"⟩, 12), (⟨"ParkingTrees", "isLawful", "()Z"⟩, 12), (⟨"ParkingTrees", "rowRefusal", "(Z)I"⟩, 12), (⟨"ParkingTrees", "park", "([II)V"⟩, 12), (⟨"ParkingTrees", "parkOnRing", "()V"⟩, 12), (⟨"ParkingTrees", "hangTree", "(Z)I"⟩, 12), (⟨"ParkingTrees$Tree", "begin", "(I)V"⟩, 7), (⟨"ParkingTrees$Tree", "bring", "(II)V"⟩, 7), (⟨"ParkingTrees$Tree", "clearLimbs", "()V"⟩, 7), (⟨"ParkingTrees$Tree", "addLimb", "(II)V"⟩, 7), (⟨"ParkingTrees$Tree", "leastWithOneLimb", "()I"⟩, 7), (⟨"ParkingTrees", "searchTree", "(Z)I"⟩, 12)]
theorem lw_r2 : ∀ q ∈ lw_privs_2, lw_okq q := List.forall_mem_cons.mpr ⟨lw_p16, List.forall_mem_cons.mpr ⟨lw_p17, List.forall_mem_cons.mpr ⟨lw_p18, List.forall_mem_cons.mpr ⟨lw_p19, List.forall_mem_cons.mpr ⟨lw_p20, List.forall_mem_cons.mpr ⟨lw_p21, List.forall_mem_cons.mpr ⟨lw_p22, List.forall_mem_cons.mpr ⟨lw_p23, List.forall_mem_cons.mpr ⟨lw_p24, List.forall_mem_cons.mpr ⟨lw_p25, List.forall_mem_cons.mpr ⟨lw_p26, List.forall_mem_cons.mpr ⟨lw_p27, List.forall_mem_cons.mpr ⟨lw_p28, List.forall_mem_cons.mpr ⟨lw_p29, List.forall_mem_cons.mpr ⟨lw_p30, List.forall_mem_cons.mpr ⟨lw_p31, fun _ h => absurd h List.not_mem_nil⟩⟩⟩⟩⟩⟩⟩⟩⟩⟩⟩⟩⟩⟩⟩⟩
theorem lw_p32 : lw_okq (⟨"ParkingTrees$Tree", "walk", "(Z)V"⟩, 7) := ⟨⟨by decide +kernel, by decide +kernel⟩, List.mem_of_getElem? (i := 219) (by decide +kernel), List.mem_of_getElem? (i := 721) (by decide +kernel), List.mem_of_getElem? (i := 722) (by decide +kernel)⟩
theorem lw_p33 : lw_okq (⟨"ParkingTrees", "isTreeCar", "(I)Z"⟩, 12) := ⟨⟨by decide +kernel, by decide +kernel⟩, List.mem_of_getElem? (i := 19) (by decide +kernel), List.mem_of_getElem? (i := 737) (by decide +kernel), List.mem_of_getElem? (i := 738) (by decide +kernel)⟩
theorem lw_p34 : lw_okq (⟨"ParkingTrees", "readCode", "(IZ)I"⟩, 12) := ⟨⟨by decide +kernel, by decide +kernel⟩, List.mem_of_getElem? (i := 19) (by decide +kernel), List.mem_of_getElem? (i := 741) (by decide +kernel), List.mem_of_getElem? (i := 742) (by decide +kernel)⟩
theorem lw_p35 : lw_okq (⟨"ParkingTrees$Tree", "leastUnwritten", "([JIII)I"⟩, 7) := ⟨⟨by decide +kernel, by decide +kernel⟩, List.mem_of_getElem? (i := 219) (by decide +kernel), List.mem_of_getElem? (i := 752) (by decide +kernel), List.mem_of_getElem? (i := 753) (by decide +kernel)⟩
theorem lw_p36 : lw_okq (⟨"ParkingTrees$Tree", "hangByLimbs", "()V"⟩, 7) := ⟨⟨by decide +kernel, by decide +kernel⟩, List.mem_of_getElem? (i := 219) (by decide +kernel), List.mem_of_getElem? (i := 756) (by decide +kernel), List.mem_of_getElem? (i := 757) (by decide +kernel)⟩
theorem lw_p37 : lw_okq (⟨"ParkingTrees", "isTallied", "(I)Z"⟩, 12) := ⟨⟨by decide +kernel, by decide +kernel⟩, List.mem_of_getElem? (i := 19) (by decide +kernel), List.mem_of_getElem? (i := 784) (by decide +kernel), List.mem_of_getElem? (i := 785) (by decide +kernel)⟩
theorem lw_p38 : lw_okq (⟨"ParkingTrees", "tally", "(II)I"⟩, 12) := ⟨⟨by decide +kernel, by decide +kernel⟩, List.mem_of_getElem? (i := 19) (by decide +kernel), List.mem_of_getElem? (i := 795) (by decide +kernel), List.mem_of_getElem? (i := 796) (by decide +kernel)⟩
theorem lw_p39 : lw_okq (⟨"ParkingTrees", "joinFirst", "(I)V"⟩, 12) := ⟨⟨by decide +kernel, by decide +kernel⟩, List.mem_of_getElem? (i := 19) (by decide +kernel), List.mem_of_getElem? (i := 815) (by decide +kernel), List.mem_of_getElem? (i := 816) (by decide +kernel)⟩
theorem lw_p40 : lw_okq (⟨"ParkingTrees", "hasNumber", "(I)Z"⟩, 12) := ⟨⟨by decide +kernel, by decide +kernel⟩, List.mem_of_getElem? (i := 19) (by decide +kernel), List.mem_of_getElem? (i := 837) (by decide +kernel), List.mem_of_getElem? (i := 838) (by decide +kernel)⟩
theorem lw_p41 : lw_okq (⟨"ParkingTrees", "crossesFirst", "(II)Z"⟩, 12) := ⟨⟨by decide +kernel, by decide +kernel⟩, List.mem_of_getElem? (i := 19) (by decide +kernel), List.mem_of_getElem? (i := 866) (by decide +kernel), List.mem_of_getElem? (i := 867) (by decide +kernel)⟩
theorem lw_p42 : lw_okq (⟨"ParkingTrees", "crossesSecond", "(II)Z"⟩, 12) := ⟨⟨by decide +kernel, by decide +kernel⟩, List.mem_of_getElem? (i := 19) (by decide +kernel), List.mem_of_getElem? (i := 870) (by decide +kernel), List.mem_of_getElem? (i := 871) (by decide +kernel)⟩
theorem lw_p43 : lw_okq (⟨"ParkingTrees", "hasPair", "(II)Z"⟩, 12) := ⟨⟨by decide +kernel, by decide +kernel⟩, List.mem_of_getElem? (i := 19) (by decide +kernel), List.mem_of_getElem? (i := 878) (by decide +kernel), List.mem_of_getElem? (i := 879) (by decide +kernel)⟩
theorem lw_p44 : lw_okq (⟨"ParkingTrees", "crossed", "(II)I"⟩, 12) := ⟨⟨by decide +kernel, by decide +kernel⟩, List.mem_of_getElem? (i := 19) (by decide +kernel), List.mem_of_getElem? (i := 888) (by decide +kernel), List.mem_of_getElem? (i := 889) (by decide +kernel)⟩
theorem lw_p45 : lw_okq (⟨"ParkingTrees", "parkWith", "(II)V"⟩, 12) := ⟨⟨by decide +kernel, by decide +kernel⟩, List.mem_of_getElem? (i := 19) (by decide +kernel), List.mem_of_getElem? (i := 908) (by decide +kernel), List.mem_of_getElem? (i := 909) (by decide +kernel)⟩
theorem lw_p46 : lw_okq (⟨"ParkingTrees", "tryWishes", "()V"⟩, 12) := ⟨⟨by decide +kernel, by decide +kernel⟩, List.mem_of_getElem? (i := 19) (by decide +kernel), List.mem_of_getElem? (i := 912) (by decide +kernel), List.mem_of_getElem? (i := 913) (by decide +kernel)⟩
theorem lw_p47 : lw_okq (⟨"ParkingTrees", "parkSet", "(I)V"⟩, 12) := ⟨⟨by decide +kernel, by decide +kernel⟩, List.mem_of_getElem? (i := 19) (by decide +kernel), List.mem_of_getElem? (i := 924) (by decide +kernel), List.mem_of_getElem? (i := 925) (by decide +kernel)⟩
def lw_privs_3 : List (MethodName × Nat) := [(⟨"ParkingTrees$Tree", "walk", "(Z)V"⟩, 7), (⟨"ParkingTrees", "isTreeCar", "(I)Z"⟩, 12), (⟨"ParkingTrees", "readCode", "(IZ)I"⟩, 12), (⟨"ParkingTrees$Tree", "leastUnwritten", "([JIII)I"⟩, 7), (⟨"ParkingTrees$Tree", "hangByLimbs", "()V"⟩, 7), (⟨"ParkingTrees", "isTallied", "(I)Z"⟩, 12), (⟨"ParkingTrees", "tally", "(II)I"⟩, 12), (⟨"ParkingTrees", "joinFirst", "(I)V"⟩, 12), (⟨"ParkingTrees", "hasNumber", "(I)Z"⟩, 12), (⟨"ParkingTrees", "crossesFirst", "(II)Z"⟩, 12), (⟨"ParkingTrees", "crossesSecond", "(II)Z"⟩, 12), (⟨"ParkingTrees", "hasPair", "(II)Z"⟩, 12), (⟨"ParkingTrees", "crossed", "(II)I"⟩, 12), (⟨"ParkingTrees", "parkWith", "(II)V"⟩, 12), (⟨"ParkingTrees", "tryWishes", "()V"⟩, 12), (⟨"ParkingTrees", "parkSet", "(I)V"⟩, 12)]
theorem lw_r3 : ∀ q ∈ lw_privs_3, lw_okq q := List.forall_mem_cons.mpr ⟨lw_p32, List.forall_mem_cons.mpr ⟨lw_p33, List.forall_mem_cons.mpr ⟨lw_p34, List.forall_mem_cons.mpr ⟨lw_p35, List.forall_mem_cons.mpr ⟨lw_p36, List.forall_mem_cons.mpr ⟨lw_p37, List.forall_mem_cons.mpr ⟨lw_p38, List.forall_mem_cons.mpr ⟨lw_p39, List.forall_mem_cons.mpr ⟨lw_p40, List.forall_mem_cons.mpr ⟨lw_p41, List.forall_mem_cons.mpr ⟨lw_p42, List.forall_mem_cons.mpr ⟨lw_p43, List.forall_mem_cons.mpr ⟨lw_p44, List.forall_mem_cons.mpr ⟨lw_p45, List.forall_mem_cons.mpr ⟨lw_p46, List.forall_mem_cons.mpr ⟨lw_p47, fun _ h => absurd h List.not_mem_nil⟩⟩⟩⟩⟩⟩⟩⟩⟩⟩⟩⟩⟩⟩⟩⟩
theorem lw_p48 : lw_okq (⟨"ParkingTrees", "sightRefusal", "(IZ)I"⟩, 12) := ⟨⟨by decide +kernel, by decide +kernel⟩, List.mem_of_getElem? (i := 19) (by decide +kernel), List.mem_of_getElem? (i := 932) (by decide +kernel), List.mem_of_getElem? (i := 933) (by decide +kernel)⟩
theorem lw_p49 : lw_okq (⟨"ParkingTrees", "fitting", "(LParkingTrees$Slot;I)I"⟩, 12) := ⟨⟨by decide +kernel, by decide +kernel⟩, List.mem_of_getElem? (i := 19) (by decide +kernel), List.mem_of_getElem? (i := 936) (by decide +kernel), List.mem_of_getElem? (i := 937) (by decide +kernel)⟩
theorem lw_p50 : lw_okq (⟨"ParkingTrees", "isAsSeen", "(LParkingTrees$Slot;)Z"⟩, 12) := ⟨⟨by decide +kernel, by decide +kernel⟩, List.mem_of_getElem? (i := 19) (by decide +kernel), List.mem_of_getElem? (i := 940) (by decide +kernel), List.mem_of_getElem? (i := 941) (by decide +kernel)⟩
theorem lw_p51 : lw_okq (⟨"ParkingTrees", "leftAtWorst", "(II)I"⟩, 12) := ⟨⟨by decide +kernel, by decide +kernel⟩, List.mem_of_getElem? (i := 19) (by decide +kernel), List.mem_of_getElem? (i := 948) (by decide +kernel), List.mem_of_getElem? (i := 949) (by decide +kernel)⟩
theorem lw_p52 : lw_okq (⟨"ParkingTrees", "likeWishes", "(III)I"⟩, 12) := ⟨⟨by decide +kernel, by decide +kernel⟩, List.mem_of_getElem? (i := 19) (by decide +kernel), List.mem_of_getElem? (i := 952) (by decide +kernel), List.mem_of_getElem? (i := 953) (by decide +kernel)⟩
theorem lw_p53 : lw_okq (⟨"ParkingTrees", "gain", "(IIII)I"⟩, 12) := ⟨⟨by decide +kernel, by decide +kernel⟩, List.mem_of_getElem? (i := 19) (by decide +kernel), List.mem_of_getElem? (i := 998) (by decide +kernel), List.mem_of_getElem? (i := 999) (by decide +kernel)⟩
theorem lw_p54 : lw_okq (⟨"ParkingTrees", "setWeight", "(II)J"⟩, 12) := ⟨⟨by decide +kernel, by decide +kernel⟩, List.mem_of_getElem? (i := 19) (by decide +kernel), List.mem_of_getElem? (i := 1010) (by decide +kernel), List.mem_of_getElem? (i := 1011) (by decide +kernel)⟩
theorem lw_p55 : lw_okq (⟨"ParkingTrees", "actAndCountLost", "(IIZ)I"⟩, 12) := ⟨⟨by decide +kernel, by decide +kernel⟩, List.mem_of_getElem? (i := 19) (by decide +kernel), List.mem_of_getElem? (i := 1026) (by decide +kernel), List.mem_of_getElem? (i := 1027) (by decide +kernel)⟩
theorem lw_p56 : lw_okq (⟨"ParkingTrees$Street", "doAct", "(I)V"⟩, 15) := ⟨⟨by decide +kernel, by decide +kernel⟩, List.mem_of_getElem? (i := 50) (by decide +kernel), List.mem_of_getElem? (i := 1034) (by decide +kernel), List.mem_of_getElem? (i := 1035) (by decide +kernel)⟩
theorem lw_p57 : lw_okq (⟨"ParkingTrees", "drawSet", "(I)I"⟩, 12) := ⟨⟨by decide +kernel, by decide +kernel⟩, List.mem_of_getElem? (i := 19) (by decide +kernel), List.mem_of_getElem? (i := 1062) (by decide +kernel), List.mem_of_getElem? (i := 1063) (by decide +kernel)⟩
theorem lw_p58 : lw_okq (⟨"ParkingTrees", "slotsWithRows", "()I"⟩, 12) := ⟨⟨by decide +kernel, by decide +kernel⟩, List.mem_of_getElem? (i := 19) (by decide +kernel), List.mem_of_getElem? (i := 1083) (by decide +kernel), List.mem_of_getElem? (i := 1084) (by decide +kernel)⟩
theorem lw_p59 : lw_okq (⟨"ParkingTreesModel", "four", "(I)V"⟩, 45) := ⟨⟨by decide +kernel, by decide +kernel⟩, List.mem_of_getElem? (i := 1121) (by decide +kernel), List.mem_of_getElem? (i := 1289) (by decide +kernel), List.mem_of_getElem? (i := 1290) (by decide +kernel)⟩
theorem lw_p60 : lw_okq (⟨"ParkingTreesModel", "clears", "()V"⟩, 45) := ⟨⟨by decide +kernel, by decide +kernel⟩, List.mem_of_getElem? (i := 1121) (by decide +kernel), List.mem_of_getElem? (i := 1305) (by decide +kernel), List.mem_of_getElem? (i := 1306) (by decide +kernel)⟩
theorem lw_p61 : lw_okq (⟨"ParkingTreesModel", "tells", "(II)V"⟩, 45) := ⟨⟨by decide +kernel, by decide +kernel⟩, List.mem_of_getElem? (i := 1121) (by decide +kernel), List.mem_of_getElem? (i := 1309) (by decide +kernel), List.mem_of_getElem? (i := 1310) (by decide +kernel)⟩
theorem lw_p62 : lw_okq (⟨"ParkingTreesModel", "begins", "()V"⟩, 45) := ⟨⟨by decide +kernel, by decide +kernel⟩, List.mem_of_getElem? (i := 1121) (by decide +kernel), List.mem_of_getElem? (i := 1313) (by decide +kernel), List.mem_of_getElem? (i := 1314) (by decide +kernel)⟩
theorem lw_p63 : lw_okq (⟨"ParkingTreesModel", "follows", "()V"⟩, 45) := ⟨⟨by decide +kernel, by decide +kernel⟩, List.mem_of_getElem? (i := 1121) (by decide +kernel), List.mem_of_getElem? (i := 1317) (by decide +kernel), List.mem_of_getElem? (i := 1318) (by decide +kernel)⟩
def lw_privs_4 : List (MethodName × Nat) := [(⟨"ParkingTrees", "sightRefusal", "(IZ)I"⟩, 12), (⟨"ParkingTrees", "fitting", "(LParkingTrees$Slot;I)I"⟩, 12), (⟨"ParkingTrees", "isAsSeen", "(LParkingTrees$Slot;)Z"⟩, 12), (⟨"ParkingTrees", "leftAtWorst", "(II)I"⟩, 12), (⟨"ParkingTrees", "likeWishes", "(III)I"⟩, 12), (⟨"ParkingTrees", "gain", "(IIII)I"⟩, 12), (⟨"ParkingTrees", "setWeight", "(II)J"⟩, 12), (⟨"ParkingTrees", "actAndCountLost", "(IIZ)I"⟩, 12), (⟨"ParkingTrees$Street", "doAct", "(I)V"⟩, 15), (⟨"ParkingTrees", "drawSet", "(I)I"⟩, 12), (⟨"ParkingTrees", "slotsWithRows", "()I"⟩, 12), (⟨"ParkingTreesModel", "four", "(I)V"⟩, 45), (⟨"ParkingTreesModel", "clears", "()V"⟩, 45), (⟨"ParkingTreesModel", "tells", "(II)V"⟩, 45), (⟨"ParkingTreesModel", "begins", "()V"⟩, 45), (⟨"ParkingTreesModel", "follows", "()V"⟩, 45)]
theorem lw_r4 : ∀ q ∈ lw_privs_4, lw_okq q := List.forall_mem_cons.mpr ⟨lw_p48, List.forall_mem_cons.mpr ⟨lw_p49, List.forall_mem_cons.mpr ⟨lw_p50, List.forall_mem_cons.mpr ⟨lw_p51, List.forall_mem_cons.mpr ⟨lw_p52, List.forall_mem_cons.mpr ⟨lw_p53, List.forall_mem_cons.mpr ⟨lw_p54, List.forall_mem_cons.mpr ⟨lw_p55, List.forall_mem_cons.mpr ⟨lw_p56, List.forall_mem_cons.mpr ⟨lw_p57, List.forall_mem_cons.mpr ⟨lw_p58, List.forall_mem_cons.mpr ⟨lw_p59, List.forall_mem_cons.mpr ⟨lw_p60, List.forall_mem_cons.mpr ⟨lw_p61, List.forall_mem_cons.mpr ⟨lw_p62, List.forall_mem_cons.mpr ⟨lw_p63, fun _ h => absurd h List.not_mem_nil⟩⟩⟩⟩⟩⟩⟩⟩⟩⟩⟩⟩⟩⟩⟩⟩
theorem lw_p64 : lw_okq (⟨"ParkingTreesModel", "isByte", "(III)Z"⟩, 45) := ⟨⟨by decide +kernel, by decide +kernel⟩, List.mem_of_getElem? (i := 1121) (by decide +kernel), List.mem_of_getElem? (i := 1321) (by decide +kernel), List.mem_of_getElem? (i := 1322) (by decide +kernel)⟩
theorem lw_p65 : lw_okq (⟨"ParkingTreesModel", "isGood", "()Z"⟩, 45) := ⟨⟨by decide +kernel, by decide +kernel⟩, List.mem_of_getElem? (i := 1121) (by decide +kernel), List.mem_of_getElem? (i := 1330) (by decide +kernel), List.mem_of_getElem? (i := 1331) (by decide +kernel)⟩
theorem lw_p66 : lw_okq (⟨"ParkingTreesModel", "asks", "(J)V"⟩, 45) := ⟨⟨by decide +kernel, by decide +kernel⟩, List.mem_of_getElem? (i := 1121) (by decide +kernel), List.mem_of_getElem? (i := 1335) (by decide +kernel), List.mem_of_getElem? (i := 1336) (by decide +kernel)⟩
theorem lw_p67 : lw_okq (⟨"ParkingTreesModel", "takesWord", "(J)Z"⟩, 45) := ⟨⟨by decide +kernel, by decide +kernel⟩, List.mem_of_getElem? (i := 1121) (by decide +kernel), List.mem_of_getElem? (i := 1339) (by decide +kernel), List.mem_of_getElem? (i := 1340) (by decide +kernel)⟩
theorem lw_p68 : lw_okq (⟨"ParkingTreesModel", "is", "(J)Z"⟩, 45) := ⟨⟨by decide +kernel, by decide +kernel⟩, List.mem_of_getElem? (i := 1121) (by decide +kernel), List.mem_of_getElem? (i := 1343) (by decide +kernel), List.mem_of_getElem? (i := 1344) (by decide +kernel)⟩
theorem lw_p69 : lw_okq (⟨"ParkingTreesModel", "fails", "(I)V"⟩, 45) := ⟨⟨by decide +kernel, by decide +kernel⟩, List.mem_of_getElem? (i := 1121) (by decide +kernel), List.mem_of_getElem? (i := 1347) (by decide +kernel), List.mem_of_getElem? (i := 1348) (by decide +kernel)⟩
theorem lw_p70 : lw_okq (⟨"ParkingTreesModel", "number", "(JII)I"⟩, 45) := ⟨⟨by decide +kernel, by decide +kernel⟩, List.mem_of_getElem? (i := 1121) (by decide +kernel), List.mem_of_getElem? (i := 1352) (by decide +kernel), List.mem_of_getElem? (i := 1353) (by decide +kernel)⟩
theorem lw_p71 : lw_okq (⟨"ParkingTreesModel", "number", "(II)I"⟩, 45) := ⟨⟨by decide +kernel, by decide +kernel⟩, List.mem_of_getElem? (i := 1121) (by decide +kernel), List.mem_of_getElem? (i := 1356) (by decide +kernel), List.mem_of_getElem? (i := 1357) (by decide +kernel)⟩
theorem lw_p72 : lw_okq (⟨"ParkingTreesModel", "lineHere", "()V"⟩, 45) := ⟨⟨by decide +kernel, by decide +kernel⟩, List.mem_of_getElem? (i := 1121) (by decide +kernel), List.mem_of_getElem? (i := 1362) (by decide +kernel), List.mem_of_getElem? (i := 1363) (by decide +kernel)⟩
theorem lw_p73 : lw_okq (⟨"ParkingTreesModel", "hasRead", "(I)I"⟩, 45) := ⟨⟨by decide +kernel, by decide +kernel⟩, List.mem_of_getElem? (i := 1121) (by decide +kernel), List.mem_of_getElem? (i := 1367) (by decide +kernel), List.mem_of_getElem? (i := 1368) (by decide +kernel)⟩
theorem lw_p74 : lw_okq (⟨"ParkingTreesModel", "carLine", "()V"⟩, 45) := ⟨⟨by decide +kernel, by decide +kernel⟩, List.mem_of_getElem? (i := 1121) (by decide +kernel), List.mem_of_getElem? (i := 1371) (by decide +kernel), List.mem_of_getElem? (i := 1372) (by decide +kernel)⟩
theorem lw_p75 : lw_okq (⟨"ParkingTreesModel", "joinLine", "()V"⟩, 45) := ⟨⟨by decide +kernel, by decide +kernel⟩, List.mem_of_getElem? (i := 1121) (by decide +kernel), List.mem_of_getElem? (i := 1378) (by decide +kernel), List.mem_of_getElem? (i := 1379) (by decide +kernel)⟩
theorem lw_p76 : lw_okq (⟨"ParkingTreesModel", "laysBlocks", "(II)V"⟩, 45) := ⟨⟨by decide +kernel, by decide +kernel⟩, List.mem_of_getElem? (i := 1121) (by decide +kernel), List.mem_of_getElem? (i := 1385) (by decide +kernel), List.mem_of_getElem? (i := 1386) (by decide +kernel)⟩
theorem lw_p77 : lw_okq (⟨"ParkingTreesModel", "joins0", "(II)V"⟩, 45) := ⟨⟨by decide +kernel, by decide +kernel⟩, List.mem_of_getElem? (i := 1121) (by decide +kernel), List.mem_of_getElem? (i := 1389) (by decide +kernel), List.mem_of_getElem? (i := 1390) (by decide +kernel)⟩
theorem lw_p78 : lw_okq (⟨"ParkingTreesModel", "mayJoin", "(III)Z"⟩, 45) := ⟨⟨by decide +kernel, by decide +kernel⟩, List.mem_of_getElem? (i := 1121) (by decide +kernel), List.mem_of_getElem? (i := 1396) (by decide +kernel), List.mem_of_getElem? (i := 1397) (by decide +kernel)⟩
theorem lw_p79 : lw_okq (⟨"ParkingTreesModel", "withJoin", "(III)I"⟩, 45) := ⟨⟨by decide +kernel, by decide +kernel⟩, List.mem_of_getElem? (i := 1121) (by decide +kernel), List.mem_of_getElem? (i := 1400) (by decide +kernel), List.mem_of_getElem? (i := 1401) (by decide +kernel)⟩
def lw_privs_5 : List (MethodName × Nat) := [(⟨"ParkingTreesModel", "isByte", "(III)Z"⟩, 45), (⟨"ParkingTreesModel", "isGood", "()Z"⟩, 45), (⟨"ParkingTreesModel", "asks", "(J)V"⟩, 45), (⟨"ParkingTreesModel", "takesWord", "(J)Z"⟩, 45), (⟨"ParkingTreesModel", "is", "(J)Z"⟩, 45), (⟨"ParkingTreesModel", "fails", "(I)V"⟩, 45), (⟨"ParkingTreesModel", "number", "(JII)I"⟩, 45), (⟨"ParkingTreesModel", "number", "(II)I"⟩, 45), (⟨"ParkingTreesModel", "lineHere", "()V"⟩, 45), (⟨"ParkingTreesModel", "hasRead", "(I)I"⟩, 45), (⟨"ParkingTreesModel", "carLine", "()V"⟩, 45), (⟨"ParkingTreesModel", "joinLine", "()V"⟩, 45), (⟨"ParkingTreesModel", "laysBlocks", "(II)V"⟩, 45), (⟨"ParkingTreesModel", "joins0", "(II)V"⟩, 45), (⟨"ParkingTreesModel", "mayJoin", "(III)Z"⟩, 45), (⟨"ParkingTreesModel", "withJoin", "(III)I"⟩, 45)]
theorem lw_r5 : ∀ q ∈ lw_privs_5, lw_okq q := List.forall_mem_cons.mpr ⟨lw_p64, List.forall_mem_cons.mpr ⟨lw_p65, List.forall_mem_cons.mpr ⟨lw_p66, List.forall_mem_cons.mpr ⟨lw_p67, List.forall_mem_cons.mpr ⟨lw_p68, List.forall_mem_cons.mpr ⟨lw_p69, List.forall_mem_cons.mpr ⟨lw_p70, List.forall_mem_cons.mpr ⟨lw_p71, List.forall_mem_cons.mpr ⟨lw_p72, List.forall_mem_cons.mpr ⟨lw_p73, List.forall_mem_cons.mpr ⟨lw_p74, List.forall_mem_cons.mpr ⟨lw_p75, List.forall_mem_cons.mpr ⟨lw_p76, List.forall_mem_cons.mpr ⟨lw_p77, List.forall_mem_cons.mpr ⟨lw_p78, List.forall_mem_cons.mpr ⟨lw_p79, fun _ h => absurd h List.not_mem_nil⟩⟩⟩⟩⟩⟩⟩⟩⟩⟩⟩⟩⟩⟩⟩⟩
theorem lw_p80 : lw_okq (⟨"ParkingTreesModel", "closes", "()V"⟩, 45) := ⟨⟨by decide +kernel, by decide +kernel⟩, List.mem_of_getElem? (i := 1121) (by decide +kernel), List.mem_of_getElem? (i := 1404) (by decide +kernel), List.mem_of_getElem? (i := 1405) (by decide +kernel)⟩
theorem lw_p81 : lw_okq (⟨"ParkingTreesModel", "isOver", "()V"⟩, 45) := ⟨⟨by decide +kernel, by decide +kernel⟩, List.mem_of_getElem? (i := 1121) (by decide +kernel), List.mem_of_getElem? (i := 1408) (by decide +kernel), List.mem_of_getElem? (i := 1409) (by decide +kernel)⟩
theorem lw_p82 : lw_okq (⟨"ParkingTreesModel", "copyStreet", "(II)V"⟩, 45) := ⟨⟨by decide +kernel, by decide +kernel⟩, List.mem_of_getElem? (i := 1121) (by decide +kernel), List.mem_of_getElem? (i := 1412) (by decide +kernel), List.mem_of_getElem? (i := 1413) (by decide +kernel)⟩
theorem lw_p83 : lw_okq (⟨"ParkingTreesModel", "isCar", "(J)Z"⟩, 45) := ⟨⟨by decide +kernel, by decide +kernel⟩, List.mem_of_getElem? (i := 1121) (by decide +kernel), List.mem_of_getElem? (i := 1423) (by decide +kernel), List.mem_of_getElem? (i := 1424) (by decide +kernel)⟩
theorem lw_p84 : lw_okq (⟨"ParkingTreesModel", "cars", "()I"⟩, 45) := ⟨⟨by decide +kernel, by decide +kernel⟩, List.mem_of_getElem? (i := 1121) (by decide +kernel), List.mem_of_getElem? (i := 1427) (by decide +kernel), List.mem_of_getElem? (i := 1428) (by decide +kernel)⟩
theorem lw_p85 : lw_okq (⟨"ParkingTreesModel", "lays", "()V"⟩, 45) := ⟨⟨by decide +kernel, by decide +kernel⟩, List.mem_of_getElem? (i := 1121) (by decide +kernel), List.mem_of_getElem? (i := 1434) (by decide +kernel), List.mem_of_getElem? (i := 1435) (by decide +kernel)⟩
theorem lw_p86 : lw_okq (⟨"ParkingTreesModel", "trade", "(II)V"⟩, 45) := ⟨⟨by decide +kernel, by decide +kernel⟩, List.mem_of_getElem? (i := 1121) (by decide +kernel), List.mem_of_getElem? (i := 1438) (by decide +kernel), List.mem_of_getElem? (i := 1439) (by decide +kernel)⟩
theorem lw_p87 : lw_okq (⟨"ParkingTreesModel", "laysNow", "()V"⟩, 45) := ⟨⟨by decide +kernel, by decide +kernel⟩, List.mem_of_getElem? (i := 1121) (by decide +kernel), List.mem_of_getElem? (i := 1446) (by decide +kernel), List.mem_of_getElem? (i := 1447) (by decide +kernel)⟩
theorem lw_p88 : lw_okq (⟨"ParkingTreesModel", "parks", "(I)V"⟩, 45) := ⟨⟨by decide +kernel, by decide +kernel⟩, List.mem_of_getElem? (i := 1121) (by decide +kernel), List.mem_of_getElem? (i := 1450) (by decide +kernel), List.mem_of_getElem? (i := 1451) (by decide +kernel)⟩
theorem lw_p89 : lw_okq (⟨"ParkingTreesModel", "findsBy", "(II)I"⟩, 45) := ⟨⟨by decide +kernel, by decide +kernel⟩, List.mem_of_getElem? (i := 1121) (by decide +kernel), List.mem_of_getElem? (i := 1457) (by decide +kernel), List.mem_of_getElem? (i := 1458) (by decide +kernel)⟩
theorem lw_p90 : lw_okq (⟨"ParkingTreesModel", "places", "()I"⟩, 45) := ⟨⟨by decide +kernel, by decide +kernel⟩, List.mem_of_getElem? (i := 1121) (by decide +kernel), List.mem_of_getElem? (i := 1461) (by decide +kernel), List.mem_of_getElem? (i := 1462) (by decide +kernel)⟩
theorem lw_p91 : lw_okq (⟨"ParkingTreesModel", "isFree", "(II)Z"⟩, 45) := ⟨⟨by decide +kernel, by decide +kernel⟩, List.mem_of_getElem? (i := 1121) (by decide +kernel), List.mem_of_getElem? (i := 1465) (by decide +kernel), List.mem_of_getElem? (i := 1466) (by decide +kernel)⟩
theorem lw_p92 : lw_okq (⟨"ParkingTreesModel", "above0", "(II)I"⟩, 45) := ⟨⟨by decide +kernel, by decide +kernel⟩, List.mem_of_getElem? (i := 1121) (by decide +kernel), List.mem_of_getElem? (i := 1469) (by decide +kernel), List.mem_of_getElem? (i := 1470) (by decide +kernel)⟩
theorem lw_p93 : lw_okq (⟨"ParkingTreesModel", "stepsOf", "(I)I"⟩, 45) := ⟨⟨by decide +kernel, by decide +kernel⟩, List.mem_of_getElem? (i := 1121) (by decide +kernel), List.mem_of_getElem? (i := 1477) (by decide +kernel), List.mem_of_getElem? (i := 1478) (by decide +kernel)⟩
theorem lw_p94 : lw_okq (⟨"ParkingTreesModel", "isStreet", "()Z"⟩, 45) := ⟨⟨by decide +kernel, by decide +kernel⟩, List.mem_of_getElem? (i := 1121) (by decide +kernel), List.mem_of_getElem? (i := 1488) (by decide +kernel), List.mem_of_getElem? (i := 1489) (by decide +kernel)⟩
theorem lw_p95 : lw_okq (⟨"ParkingTreesModel", "isPlace", "(I)Z"⟩, 45) := ⟨⟨by decide +kernel, by decide +kernel⟩, List.mem_of_getElem? (i := 1121) (by decide +kernel), List.mem_of_getElem? (i := 1500) (by decide +kernel), List.mem_of_getElem? (i := 1501) (by decide +kernel)⟩
def lw_privs_6 : List (MethodName × Nat) := [(⟨"ParkingTreesModel", "closes", "()V"⟩, 45), (⟨"ParkingTreesModel", "isOver", "()V"⟩, 45), (⟨"ParkingTreesModel", "copyStreet", "(II)V"⟩, 45), (⟨"ParkingTreesModel", "isCar", "(J)Z"⟩, 45), (⟨"ParkingTreesModel", "cars", "()I"⟩, 45), (⟨"ParkingTreesModel", "lays", "()V"⟩, 45), (⟨"ParkingTreesModel", "trade", "(II)V"⟩, 45), (⟨"ParkingTreesModel", "laysNow", "()V"⟩, 45), (⟨"ParkingTreesModel", "parks", "(I)V"⟩, 45), (⟨"ParkingTreesModel", "findsBy", "(II)I"⟩, 45), (⟨"ParkingTreesModel", "places", "()I"⟩, 45), (⟨"ParkingTreesModel", "isFree", "(II)Z"⟩, 45), (⟨"ParkingTreesModel", "above0", "(II)I"⟩, 45), (⟨"ParkingTreesModel", "stepsOf", "(I)I"⟩, 45), (⟨"ParkingTreesModel", "isStreet", "()Z"⟩, 45), (⟨"ParkingTreesModel", "isPlace", "(I)Z"⟩, 45)]
theorem lw_r6 : ∀ q ∈ lw_privs_6, lw_okq q := List.forall_mem_cons.mpr ⟨lw_p80, List.forall_mem_cons.mpr ⟨lw_p81, List.forall_mem_cons.mpr ⟨lw_p82, List.forall_mem_cons.mpr ⟨lw_p83, List.forall_mem_cons.mpr ⟨lw_p84, List.forall_mem_cons.mpr ⟨lw_p85, List.forall_mem_cons.mpr ⟨lw_p86, List.forall_mem_cons.mpr ⟨lw_p87, List.forall_mem_cons.mpr ⟨lw_p88, List.forall_mem_cons.mpr ⟨lw_p89, List.forall_mem_cons.mpr ⟨lw_p90, List.forall_mem_cons.mpr ⟨lw_p91, List.forall_mem_cons.mpr ⟨lw_p92, List.forall_mem_cons.mpr ⟨lw_p93, List.forall_mem_cons.mpr ⟨lw_p94, List.forall_mem_cons.mpr ⟨lw_p95, fun _ h => absurd h List.not_mem_nil⟩⟩⟩⟩⟩⟩⟩⟩⟩⟩⟩⟩⟩⟩⟩⟩
theorem lw_p96 : lw_okq (⟨"ParkingTreesModel", "sumNow", "()I"⟩, 45) := ⟨⟨by decide +kernel, by decide +kernel⟩, List.mem_of_getElem? (i := 1121) (by decide +kernel), List.mem_of_getElem? (i := 1512) (by decide +kernel), List.mem_of_getElem? (i := 1513) (by decide +kernel)⟩
theorem lw_p97 : lw_okq (⟨"ParkingTreesModel", "wanting", "(I)I"⟩, 45) := ⟨⟨by decide +kernel, by decide +kernel⟩, List.mem_of_getElem? (i := 1121) (by decide +kernel), List.mem_of_getElem? (i := 1528) (by decide +kernel), List.mem_of_getElem? (i := 1529) (by decide +kernel)⟩
theorem lw_p98 : lw_okq (⟨"ParkingTreesModel", "isLawful", "()Z"⟩, 45) := ⟨⟨by decide +kernel, by decide +kernel⟩, List.mem_of_getElem? (i := 1121) (by decide +kernel), List.mem_of_getElem? (i := 1536) (by decide +kernel), List.mem_of_getElem? (i := 1537) (by decide +kernel)⟩
theorem lw_p99 : lw_okq (⟨"ParkingTreesModel", "ringFree", "(I)I"⟩, 45) := ⟨⟨by decide +kernel, by decide +kernel⟩, List.mem_of_getElem? (i := 1121) (by decide +kernel), List.mem_of_getElem? (i := 1556) (by decide +kernel), List.mem_of_getElem? (i := 1557) (by decide +kernel)⟩
theorem lw_p100 : lw_okq (⟨"ParkingTreesModel", "shiftedOf", "(II)I"⟩, 45) := ⟨⟨by decide +kernel, by decide +kernel⟩, List.mem_of_getElem? (i := 1121) (by decide +kernel), List.mem_of_getElem? (i := 1560) (by decide +kernel), List.mem_of_getElem? (i := 1561) (by decide +kernel)⟩
theorem lw_p101 : lw_okq (⟨"ParkingTreesModel", "laysTree", "()V"⟩, 45) := ⟨⟨by decide +kernel, by decide +kernel⟩, List.mem_of_getElem? (i := 1121) (by decide +kernel), List.mem_of_getElem? (i := 1580) (by decide +kernel), List.mem_of_getElem? (i := 1581) (by decide +kernel)⟩
theorem lw_p102 : lw_okq (⟨"ParkingTreesModel", "isNode", "(I)Z"⟩, 45) := ⟨⟨by decide +kernel, by decide +kernel⟩, List.mem_of_getElem? (i := 1121) (by decide +kernel), List.mem_of_getElem? (i := 1592) (by decide +kernel), List.mem_of_getElem? (i := 1593) (by decide +kernel)⟩
theorem lw_p103 : lw_okq (⟨"ParkingTreesModel", "kidsOf", "(II)I"⟩, 45) := ⟨⟨by decide +kernel, by decide +kernel⟩, List.mem_of_getElem? (i := 1121) (by decide +kernel), List.mem_of_getElem? (i := 1596) (by decide +kernel), List.mem_of_getElem? (i := 1597) (by decide +kernel)⟩
theorem lw_p104 : lw_okq (⟨"ParkingTreesModel", "turnedIn", "(I)I"⟩, 45) := ⟨⟨by decide +kernel, by decide +kernel⟩, List.mem_of_getElem? (i := 1121) (by decide +kernel), List.mem_of_getElem? (i := 1612) (by decide +kernel), List.mem_of_getElem? (i := 1613) (by decide +kernel)⟩
theorem lw_p105 : lw_okq (⟨"ParkingTreesModel", "laysCode", "()V"⟩, 45) := ⟨⟨by decide +kernel, by decide +kernel⟩, List.mem_of_getElem? (i := 1121) (by decide +kernel), List.mem_of_getElem? (i := 1620) (by decide +kernel), List.mem_of_getElem? (i := 1621) (by decide +kernel)⟩
theorem lw_p106 : lw_okq (⟨"ParkingTreesModel", "limbsOf", "(II)I"⟩, 45) := ⟨⟨by decide +kernel, by decide +kernel⟩, List.mem_of_getElem? (i := 1121) (by decide +kernel), List.mem_of_getElem? (i := 1624) (by decide +kernel), List.mem_of_getElem? (i := 1625) (by decide +kernel)⟩
theorem lw_p107 : lw_okq (⟨"ParkingTreesModel", "otherEnd", "(II)I"⟩, 45) := ⟨⟨by decide +kernel, by decide +kernel⟩, List.mem_of_getElem? (i := 1121) (by decide +kernel), List.mem_of_getElem? (i := 1628) (by decide +kernel), List.mem_of_getElem? (i := 1629) (by decide +kernel)⟩
theorem lw_p108 : lw_okq (⟨"ParkingTreesModel", "searches", "()V"⟩, 45) := ⟨⟨by decide +kernel, by decide +kernel⟩, List.mem_of_getElem? (i := 1121) (by decide +kernel), List.mem_of_getElem? (i := 1636) (by decide +kernel), List.mem_of_getElem? (i := 1637) (by decide +kernel)⟩
theorem lw_p109 : lw_okq (⟨"ParkingTreesModel", "goesOn", "(I)V"⟩, 45) := ⟨⟨by decide +kernel, by decide +kernel⟩, List.mem_of_getElem? (i := 1121) (by decide +kernel), List.mem_of_getElem? (i := 1640) (by decide +kernel), List.mem_of_getElem? (i := 1641) (by decide +kernel)⟩
theorem lw_p110 : lw_okq (⟨"ParkingTreesModel", "whyNotCode", "(IZ)I"⟩, 45) := ⟨⟨by decide +kernel, by decide +kernel⟩, List.mem_of_getElem? (i := 1121) (by decide +kernel), List.mem_of_getElem? (i := 1656) (by decide +kernel), List.mem_of_getElem? (i := 1657) (by decide +kernel)⟩
theorem lw_p111 : lw_okq (⟨"ParkingTreesModel", "laysSlot", "(I)V"⟩, 45) := ⟨⟨by decide +kernel, by decide +kernel⟩, List.mem_of_getElem? (i := 1121) (by decide +kernel), List.mem_of_getElem? (i := 1660) (by decide +kernel), List.mem_of_getElem? (i := 1661) (by decide +kernel)⟩
def lw_privs_7 : List (MethodName × Nat) := [(⟨"ParkingTreesModel", "sumNow", "()I"⟩, 45), (⟨"ParkingTreesModel", "wanting", "(I)I"⟩, 45), (⟨"ParkingTreesModel", "isLawful", "()Z"⟩, 45), (⟨"ParkingTreesModel", "ringFree", "(I)I"⟩, 45), (⟨"ParkingTreesModel", "shiftedOf", "(II)I"⟩, 45), (⟨"ParkingTreesModel", "laysTree", "()V"⟩, 45), (⟨"ParkingTreesModel", "isNode", "(I)Z"⟩, 45), (⟨"ParkingTreesModel", "kidsOf", "(II)I"⟩, 45), (⟨"ParkingTreesModel", "turnedIn", "(I)I"⟩, 45), (⟨"ParkingTreesModel", "laysCode", "()V"⟩, 45), (⟨"ParkingTreesModel", "limbsOf", "(II)I"⟩, 45), (⟨"ParkingTreesModel", "otherEnd", "(II)I"⟩, 45), (⟨"ParkingTreesModel", "searches", "()V"⟩, 45), (⟨"ParkingTreesModel", "goesOn", "(I)V"⟩, 45), (⟨"ParkingTreesModel", "whyNotCode", "(IZ)I"⟩, 45), (⟨"ParkingTreesModel", "laysSlot", "(I)V"⟩, 45)]
theorem lw_r7 : ∀ q ∈ lw_privs_7, lw_okq q := List.forall_mem_cons.mpr ⟨lw_p96, List.forall_mem_cons.mpr ⟨lw_p97, List.forall_mem_cons.mpr ⟨lw_p98, List.forall_mem_cons.mpr ⟨lw_p99, List.forall_mem_cons.mpr ⟨lw_p100, List.forall_mem_cons.mpr ⟨lw_p101, List.forall_mem_cons.mpr ⟨lw_p102, List.forall_mem_cons.mpr ⟨lw_p103, List.forall_mem_cons.mpr ⟨lw_p104, List.forall_mem_cons.mpr ⟨lw_p105, List.forall_mem_cons.mpr ⟨lw_p106, List.forall_mem_cons.mpr ⟨lw_p107, List.forall_mem_cons.mpr ⟨lw_p108, List.forall_mem_cons.mpr ⟨lw_p109, List.forall_mem_cons.mpr ⟨lw_p110, List.forall_mem_cons.mpr ⟨lw_p111, fun _ h => absurd h List.not_mem_nil⟩⟩⟩⟩⟩⟩⟩⟩⟩⟩⟩⟩⟩⟩⟩⟩
theorem lw_p112 : lw_okq (⟨"ParkingTreesModel", "reads0", "(I)V"⟩, 45) := ⟨⟨by decide +kernel, by decide +kernel⟩, List.mem_of_getElem? (i := 1121) (by decide +kernel), List.mem_of_getElem? (i := 1664) (by decide +kernel), List.mem_of_getElem? (i := 1665) (by decide +kernel)⟩
theorem lw_p113 : lw_okq (⟨"ParkingTreesModel", "roots", "(I)V"⟩, 45) := ⟨⟨by decide +kernel, by decide +kernel⟩, List.mem_of_getElem? (i := 1121) (by decide +kernel), List.mem_of_getElem? (i := 1668) (by decide +kernel), List.mem_of_getElem? (i := 1669) (by decide +kernel)⟩
theorem lw_p114 : lw_okq (⟨"ParkingTreesModel", "counts0", "(I)V"⟩, 45) := ⟨⟨by decide +kernel, by decide +kernel⟩, List.mem_of_getElem? (i := 1121) (by decide +kernel), List.mem_of_getElem? (i := 1680) (by decide +kernel), List.mem_of_getElem? (i := 1681) (by decide +kernel)⟩
theorem lw_p115 : lw_okq (⟨"ParkingTreesModel", "isSmall", "(I)Z"⟩, 45) := ⟨⟨by decide +kernel, by decide +kernel⟩, List.mem_of_getElem? (i := 1121) (by decide +kernel), List.mem_of_getElem? (i := 1692) (by decide +kernel), List.mem_of_getElem? (i := 1693) (by decide +kernel)⟩
theorem lw_p116 : lw_okq (⟨"ParkingTreesModel", "rowsBy", "(III)I"⟩, 45) := ⟨⟨by decide +kernel, by decide +kernel⟩, List.mem_of_getElem? (i := 1121) (by decide +kernel), List.mem_of_getElem? (i := 1697) (by decide +kernel), List.mem_of_getElem? (i := 1698) (by decide +kernel)⟩
theorem lw_p117 : lw_okq (⟨"ParkingTreesModel", "smallSteps", "(I)I"⟩, 45) := ⟨⟨by decide +kernel, by decide +kernel⟩, List.mem_of_getElem? (i := 1121) (by decide +kernel), List.mem_of_getElem? (i := 1701) (by decide +kernel), List.mem_of_getElem? (i := 1702) (by decide +kernel)⟩
theorem lw_p118 : lw_okq (⟨"ParkingTreesModel", "isJoin", "(I)Z"⟩, 45) := ⟨⟨by decide +kernel, by decide +kernel⟩, List.mem_of_getElem? (i := 1121) (by decide +kernel), List.mem_of_getElem? (i := 1722) (by decide +kernel), List.mem_of_getElem? (i := 1723) (by decide +kernel)⟩
theorem lw_p119 : lw_okq (⟨"ParkingTreesModel", "labelAt", "(I)I"⟩, 45) := ⟨⟨by decide +kernel, by decide +kernel⟩, List.mem_of_getElem? (i := 1121) (by decide +kernel), List.mem_of_getElem? (i := 1726) (by decide +kernel), List.mem_of_getElem? (i := 1727) (by decide +kernel)⟩
theorem lw_p120 : lw_okq (⟨"ParkingTreesModel", "labelOf", "(II)I"⟩, 45) := ⟨⟨by decide +kernel, by decide +kernel⟩, List.mem_of_getElem? (i := 1121) (by decide +kernel), List.mem_of_getElem? (i := 1730) (by decide +kernel), List.mem_of_getElem? (i := 1731) (by decide +kernel)⟩
theorem lw_p121 : lw_okq (⟨"ParkingTreesModel", "blockBits", "(II)I"⟩, 45) := ⟨⟨by decide +kernel, by decide +kernel⟩, List.mem_of_getElem? (i := 1121) (by decide +kernel), List.mem_of_getElem? (i := 1738) (by decide +kernel), List.mem_of_getElem? (i := 1739) (by decide +kernel)⟩
theorem lw_p122 : lw_okq (⟨"ParkingTreesModel", "blocksNow", "()I"⟩, 45) := ⟨⟨by decide +kernel, by decide +kernel⟩, List.mem_of_getElem? (i := 1121) (by decide +kernel), List.mem_of_getElem? (i := 1746) (by decide +kernel), List.mem_of_getElem? (i := 1747) (by decide +kernel)⟩
theorem lw_p123 : lw_okq (⟨"ParkingTreesModel", "isNumber", "(I)Z"⟩, 45) := ⟨⟨by decide +kernel, by decide +kernel⟩, List.mem_of_getElem? (i := 1121) (by decide +kernel), List.mem_of_getElem? (i := 1754) (by decide +kernel), List.mem_of_getElem? (i := 1755) (by decide +kernel)⟩
theorem lw_p124 : lw_okq (⟨"ParkingTreesModel", "crossed", "(II)I"⟩, 45) := ⟨⟨by decide +kernel, by decide +kernel⟩, List.mem_of_getElem? (i := 1121) (by decide +kernel), List.mem_of_getElem? (i := 1778) (by decide +kernel), List.mem_of_getElem? (i := 1779) (by decide +kernel)⟩
theorem lw_p125 : lw_okq (⟨"ParkingTreesModel", "stands", "(I)I"⟩, 45) := ⟨⟨by decide +kernel, by decide +kernel⟩, List.mem_of_getElem? (i := 1121) (by decide +kernel), List.mem_of_getElem? (i := 1782) (by decide +kernel), List.mem_of_getElem? (i := 1783) (by decide +kernel)⟩
theorem lw_p126 : lw_okq (⟨"ParkingTreesModel", "areTwo", "(II)Z"⟩, 45) := ⟨⟨by decide +kernel, by decide +kernel⟩, List.mem_of_getElem? (i := 1121) (by decide +kernel), List.mem_of_getElem? (i := 1790) (by decide +kernel), List.mem_of_getElem? (i := 1791) (by decide +kernel)⟩
theorem lw_p127 : lw_okq (⟨"ParkingTreesModel", "whyNot", "(IZ)I"⟩, 45) := ⟨⟨by decide +kernel, by decide +kernel⟩, List.mem_of_getElem? (i := 1121) (by decide +kernel), List.mem_of_getElem? (i := 1825) (by decide +kernel), List.mem_of_getElem? (i := 1826) (by decide +kernel)⟩
def lw_privs_8 : List (MethodName × Nat) := [(⟨"ParkingTreesModel", "reads0", "(I)V"⟩, 45), (⟨"ParkingTreesModel", "roots", "(I)V"⟩, 45), (⟨"ParkingTreesModel", "counts0", "(I)V"⟩, 45), (⟨"ParkingTreesModel", "isSmall", "(I)Z"⟩, 45), (⟨"ParkingTreesModel", "rowsBy", "(III)I"⟩, 45), (⟨"ParkingTreesModel", "smallSteps", "(I)I"⟩, 45), (⟨"ParkingTreesModel", "isJoin", "(I)Z"⟩, 45), (⟨"ParkingTreesModel", "labelAt", "(I)I"⟩, 45), (⟨"ParkingTreesModel", "labelOf", "(II)I"⟩, 45), (⟨"ParkingTreesModel", "blockBits", "(II)I"⟩, 45), (⟨"ParkingTreesModel", "blocksNow", "()I"⟩, 45), (⟨"ParkingTreesModel", "isNumber", "(I)Z"⟩, 45), (⟨"ParkingTreesModel", "crossed", "(II)I"⟩, 45), (⟨"ParkingTreesModel", "stands", "(I)I"⟩, 45), (⟨"ParkingTreesModel", "areTwo", "(II)Z"⟩, 45), (⟨"ParkingTreesModel", "whyNot", "(IZ)I"⟩, 45)]
theorem lw_r8 : ∀ q ∈ lw_privs_8, lw_okq q := List.forall_mem_cons.mpr ⟨lw_p112, List.forall_mem_cons.mpr ⟨lw_p113, List.forall_mem_cons.mpr ⟨lw_p114, List.forall_mem_cons.mpr ⟨lw_p115, List.forall_mem_cons.mpr ⟨lw_p116, List.forall_mem_cons.mpr ⟨lw_p117, List.forall_mem_cons.mpr ⟨lw_p118, List.forall_mem_cons.mpr ⟨lw_p119, List.forall_mem_cons.mpr ⟨lw_p120, List.forall_mem_cons.mpr ⟨lw_p121, List.forall_mem_cons.mpr ⟨lw_p122, List.forall_mem_cons.mpr ⟨lw_p123, List.forall_mem_cons.mpr ⟨lw_p124, List.forall_mem_cons.mpr ⟨lw_p125, List.forall_mem_cons.mpr ⟨lw_p126, List.forall_mem_cons.mpr ⟨lw_p127, fun _ h => absurd h List.not_mem_nil⟩⟩⟩⟩⟩⟩⟩⟩⟩⟩⟩⟩⟩⟩⟩⟩
theorem lw_p128 : lw_okq (⟨"ParkingTreesModel", "laysSeen", "(II)V"⟩, 45) := ⟨⟨by decide +kernel, by decide +kernel⟩, List.mem_of_getElem? (i := 1121) (by decide +kernel), List.mem_of_getElem? (i := 1829) (by decide +kernel), List.mem_of_getElem? (i := 1830) (by decide +kernel)⟩
theorem lw_p129 : lw_okq (⟨"ParkingTreesModel", "isSo", "(I)Z"⟩, 45) := ⟨⟨by decide +kernel, by decide +kernel⟩, List.mem_of_getElem? (i := 1121) (by decide +kernel), List.mem_of_getElem? (i := 1833) (by decide +kernel), List.mem_of_getElem? (i := 1834) (by decide +kernel)⟩
theorem lw_p130 : lw_okq (⟨"ParkingTreesModel", "seenPlace", "(I)I"⟩, 45) := ⟨⟨by decide +kernel, by decide +kernel⟩, List.mem_of_getElem? (i := 1121) (by decide +kernel), List.mem_of_getElem? (i := 1837) (by decide +kernel), List.mem_of_getElem? (i := 1838) (by decide +kernel)⟩
theorem lw_p131 : lw_okq (⟨"ParkingTreesModel", "worstBy", "(I)I"⟩, 45) := ⟨⟨by decide +kernel, by decide +kernel⟩, List.mem_of_getElem? (i := 1121) (by decide +kernel), List.mem_of_getElem? (i := 1841) (by decide +kernel), List.mem_of_getElem? (i := 1842) (by decide +kernel)⟩
theorem lw_p132 : lw_okq (⟨"ParkingTreesModel", "parksBy", "(I)V"⟩, 45) := ⟨⟨by decide +kernel, by decide +kernel⟩, List.mem_of_getElem? (i := 1121) (by decide +kernel), List.mem_of_getElem? (i := 1857) (by decide +kernel), List.mem_of_getElem? (i := 1858) (by decide +kernel)⟩
theorem lw_p133 : lw_okq (⟨"ParkingTreesModel", "worthOf", "(I)I"⟩, 45) := ⟨⟨by decide +kernel, by decide +kernel⟩, List.mem_of_getElem? (i := 1121) (by decide +kernel), List.mem_of_getElem? (i := 1873) (by decide +kernel), List.mem_of_getElem? (i := 1874) (by decide +kernel)⟩
theorem lw_p134 : lw_okq (⟨"ParkingTreesModel", "getsBy", "(IIIII)I"⟩, 45) := ⟨⟨by decide +kernel, by decide +kernel⟩, List.mem_of_getElem? (i := 1121) (by decide +kernel), List.mem_of_getElem? (i := 1895) (by decide +kernel), List.mem_of_getElem? (i := 1896) (by decide +kernel)⟩
theorem lw_p135 : lw_okq (⟨"ParkingTreesModel", "weightOf", "(I)J"⟩, 45) := ⟨⟨by decide +kernel, by decide +kernel⟩, List.mem_of_getElem? (i := 1121) (by decide +kernel), List.mem_of_getElem? (i := 1907) (by decide +kernel), List.mem_of_getElem? (i := 1908) (by decide +kernel)⟩
theorem lw_p136 : lw_okq (⟨"ParkingTreesModel", "draws", "(J)V"⟩, 45) := ⟨⟨by decide +kernel, by decide +kernel⟩, List.mem_of_getElem? (i := 1121) (by decide +kernel), List.mem_of_getElem? (i := 1928) (by decide +kernel), List.mem_of_getElem? (i := 1929) (by decide +kernel)⟩
theorem lw_p137 : lw_okq (⟨"ParkingTreesModel", "does", "(III)I"⟩, 45) := ⟨⟨by decide +kernel, by decide +kernel⟩, List.mem_of_getElem? (i := 1121) (by decide +kernel), List.mem_of_getElem? (i := 1944) (by decide +kernel), List.mem_of_getElem? (i := 1945) (by decide +kernel)⟩
def lw_privs_9 : List (MethodName × Nat) := [(⟨"ParkingTreesModel", "laysSeen", "(II)V"⟩, 45), (⟨"ParkingTreesModel", "isSo", "(I)Z"⟩, 45), (⟨"ParkingTreesModel", "seenPlace", "(I)I"⟩, 45), (⟨"ParkingTreesModel", "worstBy", "(I)I"⟩, 45), (⟨"ParkingTreesModel", "parksBy", "(I)V"⟩, 45), (⟨"ParkingTreesModel", "worthOf", "(I)I"⟩, 45), (⟨"ParkingTreesModel", "getsBy", "(IIIII)I"⟩, 45), (⟨"ParkingTreesModel", "weightOf", "(I)J"⟩, 45), (⟨"ParkingTreesModel", "draws", "(J)V"⟩, 45), (⟨"ParkingTreesModel", "does", "(III)I"⟩, 45)]
theorem lw_r9 : ∀ q ∈ lw_privs_9, lw_okq q := List.forall_mem_cons.mpr ⟨lw_p128, List.forall_mem_cons.mpr ⟨lw_p129, List.forall_mem_cons.mpr ⟨lw_p130, List.forall_mem_cons.mpr ⟨lw_p131, List.forall_mem_cons.mpr ⟨lw_p132, List.forall_mem_cons.mpr ⟨lw_p133, List.forall_mem_cons.mpr ⟨lw_p134, List.forall_mem_cons.mpr ⟨lw_p135, List.forall_mem_cons.mpr ⟨lw_p136, List.forall_mem_cons.mpr ⟨lw_p137, fun _ h => absurd h List.not_mem_nil⟩⟩⟩⟩⟩⟩⟩⟩⟩⟩
def lw_privs : List (MethodName × Nat) := lw_privs_1 ++ (lw_privs_2 ++ (lw_privs_3 ++ (lw_privs_4 ++ (lw_privs_5 ++ (lw_privs_6 ++ (lw_privs_7 ++ (lw_privs_8 ++ (lw_privs_9))))))))
def lw_tbl : List Cond := k2_sels lw_privs ++ tables_1
theorem lw_privs_ok : ∀ q ∈ lw_privs, lw_okq q := by
  show ∀ q ∈ lw_privs_1 ++ (lw_privs_2 ++ (lw_privs_3 ++ (lw_privs_4 ++ (lw_privs_5 ++ (lw_privs_6 ++ (lw_privs_7 ++ (lw_privs_8 ++ (lw_privs_9)))))))), lw_okq q
  exact List.forall_mem_append.mpr ⟨lw_r1, List.forall_mem_append.mpr ⟨lw_r2, List.forall_mem_append.mpr ⟨lw_r3, List.forall_mem_append.mpr ⟨lw_r4, List.forall_mem_append.mpr ⟨lw_r5, List.forall_mem_append.mpr ⟨lw_r6, List.forall_mem_append.mpr ⟨lw_r7, List.forall_mem_append.mpr ⟨lw_r8, lw_r9⟩⟩⟩⟩⟩⟩⟩⟩
end
section
def RX0 : String := "ParkingTrees$Blocks"
def TX0 : u_T := fun k => match k with
  | 0 => ("ParkingTrees$Blocks", "masks", "[I", true)
  | _ => ("ParkingTrees$Blocks", "size", "I", false)
def tyX0 : Nat → FieldType := fun k => match k with
  | 0 => .array .int
  | _ => .int
abbrev wsX00 : List Cond := u_ws RX0 TX0 2
theorem nmX0 : ∀ a, a < 2 → ∀ b, b < 2 → a ≠ b → (TX0 a).2.1 ≠ (TX0 b).2.1 := by decide +kernel
theorem tyX0_ok : ∀ k, k < 2 → parseFieldDescriptor (TX0 k).2.2.1 = some (tyX0 k) := by decide +kernel
abbrev cX0_init : ByteArray := prog_2_method_1_code
def yX0_init : MethodName := ⟨RX0, "<init>", "()V"⟩
abbrev cX0_start : ByteArray := prog_2_method_2_code
def yX0_start : MethodName := ⟨RX0, "start", "(I)V"⟩
abbrev cX0_join : ByteArray := prog_2_method_3_code
def yX0_join : MethodName := ⟨RX0, "join", "(II)V"⟩
abbrev cX0_joinable : ByteArray := prog_2_method_4_code
def yX0_joinable : MethodName := ⟨RX0, "joinable", "(II)Z"⟩
abbrev cX0_crosses : ByteArray := prog_2_method_5_code
def yX0_crosses : MethodName := ⟨RX0, "crosses", "(II)Z"⟩
abbrev cX0_isLeast : ByteArray := prog_2_method_6_code
def yX0_isLeast : MethodName := ⟨RX0, "isLeast", "(I)Z"⟩
abbrev cX0_labelOf : ByteArray := prog_2_method_7_code
def yX0_labelOf : MethodName := ⟨RX0, "labelOf", "(II)I"⟩
def RX1 : String := "ParkingTrees$Lot"
def TX1 : u_T := fun k => match k with
  | 0 => ("ParkingTrees$Lot", "spots", "[I", true)
  | 1 => ("ParkingTrees$Lot", "taken", "I", false)
  | 2 => ("ParkingTrees$Lot", "missed", "I", false)
  | _ => ("ParkingTrees$Lot", "walked", "I", false)
def tyX1 : Nat → FieldType := fun k => match k with
  | 0 => .array .int
  | 1 => .int
  | 2 => .int
  | _ => .int
abbrev wsX10 : List Cond := u_ws RX1 TX1 4
theorem nmX1 : ∀ a, a < 4 → ∀ b, b < 4 → a ≠ b → (TX1 a).2.1 ≠ (TX1 b).2.1 := by decide +kernel
theorem tyX1_ok : ∀ k, k < 4 → parseFieldDescriptor (TX1 k).2.2.1 = some (tyX1 k) := by decide +kernel
abbrev cX1_init : ByteArray := prog_3_method_1_code
def yX1_init : MethodName := ⟨RX1, "<init>", "()V"⟩
abbrev cX1_fill : ByteArray := prog_3_method_2_code
def yX1_fill : MethodName := ⟨RX1, "fill", "([IIIII)V"⟩
abbrev cX1_come : ByteArray := prog_3_method_3_code
def yX1_come : MethodName := ⟨RX1, "come", "(III)V"⟩
abbrev cX1_spotFor : ByteArray := prog_3_method_4_code
def yX1_spotFor : MethodName := ⟨RX1, "spotFor", "(IIII)I"⟩
abbrev cX1_isFree : ByteArray := prog_3_method_5_code
def yX1_isFree : MethodName := ⟨RX1, "isFree", "(II)Z"⟩
abbrev cX1_firstFree : ByteArray := prog_3_method_6_code
def yX1_firstFree : MethodName := ⟨RX1, "firstFree", "(III)I"⟩
abbrev cX1_nearestFree : ByteArray := prog_3_method_7_code
def yX1_nearestFree : MethodName := ⟨RX1, "nearestFree", "(III)I"⟩
def RX2 : String := "ParkingTrees$Reader"
def TX2 : u_T := fun k => match k with
  | 0 => ("ParkingTrees$Reader", "draft", "LParkingTrees$Street;", true)
  | 1 => ("ParkingTrees$Reader", "faultKind", "I", false)
  | 2 => ("ParkingTrees$Reader", "faultPlace", "I", false)
  | 3 => ("ParkingTrees$Reader", "tape", "LParkingTrees$Tape;", true)
  | 4 => ("ParkingTrees$Reader", "joined", "LParkingTrees$Blocks;", true)
  | 5 => ("ParkingTrees$Reader", "kind", "I", false)
  | 6 => ("ParkingTrees$Reader", "start", "I", false)
  | 7 => ("ParkingTrees$Reader", "stop", "I", false)
  | 8 => ("ParkingTrees$Reader", "value", "I", false)
  | _ => ("ParkingTrees$Reader", "number", "I", false)
def tyX2 : Nat → FieldType := fun k => match k with
  | 0 => .object "ParkingTrees$Street"
  | 1 => .int
  | 2 => .int
  | 3 => .object "ParkingTrees$Tape"
  | 4 => .object "ParkingTrees$Blocks"
  | 5 => .int
  | 6 => .int
  | 7 => .int
  | 8 => .int
  | _ => .int
abbrev wsX20 : List Cond := u_ws RX2 TX2 10
theorem nmX2 : ∀ a, a < 10 → ∀ b, b < 10 → a ≠ b → (TX2 a).2.1 ≠ (TX2 b).2.1 := by decide +kernel
theorem tyX2_ok : ∀ k, k < 10 → parseFieldDescriptor (TX2 k).2.2.1 = some (tyX2 k) := by decide +kernel
abbrev cX2_init : ByteArray := prog_4_method_1_code
def yX2_init : MethodName := ⟨RX2, "<init>", "(LParkingTrees$Tape;)V"⟩
abbrev cX2_readTape : ByteArray := prog_4_method_2_code
def yX2_readTape : MethodName := ⟨RX2, "readTape", "()V"⟩
abbrev cX2_readLine : ByteArray := prog_4_method_3_code
def yX2_readLine : MethodName := ⟨RX2, "readLine", "()Z"⟩
abbrev cX2_readHead : ByteArray := prog_4_method_4_code
def yX2_readHead : MethodName := ⟨RX2, "readHead", "()Z"⟩
abbrev cX2_readCar : ByteArray := prog_4_method_5_code
def yX2_readCar : MethodName := ⟨RX2, "readCar", "()Z"⟩
abbrev cX2_readJoin : ByteArray := prog_4_method_6_code
def yX2_readJoin : MethodName := ⟨RX2, "readJoin", "()Z"⟩
abbrev cX2_refuse : ByteArray := prog_4_method_7_code
def yX2_refuse : MethodName := ⟨RX2, "refuse", "(I)Z"⟩
abbrev cX2_takeWord : ByteArray := prog_4_method_8_code
def yX2_takeWord : MethodName := ⟨RX2, "takeWord", "(Ljava/lang/String;)Z"⟩
abbrev cX2_takeNumber : ByteArray := prog_4_method_9_code
def yX2_takeNumber : MethodName := ⟨RX2, "takeNumber", "(II)Z"⟩
abbrev cX2_takeSemicolon : ByteArray := prog_4_method_10_code
def yX2_takeSemicolon : MethodName := ⟨RX2, "takeSemicolon", "()Z"⟩
abbrev cX2_isWord : ByteArray := prog_4_method_11_code
def yX2_isWord : MethodName := ⟨RX2, "isWord", "(Ljava/lang/String;)Z"⟩
abbrev cX2_readToken : ByteArray := prog_4_method_12_code
def yX2_readToken : MethodName := ⟨RX2, "readToken", "()V"⟩
abbrev cX2_readLetters : ByteArray := prog_4_method_13_code
def yX2_readLetters : MethodName := ⟨RX2, "readLetters", "()V"⟩
abbrev cX2_readDigits : ByteArray := prog_4_method_14_code
def yX2_readDigits : MethodName := ⟨RX2, "readDigits", "()V"⟩
abbrev cX2_isLetter : ByteArray := prog_4_method_15_code
def yX2_isLetter : MethodName := ⟨RX2, "isLetter", "(B)Z"⟩
abbrev cX2_isDigit : ByteArray := prog_4_method_16_code
def yX2_isDigit : MethodName := ⟨RX2, "isDigit", "(B)Z"⟩
def RX3 : String := "ParkingTrees$SetTable"
def TX3 : u_T := fun k => match k with
  | 0 => ("ParkingTrees$SetTable", "taken", "[I", true)
  | _ => ("ParkingTrees$SetTable", "walked", "[I", true)
def tyX3 : Nat → FieldType := fun k => match k with
  | 0 => .array .int
  | _ => .array .int
abbrev wsX30 : List Cond := u_ws RX3 TX3 2
theorem nmX3 : ∀ a, a < 2 → ∀ b, b < 2 → a ≠ b → (TX3 a).2.1 ≠ (TX3 b).2.1 := by decide +kernel
theorem tyX3_ok : ∀ k, k < 2 → parseFieldDescriptor (TX3 k).2.2.1 = some (tyX3 k) := by decide +kernel
abbrev cX3_init : ByteArray := prog_5_method_1_code
def yX3_init : MethodName := ⟨RX3, "<init>", "()V"⟩
abbrev cX3_fill : ByteArray := prog_5_method_2_code
def yX3_fill : MethodName := ⟨RX3, "fill", "([IIII)V"⟩
def RX4 : String := "ParkingTrees$Slot"
def TX4 : u_T := fun k => match k with
  | 0 => ("ParkingTrees$Slot", "numbers", "[J", true)
  | 1 => ("ParkingTrees$Slot", "filled", "Z", false)
  | 2 => ("ParkingTrees$Slot", "width", "I", false)
  | _ => ("ParkingTrees$Slot", "length", "I", false)
def tyX4 : Nat → FieldType := fun k => match k with
  | 0 => .array .long
  | 1 => .boolean
  | 2 => .int
  | _ => .int
abbrev wsX40 : List Cond := u_ws RX4 TX4 4
theorem nmX4 : ∀ a, a < 4 → ∀ b, b < 4 → a ≠ b → (TX4 a).2.1 ≠ (TX4 b).2.1 := by decide +kernel
theorem tyX4_ok : ∀ k, k < 4 → parseFieldDescriptor (TX4 k).2.2.1 = some (tyX4 k) := by decide +kernel
abbrev cX4_init : ByteArray := prog_6_method_1_code
def yX4_init : MethodName := ⟨RX4, "<init>", "()V"⟩
abbrev cX4_begin : ByteArray := prog_6_method_2_code
def yX4_begin : MethodName := ⟨RX4, "begin", "(II)V"⟩
abbrev cX4_holds : ByteArray := prog_6_method_3_code
def yX4_holds : MethodName := ⟨RX4, "holds", "(II)Z"⟩
def RX5 : String := "ParkingTrees$Street"
def TX5 : u_T := fun k => match k with
  | 0 => ("ParkingTrees$Street", "places", "I", false)
  | 1 => ("ParkingTrees$Street", "law", "I", false)
  | 2 => ("ParkingTrees$Street", "odds", "I", false)
  | 3 => ("ParkingTrees$Street", "lines", "I", false)
  | 4 => ("ParkingTrees$Street", "cars", "I", false)
  | 5 => ("ParkingTrees$Street", "joins", "I", false)
  | 6 => ("ParkingTrees$Street", "acts", "I", false)
  | 7 => ("ParkingTrees$Street", "told", "[I", true)
  | 8 => ("ParkingTrees$Street", "now", "[I", true)
  | 9 => ("ParkingTrees$Street", "stands", "[I", true)
  | 10 => ("ParkingTrees$Street", "joinOnes", "[I", true)
  | 11 => ("ParkingTrees$Street", "joinOthers", "[I", true)
  | 12 => ("ParkingTrees$Street", "actCars", "[I", true)
  | 13 => ("ParkingTrees$Street", "actGoals", "[I", true)
  | _ => ("ParkingTrees$Street", "actTrades", "[Z", true)
def tyX5 : Nat → FieldType := fun k => match k with
  | 0 => .int
  | 1 => .int
  | 2 => .int
  | 3 => .int
  | 4 => .int
  | 5 => .int
  | 6 => .int
  | 7 => .array .int
  | 8 => .array .int
  | 9 => .array .int
  | 10 => .array .int
  | 11 => .array .int
  | 12 => .array .int
  | 13 => .array .int
  | _ => .array .boolean
abbrev wsX50 : List Cond := u_ws RX5 TX5 15
theorem nmX5 : ∀ a, a < 15 → ∀ b, b < 15 → a ≠ b → (TX5 a).2.1 ≠ (TX5 b).2.1 := by decide +kernel
theorem tyX5_ok : ∀ k, k < 15 → parseFieldDescriptor (TX5 k).2.2.1 = some (tyX5 k) := by decide +kernel
abbrev cX5_init : ByteArray := prog_7_method_1_code
def yX5_init : MethodName := ⟨RX5, "<init>", "()V"⟩
abbrev cX5_clear : ByteArray := prog_7_method_2_code
def yX5_clear : MethodName := ⟨RX5, "clear", "()V"⟩
abbrev cX5_take : ByteArray := prog_7_method_3_code
def yX5_take : MethodName := ⟨RX5, "take", "(LParkingTrees$Street;)V"⟩
abbrev cX5_addCar : ByteArray := prog_7_method_4_code
def yX5_addCar : MethodName := ⟨RX5, "addCar", "(II)V"⟩
abbrev cX5_addJoin : ByteArray := prog_7_method_5_code
def yX5_addJoin : MethodName := ⟨RX5, "addJoin", "(II)V"⟩
abbrev cX5_addAct : ByteArray := prog_7_method_6_code
def yX5_addAct : MethodName := ⟨RX5, "addAct", "(IIZ)V"⟩
abbrev cX5_keepActs : ByteArray := prog_7_method_7_code
def yX5_keepActs : MethodName := ⟨RX5, "keepActs", "(I)V"⟩
abbrev cX5_doAct : ByteArray := prog_7_method_8_code
def yX5_doAct : MethodName := ⟨RX5, "doAct", "(I)V"⟩
def RX6 : String := "ParkingTrees$Tape"
def TX6 : u_T := fun k => match k with
  | 0 => ("ParkingTrees$Tape", "bytes", "[B", true)
  | _ => ("ParkingTrees$Tape", "length", "I", false)
def tyX6 : Nat → FieldType := fun k => match k with
  | 0 => .array .byte
  | _ => .int
abbrev wsX60 : List Cond := u_ws RX6 TX6 2
theorem nmX6 : ∀ a, a < 2 → ∀ b, b < 2 → a ≠ b → (TX6 a).2.1 ≠ (TX6 b).2.1 := by decide +kernel
theorem tyX6_ok : ∀ k, k < 2 → parseFieldDescriptor (TX6 k).2.2.1 = some (tyX6 k) := by decide +kernel
abbrev cX6_init : ByteArray := prog_8_method_1_code
def yX6_init : MethodName := ⟨RX6, "<init>", "()V"⟩
abbrev cX6_add : ByteArray := prog_8_method_2_code
def yX6_add : MethodName := ⟨RX6, "add", "(I)V"⟩
def RX7 : String := "ParkingTrees$Tree"
def TX7 : u_T := fun k => match k with
  | 0 => ("ParkingTrees$Tree", "parents", "[I", true)
  | 1 => ("ParkingTrees$Tree", "order", "[I", true)
  | 2 => ("ParkingTrees$Tree", "grains", "[I", true)
  | 3 => ("ParkingTrees$Tree", "near", "[I", true)
  | 4 => ("ParkingTrees$Tree", "unlooked", "[I", true)
  | 5 => ("ParkingTrees$Tree", "nodes", "I", false)
  | _ => ("ParkingTrees$Tree", "came", "I", false)
def tyX7 : Nat → FieldType := fun k => match k with
  | 0 => .array .int
  | 1 => .array .int
  | 2 => .array .int
  | 3 => .array .int
  | 4 => .array .int
  | 5 => .int
  | _ => .int
abbrev wsX70 : List Cond := u_ws RX7 TX7 7
theorem nmX7 : ∀ a, a < 7 → ∀ b, b < 7 → a ≠ b → (TX7 a).2.1 ≠ (TX7 b).2.1 := by decide +kernel
theorem tyX7_ok : ∀ k, k < 7 → parseFieldDescriptor (TX7 k).2.2.1 = some (tyX7 k) := by decide +kernel
abbrev cX7_init : ByteArray := prog_9_method_1_code
def yX7_init : MethodName := ⟨RX7, "<init>", "()V"⟩
abbrev cX7_begin : ByteArray := prog_9_method_2_code
def yX7_begin : MethodName := ⟨RX7, "begin", "(I)V"⟩
abbrev cX7_bring : ByteArray := prog_9_method_3_code
def yX7_bring : MethodName := ⟨RX7, "bring", "(II)V"⟩
abbrev cX7_hang : ByteArray := prog_9_method_4_code
def yX7_hang : MethodName := ⟨RX7, "hang", "([II)V"⟩
abbrev cX7_search : ByteArray := prog_9_method_5_code
def yX7_search : MethodName := ⟨RX7, "search", "([II)V"⟩
abbrev cX7_regainGrains : ByteArray := prog_9_method_6_code
def yX7_regainGrains : MethodName := ⟨RX7, "regainGrains", "()V"⟩
abbrev cX7_walk : ByteArray := prog_9_method_7_code
def yX7_walk : MethodName := ⟨RX7, "walk", "(Z)V"⟩
abbrev cX7_limbsTo : ByteArray := prog_9_method_8_code
def yX7_limbsTo : MethodName := ⟨RX7, "limbsTo", "(I)I"⟩
abbrev cX7_hangingFrom : ByteArray := prog_9_method_9_code
def yX7_hangingFrom : MethodName := ⟨RX7, "hangingFrom", "(I)I"⟩
abbrev cX7_turnedPairs : ByteArray := prog_9_method_10_code
def yX7_turnedPairs : MethodName := ⟨RX7, "turnedPairs", "()I"⟩
abbrev cX7_wishByOrder : ByteArray := prog_9_method_11_code
def yX7_wishByOrder : MethodName := ⟨RX7, "wishByOrder", "(I)I"⟩
abbrev cX7_codeNumber : ByteArray := prog_9_method_12_code
def yX7_codeNumber : MethodName := ⟨RX7, "codeNumber", "(I)I"⟩
abbrev cX7_decode : ByteArray := prog_9_method_13_code
def yX7_decode : MethodName := ⟨RX7, "decode", "([JI)V"⟩
abbrev cX7_leastUnwritten : ByteArray := prog_9_method_14_code
def yX7_leastUnwritten : MethodName := ⟨RX7, "leastUnwritten", "([JIII)I"⟩
abbrev cX7_hangByLimbs : ByteArray := prog_9_method_15_code
def yX7_hangByLimbs : MethodName := ⟨RX7, "hangByLimbs", "()V"⟩
abbrev cX7_clearLimbs : ByteArray := prog_9_method_16_code
def yX7_clearLimbs : MethodName := ⟨RX7, "clearLimbs", "()V"⟩
abbrev cX7_addLimb : ByteArray := prog_9_method_17_code
def yX7_addLimb : MethodName := ⟨RX7, "addLimb", "(II)V"⟩
abbrev cX7_leastWithOneLimb : ByteArray := prog_9_method_18_code
def yX7_leastWithOneLimb : MethodName := ⟨RX7, "leastWithOneLimb", "()I"⟩
abbrev cX7_lowestBit : ByteArray := prog_9_method_19_code
def yX7_lowestBit : MethodName := ⟨RX7, "lowestBit", "(I)I"⟩
def RX8 : String := "ParkingTrees"
def TX8 : u_T := fun k => match k with
  | 0 => ("ParkingTrees", "tape", "LParkingTrees$Tape;", true)
  | 1 => ("ParkingTrees", "reader", "LParkingTrees$Reader;", true)
  | 2 => ("ParkingTrees", "street", "LParkingTrees$Street;", true)
  | 3 => ("ParkingTrees", "images", "[LParkingTrees$Street;", true)
  | 4 => ("ParkingTrees", "kept", "[Z", true)
  | 5 => ("ParkingTrees", "slots", "[LParkingTrees$Slot;", true)
  | 6 => ("ParkingTrees", "lot", "LParkingTrees$Lot;", true)
  | 7 => ("ParkingTrees", "tree", "LParkingTrees$Tree;", true)
  | 8 => ("ParkingTrees", "blocks", "LParkingTrees$Blocks;", true)
  | 9 => ("ParkingTrees", "sets", "LParkingTrees$SetTable;", true)
  | 10 => ("ParkingTrees", "trial", "[I", true)
  | _ => ("ParkingTrees", "outcomes", "[I", true)
def tyX8 : Nat → FieldType := fun k => match k with
  | 0 => .object "ParkingTrees$Tape"
  | 1 => .object "ParkingTrees$Reader"
  | 2 => .object "ParkingTrees$Street"
  | 3 => .array (.object "ParkingTrees$Street")
  | 4 => .array .boolean
  | 5 => .array (.object "ParkingTrees$Slot")
  | 6 => .object "ParkingTrees$Lot"
  | 7 => .object "ParkingTrees$Tree"
  | 8 => .object "ParkingTrees$Blocks"
  | 9 => .object "ParkingTrees$SetTable"
  | 10 => .array .int
  | _ => .array .int
abbrev wsX80 : List Cond := u_ws RX8 TX8 12
theorem nmX8 : ∀ a, a < 12 → ∀ b, b < 12 → a ≠ b → (TX8 a).2.1 ≠ (TX8 b).2.1 := by decide +kernel
theorem tyX8_ok : ∀ k, k < 12 → parseFieldDescriptor (TX8 k).2.2.1 = some (tyX8 k) := by decide +kernel
abbrev cX8_init : ByteArray := prog_1_method_1_code
def yX8_init : MethodName := ⟨RX8, "<init>", "()V"⟩
abbrev cX8_feed : ByteArray := prog_1_method_2_code
def yX8_feed : MethodName := ⟨RX8, "feed", "(IIIII)I"⟩
abbrev cX8_end : ByteArray := prog_1_method_3_code
def yX8_end : MethodName := ⟨RX8, "end", "(I)I"⟩
abbrev cX8_street : ByteArray := prog_1_method_4_code
def yX8_street : MethodName := ⟨RX8, "street", "()I"⟩
abbrev cX8_fault : ByteArray := prog_1_method_5_code
def yX8_fault : MethodName := ⟨RX8, "fault", "(I)I"⟩
abbrev cX8_car : ByteArray := prog_1_method_6_code
def yX8_car : MethodName := ⟨RX8, "car", "(II)I"⟩
abbrev cX8_place : ByteArray := prog_1_method_7_code
def yX8_place : MethodName := ⟨RX8, "place", "(I)I"⟩
abbrev cX8_steps : ByteArray := prog_1_method_8_code
def yX8_steps : MethodName := ⟨RX8, "steps", "(I)I"⟩
abbrev cX8_lost : ByteArray := prog_1_method_9_code
def yX8_lost : MethodName := ⟨RX8, "lost", "()I"⟩
abbrev cX8_free : ByteArray := prog_1_method_10_code
def yX8_free : MethodName := ⟨RX8, "free", "()I"⟩
abbrev cX8_holder : ByteArray := prog_1_method_11_code
def yX8_holder : MethodName := ⟨RX8, "holder", "(I)I"⟩
abbrev cX8_lucky : ByteArray := prog_1_method_12_code
def yX8_lucky : MethodName := ⟨RX8, "lucky", "()I"⟩
abbrev cX8_sum : ByteArray := prog_1_method_13_code
def yX8_sum : MethodName := ⟨RX8, "sum", "()I"⟩
abbrev cX8_worst : ByteArray := prog_1_method_14_code
def yX8_worst : MethodName := ⟨RX8, "worst", "()I"⟩
abbrev cX8_runs : ByteArray := prog_1_method_15_code
def yX8_runs : MethodName := ⟨RX8, "runs", "()I"⟩
abbrev cX8_sorted : ByteArray := prog_1_method_16_code
def yX8_sorted : MethodName := ⟨RX8, "sorted", "(I)I"⟩
abbrev cX8_lawful : ByteArray := prog_1_method_17_code
def yX8_lawful : MethodName := ⟨RX8, "lawful", "()I"⟩
abbrev cX8_prime : ByteArray := prog_1_method_18_code
def yX8_prime : MethodName := ⟨RX8, "prime", "()I"⟩
abbrev cX8_breaks : ByteArray := prog_1_method_19_code
def yX8_breaks : MethodName := ⟨RX8, "breaks", "()I"⟩
abbrev cX8_likes : ByteArray := prog_1_method_20_code
def yX8_likes : MethodName := ⟨RX8, "likes", "()I"⟩
abbrev cX8_ring : ByteArray := prog_1_method_21_code
def yX8_ring : MethodName := ⟨RX8, "ring", "(I)I"⟩
abbrev cX8_hole : ByteArray := prog_1_method_22_code
def yX8_hole : MethodName := ⟨RX8, "hole", "()I"⟩
abbrev cX8_shifts : ByteArray := prog_1_method_23_code
def yX8_shifts : MethodName := ⟨RX8, "shifts", "()I"⟩
abbrev cX8_shifted : ByteArray := prog_1_method_24_code
def yX8_shifted : MethodName := ⟨RX8, "shifted", "(II)I"⟩
abbrev cX8_parent : ByteArray := prog_1_method_25_code
def yX8_parent : MethodName := ⟨RX8, "parent", "(I)I"⟩
abbrev cX8_depth : ByteArray := prog_1_method_26_code
def yX8_depth : MethodName := ⟨RX8, "depth", "(I)I"⟩
abbrev cX8_kids : ByteArray := prog_1_method_27_code
def yX8_kids : MethodName := ⟨RX8, "kids", "(I)I"⟩
abbrev cX8_queue : ByteArray := prog_1_method_28_code
def yX8_queue : MethodName := ⟨RX8, "queue", "(I)I"⟩
abbrev cX8_leaves : ByteArray := prog_1_method_29_code
def yX8_leaves : MethodName := ⟨RX8, "leaves", "()I"⟩
abbrev cX8_inversions : ByteArray := prog_1_method_30_code
def yX8_inversions : MethodName := ⟨RX8, "inversions", "()I"⟩
abbrev cX8_code : ByteArray := prog_1_method_31_code
def yX8_code : MethodName := ⟨RX8, "code", "(I)I"⟩
abbrev cX8_burnt : ByteArray := prog_1_method_32_code
def yX8_burnt : MethodName := ⟨RX8, "burnt", "(I)I"⟩
abbrev cX8_turned : ByteArray := prog_1_method_33_code
def yX8_turned : MethodName := ⟨RX8, "turned", "()I"⟩
abbrev cX8_visit : ByteArray := prog_1_method_34_code
def yX8_visit : MethodName := ⟨RX8, "visit", "(I)I"⟩
abbrev cX8_above : ByteArray := prog_1_method_35_code
def yX8_above : MethodName := ⟨RX8, "above", "(II)I"⟩
abbrev cX8_wish : ByteArray := prog_1_method_36_code
def yX8_wish : MethodName := ⟨RX8, "wish", "(II)I"⟩
abbrev cX8_regain : ByteArray := prog_1_method_37_code
def yX8_regain : MethodName := ⟨RX8, "regain", "(II)I"⟩
abbrev cX8_upset : ByteArray := prog_1_method_38_code
def yX8_upset : MethodName := ⟨RX8, "upset", "(I)I"⟩
abbrev cX8_rows : ByteArray := prog_1_method_39_code
def yX8_rows : MethodName := ⟨RX8, "rows", "(I)I"⟩
abbrev cX8_moved : ByteArray := prog_1_method_40_code
def yX8_moved : MethodName := ⟨RX8, "moved", "(II)I"⟩
abbrev cX8_trees : ByteArray := prog_1_method_41_code
def yX8_trees : MethodName := ⟨RX8, "trees", "(II)I"⟩
abbrev cX8_ends : ByteArray := prog_1_method_42_code
def yX8_ends : MethodName := ⟨RX8, "ends", "(II)I"⟩
abbrev cX8_label : ByteArray := prog_1_method_43_code
def yX8_label : MethodName := ⟨RX8, "label", "(I)I"⟩
abbrev cX8_merged : ByteArray := prog_1_method_44_code
def yX8_merged : MethodName := ⟨RX8, "merged", "(I)I"⟩
abbrev cX8_blocks : ByteArray := prog_1_method_45_code
def yX8_blocks : MethodName := ⟨RX8, "blocks", "()I"⟩
abbrev cX8_block : ByteArray := prog_1_method_46_code
def yX8_block : MethodName := ⟨RX8, "block", "(I)I"⟩
abbrev cX8_next : ByteArray := prog_1_method_47_code
def yX8_next : MethodName := ⟨RX8, "next", "()I"⟩
abbrev cX8_may : ByteArray := prog_1_method_48_code
def yX8_may : MethodName := ⟨RX8, "may", "(II)I"⟩
abbrev cX8_labels : ByteArray := prog_1_method_49_code
def yX8_labels : MethodName := ⟨RX8, "labels", "(II)I"⟩
abbrev cX8_chain : ByteArray := prog_1_method_50_code
def yX8_chain : MethodName := ⟨RX8, "chain", "()I"⟩
abbrev cX8_region : ByteArray := prog_1_method_51_code
def yX8_region : MethodName := ⟨RX8, "region", "(I)I"⟩
abbrev cX8_across : ByteArray := prog_1_method_52_code
def yX8_across : MethodName := ⟨RX8, "across", "(II)I"⟩
abbrev cX8_fences : ByteArray := prog_1_method_53_code
def yX8_fences : MethodName := ⟨RX8, "fences", "()I"⟩
abbrev cX8_far : ByteArray := prog_1_method_54_code
def yX8_far : MethodName := ⟨RX8, "far", "()I"⟩
abbrev cX8_astride : ByteArray := prog_1_method_55_code
def yX8_astride : MethodName := ⟨RX8, "astride", "()I"⟩
abbrev cX8_mend : ByteArray := prog_1_method_56_code
def yX8_mend : MethodName := ⟨RX8, "mend", "()I"⟩
abbrev cX8_swap : ByteArray := prog_1_method_57_code
def yX8_swap : MethodName := ⟨RX8, "swap", "()I"⟩
abbrev cX8_blame : ByteArray := prog_1_method_58_code
def yX8_blame : MethodName := ⟨RX8, "blame", "()I"⟩
abbrev cX8_fits : ByteArray := prog_1_method_59_code
def yX8_fits : MethodName := ⟨RX8, "fits", "(II)I"⟩
abbrev cX8_ask : ByteArray := prog_1_method_60_code
def yX8_ask : MethodName := ⟨RX8, "ask", "(II)I"⟩
abbrev cX8_remain : ByteArray := prog_1_method_61_code
def yX8_remain : MethodName := ⟨RX8, "remain", "(II)I"⟩
abbrev cX8_laws : ByteArray := prog_1_method_62_code
def yX8_laws : MethodName := ⟨RX8, "laws", "(I)I"⟩
abbrev cX8_by : ByteArray := prog_1_method_63_code
def yX8_by : MethodName := ⟨RX8, "by", "(I)I"⟩
abbrev cX8_law : ByteArray := prog_1_method_64_code
def yX8_law : MethodName := ⟨RX8, "law", "()I"⟩
abbrev cX8_worth : ByteArray := prog_1_method_65_code
def yX8_worth : MethodName := ⟨RX8, "worth", "(I)I"⟩
abbrev cX8_share : ByteArray := prog_1_method_66_code
def yX8_share : MethodName := ⟨RX8, "share", "(II)I"⟩
abbrev cX8_rests : ByteArray := prog_1_method_67_code
def yX8_rests : MethodName := ⟨RX8, "rests", "(II)I"⟩
abbrev cX8_gets : ByteArray := prog_1_method_68_code
def yX8_gets : MethodName := ⟨RX8, "gets", "(IIII)I"⟩
abbrev cX8_chance : ByteArray := prog_1_method_69_code
def yX8_chance : MethodName := ⟨RX8, "chance", "(II)I"⟩
abbrev cX8_mean : ByteArray := prog_1_method_70_code
def yX8_mean : MethodName := ⟨RX8, "mean", "(I)J"⟩
abbrev cX8_wants : ByteArray := prog_1_method_71_code
def yX8_wants : MethodName := ⟨RX8, "wants", "(II)I"⟩
abbrev cX8_trades : ByteArray := prog_1_method_72_code
def yX8_trades : MethodName := ⟨RX8, "trades", "(II)I"⟩
abbrev cX8_undo : ByteArray := prog_1_method_73_code
def yX8_undo : MethodName := ⟨RX8, "undo", "()I"⟩
abbrev cX8_anew : ByteArray := prog_1_method_74_code
def yX8_anew : MethodName := ⟨RX8, "anew", "()I"⟩
abbrev cX8_drawn : ByteArray := prog_1_method_75_code
def yX8_drawn : MethodName := ⟨RX8, "drawn", "(II)I"⟩
abbrev cX8_luck : ByteArray := prog_1_method_76_code
def yX8_luck : MethodName := ⟨RX8, "luck", "(III)I"⟩
abbrev cX8_rate : ByteArray := prog_1_method_77_code
def yX8_rate : MethodName := ⟨RX8, "rate", "(II)I"⟩
abbrev cX8_count : ByteArray := prog_1_method_78_code
def yX8_count : MethodName := ⟨RX8, "count", "(I)I"⟩
abbrev cX8_image : ByteArray := prog_1_method_79_code
def yX8_image : MethodName := ⟨RX8, "image", "(I)I"⟩
abbrev cX8_back : ByteArray := prog_1_method_80_code
def yX8_back : MethodName := ⟨RX8, "back", "(I)I"⟩
abbrev cX8_row : ByteArray := prog_1_method_81_code
def yX8_row : MethodName := ⟨RX8, "row", "(III)I"⟩
abbrev cX8_write : ByteArray := prog_1_method_82_code
def yX8_write : MethodName := ⟨RX8, "write", "(IIJ)I"⟩
abbrev cX8_paste : ByteArray := prog_1_method_83_code
def yX8_paste : MethodName := ⟨RX8, "paste", "(IIIII)I"⟩
abbrev cX8_hasStreet : ByteArray := prog_1_method_84_code
def yX8_hasStreet : MethodName := ⟨RX8, "hasStreet", "()Z"⟩
abbrev cX8_hasCar : ByteArray := prog_1_method_85_code
def yX8_hasCar : MethodName := ⟨RX8, "hasCar", "(I)Z"⟩
abbrev cX8_hasPair : ByteArray := prog_1_method_86_code
def yX8_hasPair : MethodName := ⟨RX8, "hasPair", "(II)Z"⟩
abbrev cX8_hasPlace : ByteArray := prog_1_method_87_code
def yX8_hasPlace : MethodName := ⟨RX8, "hasPlace", "(I)Z"⟩
abbrev cX8_hasNumber : ByteArray := prog_1_method_88_code
def yX8_hasNumber : MethodName := ⟨RX8, "hasNumber", "(I)Z"⟩
abbrev cX8_isTreeCar : ByteArray := prog_1_method_89_code
def yX8_isTreeCar : MethodName := ⟨RX8, "isTreeCar", "(I)Z"⟩
abbrev cX8_isTallied : ByteArray := prog_1_method_90_code
def yX8_isTallied : MethodName := ⟨RX8, "isTallied", "(I)Z"⟩
abbrev cX8_isTerm : ByteArray := prog_1_method_91_code
def yX8_isTerm : MethodName := ⟨RX8, "isTerm", "(I)Z"⟩
abbrev cX8_isSeed : ByteArray := prog_1_method_92_code
def yX8_isSeed : MethodName := ⟨RX8, "isSeed", "(I)Z"⟩
abbrev cX8_isSlot : ByteArray := prog_1_method_93_code
def yX8_isSlot : MethodName := ⟨RX8, "isSlot", "(I)Z"⟩
abbrev cX8_slotsWithRows : ByteArray := prog_1_method_94_code
def yX8_slotsWithRows : MethodName := ⟨RX8, "slotsWithRows", "()I"⟩
abbrev cX8_everyCar : ByteArray := prog_1_method_95_code
def yX8_everyCar : MethodName := ⟨RX8, "everyCar", "()I"⟩
abbrev cX8_park : ByteArray := prog_1_method_96_code
def yX8_park : MethodName := ⟨RX8, "park", "([II)V"⟩
abbrev cX8_parkAll : ByteArray := prog_1_method_97_code
def yX8_parkAll : MethodName := ⟨RX8, "parkAll", "()V"⟩
abbrev cX8_parkSet : ByteArray := prog_1_method_98_code
def yX8_parkSet : MethodName := ⟨RX8, "parkSet", "(I)V"⟩
abbrev cX8_parkWith : ByteArray := prog_1_method_99_code
def yX8_parkWith : MethodName := ⟨RX8, "parkWith", "(II)V"⟩
abbrev cX8_parkOnRing : ByteArray := prog_1_method_100_code
def yX8_parkOnRing : MethodName := ⟨RX8, "parkOnRing", "()V"⟩
abbrev cX8_tryWishes : ByteArray := prog_1_method_101_code
def yX8_tryWishes : MethodName := ⟨RX8, "tryWishes", "()V"⟩
abbrev cX8_stepsInLot : ByteArray := prog_1_method_102_code
def yX8_stepsInLot : MethodName := ⟨RX8, "stepsInLot", "(I)I"⟩
abbrev cX8_actAndCountLost : ByteArray := prog_1_method_103_code
def yX8_actAndCountLost : MethodName := ⟨RX8, "actAndCountLost", "(IIZ)I"⟩
abbrev cX8_isLawful : ByteArray := prog_1_method_104_code
def yX8_isLawful : MethodName := ⟨RX8, "isLawful", "()Z"⟩
abbrev cX8_wishesUpTo : ByteArray := prog_1_method_105_code
def yX8_wishesUpTo : MethodName := ⟨RX8, "wishesUpTo", "(I)I"⟩
abbrev cX8_takenUpTo : ByteArray := prog_1_method_106_code
def yX8_takenUpTo : MethodName := ⟨RX8, "takenUpTo", "(II)I"⟩
abbrev cX8_placeBit : ByteArray := prog_1_method_107_code
def yX8_placeBit : MethodName := ⟨RX8, "placeBit", "(I)I"⟩
abbrev cX8_rowRefusal : ByteArray := prog_1_method_108_code
def yX8_rowRefusal : MethodName := ⟨RX8, "rowRefusal", "(Z)I"⟩
abbrev cX8_hangTree : ByteArray := prog_1_method_109_code
def yX8_hangTree : MethodName := ⟨RX8, "hangTree", "(Z)I"⟩
abbrev cX8_searchTree : ByteArray := prog_1_method_110_code
def yX8_searchTree : MethodName := ⟨RX8, "searchTree", "(Z)I"⟩
abbrev cX8_readCode : ByteArray := prog_1_method_111_code
def yX8_readCode : MethodName := ⟨RX8, "readCode", "(IZ)I"⟩
abbrev cX8_tally : ByteArray := prog_1_method_112_code
def yX8_tally : MethodName := ⟨RX8, "tally", "(II)I"⟩
abbrev cX8_lawfulRows : ByteArray := prog_1_method_113_code
def yX8_lawfulRows : MethodName := ⟨RX8, "lawfulRows", "(I)I"⟩
abbrev cX8_joinFirst : ByteArray := prog_1_method_114_code
def yX8_joinFirst : MethodName := ⟨RX8, "joinFirst", "(I)V"⟩
abbrev cX8_crossesFirst : ByteArray := prog_1_method_115_code
def yX8_crossesFirst : MethodName := ⟨RX8, "crossesFirst", "(II)Z"⟩
abbrev cX8_crossesSecond : ByteArray := prog_1_method_116_code
def yX8_crossesSecond : MethodName := ⟨RX8, "crossesSecond", "(II)Z"⟩
abbrev cX8_crossed : ByteArray := prog_1_method_117_code
def yX8_crossed : MethodName := ⟨RX8, "crossed", "(II)I"⟩
abbrev cX8_sightRefusal : ByteArray := prog_1_method_118_code
def yX8_sightRefusal : MethodName := ⟨RX8, "sightRefusal", "(IZ)I"⟩
abbrev cX8_isAsSeen : ByteArray := prog_1_method_119_code
def yX8_isAsSeen : MethodName := ⟨RX8, "isAsSeen", "(LParkingTrees$Slot;)Z"⟩
abbrev cX8_fitting : ByteArray := prog_1_method_120_code
def yX8_fitting : MethodName := ⟨RX8, "fitting", "(LParkingTrees$Slot;I)I"⟩
abbrev cX8_leftAtWorst : ByteArray := prog_1_method_121_code
def yX8_leftAtWorst : MethodName := ⟨RX8, "leftAtWorst", "(II)I"⟩
abbrev cX8_likeWishes : ByteArray := prog_1_method_122_code
def yX8_likeWishes : MethodName := ⟨RX8, "likeWishes", "(III)I"⟩
abbrev cX8_gain : ByteArray := prog_1_method_123_code
def yX8_gain : MethodName := ⟨RX8, "gain", "(IIII)I"⟩
abbrev cX8_setWeight : ByteArray := prog_1_method_124_code
def yX8_setWeight : MethodName := ⟨RX8, "setWeight", "(II)J"⟩
abbrev cX8_drawSet : ByteArray := prog_1_method_125_code
def yX8_drawSet : MethodName := ⟨RX8, "drawSet", "(I)I"⟩
abbrev cX8_power : ByteArray := prog_1_method_126_code
def yX8_power : MethodName := ⟨RX8, "power", "(II)J"⟩
abbrev cX8_term : ByteArray := prog_1_method_127_code
def yX8_term : MethodName := ⟨RX8, "term", "(JJI)J"⟩
abbrev cX8_cut : ByteArray := prog_1_method_128_code
def yX8_cut : MethodName := ⟨RX8, "cut", "(JI)J"⟩
def RX9 : String := "ParkingTreesModel"
def TX9 : u_T := fun k => match k with
  | 0 => ("ParkingTreesModel", "thrown", "I", false)
  | 1 => ("ParkingTreesModel", "width", "[I", true)
  | 2 => ("ParkingTreesModel", "many", "[I", true)
  | 3 => ("ParkingTreesModel", "cells", "[J", true)
  | 4 => ("ParkingTreesModel", "moved", "[J", true)
  | 5 => ("ParkingTreesModel", "tape", "[B", true)
  | 6 => ("ParkingTreesModel", "taped", "I", false)
  | 7 => ("ParkingTreesModel", "spot", "I", false)
  | 8 => ("ParkingTreesModel", "token", "I", false)
  | 9 => ("ParkingTreesModel", "begun0", "I", false)
  | 10 => ("ParkingTreesModel", "value", "I", false)
  | 11 => ("ParkingTreesModel", "word", "J", false)
  | 12 => ("ParkingTreesModel", "bad", "I", false)
  | 13 => ("ParkingTreesModel", "badPlace", "I", false)
  | 14 => ("ParkingTreesModel", "fault", "I", false)
  | 15 => ("ParkingTreesModel", "faultPlace", "I", false)
  | 16 => ("ParkingTreesModel", "lines", "[I", true)
  | 17 => ("ParkingTreesModel", "has", "[I", true)
  | 18 => ("ParkingTreesModel", "told", "[I", true)
  | 19 => ("ParkingTreesModel", "joinOf", "[I", true)
  | 20 => ("ParkingTreesModel", "act", "[I", true)
  | 21 => ("ParkingTreesModel", "isKept", "[Z", true)
  | 22 => ("ParkingTreesModel", "law", "I", false)
  | 23 => ("ParkingTreesModel", "coming", "I", false)
  | 24 => ("ParkingTreesModel", "want", "[I", true)
  | 25 => ("ParkingTreesModel", "held", "[I", true)
  | 26 => ("ParkingTreesModel", "placeOf", "[I", true)
  | 27 => ("ParkingTreesModel", "lostBits", "I", false)
  | 28 => ("ParkingTreesModel", "hangs", "[I", true)
  | 29 => ("ParkingTreesModel", "row0", "[I", true)
  | 30 => ("ParkingTreesModel", "limbs", "[I", true)
  | 31 => ("ParkingTreesModel", "codeOf", "[I", true)
  | 32 => ("ParkingTreesModel", "edge", "[I", true)
  | 33 => ("ParkingTreesModel", "grains", "[I", true)
  | 34 => ("ParkingTreesModel", "visits", "[I", true)
  | 35 => ("ParkingTreesModel", "come", "I", false)
  | 36 => ("ParkingTreesModel", "comes", "I", false)
  | 37 => ("ParkingTreesModel", "small", "[I", true)
  | 38 => ("ParkingTreesModel", "smallHeld", "[I", true)
  | 39 => ("ParkingTreesModel", "lastPlace", "I", false)
  | 40 => ("ParkingTreesModel", "blockOf", "[I", true)
  | 41 => ("ParkingTreesModel", "seenBits", "I", false)
  | 42 => ("ParkingTreesModel", "askBest", "I", false)
  | 43 => ("ParkingTreesModel", "askLeaves", "I", false)
  | _ => ("ParkingTreesModel", "byWant", "[I", true)
def tyX9 : Nat → FieldType := fun k => match k with
  | 0 => .int
  | 1 => .array .int
  | 2 => .array .int
  | 3 => .array .long
  | 4 => .array .long
  | 5 => .array .byte
  | 6 => .int
  | 7 => .int
  | 8 => .int
  | 9 => .int
  | 10 => .int
  | 11 => .long
  | 12 => .int
  | 13 => .int
  | 14 => .int
  | 15 => .int
  | 16 => .array .int
  | 17 => .array .int
  | 18 => .array .int
  | 19 => .array .int
  | 20 => .array .int
  | 21 => .array .boolean
  | 22 => .int
  | 23 => .int
  | 24 => .array .int
  | 25 => .array .int
  | 26 => .array .int
  | 27 => .int
  | 28 => .array .int
  | 29 => .array .int
  | 30 => .array .int
  | 31 => .array .int
  | 32 => .array .int
  | 33 => .array .int
  | 34 => .array .int
  | 35 => .int
  | 36 => .int
  | 37 => .array .int
  | 38 => .array .int
  | 39 => .int
  | 40 => .array .int
  | 41 => .int
  | 42 => .int
  | 43 => .int
  | _ => .array .int
abbrev wsX90 : List Cond := u_ws RX9 TX9 45
theorem nmX9 : ∀ a, a < 45 → ∀ b, b < 45 → a ≠ b → (TX9 a).2.1 ≠ (TX9 b).2.1 := by decide +kernel
theorem tyX9_ok : ∀ k, k < 45 → parseFieldDescriptor (TX9 k).2.2.1 = some (tyX9 k) := by decide +kernel
abbrev cX9_init : ByteArray := prog_11_method_1_code
def yX9_init : MethodName := ⟨RX9, "<init>", "()V"⟩
abbrev cX9_in : ByteArray := prog_11_method_3_code
def yX9_in : MethodName := ⟨RX9, "in", "(JJJ)Z"⟩
abbrev cX9_isSlot : ByteArray := prog_11_method_4_code
def yX9_isSlot : MethodName := ⟨RX9, "isSlot", "(I)Z"⟩
abbrev cX9_row : ByteArray := prog_11_method_5_code
def yX9_row : MethodName := ⟨RX9, "row", "(III)I"⟩
abbrev cX9_cut : ByteArray := prog_11_method_6_code
def yX9_cut : MethodName := ⟨RX9, "cut", "(JI)J"⟩
abbrev cX9_write : ByteArray := prog_11_method_7_code
def yX9_write : MethodName := ⟨RX9, "write", "(IIJ)I"⟩
abbrev cX9_paste : ByteArray := prog_11_method_8_code
def yX9_paste : MethodName := ⟨RX9, "paste", "(IIIII)I"⟩
abbrev cX9_feed : ByteArray := prog_11_method_9_code
def yX9_feed : MethodName := ⟨RX9, "feed", "(IIIII)I"⟩
abbrev cX9_four : ByteArray := prog_11_method_10_code
def yX9_four : MethodName := ⟨RX9, "four", "(I)V"⟩
abbrev cX9_end : ByteArray := prog_11_method_11_code
def yX9_end : MethodName := ⟨RX9, "end", "(I)I"⟩
abbrev cX9_isByte : ByteArray := prog_11_method_12_code
def yX9_isByte : MethodName := ⟨RX9, "isByte", "(III)Z"⟩
abbrev cX9_follows : ByteArray := prog_11_method_13_code
def yX9_follows : MethodName := ⟨RX9, "follows", "()V"⟩
abbrev cX9_isGood : ByteArray := prog_11_method_14_code
def yX9_isGood : MethodName := ⟨RX9, "isGood", "()Z"⟩
abbrev cX9_fails : ByteArray := prog_11_method_15_code
def yX9_fails : MethodName := ⟨RX9, "fails", "(I)V"⟩
abbrev cX9_is : ByteArray := prog_11_method_16_code
def yX9_is : MethodName := ⟨RX9, "is", "(J)Z"⟩
abbrev cX9_takesWord : ByteArray := prog_11_method_17_code
def yX9_takesWord : MethodName := ⟨RX9, "takesWord", "(J)Z"⟩
abbrev cX9_asks : ByteArray := prog_11_method_18_code
def yX9_asks : MethodName := ⟨RX9, "asks", "(J)V"⟩
abbrev cX9_number : ByteArray := prog_11_method_19_code
def yX9_number : MethodName := ⟨RX9, "number", "(II)I"⟩
abbrev cX9_number_ : ByteArray := prog_11_method_20_code
def yX9_number_ : MethodName := ⟨RX9, "number", "(JII)I"⟩
abbrev cX9_closes : ByteArray := prog_11_method_21_code
def yX9_closes : MethodName := ⟨RX9, "closes", "()V"⟩
abbrev cX9_begins : ByteArray := prog_11_method_22_code
def yX9_begins : MethodName := ⟨RX9, "begins", "()V"⟩
abbrev cX9_isOver : ByteArray := prog_11_method_23_code
def yX9_isOver : MethodName := ⟨RX9, "isOver", "()V"⟩
abbrev cX9_fault : ByteArray := prog_11_method_24_code
def yX9_fault : MethodName := ⟨RX9, "fault", "(I)I"⟩
abbrev cX9_hasRead : ByteArray := prog_11_method_25_code
def yX9_hasRead : MethodName := ⟨RX9, "hasRead", "(I)I"⟩
abbrev cX9_tells : ByteArray := prog_11_method_26_code
def yX9_tells : MethodName := ⟨RX9, "tells", "(II)V"⟩
abbrev cX9_joinLine : ByteArray := prog_11_method_27_code
def yX9_joinLine : MethodName := ⟨RX9, "joinLine", "()V"⟩
abbrev cX9_carLine : ByteArray := prog_11_method_28_code
def yX9_carLine : MethodName := ⟨RX9, "carLine", "()V"⟩
abbrev cX9_lineHere : ByteArray := prog_11_method_29_code
def yX9_lineHere : MethodName := ⟨RX9, "lineHere", "()V"⟩
abbrev cX9_clears : ByteArray := prog_11_method_30_code
def yX9_clears : MethodName := ⟨RX9, "clears", "()V"⟩
abbrev cX9_street : ByteArray := prog_11_method_31_code
def yX9_street : MethodName := ⟨RX9, "street", "()I"⟩
abbrev cX9_copyRow : ByteArray := prog_11_method_32_code
def yX9_copyRow : MethodName := ⟨RX9, "copyRow", "([IIII)V"⟩
abbrev cX9_copyStreet : ByteArray := prog_11_method_33_code
def yX9_copyStreet : MethodName := ⟨RX9, "copyStreet", "(II)V"⟩
abbrev cX9_isStreet : ByteArray := prog_11_method_34_code
def yX9_isStreet : MethodName := ⟨RX9, "isStreet", "()Z"⟩
abbrev cX9_places : ByteArray := prog_11_method_35_code
def yX9_places : MethodName := ⟨RX9, "places", "()I"⟩
abbrev cX9_cars : ByteArray := prog_11_method_36_code
def yX9_cars : MethodName := ⟨RX9, "cars", "()I"⟩
abbrev cX9_isCar : ByteArray := prog_11_method_37_code
def yX9_isCar : MethodName := ⟨RX9, "isCar", "(J)Z"⟩
abbrev cX9_isPlace : ByteArray := prog_11_method_38_code
def yX9_isPlace : MethodName := ⟨RX9, "isPlace", "(I)Z"⟩
abbrev cX9_isNode : ByteArray := prog_11_method_39_code
def yX9_isNode : MethodName := ⟨RX9, "isNode", "(I)Z"⟩
abbrev cX9_areTwo : ByteArray := prog_11_method_40_code
def yX9_areTwo : MethodName := ⟨RX9, "areTwo", "(II)Z"⟩
abbrev cX9_isHalf : ByteArray := prog_11_method_41_code
def yX9_isHalf : MethodName := ⟨RX9, "isHalf", "(I)Z"⟩
abbrev cX9_isBit : ByteArray := prog_11_method_42_code
def yX9_isBit : MethodName := ⟨RX9, "isBit", "(II)Z"⟩
abbrev cX9_sizeOf : ByteArray := prog_11_method_43_code
def yX9_sizeOf : MethodName := ⟨RX9, "sizeOf", "(I)I"⟩
abbrev cX9_lessOf : ByteArray := prog_11_method_44_code
def yX9_lessOf : MethodName := ⟨RX9, "lessOf", "(II)I"⟩
abbrev cX9_moreOf : ByteArray := prog_11_method_45_code
def yX9_moreOf : MethodName := ⟨RX9, "moreOf", "(II)I"⟩
abbrev cX9_far0 : ByteArray := prog_11_method_46_code
def yX9_far0 : MethodName := ⟨RX9, "far0", "(II)I"⟩
abbrev cX9_lays : ByteArray := prog_11_method_47_code
def yX9_lays : MethodName := ⟨RX9, "lays", "()V"⟩
abbrev cX9_trade : ByteArray := prog_11_method_48_code
def yX9_trade : MethodName := ⟨RX9, "trade", "(II)V"⟩
abbrev cX9_isFree : ByteArray := prog_11_method_49_code
def yX9_isFree : MethodName := ⟨RX9, "isFree", "(II)Z"⟩
abbrev cX9_above0 : ByteArray := prog_11_method_50_code
def yX9_above0 : MethodName := ⟨RX9, "above0", "(II)I"⟩
abbrev cX9_findsBy : ByteArray := prog_11_method_51_code
def yX9_findsBy : MethodName := ⟨RX9, "findsBy", "(II)I"⟩
abbrev cX9_parks : ByteArray := prog_11_method_52_code
def yX9_parks : MethodName := ⟨RX9, "parks", "(I)V"⟩
abbrev cX9_laysNow : ByteArray := prog_11_method_53_code
def yX9_laysNow : MethodName := ⟨RX9, "laysNow", "()V"⟩
abbrev cX9_stepsOf : ByteArray := prog_11_method_54_code
def yX9_stepsOf : MethodName := ⟨RX9, "stepsOf", "(I)I"⟩
abbrev cX9_sumNow : ByteArray := prog_11_method_55_code
def yX9_sumNow : MethodName := ⟨RX9, "sumNow", "()I"⟩
abbrev cX9_car : ByteArray := prog_11_method_56_code
def yX9_car : MethodName := ⟨RX9, "car", "(II)I"⟩
abbrev cX9_place : ByteArray := prog_11_method_57_code
def yX9_place : MethodName := ⟨RX9, "place", "(I)I"⟩
abbrev cX9_steps : ByteArray := prog_11_method_58_code
def yX9_steps : MethodName := ⟨RX9, "steps", "(I)I"⟩
abbrev cX9_lost : ByteArray := prog_11_method_59_code
def yX9_lost : MethodName := ⟨RX9, "lost", "()I"⟩
abbrev cX9_free : ByteArray := prog_11_method_60_code
def yX9_free : MethodName := ⟨RX9, "free", "()I"⟩
abbrev cX9_holder : ByteArray := prog_11_method_61_code
def yX9_holder : MethodName := ⟨RX9, "holder", "(I)I"⟩
abbrev cX9_lucky : ByteArray := prog_11_method_62_code
def yX9_lucky : MethodName := ⟨RX9, "lucky", "()I"⟩
abbrev cX9_sum : ByteArray := prog_11_method_63_code
def yX9_sum : MethodName := ⟨RX9, "sum", "()I"⟩
abbrev cX9_worst : ByteArray := prog_11_method_64_code
def yX9_worst : MethodName := ⟨RX9, "worst", "()I"⟩
abbrev cX9_runs : ByteArray := prog_11_method_65_code
def yX9_runs : MethodName := ⟨RX9, "runs", "()I"⟩
abbrev cX9_wanting : ByteArray := prog_11_method_66_code
def yX9_wanting : MethodName := ⟨RX9, "wanting", "(I)I"⟩
abbrev cX9_sorted : ByteArray := prog_11_method_67_code
def yX9_sorted : MethodName := ⟨RX9, "sorted", "(I)I"⟩
abbrev cX9_isLawful : ByteArray := prog_11_method_68_code
def yX9_isLawful : MethodName := ⟨RX9, "isLawful", "()Z"⟩
abbrev cX9_lawful : ByteArray := prog_11_method_69_code
def yX9_lawful : MethodName := ⟨RX9, "lawful", "()I"⟩
abbrev cX9_prime : ByteArray := prog_11_method_70_code
def yX9_prime : MethodName := ⟨RX9, "prime", "()I"⟩
abbrev cX9_breaks : ByteArray := prog_11_method_71_code
def yX9_breaks : MethodName := ⟨RX9, "breaks", "()I"⟩
abbrev cX9_likes : ByteArray := prog_11_method_72_code
def yX9_likes : MethodName := ⟨RX9, "likes", "()I"⟩
abbrev cX9_ringFree : ByteArray := prog_11_method_73_code
def yX9_ringFree : MethodName := ⟨RX9, "ringFree", "(I)I"⟩
abbrev cX9_shiftedOf : ByteArray := prog_11_method_74_code
def yX9_shiftedOf : MethodName := ⟨RX9, "shiftedOf", "(II)I"⟩
abbrev cX9_ring : ByteArray := prog_11_method_75_code
def yX9_ring : MethodName := ⟨RX9, "ring", "(I)I"⟩
abbrev cX9_hole : ByteArray := prog_11_method_76_code
def yX9_hole : MethodName := ⟨RX9, "hole", "()I"⟩
abbrev cX9_shifts : ByteArray := prog_11_method_77_code
def yX9_shifts : MethodName := ⟨RX9, "shifts", "()I"⟩
abbrev cX9_shifted : ByteArray := prog_11_method_78_code
def yX9_shifted : MethodName := ⟨RX9, "shifted", "(II)I"⟩
abbrev cX9_laysTree : ByteArray := prog_11_method_79_code
def yX9_laysTree : MethodName := ⟨RX9, "laysTree", "()V"⟩
abbrev cX9_kidsOf : ByteArray := prog_11_method_80_code
def yX9_kidsOf : MethodName := ⟨RX9, "kidsOf", "(II)I"⟩
abbrev cX9_turnedIn : ByteArray := prog_11_method_81_code
def yX9_turnedIn : MethodName := ⟨RX9, "turnedIn", "(I)I"⟩
abbrev cX9_parent : ByteArray := prog_11_method_82_code
def yX9_parent : MethodName := ⟨RX9, "parent", "(I)I"⟩
abbrev cX9_depth : ByteArray := prog_11_method_83_code
def yX9_depth : MethodName := ⟨RX9, "depth", "(I)I"⟩
abbrev cX9_kids : ByteArray := prog_11_method_84_code
def yX9_kids : MethodName := ⟨RX9, "kids", "(I)I"⟩
abbrev cX9_queue : ByteArray := prog_11_method_85_code
def yX9_queue : MethodName := ⟨RX9, "queue", "(I)I"⟩
abbrev cX9_leaves : ByteArray := prog_11_method_86_code
def yX9_leaves : MethodName := ⟨RX9, "leaves", "()I"⟩
abbrev cX9_inversions : ByteArray := prog_11_method_87_code
def yX9_inversions : MethodName := ⟨RX9, "inversions", "()I"⟩
abbrev cX9_laysCode : ByteArray := prog_11_method_88_code
def yX9_laysCode : MethodName := ⟨RX9, "laysCode", "()V"⟩
abbrev cX9_limbsOf : ByteArray := prog_11_method_89_code
def yX9_limbsOf : MethodName := ⟨RX9, "limbsOf", "(II)I"⟩
abbrev cX9_otherEnd : ByteArray := prog_11_method_90_code
def yX9_otherEnd : MethodName := ⟨RX9, "otherEnd", "(II)I"⟩
abbrev cX9_code : ByteArray := prog_11_method_91_code
def yX9_code : MethodName := ⟨RX9, "code", "(I)I"⟩
abbrev cX9_reads0 : ByteArray := prog_11_method_92_code
def yX9_reads0 : MethodName := ⟨RX9, "reads0", "(I)V"⟩
abbrev cX9_roots : ByteArray := prog_11_method_93_code
def yX9_roots : MethodName := ⟨RX9, "roots", "(I)V"⟩
abbrev cX9_searches : ByteArray := prog_11_method_94_code
def yX9_searches : MethodName := ⟨RX9, "searches", "()V"⟩
abbrev cX9_goesOn : ByteArray := prog_11_method_95_code
def yX9_goesOn : MethodName := ⟨RX9, "goesOn", "(I)V"⟩
abbrev cX9_burnt : ByteArray := prog_11_method_96_code
def yX9_burnt : MethodName := ⟨RX9, "burnt", "(I)I"⟩
abbrev cX9_turned : ByteArray := prog_11_method_97_code
def yX9_turned : MethodName := ⟨RX9, "turned", "()I"⟩
abbrev cX9_visit : ByteArray := prog_11_method_98_code
def yX9_visit : MethodName := ⟨RX9, "visit", "(I)I"⟩
abbrev cX9_whyNotCode : ByteArray := prog_11_method_99_code
def yX9_whyNotCode : MethodName := ⟨RX9, "whyNotCode", "(IZ)I"⟩
abbrev cX9_laysSlot : ByteArray := prog_11_method_100_code
def yX9_laysSlot : MethodName := ⟨RX9, "laysSlot", "(I)V"⟩
abbrev cX9_above : ByteArray := prog_11_method_101_code
def yX9_above : MethodName := ⟨RX9, "above", "(II)I"⟩
abbrev cX9_wish : ByteArray := prog_11_method_102_code
def yX9_wish : MethodName := ⟨RX9, "wish", "(II)I"⟩
abbrev cX9_regain : ByteArray := prog_11_method_103_code
def yX9_regain : MethodName := ⟨RX9, "regain", "(II)I"⟩
abbrev cX9_counts0 : ByteArray := prog_11_method_104_code
def yX9_counts0 : MethodName := ⟨RX9, "counts0", "(I)V"⟩
abbrev cX9_upset : ByteArray := prog_11_method_105_code
def yX9_upset : MethodName := ⟨RX9, "upset", "(I)I"⟩
abbrev cX9_smallSteps : ByteArray := prog_11_method_106_code
def yX9_smallSteps : MethodName := ⟨RX9, "smallSteps", "(I)I"⟩
abbrev cX9_rowsBy : ByteArray := prog_11_method_107_code
def yX9_rowsBy : MethodName := ⟨RX9, "rowsBy", "(III)I"⟩
abbrev cX9_isSmall : ByteArray := prog_11_method_108_code
def yX9_isSmall : MethodName := ⟨RX9, "isSmall", "(I)Z"⟩
abbrev cX9_rows : ByteArray := prog_11_method_109_code
def yX9_rows : MethodName := ⟨RX9, "rows", "(I)I"⟩
abbrev cX9_moved : ByteArray := prog_11_method_110_code
def yX9_moved : MethodName := ⟨RX9, "moved", "(II)I"⟩
abbrev cX9_ends : ByteArray := prog_11_method_111_code
def yX9_ends : MethodName := ⟨RX9, "ends", "(II)I"⟩
abbrev cX9_trees : ByteArray := prog_11_method_112_code
def yX9_trees : MethodName := ⟨RX9, "trees", "(II)I"⟩
abbrev cX9_laysBlocks : ByteArray := prog_11_method_113_code
def yX9_laysBlocks : MethodName := ⟨RX9, "laysBlocks", "(II)V"⟩
abbrev cX9_joins0 : ByteArray := prog_11_method_114_code
def yX9_joins0 : MethodName := ⟨RX9, "joins0", "(II)V"⟩
abbrev cX9_withJoin : ByteArray := prog_11_method_115_code
def yX9_withJoin : MethodName := ⟨RX9, "withJoin", "(III)I"⟩
abbrev cX9_mayJoin : ByteArray := prog_11_method_116_code
def yX9_mayJoin : MethodName := ⟨RX9, "mayJoin", "(III)Z"⟩
abbrev cX9_blockBits : ByteArray := prog_11_method_117_code
def yX9_blockBits : MethodName := ⟨RX9, "blockBits", "(II)I"⟩
abbrev cX9_labelOf : ByteArray := prog_11_method_118_code
def yX9_labelOf : MethodName := ⟨RX9, "labelOf", "(II)I"⟩
abbrev cX9_labelAt : ByteArray := prog_11_method_119_code
def yX9_labelAt : MethodName := ⟨RX9, "labelAt", "(I)I"⟩
abbrev cX9_isJoin : ByteArray := prog_11_method_120_code
def yX9_isJoin : MethodName := ⟨RX9, "isJoin", "(I)Z"⟩
abbrev cX9_isNumber : ByteArray := prog_11_method_121_code
def yX9_isNumber : MethodName := ⟨RX9, "isNumber", "(I)Z"⟩
abbrev cX9_label : ByteArray := prog_11_method_122_code
def yX9_label : MethodName := ⟨RX9, "label", "(I)I"⟩
abbrev cX9_merged : ByteArray := prog_11_method_123_code
def yX9_merged : MethodName := ⟨RX9, "merged", "(I)I"⟩
abbrev cX9_blocksNow : ByteArray := prog_11_method_124_code
def yX9_blocksNow : MethodName := ⟨RX9, "blocksNow", "()I"⟩
abbrev cX9_blocks : ByteArray := prog_11_method_125_code
def yX9_blocks : MethodName := ⟨RX9, "blocks", "()I"⟩
abbrev cX9_block : ByteArray := prog_11_method_126_code
def yX9_block : MethodName := ⟨RX9, "block", "(I)I"⟩
abbrev cX9_next : ByteArray := prog_11_method_127_code
def yX9_next : MethodName := ⟨RX9, "next", "()I"⟩
abbrev cX9_may : ByteArray := prog_11_method_128_code
def yX9_may : MethodName := ⟨RX9, "may", "(II)I"⟩
abbrev cX9_labels : ByteArray := prog_11_method_129_code
def yX9_labels : MethodName := ⟨RX9, "labels", "(II)I"⟩
abbrev cX9_chain : ByteArray := prog_11_method_130_code
def yX9_chain : MethodName := ⟨RX9, "chain", "()I"⟩
abbrev cX9_stands : ByteArray := prog_11_method_131_code
def yX9_stands : MethodName := ⟨RX9, "stands", "(I)I"⟩
abbrev cX9_crossed : ByteArray := prog_11_method_132_code
def yX9_crossed : MethodName := ⟨RX9, "crossed", "(II)I"⟩
abbrev cX9_region : ByteArray := prog_11_method_133_code
def yX9_region : MethodName := ⟨RX9, "region", "(I)I"⟩
abbrev cX9_across : ByteArray := prog_11_method_134_code
def yX9_across : MethodName := ⟨RX9, "across", "(II)I"⟩
abbrev cX9_fences : ByteArray := prog_11_method_135_code
def yX9_fences : MethodName := ⟨RX9, "fences", "()I"⟩
abbrev cX9_far : ByteArray := prog_11_method_136_code
def yX9_far : MethodName := ⟨RX9, "far", "()I"⟩
abbrev cX9_astride : ByteArray := prog_11_method_137_code
def yX9_astride : MethodName := ⟨RX9, "astride", "()I"⟩
abbrev cX9_mend : ByteArray := prog_11_method_138_code
def yX9_mend : MethodName := ⟨RX9, "mend", "()I"⟩
abbrev cX9_swap : ByteArray := prog_11_method_139_code
def yX9_swap : MethodName := ⟨RX9, "swap", "()I"⟩
abbrev cX9_blame : ByteArray := prog_11_method_140_code
def yX9_blame : MethodName := ⟨RX9, "blame", "()I"⟩
abbrev cX9_whyNot : ByteArray := prog_11_method_141_code
def yX9_whyNot : MethodName := ⟨RX9, "whyNot", "(IZ)I"⟩
abbrev cX9_seenPlace : ByteArray := prog_11_method_142_code
def yX9_seenPlace : MethodName := ⟨RX9, "seenPlace", "(I)I"⟩
abbrev cX9_isSo : ByteArray := prog_11_method_143_code
def yX9_isSo : MethodName := ⟨RX9, "isSo", "(I)Z"⟩
abbrev cX9_laysSeen : ByteArray := prog_11_method_144_code
def yX9_laysSeen : MethodName := ⟨RX9, "laysSeen", "(II)V"⟩
abbrev cX9_worstBy : ByteArray := prog_11_method_145_code
def yX9_worstBy : MethodName := ⟨RX9, "worstBy", "(I)I"⟩
abbrev cX9_fits : ByteArray := prog_11_method_146_code
def yX9_fits : MethodName := ⟨RX9, "fits", "(II)I"⟩
abbrev cX9_ask : ByteArray := prog_11_method_147_code
def yX9_ask : MethodName := ⟨RX9, "ask", "(II)I"⟩
abbrev cX9_remain : ByteArray := prog_11_method_148_code
def yX9_remain : MethodName := ⟨RX9, "remain", "(II)I"⟩
abbrev cX9_parksBy : ByteArray := prog_11_method_149_code
def yX9_parksBy : MethodName := ⟨RX9, "parksBy", "(I)V"⟩
abbrev cX9_laws : ByteArray := prog_11_method_150_code
def yX9_laws : MethodName := ⟨RX9, "laws", "(I)I"⟩
abbrev cX9_by : ByteArray := prog_11_method_151_code
def yX9_by : MethodName := ⟨RX9, "by", "(I)I"⟩
abbrev cX9_law : ByteArray := prog_11_method_152_code
def yX9_law : MethodName := ⟨RX9, "law", "()I"⟩
abbrev cX9_worthOf : ByteArray := prog_11_method_153_code
def yX9_worthOf : MethodName := ⟨RX9, "worthOf", "(I)I"⟩
abbrev cX9_worth : ByteArray := prog_11_method_154_code
def yX9_worth : MethodName := ⟨RX9, "worth", "(I)I"⟩
abbrev cX9_times : ByteArray := prog_11_method_155_code
def yX9_times : MethodName := ⟨RX9, "times", "(I)I"⟩
abbrev cX9_common : ByteArray := prog_11_method_156_code
def yX9_common : MethodName := ⟨RX9, "common", "(JJ)J"⟩
abbrev cX9_partOf : ByteArray := prog_11_method_157_code
def yX9_partOf : MethodName := ⟨RX9, "partOf", "(JJI)J"⟩
abbrev cX9_share : ByteArray := prog_11_method_158_code
def yX9_share : MethodName := ⟨RX9, "share", "(II)I"⟩
abbrev cX9_getsBy : ByteArray := prog_11_method_159_code
def yX9_getsBy : MethodName := ⟨RX9, "getsBy", "(IIIII)I"⟩
abbrev cX9_rests : ByteArray := prog_11_method_160_code
def yX9_rests : MethodName := ⟨RX9, "rests", "(II)I"⟩
abbrev cX9_gets : ByteArray := prog_11_method_161_code
def yX9_gets : MethodName := ⟨RX9, "gets", "(IIII)I"⟩
abbrev cX9_power : ByteArray := prog_11_method_162_code
def yX9_power : MethodName := ⟨RX9, "power", "(JI)J"⟩
abbrev cX9_weightOf : ByteArray := prog_11_method_163_code
def yX9_weightOf : MethodName := ⟨RX9, "weightOf", "(I)J"⟩
abbrev cX9_chance : ByteArray := prog_11_method_164_code
def yX9_chance : MethodName := ⟨RX9, "chance", "(II)I"⟩
abbrev cX9_mean : ByteArray := prog_11_method_165_code
def yX9_mean : MethodName := ⟨RX9, "mean", "(I)J"⟩
abbrev cX9_draws : ByteArray := prog_11_method_166_code
def yX9_draws : MethodName := ⟨RX9, "draws", "(J)V"⟩
abbrev cX9_isSeed : ByteArray := prog_11_method_167_code
def yX9_isSeed : MethodName := ⟨RX9, "isSeed", "(I)Z"⟩
abbrev cX9_drawn : ByteArray := prog_11_method_168_code
def yX9_drawn : MethodName := ⟨RX9, "drawn", "(II)I"⟩
abbrev cX9_luck : ByteArray := prog_11_method_169_code
def yX9_luck : MethodName := ⟨RX9, "luck", "(III)I"⟩
abbrev cX9_does : ByteArray := prog_11_method_170_code
def yX9_does : MethodName := ⟨RX9, "does", "(III)I"⟩
abbrev cX9_wants : ByteArray := prog_11_method_171_code
def yX9_wants : MethodName := ⟨RX9, "wants", "(II)I"⟩
abbrev cX9_trades : ByteArray := prog_11_method_172_code
def yX9_trades : MethodName := ⟨RX9, "trades", "(II)I"⟩
abbrev cX9_undo : ByteArray := prog_11_method_173_code
def yX9_undo : MethodName := ⟨RX9, "undo", "()I"⟩
abbrev cX9_anew : ByteArray := prog_11_method_174_code
def yX9_anew : MethodName := ⟨RX9, "anew", "()I"⟩
abbrev cX9_rate : ByteArray := prog_11_method_175_code
def yX9_rate : MethodName := ⟨RX9, "rate", "(II)I"⟩
abbrev cX9_count : ByteArray := prog_11_method_176_code
def yX9_count : MethodName := ⟨RX9, "count", "(I)I"⟩
abbrev cX9_image : ByteArray := prog_11_method_177_code
def yX9_image : MethodName := ⟨RX9, "image", "(I)I"⟩
abbrev cX9_back : ByteArray := prog_11_method_178_code
def yX9_back : MethodName := ⟨RX9, "back", "(I)I"⟩
def RJ6 : String := "java/lang/Integer"
def TJ6 : u_T := fun k => match k with
  | _ => ("", "", "", false)
def tyJ6 : Nat → FieldType := fun k => match k with
  | _ => .int
abbrev wsJ60 : List Cond := u_ws RJ6 TJ6 0
theorem nmJ6 : ∀ a, a < 0 → ∀ b, b < 0 → a ≠ b → (TJ6 a).2.1 ≠ (TJ6 b).2.1 := by decide +kernel
theorem tyJ6_ok : ∀ k, k < 0 → parseFieldDescriptor (TJ6 k).2.2.1 = some (tyJ6 k) := by decide +kernel
abbrev cJ6_bitCount_0f7a4 : ByteArray := prog_12_method_49_code
def yJ6_bitCount_0f7a4 : MethodName := ⟨RJ6, "bitCount", "(I)I"⟩
def RJ9 : String := "java/lang/Math"
def TJ9 : u_T := fun k => match k with
  | _ => ("", "", "", false)
def tyJ9 : Nat → FieldType := fun k => match k with
  | _ => .int
abbrev wsJ90 : List Cond := u_ws RJ9 TJ9 0
theorem nmJ9 : ∀ a, a < 0 → ∀ b, b < 0 → a ≠ b → (TJ9 a).2.1 ≠ (TJ9 b).2.1 := by decide +kernel
theorem tyJ9_ok : ∀ k, k < 0 → parseFieldDescriptor (TJ9 k).2.2.1 = some (tyJ9 k) := by decide +kernel
abbrev cJ9_abs_0f7a4 : ByteArray := prog_13_method_59_code
def yJ9_abs_0f7a4 : MethodName := ⟨RJ9, "abs", "(I)I"⟩
abbrev cJ9_abs_067f4 : ByteArray := prog_13_method_61_code
def yJ9_abs_067f4 : MethodName := ⟨RJ9, "abs", "(J)J"⟩
abbrev cJ9_max_7cf53 : ByteArray := prog_13_method_65_code
def yJ9_max_7cf53 : MethodName := ⟨RJ9, "max", "(II)I"⟩
abbrev cJ9_min_7cf53 : ByteArray := prog_13_method_69_code
def yJ9_min_7cf53 : MethodName := ⟨RJ9, "min", "(II)I"⟩
def RJ0 : String := "java/lang/String"
def TJ0 : u_T := fun k => match k with
  | _ => ("", "", "", false)
def tyJ0 : Nat → FieldType := fun k => match k with
  | _ => .int
abbrev wsJ00 : List Cond := u_ws RJ0 TJ0 0
theorem nmJ0 : ∀ a, a < 0 → ∀ b, b < 0 → a ≠ b → (TJ0 a).2.1 ≠ (TJ0 b).2.1 := by decide +kernel
theorem tyJ0_ok : ∀ k, k < 0 → parseFieldDescriptor (TJ0 k).2.2.1 = some (tyJ0 k) := by decide +kernel
abbrev cJ0_length_8abf5 : ByteArray := prog_14_method_54_code
def yJ0_length_8abf5 : MethodName := ⟨RJ0, "length", "()I"⟩
abbrev cJ0_charAt_5068e : ByteArray := prog_14_method_56_code
def yJ0_charAt_5068e : MethodName := ⟨RJ0, "charAt", "(I)C"⟩
abbrev cJ0_coder_7d493 : ByteArray := prog_14_method_152_code
def yJ0_coder_7d493 : MethodName := ⟨RJ0, "coder", "()B"⟩
abbrev cJ0_isLatin1_aae02 : ByteArray := prog_14_method_154_code
def yJ0_isLatin1_aae02 : MethodName := ⟨RJ0, "isLatin1", "()Z"⟩
abbrev cJ0_checkIndex_df160 : ByteArray := prog_14_method_155_code
def yJ0_checkIndex_df160 : MethodName := ⟨RJ0, "checkIndex", "(II)V"⟩
def RJ1 : String := "java/lang/StringLatin1"
def TJ1 : u_T := fun k => match k with
  | _ => ("", "", "", false)
def tyJ1 : Nat → FieldType := fun k => match k with
  | _ => .int
abbrev wsJ10 : List Cond := u_ws RJ1 TJ1 0
theorem nmJ1 : ∀ a, a < 0 → ∀ b, b < 0 → a ≠ b → (TJ1 a).2.1 ≠ (TJ1 b).2.1 := by decide +kernel
theorem tyJ1_ok : ∀ k, k < 0 → parseFieldDescriptor (TJ1 k).2.2.1 = some (tyJ1 k) := by decide +kernel
abbrev cJ1_charAt_3b067 : ByteArray := prog_15_method_2_code
def yJ1_charAt_3b067 : MethodName := ⟨RJ1, "charAt", "([BI)C"⟩
def RJ2 : String := "java/lang/StringUTF16"
def TJ2 : u_T := fun k => match k with
  | _ => ("", "", "", false)
def tyJ2 : Nat → FieldType := fun k => match k with
  | _ => .int
abbrev wsJ20 : List Cond := u_ws RJ2 TJ2 0
theorem nmJ2 : ∀ a, a < 0 → ∀ b, b < 0 → a ≠ b → (TJ2 a).2.1 ≠ (TJ2 b).2.1 := by decide +kernel
theorem tyJ2_ok : ∀ k, k < 0 → parseFieldDescriptor (TJ2 k).2.2.1 = some (tyJ2 k) := by decide +kernel
abbrev cJ2_getChar_3b067 : ByteArray := prog_16_method_5_code
def yJ2_getChar_3b067 : MethodName := ⟨RJ2, "getChar", "([BI)C"⟩
abbrev cJ2_length_9d52b : ByteArray := prog_16_method_6_code
def yJ2_length_9d52b : MethodName := ⟨RJ2, "length", "([B)I"⟩
abbrev cJ2_charAt_3b067 : ByteArray := prog_16_method_83_code
def yJ2_charAt_3b067 : MethodName := ⟨RJ2, "charAt", "([BI)C"⟩
abbrev cJ2_checkIndex_2214a : ByteArray := prog_16_method_91_code
def yJ2_checkIndex_2214a : MethodName := ⟨RJ2, "checkIndex", "(I[B)V"⟩
def RJ10 : String := "java/lang/System"
def TJ10 : u_T := fun k => match k with
  | _ => ("", "", "", false)
def tyJ10 : Nat → FieldType := fun k => match k with
  | _ => .int
abbrev wsJ100 : List Cond := u_ws RJ10 TJ10 0
theorem nmJ10 : ∀ a, a < 0 → ∀ b, b < 0 → a ≠ b → (TJ10 a).2.1 ≠ (TJ10 b).2.1 := by decide +kernel
theorem tyJ10_ok : ∀ k, k < 0 → parseFieldDescriptor (TJ10 k).2.2.1 = some (tyJ10 k) := by decide +kernel
def RJ3 : String := "jdk/internal/util/Preconditions"
def TJ3 : u_T := fun k => match k with
  | _ => ("", "", "", false)
def tyJ3 : Nat → FieldType := fun k => match k with
  | _ => .int
abbrev wsJ30 : List Cond := u_ws RJ3 TJ3 0
theorem nmJ3 : ∀ a, a < 0 → ∀ b, b < 0 → a ≠ b → (TJ3 a).2.1 ≠ (TJ3 b).2.1 := by decide +kernel
theorem tyJ3_ok : ∀ k, k < 0 → parseFieldDescriptor (TJ3 k).2.2.1 = some (tyJ3 k) := by decide +kernel
abbrev cJ3_checkIndex_8e157 : ByteArray := prog_18_method_11_code
def yJ3_checkIndex_8e157 : MethodName := ⟨RJ3, "checkIndex", "(IILjava/util/function/BiFunction;)I"⟩
def RL : String := "ParkingTreesLaw"
abbrev cL_law : ByteArray := code
def yL_law : MethodName := ⟨RL, "law", "([I)Z"⟩
abbrev vwCl : List vw_C := [(RX0, TX0, 2), (RX1, TX1, 4), (RX2, TX2, 10), (RX3, TX3, 2), (RX4, TX4, 4), (RX5, TX5, 15), (RX6, TX6, 2), (RX7, TX7, 7), (RX8, TX8, 12), (RX9, TX9, 45)]
end
section
/-! THE PURE MACHINE, part 1: cells by their numbers, what they are in a heap -/
def pm_T : List Cond := lw_tbl.filter goodWord
theorem pm_in {w : Cond} (i : Nat) (h : lw_tbl[i]? = some w) (hg : goodWord w = true) : w ∈ pm_T := List.mem_filter.mpr ⟨List.mem_of_getElem? h, hg⟩
theorem pm_T_good : GoodIn lw_tbl pm_T := fun w hw => ⟨(List.mem_filter.mp hw).1, good_of_word (List.mem_filter.mp hw).2⟩
theorem pm_T_word {w : Cond} (h : w ∈ pm_T) : (w.onTables && w.keeps) = true ∨ ∃ ty, w = .arrayClass ty := good_of_word (List.mem_filter.mp h).2
abbrev pm_E : Type := (Nat × vp_A) ⊕ (Nat × List Value)
abbrev pm_H : Type := List pm_E
/-- pc, locals, stack, heap, cells and slots that may still be made -/
abbrev pm_S : Type := Nat × List (Nat × Value) × List Value × pm_H × Nat × Nat
/-- a step; or a call (the method's number, how many arguments, the receiver's class, cells, slots); or a return (0: of nothing) -/
abbrev pm_I : Type := (pm_S → Option pm_S) ⊕ ((Nat × Nat × Option Nat × Nat × Nat) ⊕ Nat)
/-- a value: cell k lies at B + k; the script's reference stands as a return address -/
def pm_v (B b : Nat) (v : Value) : Value := match v with
  | .int x => .int x
  | .long x => .long x
  | .float x => .float x
  | .double x => .double x
  | .null => .null
  | .ref k => .ref (B + k)
  | .retAddr _ => .ref b
theorem pm_v_cat (B b : Nat) (v : Value) : (pm_v B b v).category = v.category := by cases v <;> rfl
def pm_q (B b : Nat) (q : Nat × Value) : Nat × Value := (q.1, pm_v B b q.2)
def pm_e (B b : Nat) (aC : Nat → ClassId) (x : pm_E) : va_E := match x with
  | .inl (t, n, .inl f) => .inl (aC t, n, .inl f)
  | .inl (t, n, .inr (.inl f)) => .inl (aC t, n, .inr (.inl f))
  | .inl (t, n, .inr (.inr (.inl f))) => .inl (aC t, n, .inr (.inr (.inl f)))
  | .inl (t, n, .inr (.inr (.inr (.inl f)))) => .inl (aC t, n, .inr (.inr (.inr (.inl f))))
  | .inl (t, n, .inr (.inr (.inr (.inr f)))) => .inl (aC t, n, .inr (.inr (.inr (.inr (fun i => (f i).map (fun k => B + k))))))
  | .inr (ci, fs) => .inr (ci, fs.map (pm_v B b))
def pm_w (B b : Nat) (aC : Nat → ClassId) (h : pm_H) : va_W := h.mapIdx (fun k x => (B + k, pm_e B b aC x))
theorem pm_w_at {B b : Nat} {aC : Nat → ClassId} {h : pm_H} {k : Nat} {x : pm_E} (hk : h[k]? = some x) : (pm_w B b aC h)[k]? = some (B + k, pm_e B b aC x) := by
  simp [pm_w, hk]
theorem pm_w_get {B b : Nat} {aC : Nat → ClassId} {h : pm_H} {k : Nat} {q : Nat × va_E} (hk : (pm_w B b aC h)[k]? = some q) : q.1 = B + k := by
  simp only [pm_w, List.getElem?_mapIdx] at hk
  cases hx : h[k]? with
  | none => rw [hx] at hk; cases hk
  | some x => rw [hx] at hk; cases hk; rfl
theorem pm_w_set (B b : Nat) (aC : Nat → ClassId) (h : pm_H) (k : Nat) (x : pm_E) : (pm_w B b aC h).set k (B + k, pm_e B b aC x) = pm_w B b aC (h.set k x) := by
  apply List.ext_getElem?
  intro i
  simp only [pm_w, List.getElem?_set, List.getElem?_mapIdx, List.length_mapIdx]
  by_cases hi : k = i
  · subst hi
    by_cases hl : k < h.length
    · simp [hl]
    · simp [hl]
  · simp [hi]
theorem pm_w_app (B b : Nat) (aC : Nat → ClassId) (h : pm_H) (x : pm_E) : pm_w B b aC h ++ [(B + h.length, pm_e B b aC x)] = pm_w B b aC (h ++ [x]) := by
  simp [pm_w, List.mapIdx_append]
theorem pm_w_D (B b : Nat) (aC : Nat → ClassId) (h : pm_H) : va_D (fun q => B ≤ q) (pm_w B b aC h) := by
  refine ⟨fun i j p q hi hj e => ?_, fun k q hq => ?_⟩
  · have h1 := pm_w_get hi
    have h2 := pm_w_get hj
    omega
  · have h1 := pm_w_get hq
    show B ≤ q.1
    omega
def pm_get : List (Nat × Value) → Nat → Option Value
  | [], _ => none
  | q :: l, i => bif Nat.beq q.1 i then some q.2 else pm_get l i
theorem pm_get_in {i : Nat} {v : Value} : ∀ {lv : List (Nat × Value)}, pm_get lv i = some v → (i, v) ∈ lv
  | [], h => by cases h
  | q :: l, h => by
    unfold pm_get at h
    cases hb : Nat.beq q.1 i with
    | true =>
      rw [hb] at h
      have h1 : q.1 = i := Nat.eq_of_beq_eq_true hb
      have h2 : q.2 = v := Option.some.inj h
      subst h1; subst h2
      exact List.mem_cons_self
    | false =>
      rw [hb] at h
      exact List.mem_cons_of_mem _ (pm_get_in h)
theorem pm_loc {B b : Nat} {lv : List (Nat × Value)} {ls : Array Slot} {nL i : Nat} {v : Value} (h : lv_has ls nL (lv.map (pm_q B b))) (hg : pm_get lv i = some v) : ls[i]? = some (.val (pm_v B b v)) :=
  h.2.2 (i, pm_v B b v) (List.mem_map.mpr ⟨(i, v), pm_get_in hg, rfl⟩)
def pm_put1 (i : Nat) (v : Value) (lv : List (Nat × Value)) : List (Nat × Value) := (i, v) :: lv.filter (fun q => !(q.1 == i) && !(q.1 + 1 == i && q.2.category == 2))
def pm_put2 (i : Nat) (v : Value) (lv : List (Nat × Value)) : List (Nat × Value) := (i, v) :: lv.filter (fun q => !(q.1 == i) && (!(q.1 == i + 1) && !(q.1 + 1 == i && q.2.category == 2)))
theorem pm_put1_map (B b i : Nat) (v : Value) (lv : List (Nat × Value)) : (i, pm_v B b v) :: (lv.map (pm_q B b)).filter (fun q => !(q.1 == i) && !(q.1 + 1 == i && q.2.category == 2)) = (pm_put1 i v lv).map (pm_q B b) := by
  simp only [pm_put1, List.map_cons, List.filter_map]
  refine congrArg (List.cons _) (congrArg (List.map _) (List.filter_congr fun q _ => ?_))
  simp [pm_q, pm_v_cat]
theorem pm_put2_map (B b i : Nat) (v : Value) (lv : List (Nat × Value)) : (i, pm_v B b v) :: (lv.map (pm_q B b)).filter (fun q => !(q.1 == i) && (!(q.1 == i + 1) && !(q.1 + 1 == i && q.2.category == 2))) = (pm_put2 i v lv).map (pm_q B b) := by
  simp only [pm_put2, List.map_cons, List.filter_map]
  refine congrArg (List.cons _) (congrArg (List.map _) (List.filter_congr fun q _ => ?_))
  simp [pm_q, pm_v_cat]
/-- the array classes by their numbers -/
def pm_tys (aC : Nat → ClassId) : List (ClassId × FieldType) := [(aC 0, .int), (aC 1, .byte), (aC 2, .boolean), (aC 3, .long), (aC 4, .object RX5), (aC 5, .object RX4)]
/-- what the tables say of a state: classes, array classes, nest mates -/
def pm_K (D : va_G) (aC : Nat → ClassId) (U : State) : Prop := va_K D vwCl (pm_tys aC) U ∧ va_AO RX5 U ∧ va_AO RX4 U
theorem pm_K.moved {D : va_G} {aC : Nat → ClassId} {s U : State} (hW : s.WarmedH U.vm) (h : pm_K D aC s) : pm_K D aC U := ⟨va_K.moved hW.alike h.1, va_AO.moved hW.alike h.2.1, va_AO.moved hW.alike h.2.2⟩
theorem pm_K.call {D : va_G} {aC : Nat → ClassId} {U : State} {g : JFrame} {mk : MethodId} {a : Array Value} (h : pm_K D aC U) : pm_K D aC (U.calling g mk a) := ⟨va_K.moved (u := U) (U := U.calling g mk a) (Vm.Alike.refl U.vm) h.1, va_AO.moved (u := U) (U := U.calling g mk a) (Vm.Alike.refl U.vm) h.2.1, va_AO.moved (u := U) (U := U.calling g mk a) (Vm.Alike.refl U.vm) h.2.2⟩
/-- what stays all through a method -/
def pm_C (p : Program) (s : State) (m : MethodId) (args : Array Value) (meth : Method) (c : Code) (cc : ByteArray) (own : String) (nL : Nat) (ini : Bool) (D : va_G) (aC : Nat → ClassId) (B : Nat) : Prop :=
  p.tables.exec = Jvm.exec ∧ c.code = cc ∧ c.maxLocals = nL ∧ s.vm.findClass own = some m.cls ∧ (∀ w ∈ pm_T, w.before args s = true) ∧ pm_K D aC s ∧ B ≤ s.heap.size ∧ (ini = true → meth.name = "<init>")
/-- the machine goes on from every heap and frame that are as the pure state says -/
def pm_W (p : Program) (l : Launch) (e : Env) (R : Room) (s : State) (m : MethodId) (args : Array Value) (below : List Frame) (meth : Method) (c : Code) (nL : Nat) (D : va_G) (aC : Nat → ClassId) (B b : Nat) (Q : State → Prop) (σ : pm_S) : Prop :=
  ∀ (H : Heap) (locs : List Loc) (ls : Array Slot) (cells slots : Nat), lv_has ls nL (σ.2.1.map (pm_q B b)) → H.size = B + σ.2.2.2.1.length → va_P D vwCl (pm_w B b aC σ.2.2.2.1) H → va_S (fun q => B ≤ q) s.heap H locs → cells + σ.2.2.2.2.1 ≤ R.cells → slots + σ.2.2.2.2.2 ≤ R.slots →
    W p l e R s m args below meth c H locs cells slots Q (F0 m σ.1 ls (σ.2.2.1.map (pm_v B b)))
/-- a step of the pure machine is one of the machine -/
def pm_okF (cc : ByteArray) (own : String) (nL : Nat) (ini : Bool) (pc : Nat) (f : pm_S → Option pm_S) : Prop :=
  ∀ (p : Program) (l : Launch) (e : Env) (R : Room) (s : State) (m : MethodId) (args : Array Value) (below : List Frame) (meth : Method) (c : Code) (D : va_G) (aC : Nat → ClassId) (B b : Nat) (Q : State → Prop),
    pm_C p s m args meth c cc own nL ini D aC B → 1 ≤ R.frames → 100 ≤ R.locals → ∀ (lv : List (Nat × Value)) (st : List Value) (w : pm_H × Nat × Nat) (σ' : pm_S), f (pc, lv, st, w) = some σ' →
      pm_W p l e R s m args below meth c nL D aC B b Q σ' → pm_W p l e R s m args below meth c nL D aC B b Q (pc, lv, st, w)
end
section
/-! THE PURE MACHINE, part 2: its steps, each with the row of the kit that it stands on (written by gen_steps.py) -/
def s_const (v : Value) (n : Nat) : pm_S → Option pm_S := fun σ => some (n, σ.2.1, v :: σ.2.2.1, σ.2.2.2)
theorem k_iconst {cc : ByteArray} {own : String} {nL pc : Nat} {ini : Bool} {n : Int} {v : Int32} (hd : decode cc pc = .ok (.iconst n, 1)) (hv : Int32.ofInt n = v) : pm_okF cc own nL ini pc (s_const (.int v) (pc + 1)) := by
  intro p l e R s m args below meth c D aC B b Q C hR1 hR2 lv st w σ' hf k
  obtain rfl := Option.some.inj hf
  intro H locs ls cells slots h1 h2 h3 h4 h5 h6
  exact lv_iconst C.1 C.2.1 hd hv (k H locs ls cells slots h1 h2 h3 h4 h5 h6)
theorem k_bipush {cc : ByteArray} {own : String} {nL pc : Nat} {ini : Bool} {n : Int} {v : Int32} (hd : decode cc pc = .ok (.bipush n, 2)) (hv : (Int8.ofInt n).toInt32 = v) : pm_okF cc own nL ini pc (s_const (.int v) (pc + 2)) := by
  intro p l e R s m args below meth c D aC B b Q C hR1 hR2 lv st w σ' hf k
  obtain rfl := Option.some.inj hf
  intro H locs ls cells slots h1 h2 h3 h4 h5 h6
  exact lv_bipush C.1 C.2.1 hd hv (k H locs ls cells slots h1 h2 h3 h4 h5 h6)
theorem k_sipush {cc : ByteArray} {own : String} {nL pc : Nat} {ini : Bool} {n : Int} {v : Int32} (hd : decode cc pc = .ok (.sipush n, 3)) (hv : (Int16.ofInt n).toInt32 = v) : pm_okF cc own nL ini pc (s_const (.int v) (pc + 3)) := by
  intro p l e R s m args below meth c D aC B b Q C hR1 hR2 lv st w σ' hf k
  obtain rfl := Option.some.inj hf
  intro H locs ls cells slots h1 h2 h3 h4 h5 h6
  exact lv_sipush C.1 C.2.1 hd hv (k H locs ls cells slots h1 h2 h3 h4 h5 h6)
theorem k_lconst {cc : ByteArray} {own : String} {nL pc : Nat} {ini : Bool} {n : Fin 2} {v : Int64} (hd : decode cc pc = .ok (.lconst n, 1)) (hv : Int64.ofNat (n : Nat) = v) : pm_okF cc own nL ini pc (s_const (.long v) (pc + 1)) := by
  intro p l e R s m args below meth c D aC B b Q C hR1 hR2 lv st w σ' hf k
  obtain rfl := Option.some.inj hf
  intro H locs ls cells slots h1 h2 h3 h4 h5 h6
  exact lv_lconst C.1 C.2.1 hd hv (k H locs ls cells slots h1 h2 h3 h4 h5 h6)
theorem k_ldc {cc : ByteArray} {own : String} {nL pc : Nat} {ini : Bool} {i : Nat} {v : Int32} (hd : decode cc pc = .ok (.ldc i, 2)) (hw : Cond.constant own i v ∈ pm_T) : pm_okF cc own nL ini pc (s_const (.int v) (pc + 2)) := by
  intro p l e R s m args below meth c D aC B b Q C hR1 hR2 lv st w σ' hf k
  obtain rfl := Option.some.inj hf
  intro H locs ls cells slots h1 h2 h3 h4 h5 h6
  exact lv_ldc C.1 C.2.1 C.2.2.2.1 (C.2.2.2.2.1 _ hw) hd (k H locs ls cells slots h1 h2 h3 h4 h5 h6)
theorem k_ldcw {cc : ByteArray} {own : String} {nL pc : Nat} {ini : Bool} {i : Nat} {v : Int32} (hd : decode cc pc = .ok (.ldc_w i, 3)) (hw : Cond.constant own i v ∈ pm_T) : pm_okF cc own nL ini pc (s_const (.int v) (pc + 3)) := by
  intro p l e R s m args below meth c D aC B b Q C hR1 hR2 lv st w σ' hf k
  obtain rfl := Option.some.inj hf
  intro H locs ls cells slots h1 h2 h3 h4 h5 h6
  exact lv_ldcw C.1 C.2.1 C.2.2.2.1 (C.2.2.2.2.1 _ hw) hd (k H locs ls cells slots h1 h2 h3 h4 h5 h6)
theorem k_ldc2 {cc : ByteArray} {own : String} {nL pc : Nat} {ini : Bool} {i : Nat} {v : Int64} (hd : decode cc pc = .ok (.ldc2_w i, 3)) (hw : Cond.constantLong own i v ∈ pm_T) : pm_okF cc own nL ini pc (s_const (.long v) (pc + 3)) := by
  intro p l e R s m args below meth c D aC B b Q C hR1 hR2 lv st w σ' hf k
  obtain rfl := Option.some.inj hf
  intro H locs ls cells slots h1 h2 h3 h4 h5 h6
  exact lv_ldc2 C.1 C.2.1 C.2.2.2.1 (C.2.2.2.2.1 _ hw) hd (k H locs ls cells slots h1 h2 h3 h4 h5 h6)
def s_il (i n : Nat) : pm_S → Option pm_S := fun σ => match pm_get σ.2.1 i with
  | some (.int x) => some (n, σ.2.1, .int x :: σ.2.2.1, σ.2.2.2)
  | _ => none
theorem k_iload_n {cc : ByteArray} {own : String} {nL pc : Nat} {ini : Bool} {j : Fin 4} {i : Nat} (hd : decode cc pc = .ok (.iload_n j, 1)) (hi : (j : Nat) = i) : pm_okF cc own nL ini pc (s_il i (pc + 1)) := by
  intro p l e R s m args below meth c D aC B b Q C hR1 hR2 lv st w σ' hf k
  simp only [s_il] at hf
  split at hf
  · rename_i x he
    obtain rfl := Option.some.inj hf
    intro H locs ls cells slots h1 h2 h3 h4 h5 h6
    exact lv_iload_n C.1 C.2.1 hd hi (pm_loc h1 he) (k H locs ls cells slots h1 h2 h3 h4 h5 h6)
  · cases hf
theorem k_iload {cc : ByteArray} {own : String} {nL pc : Nat} {ini : Bool} {i : Nat} (hd : decode cc pc = .ok (.iload i, 2)) : pm_okF cc own nL ini pc (s_il i (pc + 2)) := by
  intro p l e R s m args below meth c D aC B b Q C hR1 hR2 lv st w σ' hf k
  simp only [s_il] at hf
  split at hf
  · rename_i x he
    obtain rfl := Option.some.inj hf
    intro H locs ls cells slots h1 h2 h3 h4 h5 h6
    exact lv_iload C.1 C.2.1 hd (pm_loc h1 he) (k H locs ls cells slots h1 h2 h3 h4 h5 h6)
  · cases hf
def s_ll (i n : Nat) : pm_S → Option pm_S := fun σ => match pm_get σ.2.1 i with
  | some (.long x) => some (n, σ.2.1, .long x :: σ.2.2.1, σ.2.2.2)
  | _ => none
theorem k_lload_n {cc : ByteArray} {own : String} {nL pc : Nat} {ini : Bool} {j : Fin 4} {i : Nat} (hd : decode cc pc = .ok (.lload_n j, 1)) (hi : (j : Nat) = i) : pm_okF cc own nL ini pc (s_ll i (pc + 1)) := by
  intro p l e R s m args below meth c D aC B b Q C hR1 hR2 lv st w σ' hf k
  simp only [s_ll] at hf
  split at hf
  · rename_i x he
    obtain rfl := Option.some.inj hf
    intro H locs ls cells slots h1 h2 h3 h4 h5 h6
    exact lv_lload_n C.1 C.2.1 hd hi (pm_loc h1 he) (k H locs ls cells slots h1 h2 h3 h4 h5 h6)
  · cases hf
theorem k_lload {cc : ByteArray} {own : String} {nL pc : Nat} {ini : Bool} {i : Nat} (hd : decode cc pc = .ok (.lload i, 2)) : pm_okF cc own nL ini pc (s_ll i (pc + 2)) := by
  intro p l e R s m args below meth c D aC B b Q C hR1 hR2 lv st w σ' hf k
  simp only [s_ll] at hf
  split at hf
  · rename_i x he
    obtain rfl := Option.some.inj hf
    intro H locs ls cells slots h1 h2 h3 h4 h5 h6
    exact lv_lload C.1 C.2.1 hd (pm_loc h1 he) (k H locs ls cells slots h1 h2 h3 h4 h5 h6)
  · cases hf
def s_al (i n : Nat) : pm_S → Option pm_S := fun σ => match pm_get σ.2.1 i with
  | some (.ref x) => some (n, σ.2.1, .ref x :: σ.2.2.1, σ.2.2.2)
  | some (.retAddr x) => some (n, σ.2.1, .retAddr x :: σ.2.2.1, σ.2.2.2)
  | _ => none
theorem k_aload_n {cc : ByteArray} {own : String} {nL pc : Nat} {ini : Bool} {j : Fin 4} {i : Nat} (hd : decode cc pc = .ok (.aload_n j, 1)) (hi : (j : Nat) = i) : pm_okF cc own nL ini pc (s_al i (pc + 1)) := by
  intro p l e R s m args below meth c D aC B b Q C hR1 hR2 lv st w σ' hf k
  simp only [s_al] at hf
  split at hf
  · rename_i x he
    obtain rfl := Option.some.inj hf
    intro H locs ls cells slots h1 h2 h3 h4 h5 h6
    exact lv_aload_n C.1 C.2.1 hd hi (pm_loc h1 he) (k H locs ls cells slots h1 h2 h3 h4 h5 h6)
  · rename_i x he
    obtain rfl := Option.some.inj hf
    intro H locs ls cells slots h1 h2 h3 h4 h5 h6
    exact lv_aload_n C.1 C.2.1 hd hi (pm_loc h1 he) (k H locs ls cells slots h1 h2 h3 h4 h5 h6)
  · cases hf
theorem k_aload {cc : ByteArray} {own : String} {nL pc : Nat} {ini : Bool} {i : Nat} (hd : decode cc pc = .ok (.aload i, 2)) : pm_okF cc own nL ini pc (s_al i (pc + 2)) := by
  intro p l e R s m args below meth c D aC B b Q C hR1 hR2 lv st w σ' hf k
  simp only [s_al] at hf
  split at hf
  · rename_i x he
    obtain rfl := Option.some.inj hf
    intro H locs ls cells slots h1 h2 h3 h4 h5 h6
    exact lv_aload C.1 C.2.1 hd (pm_loc h1 he) (k H locs ls cells slots h1 h2 h3 h4 h5 h6)
  · rename_i x he
    obtain rfl := Option.some.inj hf
    intro H locs ls cells slots h1 h2 h3 h4 h5 h6
    exact lv_aload C.1 C.2.1 hd (pm_loc h1 he) (k H locs ls cells slots h1 h2 h3 h4 h5 h6)
  · cases hf
def s_is (i n : Nat) : pm_S → Option pm_S := fun σ => match σ.2.2.1 with
  | .int x :: st => some (n, pm_put1 i (.int x) σ.2.1, st, σ.2.2.2)
  | _ => none
theorem k_istore_n {cc : ByteArray} {own : String} {nL pc : Nat} {ini : Bool} {j : Fin 4} {i : Nat} (hd : decode cc pc = .ok (.istore_n j, 1)) (hi : (j : Nat) = i) (hn : i < nL) : pm_okF cc own nL ini pc (s_is i (pc + 1)) := by
  intro p l e R s m args below meth c D aC B b Q C hR1 hR2 lv st w σ' hf k
  simp only [s_is] at hf
  split at hf
  · rename_i x st
    obtain rfl := Option.some.inj hf
    intro H locs ls cells slots h1 h2 h3 h4 h5 h6
    exact lv_istore_n C.1 C.2.1 hd hi h1 hn (pm_put1_map B b i (.int x) lv) (fun ls' h1' => k H locs ls' cells slots h1' h2 h3 h4 h5 h6)
  · cases hf
theorem k_istore {cc : ByteArray} {own : String} {nL pc : Nat} {ini : Bool} {i : Nat} (hd : decode cc pc = .ok (.istore i, 2)) (hn : i < nL) : pm_okF cc own nL ini pc (s_is i (pc + 2)) := by
  intro p l e R s m args below meth c D aC B b Q C hR1 hR2 lv st w σ' hf k
  simp only [s_is] at hf
  split at hf
  · rename_i x st
    obtain rfl := Option.some.inj hf
    intro H locs ls cells slots h1 h2 h3 h4 h5 h6
    exact lv_istore C.1 C.2.1 hd h1 hn (pm_put1_map B b i (.int x) lv) (fun ls' h1' => k H locs ls' cells slots h1' h2 h3 h4 h5 h6)
  · cases hf
def s_ls (i n : Nat) : pm_S → Option pm_S := fun σ => match σ.2.2.1 with
  | .long x :: st => some (n, pm_put2 i (.long x) σ.2.1, st, σ.2.2.2)
  | _ => none
theorem k_lstore_n {cc : ByteArray} {own : String} {nL pc : Nat} {ini : Bool} {j : Fin 4} {i : Nat} (hd : decode cc pc = .ok (.lstore_n j, 1)) (hi : (j : Nat) = i) (hn : i + 1 < nL) : pm_okF cc own nL ini pc (s_ls i (pc + 1)) := by
  intro p l e R s m args below meth c D aC B b Q C hR1 hR2 lv st w σ' hf k
  simp only [s_ls] at hf
  split at hf
  · rename_i x st
    obtain rfl := Option.some.inj hf
    intro H locs ls cells slots h1 h2 h3 h4 h5 h6
    exact lv_lstore_n C.1 C.2.1 hd hi h1 hn (pm_put2_map B b i (.long x) lv) (fun ls' h1' => k H locs ls' cells slots h1' h2 h3 h4 h5 h6)
  · cases hf
theorem k_lstore {cc : ByteArray} {own : String} {nL pc : Nat} {ini : Bool} {i : Nat} (hd : decode cc pc = .ok (.lstore i, 2)) (hn : i + 1 < nL) : pm_okF cc own nL ini pc (s_ls i (pc + 2)) := by
  intro p l e R s m args below meth c D aC B b Q C hR1 hR2 lv st w σ' hf k
  simp only [s_ls] at hf
  split at hf
  · rename_i x st
    obtain rfl := Option.some.inj hf
    intro H locs ls cells slots h1 h2 h3 h4 h5 h6
    exact lv_lstore C.1 C.2.1 hd h1 hn (pm_put2_map B b i (.long x) lv) (fun ls' h1' => k H locs ls' cells slots h1' h2 h3 h4 h5 h6)
  · cases hf
def s_as (i n : Nat) : pm_S → Option pm_S := fun σ => match σ.2.2.1 with
  | .ref x :: st => some (n, pm_put1 i (.ref x) σ.2.1, st, σ.2.2.2)
  | _ => none
theorem k_astore_n {cc : ByteArray} {own : String} {nL pc : Nat} {ini : Bool} {j : Fin 4} {i : Nat} (hd : decode cc pc = .ok (.astore_n j, 1)) (hi : (j : Nat) = i) (hn : i < nL) : pm_okF cc own nL ini pc (s_as i (pc + 1)) := by
  intro p l e R s m args below meth c D aC B b Q C hR1 hR2 lv st w σ' hf k
  simp only [s_as] at hf
  split at hf
  · rename_i x st
    obtain rfl := Option.some.inj hf
    intro H locs ls cells slots h1 h2 h3 h4 h5 h6
    exact lv_astore_n C.1 C.2.1 hd hi h1 hn (pm_put1_map B b i (.ref x) lv) (fun ls' h1' => k H locs ls' cells slots h1' h2 h3 h4 h5 h6)
  · cases hf
theorem k_astore {cc : ByteArray} {own : String} {nL pc : Nat} {ini : Bool} {i : Nat} (hd : decode cc pc = .ok (.astore i, 2)) (hn : i < nL) : pm_okF cc own nL ini pc (s_as i (pc + 2)) := by
  intro p l e R s m args below meth c D aC B b Q C hR1 hR2 lv st w σ' hf k
  simp only [s_as] at hf
  split at hf
  · rename_i x st
    obtain rfl := Option.some.inj hf
    intro H locs ls cells slots h1 h2 h3 h4 h5 h6
    exact lv_astore C.1 C.2.1 hd h1 hn (pm_put1_map B b i (.ref x) lv) (fun ls' h1' => k H locs ls' cells slots h1' h2 h3 h4 h5 h6)
  · cases hf
def s_inc (i : Nat) (d : Int32) (n : Nat) : pm_S → Option pm_S := fun σ => match pm_get σ.2.1 i with
  | some (.int x) => some (n, pm_put1 i (.int (x + d)) σ.2.1, σ.2.2.1, σ.2.2.2)
  | _ => none
theorem k_iinc {cc : ByteArray} {own : String} {nL pc : Nat} {ini : Bool} {i : Nat} {n : Int} {d : Int32} (hd : decode cc pc = .ok (.iinc i n, 3)) (hv : Int32.ofInt n = d) (hn : i < nL) : pm_okF cc own nL ini pc (s_inc i d (pc + 3)) := by
  intro p l e R s m args below meth c D aC B b Q C hR1 hR2 lv st w σ' hf k
  subst hv
  simp only [s_inc] at hf
  split at hf
  · rename_i x he
    obtain rfl := Option.some.inj hf
    intro H locs ls cells slots h1 h2 h3 h4 h5 h6
    obtain ⟨q, hq⟩ := List.getElem?_of_mem (List.mem_map.mpr ⟨(i, .int x), pm_get_in he, rfl⟩ : pm_q B b (i, .int x) ∈ lv.map (pm_q B b))
    exact lv_iinc C.1 C.2.1 hd h1 hq rfl hn (pm_put1_map B b i (.int (x + Int32.ofInt n)) lv) (fun ls' h1' => k H locs ls' cells slots h1' h2 h3 h4 h5 h6)
  · cases hf
def s_bin (op : Int32 → Int32 → Int32) (n : Nat) : pm_S → Option pm_S := fun σ => match σ.2.2.1 with
  | .int y :: .int x :: st => some (n, σ.2.1, .int (op x y) :: st, σ.2.2.2)
  | _ => none
def s_lbin (op : Int64 → Int64 → Int64) (n : Nat) : pm_S → Option pm_S := fun σ => match σ.2.2.1 with
  | .long y :: .long x :: st => some (n, σ.2.1, .long (op x y) :: st, σ.2.2.2)
  | _ => none
def s_div (op : Int32 → Int32 → Int32) (n : Nat) : pm_S → Option pm_S := fun σ => match σ.2.2.1 with
  | .int y :: .int x :: st => if y = 0 then none else some (n, σ.2.1, .int (op x y) :: st, σ.2.2.2)
  | _ => none
def s_ldiv (op : Int64 → Int64 → Int64) (n : Nat) : pm_S → Option pm_S := fun σ => match σ.2.2.1 with
  | .long y :: .long x :: st => if y = 0 then none else some (n, σ.2.1, .long (op x y) :: st, σ.2.2.2)
  | _ => none
def s_lcmp (n : Nat) : pm_S → Option pm_S := fun σ => match σ.2.2.1 with
  | .long y :: .long x :: st => some (n, σ.2.1, .int (lg_cmp x y) :: st, σ.2.2.2)
  | _ => none
def s_lsh (op : Int64 → Int32 → Int64) (n : Nat) : pm_S → Option pm_S := fun σ => match σ.2.2.1 with
  | .int y :: .long x :: st => some (n, σ.2.1, .long (op x y) :: st, σ.2.2.2)
  | _ => none
def s_un (op : Int32 → Int32) (n : Nat) : pm_S → Option pm_S := fun σ => match σ.2.2.1 with
  | .int x :: st => some (n, σ.2.1, .int (op x) :: st, σ.2.2.2)
  | _ => none
def s_lun (op : Int64 → Int64) (n : Nat) : pm_S → Option pm_S := fun σ => match σ.2.2.1 with
  | .long x :: st => some (n, σ.2.1, .long (op x) :: st, σ.2.2.2)
  | _ => none
def s_i2l (n : Nat) : pm_S → Option pm_S := fun σ => match σ.2.2.1 with
  | .int x :: st => some (n, σ.2.1, .long x.toInt64 :: st, σ.2.2.2)
  | _ => none
def s_l2i (n : Nat) : pm_S → Option pm_S := fun σ => match σ.2.2.1 with
  | .long x :: st => some (n, σ.2.1, .int x.toInt32 :: st, σ.2.2.2)
  | _ => none
theorem k_iadd {cc : ByteArray} {own : String} {nL pc : Nat} {ini : Bool} (hd : decode cc pc = .ok (.iadd, 1)) : pm_okF cc own nL ini pc (s_bin (fun x y => x + y) (pc + 1)) := by
  intro p l e R s m args below meth c D aC B b Q C hR1 hR2 lv st w σ' hf k
  simp only [s_bin] at hf
  split at hf
  · obtain rfl := Option.some.inj hf
    intro H locs ls cells slots h1 h2 h3 h4 h5 h6
    exact lv_iadd C.1 C.2.1 hd (k H locs ls cells slots h1 h2 h3 h4 h5 h6)
  · cases hf
theorem k_isub {cc : ByteArray} {own : String} {nL pc : Nat} {ini : Bool} (hd : decode cc pc = .ok (.isub, 1)) : pm_okF cc own nL ini pc (s_bin (fun x y => x - y) (pc + 1)) := by
  intro p l e R s m args below meth c D aC B b Q C hR1 hR2 lv st w σ' hf k
  simp only [s_bin] at hf
  split at hf
  · obtain rfl := Option.some.inj hf
    intro H locs ls cells slots h1 h2 h3 h4 h5 h6
    exact lv_isub C.1 C.2.1 hd (k H locs ls cells slots h1 h2 h3 h4 h5 h6)
  · cases hf
theorem k_imul {cc : ByteArray} {own : String} {nL pc : Nat} {ini : Bool} (hd : decode cc pc = .ok (.imul, 1)) : pm_okF cc own nL ini pc (s_bin (fun x y => x * y) (pc + 1)) := by
  intro p l e R s m args below meth c D aC B b Q C hR1 hR2 lv st w σ' hf k
  simp only [s_bin] at hf
  split at hf
  · obtain rfl := Option.some.inj hf
    intro H locs ls cells slots h1 h2 h3 h4 h5 h6
    exact lv_imul C.1 C.2.1 hd (k H locs ls cells slots h1 h2 h3 h4 h5 h6)
  · cases hf
theorem k_iand {cc : ByteArray} {own : String} {nL pc : Nat} {ini : Bool} (hd : decode cc pc = .ok (.iand, 1)) : pm_okF cc own nL ini pc (s_bin (fun x y => x &&& y) (pc + 1)) := by
  intro p l e R s m args below meth c D aC B b Q C hR1 hR2 lv st w σ' hf k
  simp only [s_bin] at hf
  split at hf
  · obtain rfl := Option.some.inj hf
    intro H locs ls cells slots h1 h2 h3 h4 h5 h6
    exact lv_iand C.1 C.2.1 hd (k H locs ls cells slots h1 h2 h3 h4 h5 h6)
  · cases hf
theorem k_ior {cc : ByteArray} {own : String} {nL pc : Nat} {ini : Bool} (hd : decode cc pc = .ok (.ior, 1)) : pm_okF cc own nL ini pc (s_bin (fun x y => x ||| y) (pc + 1)) := by
  intro p l e R s m args below meth c D aC B b Q C hR1 hR2 lv st w σ' hf k
  simp only [s_bin] at hf
  split at hf
  · obtain rfl := Option.some.inj hf
    intro H locs ls cells slots h1 h2 h3 h4 h5 h6
    exact lv_ior C.1 C.2.1 hd (k H locs ls cells slots h1 h2 h3 h4 h5 h6)
  · cases hf
theorem k_ixor {cc : ByteArray} {own : String} {nL pc : Nat} {ini : Bool} (hd : decode cc pc = .ok (.ixor, 1)) : pm_okF cc own nL ini pc (s_bin (fun x y => x ^^^ y) (pc + 1)) := by
  intro p l e R s m args below meth c D aC B b Q C hR1 hR2 lv st w σ' hf k
  simp only [s_bin] at hf
  split at hf
  · obtain rfl := Option.some.inj hf
    intro H locs ls cells slots h1 h2 h3 h4 h5 h6
    exact lv_ixor C.1 C.2.1 hd (k H locs ls cells slots h1 h2 h3 h4 h5 h6)
  · cases hf
theorem k_ishl {cc : ByteArray} {own : String} {nL pc : Nat} {ini : Bool} (hd : decode cc pc = .ok (.ishl, 1)) : pm_okF cc own nL ini pc (s_bin (fun x y => x <<< (y &&& 31)) (pc + 1)) := by
  intro p l e R s m args below meth c D aC B b Q C hR1 hR2 lv st w σ' hf k
  simp only [s_bin] at hf
  split at hf
  · obtain rfl := Option.some.inj hf
    intro H locs ls cells slots h1 h2 h3 h4 h5 h6
    exact lv_ishl C.1 C.2.1 hd (k H locs ls cells slots h1 h2 h3 h4 h5 h6)
  · cases hf
theorem k_ishr {cc : ByteArray} {own : String} {nL pc : Nat} {ini : Bool} (hd : decode cc pc = .ok (.ishr, 1)) : pm_okF cc own nL ini pc (s_bin (fun x y => x >>> (y &&& 31)) (pc + 1)) := by
  intro p l e R s m args below meth c D aC B b Q C hR1 hR2 lv st w σ' hf k
  simp only [s_bin] at hf
  split at hf
  · obtain rfl := Option.some.inj hf
    intro H locs ls cells slots h1 h2 h3 h4 h5 h6
    exact lv_ishr C.1 C.2.1 hd (k H locs ls cells slots h1 h2 h3 h4 h5 h6)
  · cases hf
theorem k_ladd {cc : ByteArray} {own : String} {nL pc : Nat} {ini : Bool} (hd : decode cc pc = .ok (.ladd, 1)) : pm_okF cc own nL ini pc (s_lbin (fun x y => x + y) (pc + 1)) := by
  intro p l e R s m args below meth c D aC B b Q C hR1 hR2 lv st w σ' hf k
  simp only [s_lbin] at hf
  split at hf
  · obtain rfl := Option.some.inj hf
    intro H locs ls cells slots h1 h2 h3 h4 h5 h6
    exact lv_ladd C.1 C.2.1 hd (k H locs ls cells slots h1 h2 h3 h4 h5 h6)
  · cases hf
theorem k_lsub {cc : ByteArray} {own : String} {nL pc : Nat} {ini : Bool} (hd : decode cc pc = .ok (.lsub, 1)) : pm_okF cc own nL ini pc (s_lbin (fun x y => x - y) (pc + 1)) := by
  intro p l e R s m args below meth c D aC B b Q C hR1 hR2 lv st w σ' hf k
  simp only [s_lbin] at hf
  split at hf
  · obtain rfl := Option.some.inj hf
    intro H locs ls cells slots h1 h2 h3 h4 h5 h6
    exact lv_lsub C.1 C.2.1 hd (k H locs ls cells slots h1 h2 h3 h4 h5 h6)
  · cases hf
theorem k_lmul {cc : ByteArray} {own : String} {nL pc : Nat} {ini : Bool} (hd : decode cc pc = .ok (.lmul, 1)) : pm_okF cc own nL ini pc (s_lbin (fun x y => x * y) (pc + 1)) := by
  intro p l e R s m args below meth c D aC B b Q C hR1 hR2 lv st w σ' hf k
  simp only [s_lbin] at hf
  split at hf
  · obtain rfl := Option.some.inj hf
    intro H locs ls cells slots h1 h2 h3 h4 h5 h6
    exact lv_lmul C.1 C.2.1 hd (k H locs ls cells slots h1 h2 h3 h4 h5 h6)
  · cases hf
theorem k_land {cc : ByteArray} {own : String} {nL pc : Nat} {ini : Bool} (hd : decode cc pc = .ok (.land, 1)) : pm_okF cc own nL ini pc (s_lbin (fun x y => x &&& y) (pc + 1)) := by
  intro p l e R s m args below meth c D aC B b Q C hR1 hR2 lv st w σ' hf k
  simp only [s_lbin] at hf
  split at hf
  · obtain rfl := Option.some.inj hf
    intro H locs ls cells slots h1 h2 h3 h4 h5 h6
    exact lv_land C.1 C.2.1 hd (k H locs ls cells slots h1 h2 h3 h4 h5 h6)
  · cases hf
theorem k_lor {cc : ByteArray} {own : String} {nL pc : Nat} {ini : Bool} (hd : decode cc pc = .ok (.lor, 1)) : pm_okF cc own nL ini pc (s_lbin (fun x y => x ||| y) (pc + 1)) := by
  intro p l e R s m args below meth c D aC B b Q C hR1 hR2 lv st w σ' hf k
  simp only [s_lbin] at hf
  split at hf
  · obtain rfl := Option.some.inj hf
    intro H locs ls cells slots h1 h2 h3 h4 h5 h6
    exact lv_lor C.1 C.2.1 hd (k H locs ls cells slots h1 h2 h3 h4 h5 h6)
  · cases hf
theorem k_lcmp {cc : ByteArray} {own : String} {nL pc : Nat} {ini : Bool} (hd : decode cc pc = .ok (.lcmp, 1)) : pm_okF cc own nL ini pc (s_lcmp (pc + 1)) := by
  intro p l e R s m args below meth c D aC B b Q C hR1 hR2 lv st w σ' hf k
  simp only [s_lcmp] at hf
  split at hf
  · obtain rfl := Option.some.inj hf
    intro H locs ls cells slots h1 h2 h3 h4 h5 h6
    exact W.lcmp C.1 C.2.1 hd (k H locs ls cells slots h1 h2 h3 h4 h5 h6)
  · cases hf
theorem k_lneg {cc : ByteArray} {own : String} {nL pc : Nat} {ini : Bool} (hd : decode cc pc = .ok (.lneg, 1)) : pm_okF cc own nL ini pc (s_lun (fun x => -x) (pc + 1)) := by
  intro p l e R s m args below meth c D aC B b Q C hR1 hR2 lv st w σ' hf k
  simp only [s_lun] at hf
  split at hf
  · obtain rfl := Option.some.inj hf
    intro H locs ls cells slots h1 h2 h3 h4 h5 h6
    exact lv_lneg C.1 C.2.1 hd (k H locs ls cells slots h1 h2 h3 h4 h5 h6)
  · cases hf
theorem k_ineg {cc : ByteArray} {own : String} {nL pc : Nat} {ini : Bool} (hd : decode cc pc = .ok (.ineg, 1)) : pm_okF cc own nL ini pc (s_un (fun x => -x) (pc + 1)) := by
  intro p l e R s m args below meth c D aC B b Q C hR1 hR2 lv st w σ' hf k
  simp only [s_un] at hf
  split at hf
  · obtain rfl := Option.some.inj hf
    intro H locs ls cells slots h1 h2 h3 h4 h5 h6
    exact lv_ineg C.1 C.2.1 hd (k H locs ls cells slots h1 h2 h3 h4 h5 h6)
  · cases hf
theorem k_i2b {cc : ByteArray} {own : String} {nL pc : Nat} {ini : Bool} (hd : decode cc pc = .ok (.i2b, 1)) : pm_okF cc own nL ini pc (s_un (fun x => x.toInt8.toInt32) (pc + 1)) := by
  intro p l e R s m args below meth c D aC B b Q C hR1 hR2 lv st w σ' hf k
  simp only [s_un] at hf
  split at hf
  · obtain rfl := Option.some.inj hf
    intro H locs ls cells slots h1 h2 h3 h4 h5 h6
    exact lv_i2b C.1 C.2.1 hd rfl (k H locs ls cells slots h1 h2 h3 h4 h5 h6)
  · cases hf
theorem k_i2s {cc : ByteArray} {own : String} {nL pc : Nat} {ini : Bool} (hd : decode cc pc = .ok (.i2s, 1)) : pm_okF cc own nL ini pc (s_un (fun x => x.toInt16.toInt32) (pc + 1)) := by
  intro p l e R s m args below meth c D aC B b Q C hR1 hR2 lv st w σ' hf k
  simp only [s_un] at hf
  split at hf
  · obtain rfl := Option.some.inj hf
    intro H locs ls cells slots h1 h2 h3 h4 h5 h6
    exact lv_i2s C.1 C.2.1 hd rfl (k H locs ls cells slots h1 h2 h3 h4 h5 h6)
  · cases hf
theorem k_i2l {cc : ByteArray} {own : String} {nL pc : Nat} {ini : Bool} (hd : decode cc pc = .ok (.i2l, 1)) : pm_okF cc own nL ini pc (s_i2l (pc + 1)) := by
  intro p l e R s m args below meth c D aC B b Q C hR1 hR2 lv st w σ' hf k
  simp only [s_i2l] at hf
  split at hf
  · obtain rfl := Option.some.inj hf
    intro H locs ls cells slots h1 h2 h3 h4 h5 h6
    exact lv_i2l C.1 C.2.1 hd rfl (k H locs ls cells slots h1 h2 h3 h4 h5 h6)
  · cases hf
theorem k_l2i {cc : ByteArray} {own : String} {nL pc : Nat} {ini : Bool} (hd : decode cc pc = .ok (.l2i, 1)) : pm_okF cc own nL ini pc (s_l2i (pc + 1)) := by
  intro p l e R s m args below meth c D aC B b Q C hR1 hR2 lv st w σ' hf k
  simp only [s_l2i] at hf
  split at hf
  · obtain rfl := Option.some.inj hf
    intro H locs ls cells slots h1 h2 h3 h4 h5 h6
    exact lv_l2i C.1 C.2.1 hd rfl (k H locs ls cells slots h1 h2 h3 h4 h5 h6)
  · cases hf
theorem k_lshl {cc : ByteArray} {own : String} {nL pc : Nat} {ini : Bool} (hd : decode cc pc = .ok (.lshl, 1)) : pm_okF cc own nL ini pc (s_lsh (fun x y => x <<< (y.toInt64 &&& 63)) (pc + 1)) := by
  intro p l e R s m args below meth c D aC B b Q C hR1 hR2 lv st w σ' hf k
  simp only [s_lsh] at hf
  split at hf
  · obtain rfl := Option.some.inj hf
    intro H locs ls cells slots h1 h2 h3 h4 h5 h6
    exact lv_lshl C.1 C.2.1 hd rfl (k H locs ls cells slots h1 h2 h3 h4 h5 h6)
  · cases hf
theorem k_idiv {cc : ByteArray} {own : String} {nL pc : Nat} {ini : Bool} (hd : decode cc pc = .ok (.idiv, 1)) : pm_okF cc own nL ini pc (s_div (fun x y => x / y) (pc + 1)) := by
  intro p l e R s m args below meth c D aC B b Q C hR1 hR2 lv st w σ' hf k
  simp only [s_div] at hf
  split at hf
  · split at hf
    · cases hf
    · rename_i hy
      obtain rfl := Option.some.inj hf
      intro H locs ls cells slots h1 h2 h3 h4 h5 h6
      exact lv_idiv C.1 C.2.1 hd hy (k H locs ls cells slots h1 h2 h3 h4 h5 h6)
  · cases hf
theorem k_irem {cc : ByteArray} {own : String} {nL pc : Nat} {ini : Bool} (hd : decode cc pc = .ok (.irem, 1)) : pm_okF cc own nL ini pc (s_div (fun x y => x - x / y * y) (pc + 1)) := by
  intro p l e R s m args below meth c D aC B b Q C hR1 hR2 lv st w σ' hf k
  simp only [s_div] at hf
  split at hf
  · split at hf
    · cases hf
    · rename_i hy
      obtain rfl := Option.some.inj hf
      intro H locs ls cells slots h1 h2 h3 h4 h5 h6
      exact lv_irem C.1 C.2.1 hd hy (k H locs ls cells slots h1 h2 h3 h4 h5 h6)
  · cases hf
theorem k_ldiv {cc : ByteArray} {own : String} {nL pc : Nat} {ini : Bool} (hd : decode cc pc = .ok (.ldiv, 1)) : pm_okF cc own nL ini pc (s_ldiv (fun x y => x / y) (pc + 1)) := by
  intro p l e R s m args below meth c D aC B b Q C hR1 hR2 lv st w σ' hf k
  simp only [s_ldiv] at hf
  split at hf
  · split at hf
    · cases hf
    · rename_i hy
      obtain rfl := Option.some.inj hf
      intro H locs ls cells slots h1 h2 h3 h4 h5 h6
      exact lv_ldiv C.1 C.2.1 hd hy (k H locs ls cells slots h1 h2 h3 h4 h5 h6)
  · cases hf
theorem k_lrem {cc : ByteArray} {own : String} {nL pc : Nat} {ini : Bool} (hd : decode cc pc = .ok (.lrem, 1)) : pm_okF cc own nL ini pc (s_ldiv (fun x y => x - x / y * y) (pc + 1)) := by
  intro p l e R s m args below meth c D aC B b Q C hR1 hR2 lv st w σ' hf k
  simp only [s_ldiv] at hf
  split at hf
  · split at hf
    · cases hf
    · rename_i hy
      obtain rfl := Option.some.inj hf
      intro H locs ls cells slots h1 h2 h3 h4 h5 h6
      exact lv_lrem C.1 C.2.1 hd hy (k H locs ls cells slots h1 h2 h3 h4 h5 h6)
  · cases hf
def s_if (q : Int32 → Bool) (t n : Nat) : pm_S → Option pm_S := fun σ => match σ.2.2.1 with
  | .int x :: st => some (bif q x then t else n, σ.2.1, st, σ.2.2.2)
  | _ => none
def s_icmp (q : Int32 → Int32 → Bool) (t n : Nat) : pm_S → Option pm_S := fun σ => match σ.2.2.1 with
  | .int y :: .int x :: st => some (bif q x y then t else n, σ.2.1, st, σ.2.2.2)
  | _ => none
def s_goto (t : Nat) : pm_S → Option pm_S := fun σ => some (t, σ.2.1, σ.2.2.1, σ.2.2.2)
theorem k_goto {cc : ByteArray} {own : String} {nL pc : Nat} {ini : Bool} {off : Int} {t : Nat} (hd : decode cc pc = .ok (.goto off, 3)) (ht : (pc : Int) + off = (t : Int)) : pm_okF cc own nL ini pc (s_goto t) := by
  intro p l e R s m args below meth c D aC B b Q C hR1 hR2 lv st w σ' hf k
  obtain rfl := Option.some.inj hf
  intro H locs ls cells slots h1 h2 h3 h4 h5 h6
  exact lv_goto C.1 C.2.1 hd ht (k H locs ls cells slots h1 h2 h3 h4 h5 h6)
theorem k_if_eq {cc : ByteArray} {own : String} {nL pc : Nat} {ini : Bool} {off : Int} {t : Nat} (hd : decode cc pc = .ok (.ifCond .eq off, 3)) (ht : (pc : Int) + off = (t : Int)) : pm_okF cc own nL ini pc (s_if (fun x => decide (x = 0)) t (pc + 3)) := by
  intro p l e R s m args below meth c D aC B b Q C hR1 hR2 lv st w σ' hf k
  simp only [s_if] at hf
  split at hf
  · obtain rfl := Option.some.inj hf
    intro H locs ls cells slots h1 h2 h3 h4 h5 h6
    refine lv_if_eq C.1 C.2.1 hd ht (fun c0 => ?_) (fun c0 => ?_)
    · have k2 := (k H locs ls cells slots h1 h2 h3 h4 h5 h6)
      rw [show ∀ z : Bool, z = true → (bif z then t else pc + 3) = t from fun z hz => by rw [hz]; rfl] at k2
      · exact k2
      · exact decide_eq_true c0
    · have k2 := (k H locs ls cells slots h1 h2 h3 h4 h5 h6)
      rw [show ∀ z : Bool, z = false → (bif z then t else pc + 3) = pc + 3 from fun z hz => by rw [hz]; rfl] at k2
      · exact k2
      · exact decide_eq_false c0
  · cases hf
theorem k_icmp_eq {cc : ByteArray} {own : String} {nL pc : Nat} {ini : Bool} {off : Int} {t : Nat} (hd : decode cc pc = .ok (.if_icmp .eq off, 3)) (ht : (pc : Int) + off = (t : Int)) : pm_okF cc own nL ini pc (s_icmp (fun x y => decide (x = y)) t (pc + 3)) := by
  intro p l e R s m args below meth c D aC B b Q C hR1 hR2 lv st w σ' hf k
  simp only [s_icmp] at hf
  split at hf
  · obtain rfl := Option.some.inj hf
    intro H locs ls cells slots h1 h2 h3 h4 h5 h6
    refine lv_icmp_eq C.1 C.2.1 hd ht (fun c0 => ?_) (fun c0 => ?_)
    · have k2 := (k H locs ls cells slots h1 h2 h3 h4 h5 h6)
      rw [show ∀ z : Bool, z = true → (bif z then t else pc + 3) = t from fun z hz => by rw [hz]; rfl] at k2
      · exact k2
      · exact decide_eq_true c0
    · have k2 := (k H locs ls cells slots h1 h2 h3 h4 h5 h6)
      rw [show ∀ z : Bool, z = false → (bif z then t else pc + 3) = pc + 3 from fun z hz => by rw [hz]; rfl] at k2
      · exact k2
      · exact decide_eq_false c0
  · cases hf
theorem k_if_ne {cc : ByteArray} {own : String} {nL pc : Nat} {ini : Bool} {off : Int} {t : Nat} (hd : decode cc pc = .ok (.ifCond .ne off, 3)) (ht : (pc : Int) + off = (t : Int)) : pm_okF cc own nL ini pc (s_if (fun x => decide (¬ x = 0)) t (pc + 3)) := by
  intro p l e R s m args below meth c D aC B b Q C hR1 hR2 lv st w σ' hf k
  simp only [s_if] at hf
  split at hf
  · obtain rfl := Option.some.inj hf
    intro H locs ls cells slots h1 h2 h3 h4 h5 h6
    refine lv_if_ne C.1 C.2.1 hd ht (fun c0 => ?_) (fun c0 => ?_)
    · have k2 := (k H locs ls cells slots h1 h2 h3 h4 h5 h6)
      rw [show ∀ z : Bool, z = true → (bif z then t else pc + 3) = t from fun z hz => by rw [hz]; rfl] at k2
      · exact k2
      · exact decide_eq_true c0
    · have k2 := (k H locs ls cells slots h1 h2 h3 h4 h5 h6)
      rw [show ∀ z : Bool, z = false → (bif z then t else pc + 3) = pc + 3 from fun z hz => by rw [hz]; rfl] at k2
      · exact k2
      · exact decide_eq_false (fun h => h c0)
  · cases hf
theorem k_icmp_ne {cc : ByteArray} {own : String} {nL pc : Nat} {ini : Bool} {off : Int} {t : Nat} (hd : decode cc pc = .ok (.if_icmp .ne off, 3)) (ht : (pc : Int) + off = (t : Int)) : pm_okF cc own nL ini pc (s_icmp (fun x y => decide (¬ x = y)) t (pc + 3)) := by
  intro p l e R s m args below meth c D aC B b Q C hR1 hR2 lv st w σ' hf k
  simp only [s_icmp] at hf
  split at hf
  · obtain rfl := Option.some.inj hf
    intro H locs ls cells slots h1 h2 h3 h4 h5 h6
    refine lv_icmp_ne C.1 C.2.1 hd ht (fun c0 => ?_) (fun c0 => ?_)
    · have k2 := (k H locs ls cells slots h1 h2 h3 h4 h5 h6)
      rw [show ∀ z : Bool, z = true → (bif z then t else pc + 3) = t from fun z hz => by rw [hz]; rfl] at k2
      · exact k2
      · exact decide_eq_true c0
    · have k2 := (k H locs ls cells slots h1 h2 h3 h4 h5 h6)
      rw [show ∀ z : Bool, z = false → (bif z then t else pc + 3) = pc + 3 from fun z hz => by rw [hz]; rfl] at k2
      · exact k2
      · exact decide_eq_false (fun h => h c0)
  · cases hf
theorem k_if_lt {cc : ByteArray} {own : String} {nL pc : Nat} {ini : Bool} {off : Int} {t : Nat} (hd : decode cc pc = .ok (.ifCond .lt off, 3)) (ht : (pc : Int) + off = (t : Int)) : pm_okF cc own nL ini pc (s_if (fun x => decide (x < 0)) t (pc + 3)) := by
  intro p l e R s m args below meth c D aC B b Q C hR1 hR2 lv st w σ' hf k
  simp only [s_if] at hf
  split at hf
  · obtain rfl := Option.some.inj hf
    intro H locs ls cells slots h1 h2 h3 h4 h5 h6
    refine lv_if_lt C.1 C.2.1 hd ht (fun c0 => ?_) (fun c0 => ?_)
    · have k2 := (k H locs ls cells slots h1 h2 h3 h4 h5 h6)
      rw [show ∀ z : Bool, z = true → (bif z then t else pc + 3) = t from fun z hz => by rw [hz]; rfl] at k2
      · exact k2
      · exact decide_eq_true c0
    · have k2 := (k H locs ls cells slots h1 h2 h3 h4 h5 h6)
      rw [show ∀ z : Bool, z = false → (bif z then t else pc + 3) = pc + 3 from fun z hz => by rw [hz]; rfl] at k2
      · exact k2
      · exact decide_eq_false c0
  · cases hf
theorem k_icmp_lt {cc : ByteArray} {own : String} {nL pc : Nat} {ini : Bool} {off : Int} {t : Nat} (hd : decode cc pc = .ok (.if_icmp .lt off, 3)) (ht : (pc : Int) + off = (t : Int)) : pm_okF cc own nL ini pc (s_icmp (fun x y => decide (x < y)) t (pc + 3)) := by
  intro p l e R s m args below meth c D aC B b Q C hR1 hR2 lv st w σ' hf k
  simp only [s_icmp] at hf
  split at hf
  · obtain rfl := Option.some.inj hf
    intro H locs ls cells slots h1 h2 h3 h4 h5 h6
    refine lv_icmp_lt C.1 C.2.1 hd ht (fun c0 => ?_) (fun c0 => ?_)
    · have k2 := (k H locs ls cells slots h1 h2 h3 h4 h5 h6)
      rw [show ∀ z : Bool, z = true → (bif z then t else pc + 3) = t from fun z hz => by rw [hz]; rfl] at k2
      · exact k2
      · exact decide_eq_true c0
    · have k2 := (k H locs ls cells slots h1 h2 h3 h4 h5 h6)
      rw [show ∀ z : Bool, z = false → (bif z then t else pc + 3) = pc + 3 from fun z hz => by rw [hz]; rfl] at k2
      · exact k2
      · exact decide_eq_false c0
  · cases hf
theorem k_if_ge {cc : ByteArray} {own : String} {nL pc : Nat} {ini : Bool} {off : Int} {t : Nat} (hd : decode cc pc = .ok (.ifCond .ge off, 3)) (ht : (pc : Int) + off = (t : Int)) : pm_okF cc own nL ini pc (s_if (fun x => decide (0 ≤ x)) t (pc + 3)) := by
  intro p l e R s m args below meth c D aC B b Q C hR1 hR2 lv st w σ' hf k
  simp only [s_if] at hf
  split at hf
  · obtain rfl := Option.some.inj hf
    intro H locs ls cells slots h1 h2 h3 h4 h5 h6
    refine lv_if_ge C.1 C.2.1 hd ht (fun c0 => ?_) (fun c0 => ?_)
    · have k2 := (k H locs ls cells slots h1 h2 h3 h4 h5 h6)
      rw [show ∀ z : Bool, z = true → (bif z then t else pc + 3) = t from fun z hz => by rw [hz]; rfl] at k2
      · exact k2
      · exact decide_eq_true c0
    · have k2 := (k H locs ls cells slots h1 h2 h3 h4 h5 h6)
      rw [show ∀ z : Bool, z = false → (bif z then t else pc + 3) = pc + 3 from fun z hz => by rw [hz]; rfl] at k2
      · exact k2
      · exact decide_eq_false c0
  · cases hf
theorem k_icmp_ge {cc : ByteArray} {own : String} {nL pc : Nat} {ini : Bool} {off : Int} {t : Nat} (hd : decode cc pc = .ok (.if_icmp .ge off, 3)) (ht : (pc : Int) + off = (t : Int)) : pm_okF cc own nL ini pc (s_icmp (fun x y => decide (y ≤ x)) t (pc + 3)) := by
  intro p l e R s m args below meth c D aC B b Q C hR1 hR2 lv st w σ' hf k
  simp only [s_icmp] at hf
  split at hf
  · obtain rfl := Option.some.inj hf
    intro H locs ls cells slots h1 h2 h3 h4 h5 h6
    refine lv_icmp_ge C.1 C.2.1 hd ht (fun c0 => ?_) (fun c0 => ?_)
    · have k2 := (k H locs ls cells slots h1 h2 h3 h4 h5 h6)
      rw [show ∀ z : Bool, z = true → (bif z then t else pc + 3) = t from fun z hz => by rw [hz]; rfl] at k2
      · exact k2
      · exact decide_eq_true c0
    · have k2 := (k H locs ls cells slots h1 h2 h3 h4 h5 h6)
      rw [show ∀ z : Bool, z = false → (bif z then t else pc + 3) = pc + 3 from fun z hz => by rw [hz]; rfl] at k2
      · exact k2
      · exact decide_eq_false c0
  · cases hf
theorem k_if_gt {cc : ByteArray} {own : String} {nL pc : Nat} {ini : Bool} {off : Int} {t : Nat} (hd : decode cc pc = .ok (.ifCond .gt off, 3)) (ht : (pc : Int) + off = (t : Int)) : pm_okF cc own nL ini pc (s_if (fun x => decide (0 < x)) t (pc + 3)) := by
  intro p l e R s m args below meth c D aC B b Q C hR1 hR2 lv st w σ' hf k
  simp only [s_if] at hf
  split at hf
  · obtain rfl := Option.some.inj hf
    intro H locs ls cells slots h1 h2 h3 h4 h5 h6
    refine lv_if_gt C.1 C.2.1 hd ht (fun c0 => ?_) (fun c0 => ?_)
    · have k2 := (k H locs ls cells slots h1 h2 h3 h4 h5 h6)
      rw [show ∀ z : Bool, z = true → (bif z then t else pc + 3) = t from fun z hz => by rw [hz]; rfl] at k2
      · exact k2
      · exact decide_eq_true c0
    · have k2 := (k H locs ls cells slots h1 h2 h3 h4 h5 h6)
      rw [show ∀ z : Bool, z = false → (bif z then t else pc + 3) = pc + 3 from fun z hz => by rw [hz]; rfl] at k2
      · exact k2
      · exact decide_eq_false c0
  · cases hf
theorem k_icmp_gt {cc : ByteArray} {own : String} {nL pc : Nat} {ini : Bool} {off : Int} {t : Nat} (hd : decode cc pc = .ok (.if_icmp .gt off, 3)) (ht : (pc : Int) + off = (t : Int)) : pm_okF cc own nL ini pc (s_icmp (fun x y => decide (y < x)) t (pc + 3)) := by
  intro p l e R s m args below meth c D aC B b Q C hR1 hR2 lv st w σ' hf k
  simp only [s_icmp] at hf
  split at hf
  · obtain rfl := Option.some.inj hf
    intro H locs ls cells slots h1 h2 h3 h4 h5 h6
    refine lv_icmp_gt C.1 C.2.1 hd ht (fun c0 => ?_) (fun c0 => ?_)
    · have k2 := (k H locs ls cells slots h1 h2 h3 h4 h5 h6)
      rw [show ∀ z : Bool, z = true → (bif z then t else pc + 3) = t from fun z hz => by rw [hz]; rfl] at k2
      · exact k2
      · exact decide_eq_true c0
    · have k2 := (k H locs ls cells slots h1 h2 h3 h4 h5 h6)
      rw [show ∀ z : Bool, z = false → (bif z then t else pc + 3) = pc + 3 from fun z hz => by rw [hz]; rfl] at k2
      · exact k2
      · exact decide_eq_false c0
  · cases hf
theorem k_if_le {cc : ByteArray} {own : String} {nL pc : Nat} {ini : Bool} {off : Int} {t : Nat} (hd : decode cc pc = .ok (.ifCond .le off, 3)) (ht : (pc : Int) + off = (t : Int)) : pm_okF cc own nL ini pc (s_if (fun x => decide (x ≤ 0)) t (pc + 3)) := by
  intro p l e R s m args below meth c D aC B b Q C hR1 hR2 lv st w σ' hf k
  simp only [s_if] at hf
  split at hf
  · obtain rfl := Option.some.inj hf
    intro H locs ls cells slots h1 h2 h3 h4 h5 h6
    refine lv_if_le C.1 C.2.1 hd ht (fun c0 => ?_) (fun c0 => ?_)
    · have k2 := (k H locs ls cells slots h1 h2 h3 h4 h5 h6)
      rw [show ∀ z : Bool, z = true → (bif z then t else pc + 3) = t from fun z hz => by rw [hz]; rfl] at k2
      · exact k2
      · exact decide_eq_true c0
    · have k2 := (k H locs ls cells slots h1 h2 h3 h4 h5 h6)
      rw [show ∀ z : Bool, z = false → (bif z then t else pc + 3) = pc + 3 from fun z hz => by rw [hz]; rfl] at k2
      · exact k2
      · exact decide_eq_false c0
  · cases hf
theorem k_icmp_le {cc : ByteArray} {own : String} {nL pc : Nat} {ini : Bool} {off : Int} {t : Nat} (hd : decode cc pc = .ok (.if_icmp .le off, 3)) (ht : (pc : Int) + off = (t : Int)) : pm_okF cc own nL ini pc (s_icmp (fun x y => decide (x ≤ y)) t (pc + 3)) := by
  intro p l e R s m args below meth c D aC B b Q C hR1 hR2 lv st w σ' hf k
  simp only [s_icmp] at hf
  split at hf
  · obtain rfl := Option.some.inj hf
    intro H locs ls cells slots h1 h2 h3 h4 h5 h6
    refine lv_icmp_le C.1 C.2.1 hd ht (fun c0 => ?_) (fun c0 => ?_)
    · have k2 := (k H locs ls cells slots h1 h2 h3 h4 h5 h6)
      rw [show ∀ z : Bool, z = true → (bif z then t else pc + 3) = t from fun z hz => by rw [hz]; rfl] at k2
      · exact k2
      · exact decide_eq_true c0
    · have k2 := (k H locs ls cells slots h1 h2 h3 h4 h5 h6)
      rw [show ∀ z : Bool, z = false → (bif z then t else pc + 3) = pc + 3 from fun z hz => by rw [hz]; rfl] at k2
      · exact k2
      · exact decide_eq_false c0
  · cases hf
def s_dup (n : Nat) : pm_S → Option pm_S := fun σ => match σ.2.2.1 with
  | x :: st => bif Nat.beq x.category 1 then some (n, σ.2.1, x :: x :: st, σ.2.2.2) else none
  | _ => none
theorem k_dup {cc : ByteArray} {own : String} {nL pc : Nat} {ini : Bool} (hd : decode cc pc = .ok (.dup, 1)) : pm_okF cc own nL ini pc (s_dup (pc + 1)) := by
  intro p l e R s m args below meth c D aC B b Q C hR1 hR2 lv st w σ' hf k
  simp only [s_dup] at hf
  split at hf
  · rename_i x st
    cases hb : Nat.beq x.category 1 with
    | false => rw [hb] at hf; cases hf
    | true =>
      rw [hb] at hf
      obtain rfl := Option.some.inj hf
      intro H locs ls cells slots h1 h2 h3 h4 h5 h6
      exact lv_dup C.1 C.2.1 hd (by rw [pm_v_cat]; exact Nat.eq_of_beq_eq_true hb) (k H locs ls cells slots h1 h2 h3 h4 h5 h6)
  · cases hf
def s_pop (n : Nat) : pm_S → Option pm_S := fun σ => match σ.2.2.1 with
  | x :: st => bif Nat.beq x.category 1 then some (n, σ.2.1, st, σ.2.2.2) else none
  | _ => none
theorem k_pop {cc : ByteArray} {own : String} {nL pc : Nat} {ini : Bool} (hd : decode cc pc = .ok (.pop, 1)) : pm_okF cc own nL ini pc (s_pop (pc + 1)) := by
  intro p l e R s m args below meth c D aC B b Q C hR1 hR2 lv st w σ' hf k
  simp only [s_pop] at hf
  split at hf
  · rename_i x st
    cases hb : Nat.beq x.category 1 with
    | false => rw [hb] at hf; cases hf
    | true =>
      rw [hb] at hf
      obtain rfl := Option.some.inj hf
      intro H locs ls cells slots h1 h2 h3 h4 h5 h6
      exact lv_pop C.1 C.2.1 hd (by rw [pm_v_cat]; exact Nat.eq_of_beq_eq_true hb) (k H locs ls cells slots h1 h2 h3 h4 h5 h6)
  · cases hf
def s_dup2 (n : Nat) : pm_S → Option pm_S := fun σ => match σ.2.2.1 with
  | x :: y :: st => bif Nat.beq x.category 1 && Nat.beq y.category 1 then some (n, σ.2.1, x :: y :: x :: y :: st, σ.2.2.2) else none
  | _ => none
theorem k_dup2 {cc : ByteArray} {own : String} {nL pc : Nat} {ini : Bool} (hd : decode cc pc = .ok (.dup2, 1)) : pm_okF cc own nL ini pc (s_dup2 (pc + 1)) := by
  intro p l e R s m args below meth c D aC B b Q C hR1 hR2 lv st w σ' hf k
  simp only [s_dup2] at hf
  split at hf
  · rename_i x y st
    cases hb : (Nat.beq x.category 1 && Nat.beq y.category 1) with
    | false => rw [hb] at hf; cases hf
    | true =>
      rw [hb] at hf
      obtain ⟨hx, hy⟩ := Bool.and_eq_true_iff.mp hb
      obtain rfl := Option.some.inj hf
      intro H locs ls cells slots h1 h2 h3 h4 h5 h6
      exact lv_dup2_11 C.1 C.2.1 hd (by rw [pm_v_cat]; exact Nat.eq_of_beq_eq_true hx) (by rw [pm_v_cat]; exact Nat.eq_of_beq_eq_true hy) (k H locs ls cells slots h1 h2 h3 h4 h5 h6)
  · cases hf
end
section
/-! THE PURE MACHINE, part 3: fields, arrays, new cells (written by gen_heap.py) -/
def pm_fit (ty : FieldType) (v : Value) : Bool := match ty, v with
  | .int, .int _ => true
  | .long, .long _ => true
  | .boolean, .int x => x == 0 || x == 1
  | .object _, .ref _ => true
  | .object _, .null => true
  | .array _, .ref _ => true
  | .array _, .null => true
  | _, _ => false
theorem pm_fit_ok {ty : FieldType} {v : Value} (B b : Nat) (h : pm_fit ty v = true) : narrow ty (pm_v B b v) = pm_v B b v ∧ fits ty (pm_v B b v) = true := by
  cases ty <;> cases v <;> first | (exact ⟨rfl, rfl⟩) | (simp [pm_fit] at h; done) | skip
  rename_i x
  simp only [pm_fit, Bool.or_eq_true, beq_iff_eq] at h
  rcases h with rfl | rfl <;> exact ⟨rfl, rfl⟩
/-- one cell is another, the rest as it was -/
theorem pm_stored {D : va_G} {aC : Nat → ClassId} {B b k : Nat} {h : pm_H} {x y : pm_E} {H H1 : Heap} (hP : va_P D vwCl (pm_w B b aC h) H) (hk : h[k]? = some x) (oq : ∀ q : Nat, q ≠ B + k → H1[q]? = H[q]?) (hat : va_at D vwCl (B + k, pm_e B b aC y) H1) : va_P D vwCl (pm_w B b aC (h.set k y)) H1 := by
  rw [← pm_w_set]
  exact hP.set (pm_w_D B b aC h) (pm_w_at hk) hat oq
/-- the cell behind the last is new -/
theorem pm_pushed {D : va_G} {aC : Nat → ClassId} {B b : Nat} {h : pm_H} {y : pm_E} {H H1 : Heap} (hP : va_P D vwCl (pm_w B b aC h) H) (hz : H.size = B + h.length) (oq : ∀ q : Nat, q < H.size → H1[q]? = H[q]?) (hat : va_at D vwCl (H.size, pm_e B b aC y) H1) : va_P D vwCl (pm_w B b aC (h ++ [y])) H1 := by
  rw [← pm_w_app]
  refine (hP.kept fun k q hq => oq q.1 ((hP k q hq).lt)).app (fun k q hq => ?_)
  have hl : k < 1 := (List.getElem?_eq_some_iff.mp hq).1
  rw [show k = 0 by omega] at hq
  cases hq
  rw [← hz]
  exact hat
theorem pm_grown {A : Nat → Prop} {H0 H H1 : Heap} {locs : List Loc} (hS : va_S A H0 H locs) (z : H1.size = H.size + 1) (oq : ∀ q : Nat, q < H.size → H1[q]? = H[q]?) : va_S A H0 H1 locs :=
  ⟨Nat.le_trans hS.1 (by omega), fun x h1 h2 => (oq x (Nat.lt_of_lt_of_le h1 hS.1)).trans (hS.2.1 x h1 h2), hS.2.2⟩
def s_getf (ci k n : Nat) : pm_S → Option pm_S := fun σ => match σ.2.2.1 with
  | .ref a :: st => match σ.2.2.2.1[a]? with
    | some (.inr (cj, fs)) => bif Nat.beq cj ci then (match fs[k]? with | some v => some (n, σ.2.1, v :: st, σ.2.2.2) | none => none) else none
    | _ => none
  | _ => none
def s_putf (ci k : Nat) (ty : FieldType) (n : Nat) : pm_S → Option pm_S := fun σ => match σ.2.2.1 with
  | v :: .ref a :: st => match σ.2.2.2.1[a]? with
    | some (.inr (cj, fs)) => bif Nat.beq cj ci && (pm_fit ty v && Nat.blt k fs.length) then some (n, σ.2.1, st, σ.2.2.2.1.set a (.inr (cj, fs.set k v)), σ.2.2.2.2) else none
    | _ => none
  | _ => none
theorem k_getf {cc : ByteArray} {own : String} {nL pc : Nat} {ini : Bool} {ci k index N : Nat} {C : String} {T : u_T} (hc : vwCl[ci]? = some (C, T, N)) (hin : ∀ w ∈ u_ws C T N, w ∈ pm_T) (hk : k < N) (hw : Cond.fieldLink own index (T k).1 (T k).2.1 (T k).2.2.1 ∈ pm_T) (hd : decode cc pc = .ok (.getfield index, 3)) : pm_okF cc own nL ini pc (s_getf ci k (pc + 3)) := by
  intro p l e R s m args below meth c D aC B b Q Cx hR1 hR2 lv st w σ' hf kk
  simp only [s_getf] at hf
  split at hf
  · rename_i a st
    split at hf
    · rename_i cj fs he
      cases hb : Nat.beq cj ci with
      | false => rw [hb] at hf; cases hf
      | true =>
        rw [hb] at hf
        simp only [cond_true] at hf
        obtain rfl := Nat.eq_of_beq_eq_true hb
        split at hf
        · rename_i v hv
          obtain rfl := Option.some.inj hf
          intro H locs ls cells slots h1 h2 h3 h4 h5 h6
          exact va_get (v := pm_v B b v) (fs := fs.map (pm_v B b)) Cx.1 Cx.2.1 Cx.2.2.2.2.1 hin Cx.2.2.2.1 Cx.2.2.2.2.2.1.1 h3 a (pm_w_at he) hc k hk (Cx.2.2.2.2.1 _ hw) (fun _ h9 => h9) (by rw [List.getElem?_map, hv]; rfl) hd (kk H locs ls cells slots h1 h2 h3 h4 h5 h6)
        · cases hf
    · cases hf
  · cases hf
theorem k_putf {cc : ByteArray} {own : String} {nL pc : Nat} {ini : Bool} {ci k index N : Nat} {C : String} {T : u_T} {ty0 : Nat → FieldType} {ty : FieldType} (hc : vwCl[ci]? = some (C, T, N)) (hin : ∀ w ∈ u_ws C T N, w ∈ pm_T) (hty : ∀ k, k < N → parseFieldDescriptor (T k).2.2.1 = some (ty0 k)) (hnm : ∀ a, a < N → ∀ b, b < N → a ≠ b → (T a).2.1 ≠ (T b).2.1) (hk : k < N) (hte : ty0 k = ty) (hfin : (T k).2.2.2 = false) (hw : Cond.fieldLink own index (T k).1 (T k).2.1 (T k).2.2.1 ∈ pm_T) (hd : decode cc pc = .ok (.putfield index, 3)) : pm_okF cc own nL ini pc (s_putf ci k ty (pc + 3)) := by
  intro p l e R s m args below meth c D aC B b Q Cx hR1 hR2 lv st w σ' hf kk
  simp only [s_putf] at hf
  split at hf
  · rename_i v a st
    split at hf
    · rename_i cj fs he
      cases hb : (Nat.beq cj ci && (pm_fit ty v && Nat.blt k fs.length)) with
      | false => rw [hb] at hf; cases hf
      | true =>
        rw [hb] at hf
        obtain ⟨hb1, hb2⟩ := Bool.and_eq_true_iff.mp hb
        obtain ⟨hb2, hb3⟩ := Bool.and_eq_true_iff.mp hb2
        obtain rfl := Nat.eq_of_beq_eq_true hb1
        obtain rfl := Option.some.inj hf
        obtain ⟨hn, hfit⟩ := pm_fit_ok B b hb2
        intro H locs ls cells slots h1 h2 h3 h4 h5 h6
        have hap := va_apart (own := own) Cx.2.2.2.2.1 hin ty0 hty hnm Cx.2.2.2.2.2.1.1 hc
        obtain ⟨r, hr, cell, q1, q2, q3, q4⟩ := h3 a _ (pm_w_at he)
        have hr : r = (C, T, N) := Option.some.inj (hr.symm.trans hc)
        subst hr
        obtain ⟨hS, hfc, kC, hkC, hkind⟩ := Cx.2.2.2.2.2.1.1.1 cj _ hc
        obtain ⟨cf, kf, fi, f, hi, hsl⟩ := hS k hk
        have hlay := Cx.2.2.2.2.1 _ (hin _ (u_in_lay hk))
        unfold u_lay at hlay
        rw [if_neg (by rw [hfin]; decide)] at hlay
        have hst := (u_facts hfc hkC (u_lays Cx.2.2.2.2.1 hin hk) hi).1
        have h9 := u_store hfc hkC hkind hlay hi (by rw [hty k hk, hte]) hn hfit
        refine W.putK Cx.1 Cx.2.1 (f := f) ⟨Cx.2.2.2.1, Cx.2.2.2.2.1 _ hw, ⟨_, _, _, hi⟩, hst⟩ (by rw [q2]; exact h9) q1 q3 (by rw [hsl]; exact k2_hasslot (q4 k hk)) rfl rfl hd fun H1 e1 z1 o1 => ?_
        rw [hsl] at e1 ⊢
        refine kk H1 _ ls cells slots h1 (z1.trans (by rw [h2]; simp)) (pm_stored h3 he o1 ?_) (h4.put z1 o1 (Nat.le_add_right B a)) h5 h6
        refine ⟨_, hc, t_OB.to (V := updV (vp_V (fs.map (pm_v B b))) k (pm_v B b v)) ⟨_, e1, q2, q3, t_set q4 hap hk _⟩ (fun j _ => ?_)⟩
        rw [vp_updV_set (by rw [List.length_map]; exact Nat.le_of_ble_eq_true hb3)]
        simp [pm_e, List.map_set]
    · cases hf
  · cases hf
theorem k_putF {cc : ByteArray} {own : String} {nL pc : Nat} {ci k index N : Nat} {C : String} {T : u_T} {ty0 : Nat → FieldType} {ty : FieldType} (hc : vwCl[ci]? = some (C, T, N)) (hin : ∀ w ∈ u_ws C T N, w ∈ pm_T) (hty : ∀ k, k < N → parseFieldDescriptor (T k).2.2.1 = some (ty0 k)) (hnm : ∀ a, a < N → ∀ b, b < N → a ≠ b → (T a).2.1 ≠ (T b).2.1) (hk : k < N) (hte : ty0 k = ty) (hfin : (T k).2.2.2 = true) (hdecl : (T k).1 = own) (hw : Cond.fieldLink own index (T k).1 (T k).2.1 (T k).2.2.1 ∈ pm_T) (hd : decode cc pc = .ok (.putfield index, 3)) : pm_okF cc own nL true pc (s_putf ci k ty (pc + 3)) := by
  intro p l e R s m args below meth c D aC B b Q Cx hR1 hR2 lv st w σ' hf kk
  simp only [s_putf] at hf
  split at hf
  · rename_i v a st
    split at hf
    · rename_i cj fs he
      cases hb : (Nat.beq cj ci && (pm_fit ty v && Nat.blt k fs.length)) with
      | false => rw [hb] at hf; cases hf
      | true =>
        rw [hb] at hf
        obtain ⟨hb1, hb2⟩ := Bool.and_eq_true_iff.mp hb
        obtain ⟨hb2, hb3⟩ := Bool.and_eq_true_iff.mp hb2
        obtain rfl := Nat.eq_of_beq_eq_true hb1
        obtain rfl := Option.some.inj hf
        obtain ⟨hn, hfit⟩ := pm_fit_ok B b hb2
        intro H locs ls cells slots h1 h2 h3 h4 h5 h6
        have hap := va_apart (own := own) Cx.2.2.2.2.1 hin ty0 hty hnm Cx.2.2.2.2.2.1.1 hc
        obtain ⟨r, hr, cell, q1, q2, q3, q4⟩ := h3 a _ (pm_w_at he)
        have hr : r = (C, T, N) := Option.some.inj (hr.symm.trans hc)
        subst hr
        obtain ⟨hS, hfc, kC, hkC, hkind⟩ := Cx.2.2.2.2.2.1.1.1 cj _ hc
        obtain ⟨cf, kf, fi, f, hi, hsl⟩ := hS k hk
        have hlay := Cx.2.2.2.2.1 _ (hin _ (u_in_lay hk))
        unfold u_lay at hlay
        rw [if_pos hfin] at hlay
        have hst := (u_facts hfc hkC (u_lays Cx.2.2.2.2.1 hin hk) hi).1
        have hcf : m.cls = cf := by
          obtain ⟨_, _, c', _, _, _, -, -, hf', -, -, -, hown2, -⟩ := Cond.laysFinal_spec hlay
          have e1 : c' = cf := by have := hi.symm.trans hf'; simp at this; exact this.1.symm
          rw [hdecl] at hown2
          rw [← e1]; exact Option.some.inj (Cx.2.2.2.1.symm.trans hown2)
        have h9 := u_fits hfc hkC hkind (Or.inr hlay) hi (by rw [hty k hk, hte]) hn hfit
        refine W.putFinK Cx.1 Cx.2.1 Cx.2.2.2.1 (Cx.2.2.2.2.1 _ hw) hi hst hcf (Cx.2.2.2.2.2.2.2 rfl) (by rw [q2]; exact h9) q1 q3 (by rw [hsl]; exact k2_hasslot (q4 k hk)) rfl rfl hd fun H1 e1 z1 o1 => ?_
        rw [hsl] at e1 ⊢
        refine kk H1 _ ls cells slots h1 (z1.trans (by rw [h2]; simp)) (pm_stored h3 he o1 ?_) (h4.put z1 o1 (Nat.le_add_right B a)) h5 h6
        refine ⟨_, hc, t_OB.to (V := updV (vp_V (fs.map (pm_v B b))) k (pm_v B b v)) ⟨_, e1, q2, q3, t_set q4 hap hk _⟩ (fun j _ => ?_)⟩
        rw [vp_updV_set (by rw [List.length_map]; exact Nat.le_of_ble_eq_true hb3)]
        simp [pm_e, List.map_set]
    · cases hf
  · cases hf
def pm_ix (i : Int32) (n : Nat) : Bool := !(decide (i < 0)) && Nat.blt i.toNatClampNeg n
theorem pm_ix_in {i : Int32} {n : Nat} (h : pm_ix i n = true) : vp_in i n := by
  simp only [pm_ix, Bool.and_eq_true, Bool.not_eq_true', decide_eq_false_iff_not] at h
  have h2 : i.toNatClampNeg < n := Nat.le_of_ble_eq_true h.2
  intro q
  rcases q with q | q
  · exact h.1 q
  · omega
def s_iald (n : Nat) : pm_S → Option pm_S := fun σ => match σ.2.2.1 with
  | .int i :: .ref a :: st => match σ.2.2.2.1[a]? with
    | some (.inl (0, len, .inl f)) => bif pm_ix i len then some (n, σ.2.1, .int (f i.toNatClampNeg) :: st, σ.2.2.2) else none
    | _ => none
  | _ => none
def s_bald (n : Nat) : pm_S → Option pm_S := fun σ => match σ.2.2.1 with
  | .int i :: .ref a :: st => match σ.2.2.2.1[a]? with
    | some (.inl (1, len, .inl f)) => bif pm_ix i len then some (n, σ.2.1, .int (f i.toNatClampNeg) :: st, σ.2.2.2) else none
    | _ => none
  | _ => none
def s_zald (n : Nat) : pm_S → Option pm_S := fun σ => match σ.2.2.1 with
  | .int i :: .ref a :: st => match σ.2.2.2.1[a]? with
    | some (.inl (2, len, .inl f)) => bif pm_ix i len then some (n, σ.2.1, .int (f i.toNatClampNeg) :: st, σ.2.2.2) else none
    | _ => none
  | _ => none
def s_lald (n : Nat) : pm_S → Option pm_S := fun σ => match σ.2.2.1 with
  | .int i :: .ref a :: st => match σ.2.2.2.1[a]? with
    | some (.inl (3, len, .inr (.inl f))) => bif pm_ix i len then some (n, σ.2.1, .long (f i.toNatClampNeg) :: st, σ.2.2.2) else none
    | _ => none
  | _ => none
theorem k_iald {cc : ByteArray} {own : String} {nL pc : Nat} {ini : Bool} (hd : decode cc pc = .ok (.iaload, 1)) : pm_okF cc own nL ini pc (s_iald (pc + 1)) := by
  intro p l e R s m args below meth c D aC B b Q Cx hR1 hR2 lv st w σ' hf kk
  simp only [s_iald] at hf
  split at hf
  · rename_i i a st
    split at hf
    · rename_i len f he
      cases hb : pm_ix i len with
      | false => rw [hb] at hf; cases hf
      | true =>
        rw [hb] at hf
        obtain rfl := Option.some.inj hf
        intro H locs ls cells slots h1 h2 h3 h4 h5 h6
        exact va_iald Cx.1 Cx.2.1 Cx.2.2.2.2.2.1.1 h3 a 0 (pm_w_at he) rfl (pm_ix_in hb) hd (kk H locs ls cells slots h1 h2 h3 h4 h5 h6)
    · cases hf
  · cases hf
theorem k_bald {cc : ByteArray} {own : String} {nL pc : Nat} {ini : Bool} (hd : decode cc pc = .ok (.baload, 1)) : pm_okF cc own nL ini pc (s_bald (pc + 1)) := by
  intro p l e R s m args below meth c D aC B b Q Cx hR1 hR2 lv st w σ' hf kk
  simp only [s_bald] at hf
  split at hf
  · rename_i i a st
    split at hf
    · rename_i len f he
      cases hb : pm_ix i len with
      | false => rw [hb] at hf; cases hf
      | true =>
        rw [hb] at hf
        obtain rfl := Option.some.inj hf
        intro H locs ls cells slots h1 h2 h3 h4 h5 h6
        exact va_bald Cx.1 Cx.2.1 Cx.2.2.2.2.2.1.1 h3 a 1 (pm_w_at he) rfl (pm_ix_in hb) hd (kk H locs ls cells slots h1 h2 h3 h4 h5 h6)
    · cases hf
  · cases hf
theorem k_zald {cc : ByteArray} {own : String} {nL pc : Nat} {ini : Bool} (hd : decode cc pc = .ok (.baload, 1)) : pm_okF cc own nL ini pc (s_zald (pc + 1)) := by
  intro p l e R s m args below meth c D aC B b Q Cx hR1 hR2 lv st w σ' hf kk
  simp only [s_zald] at hf
  split at hf
  · rename_i i a st
    split at hf
    · rename_i len f he
      cases hb : pm_ix i len with
      | false => rw [hb] at hf; cases hf
      | true =>
        rw [hb] at hf
        obtain rfl := Option.some.inj hf
        intro H locs ls cells slots h1 h2 h3 h4 h5 h6
        exact va_zald Cx.1 Cx.2.1 Cx.2.2.2.2.2.1.1 h3 a 2 (pm_w_at he) rfl (pm_ix_in hb) hd (kk H locs ls cells slots h1 h2 h3 h4 h5 h6)
    · cases hf
  · cases hf
theorem k_lald {cc : ByteArray} {own : String} {nL pc : Nat} {ini : Bool} (hd : decode cc pc = .ok (.laload, 1)) : pm_okF cc own nL ini pc (s_lald (pc + 1)) := by
  intro p l e R s m args below meth c D aC B b Q Cx hR1 hR2 lv st w σ' hf kk
  simp only [s_lald] at hf
  split at hf
  · rename_i i a st
    split at hf
    · rename_i len f he
      cases hb : pm_ix i len with
      | false => rw [hb] at hf; cases hf
      | true =>
        rw [hb] at hf
        obtain rfl := Option.some.inj hf
        intro H locs ls cells slots h1 h2 h3 h4 h5 h6
        exact va_lald Cx.1 Cx.2.1 Cx.2.2.2.2.2.1.1 h3 a 3 (pm_w_at he) rfl (pm_ix_in hb) hd (kk H locs ls cells slots h1 h2 h3 h4 h5 h6)
    · cases hf
  · cases hf
def pm_r (r : Option Nat) : Value := match r with
  | none => .null
  | some a => .ref a
theorem pm_r_v (B b : Nat) (r : Option Nat) : va_rf (r.map (fun k => B + k)) = pm_v B b (pm_r r) := by cases r <;> rfl
def s_aald (t n : Nat) : pm_S → Option pm_S := fun σ => match σ.2.2.1 with
  | .int i :: .ref a :: st => match σ.2.2.2.1[a]? with
    | some (.inl (t', len, .inr (.inr (.inr (.inr f))))) => bif Nat.beq t' t && pm_ix i len then some (n, σ.2.1, pm_r (f i.toNatClampNeg) :: st, σ.2.2.2) else none
    | _ => none
  | _ => none
theorem k_aald {cc : ByteArray} {own : String} {nL pc : Nat} {ini : Bool} {t : Nat} {C : String} (ht : ∀ aC : Nat → ClassId, (pm_tys aC)[t]? = some (aC t, .object C)) (hd : decode cc pc = .ok (.aaload, 1)) : pm_okF cc own nL ini pc (s_aald t (pc + 1)) := by
  intro p l e R s m args below meth c D aC B b Q Cx hR1 hR2 lv st w σ' hf kk
  simp only [s_aald] at hf
  split at hf
  · rename_i i a st
    split at hf
    · rename_i t' len f he
      cases hb : (Nat.beq t' t && pm_ix i len) with
      | false => rw [hb] at hf; cases hf
      | true =>
        rw [hb] at hf
        obtain ⟨hb1, hb2⟩ := Bool.and_eq_true_iff.mp hb
        obtain rfl := Nat.eq_of_beq_eq_true hb1
        obtain rfl := Option.some.inj hf
        intro H locs ls cells slots h1 h2 h3 h4 h5 h6
        have k2 := kk H locs ls cells slots h1 h2 h3 h4 h5 h6
        simp only [List.map_cons, ← pm_r_v] at k2
        exact va_aldq Cx.1 Cx.2.1 Cx.2.2.2.2.2.1.1 h3 a t' (pm_w_at he) (ht aC) (pm_ix_in hb2) hd k2
    · cases hf
  · cases hf
def s_iast (n : Nat) : pm_S → Option pm_S := fun σ => match σ.2.2.1 with
  | .int x :: .int i :: .ref a :: st => match σ.2.2.2.1[a]? with
    | some (.inl (0, len, .inl f)) => bif pm_ix i len then some (n, σ.2.1, st, σ.2.2.2.1.set a (.inl (0, len, .inl (upd f i.toNatClampNeg x))), σ.2.2.2.2) else none
    | _ => none
  | _ => none
theorem k_iast {cc : ByteArray} {own : String} {nL pc : Nat} {ini : Bool} (hd : decode cc pc = .ok (.iastore, 1)) : pm_okF cc own nL ini pc (s_iast (pc + 1)) := by
  intro p l e R s m args below meth c D aC B b Q Cx hR1 hR2 lv st w σ' hf kk
  simp only [s_iast] at hf
  split at hf
  · rename_i x i a st
    split at hf
    · rename_i len f he
      cases hb : pm_ix i len with
      | false => rw [hb] at hf; cases hf
      | true =>
        rw [hb] at hf
        obtain rfl := Option.some.inj hf
        intro H locs ls cells slots h1 h2 h3 h4 h5 h6
        have hat : H[B + a]? = some (vp_cell (aC 0) (len, .inl f)) := h3 a _ (pm_w_at he)
        refine W.iast Cx.1 Cx.2.1 hat ((Cx.2.2.2.2.2.1.1.2 0 _ rfl).1 len (fun j => .int (f j))) (fun q => by cases q) (by show ¬ (i < 0 ∨ (arrV _ _ _).slots.size ≤ _); rw [arrV_size]; exact pm_ix_in hb) rfl rfl hd fun H1 e1 z1 o1 => ?_
        refine kk H1 _ ls cells slots h1 (z1.trans (by rw [h2]; simp)) (pm_stored h3 he o1 ?_) (h4.put z1 o1 (Nat.le_add_right B a)) h5 h6
        show H1[B + a]? = some (vp_cell (aC 0) (len, .inl (upd f i.toNatClampNeg x)))
        rw [e1, vp_cell_i, vp_cell_i, arrV_store]
        congr 2
        funext q
        by_cases hq : q = i.toNatClampNeg
        · subst hq
          simp [updV, upd, vp_nar]
          try rfl
        · simp [updV, upd, hq]
    · cases hf
  · cases hf
def s_bast (n : Nat) : pm_S → Option pm_S := fun σ => match σ.2.2.1 with
  | .int x :: .int i :: .ref a :: st => match σ.2.2.2.1[a]? with
    | some (.inl (1, len, .inl f)) => bif pm_ix i len then some (n, σ.2.1, st, σ.2.2.2.1.set a (.inl (1, len, .inl (upd f i.toNatClampNeg (vp_nar .byte x)))), σ.2.2.2.2) else none
    | _ => none
  | _ => none
theorem k_bast {cc : ByteArray} {own : String} {nL pc : Nat} {ini : Bool} (hd : decode cc pc = .ok (.bastore, 1)) : pm_okF cc own nL ini pc (s_bast (pc + 1)) := by
  intro p l e R s m args below meth c D aC B b Q Cx hR1 hR2 lv st w σ' hf kk
  simp only [s_bast] at hf
  split at hf
  · rename_i x i a st
    split at hf
    · rename_i len f he
      cases hb : pm_ix i len with
      | false => rw [hb] at hf; cases hf
      | true =>
        rw [hb] at hf
        obtain rfl := Option.some.inj hf
        intro H locs ls cells slots h1 h2 h3 h4 h5 h6
        have hat : H[B + a]? = some (vp_cell (aC 1) (len, .inl f)) := h3 a _ (pm_w_at he)
        refine W.bast Cx.1 Cx.2.1 hat ((Cx.2.2.2.2.2.1.1.2 1 _ rfl).1 len (fun j => .int (f j))) (fun q => by cases q) (by show ¬ (i < 0 ∨ (arrV _ _ _).slots.size ≤ _); rw [arrV_size]; exact pm_ix_in hb) rfl rfl hd fun H1 e1 z1 o1 => ?_
        refine kk H1 _ ls cells slots h1 (z1.trans (by rw [h2]; simp)) (pm_stored h3 he o1 ?_) (h4.put z1 o1 (Nat.le_add_right B a)) h5 h6
        show H1[B + a]? = some (vp_cell (aC 1) (len, .inl (upd f i.toNatClampNeg (vp_nar .byte x))))
        rw [e1, vp_cell_i, vp_cell_i, arrV_store]
        congr 2
        funext q
        by_cases hq : q = i.toNatClampNeg
        · subst hq
          simp [updV, upd, vp_nar]
          try rfl
        · simp [updV, upd, hq]
    · cases hf
  · cases hf
def s_zast (n : Nat) : pm_S → Option pm_S := fun σ => match σ.2.2.1 with
  | .int x :: .int i :: .ref a :: st => match σ.2.2.2.1[a]? with
    | some (.inl (2, len, .inl f)) => bif pm_ix i len then some (n, σ.2.1, st, σ.2.2.2.1.set a (.inl (2, len, .inl (upd f i.toNatClampNeg (vp_nar .boolean x)))), σ.2.2.2.2) else none
    | _ => none
  | _ => none
theorem k_zast {cc : ByteArray} {own : String} {nL pc : Nat} {ini : Bool} (hd : decode cc pc = .ok (.bastore, 1)) : pm_okF cc own nL ini pc (s_zast (pc + 1)) := by
  intro p l e R s m args below meth c D aC B b Q Cx hR1 hR2 lv st w σ' hf kk
  simp only [s_zast] at hf
  split at hf
  · rename_i x i a st
    split at hf
    · rename_i len f he
      cases hb : pm_ix i len with
      | false => rw [hb] at hf; cases hf
      | true =>
        rw [hb] at hf
        obtain rfl := Option.some.inj hf
        intro H locs ls cells slots h1 h2 h3 h4 h5 h6
        have hat : H[B + a]? = some (vp_cell (aC 2) (len, .inl f)) := h3 a _ (pm_w_at he)
        refine W.zast Cx.1 Cx.2.1 hat ((Cx.2.2.2.2.2.1.1.2 2 _ rfl).1 len (fun j => .int (f j))) (fun q => by cases q) (by show ¬ (i < 0 ∨ (arrV _ _ _).slots.size ≤ _); rw [arrV_size]; exact pm_ix_in hb) rfl rfl hd fun H1 e1 z1 o1 => ?_
        refine kk H1 _ ls cells slots h1 (z1.trans (by rw [h2]; simp)) (pm_stored h3 he o1 ?_) (h4.put z1 o1 (Nat.le_add_right B a)) h5 h6
        show H1[B + a]? = some (vp_cell (aC 2) (len, .inl (upd f i.toNatClampNeg (vp_nar .boolean x))))
        rw [e1, vp_cell_i, vp_cell_i, arrV_store]
        congr 2
        funext q
        by_cases hq : q = i.toNatClampNeg
        · subst hq
          simp [updV, upd, vp_nar]
          try rfl
        · simp [updV, upd, hq]
    · cases hf
  · cases hf
def s_last (n : Nat) : pm_S → Option pm_S := fun σ => match σ.2.2.1 with
  | .long x :: .int i :: .ref a :: st => match σ.2.2.2.1[a]? with
    | some (.inl (3, len, .inr (.inl f))) => bif pm_ix i len then some (n, σ.2.1, st, σ.2.2.2.1.set a (.inl (3, len, .inr (.inl (vp_updL f i.toNatClampNeg x)))), σ.2.2.2.2) else none
    | _ => none
  | _ => none
theorem k_last {cc : ByteArray} {own : String} {nL pc : Nat} {ini : Bool} (hd : decode cc pc = .ok (.lastore, 1)) : pm_okF cc own nL ini pc (s_last (pc + 1)) := by
  intro p l e R s m args below meth c D aC B b Q Cx hR1 hR2 lv st w σ' hf kk
  simp only [s_last] at hf
  split at hf
  · rename_i x i a st
    split at hf
    · rename_i len f he
      cases hb : pm_ix i len with
      | false => rw [hb] at hf; cases hf
      | true =>
        rw [hb] at hf
        obtain rfl := Option.some.inj hf
        intro H locs ls cells slots h1 h2 h3 h4 h5 h6
        have hat : H[B + a]? = some (vp_cell (aC 3) (len, .inr (.inl f))) := h3 a _ (pm_w_at he)
        refine W.last Cx.1 Cx.2.1 hat ((Cx.2.2.2.2.2.1.1.2 3 _ rfl).1 len (fun j => .long (f j))) (fun q => by cases q) (by show ¬ (i < 0 ∨ (arrV _ _ _).slots.size ≤ _); rw [arrV_size]; exact pm_ix_in hb) rfl rfl hd fun H1 e1 z1 o1 => ?_
        refine kk H1 _ ls cells slots h1 (z1.trans (by rw [h2]; simp)) (pm_stored h3 he o1 ?_) (h4.put z1 o1 (Nat.le_add_right B a)) h5 h6
        show H1[B + a]? = some (vp_cell (aC 3) (len, .inr (.inl (vp_updL f i.toNatClampNeg x))))
        rw [e1, vp_cell_l, vp_cell_l, arrV_store]
        congr 2
        funext q
        by_cases hq : q = i.toNatClampNeg
        · subst hq
          simp [updV, vp_updL, vp_nar]
          try rfl
        · simp [updV, vp_updL, hq]
    · cases hf
  · cases hf
def s_aast (t ci n : Nat) : pm_S → Option pm_S := fun σ => match σ.2.2.1 with
  | .ref v :: .int i :: .ref a :: st => match σ.2.2.2.1[a]? with
    | some (.inl (t', len, .inr (.inr (.inr (.inr f))))) => match σ.2.2.2.1[v]? with
      | some (.inr (cj, _)) => bif Nat.beq t' t && (Nat.beq cj ci && pm_ix i len) then some (n, σ.2.1, st, σ.2.2.2.1.set a (.inl (t', len, .inr (.inr (.inr (.inr (va_up f i.toNatClampNeg (some v))))))), σ.2.2.2.2) else none
      | _ => none
    | _ => none
  | _ => none
theorem k_aast {cc : ByteArray} {own : String} {nL pc : Nat} {ini : Bool} {t ci : Nat} {r : vw_C} (ht : ∀ aC : Nat → ClassId, (pm_tys aC)[t]? = some (aC t, .object r.1)) (hc : vwCl[ci]? = some r) (hd : decode cc pc = .ok (.aastore, 1)) : pm_okF cc own nL ini pc (s_aast t ci (pc + 1)) := by
  intro p l e R s m args below meth c D aC B b Q Cx hR1 hR2 lv st w σ' hf kk
  simp only [s_aast] at hf
  split at hf
  · rename_i v i a st
    split at hf
    · rename_i t' len f he
      split at hf
      · rename_i cj vs hv
        cases hb : (Nat.beq t' t && (Nat.beq cj ci && pm_ix i len)) with
        | false => rw [hb] at hf; cases hf
        | true =>
          rw [hb] at hf
          obtain ⟨hb1, hb2⟩ := Bool.and_eq_true_iff.mp hb
          obtain ⟨hb2, hb3⟩ := Bool.and_eq_true_iff.mp hb2
          obtain rfl := Nat.eq_of_beq_eq_true hb1
          obtain rfl := Nat.eq_of_beq_eq_true hb2
          obtain rfl := Option.some.inj hf
          intro H locs ls cells slots h1 h2 h3 h4 h5 h6
          have hin := pm_ix_in hb3
          have hlt : i.toNatClampNeg < len := Nat.not_le.mp fun q => hin (Or.inr q)
          have h0 : ¬ i < 0 := fun q => hin (Or.inl q)
          have hat : H[B + a]? = some (vp_cell (aC t') (len, .inr (.inr (.inr (.inr (fun i => (f i).map (fun k => B + k))))))) := h3 a _ (pm_w_at he)
          obtain ⟨r', hr', cellV, g1, g2, g3, -⟩ := h3 v _ (pm_w_at hv)
          have hcls := (Cx.2.2.2.2.2.1.1.1 cj r hc).2
          obtain ⟨kA, comp, k1, k2, k3, -⟩ := (Cx.2.2.2.2.2.1.1.2 t' _ (ht aC)).2
          have hcomp : comp = D.1 cj := Option.some.inj (k3.symm.trans hcls.1)
          subst hcomp
          have hcls2 := hcls
          obtain ⟨kC, hkC, -⟩ := hcls.2
          refine W.aast Cx.1 Cx.2.1 hat (fun q h => by cases h) (fun h => by cases h) k1 k2 rfl hkC ⟨h0, by show _ < (arrV _ _ _).slots.size; rw [arrV_size]; exact hlt⟩ g1 (fun q h => by rw [g3] at h; cases h) (by rw [g2]; exact hkC) (by rw [g2]; exact va_assign hcls2) rfl rfl hd fun H1 e1 z1 o1 => ?_
          refine kk H1 _ ls cells slots h1 (z1.trans (by rw [h2]; simp)) (pm_stored h3 he o1 ?_) (h4.put z1 o1 (Nat.le_add_right B a)) h5 h6
          show H1[B + a]? = some (vp_cell (aC t') (len, .inr (.inr (.inr (.inr (fun j => (va_up f i.toNatClampNeg (some v) j).map (fun k => B + k)))))))
          rw [e1, vp_cell_q, vp_cell_q, arrV_store]
          congr 2
          funext q
          by_cases hq : q = i.toNatClampNeg
          · subst hq
            simp [updV, va_up, va_rf]
          · simp [updV, va_up, hq]
      · cases hf
    · cases hf
  · cases hf
def s_new (ci : Nat) (fs : List Value) (nf n : Nat) : pm_S → Option pm_S := fun σ => bif Nat.ble 1 σ.2.2.2.2.1 && Nat.ble nf σ.2.2.2.2.2 then some (n, σ.2.1, .ref σ.2.2.2.1.length :: σ.2.2.1, σ.2.2.2.1 ++ [.inr (ci, fs)], σ.2.2.2.2.1 - 1, σ.2.2.2.2.2 - nf) else none
theorem k_new {cc : ByteArray} {own : String} {nL pc : Nat} {ini : Bool} {ci index N : Nat} {C : String} {T : u_T} {ty0 : Nat → FieldType} {fs : List Value} (hc : vwCl[ci]? = some (C, T, N)) (hin : ∀ w ∈ u_ws C T N, w ∈ pm_T) (hty : ∀ k, k < N → parseFieldDescriptor (T k).2.2.1 = some (ty0 k)) (hfs : ∀ j, j < N → defaultValue (ty0 j) = vp_V fs j) (hfv : ∀ B b : Nat, fs.map (pm_v B b) = fs) (hw1 : Cond.classLink own index C ∈ pm_T) (hw2 : Cond.instantiable C N ∈ pm_T) (hw3 : Cond.initialized C ∈ pm_T) (hd : decode cc pc = .ok (.new index, 3)) : pm_okF cc own nL ini pc (s_new ci fs N (pc + 3)) := by
  intro p l e R s m args below meth c D aC B b Q Cx hR1 hR2 lv st w σ' hf kk
  simp only [s_new] at hf
  cases hb : (Nat.ble 1 w.2.1 && Nat.ble N w.2.2) with
  | false => rw [hb] at hf; cases hf
  | true =>
    rw [hb] at hf
    obtain ⟨hb1, hb2⟩ := Bool.and_eq_true_iff.mp hb
    have hb1 := Nat.le_of_ble_eq_true hb1
    have hb2 := Nat.le_of_ble_eq_true hb2
    obtain rfl := Option.some.inj hf
    intro H locs ls cells slots h1 h2 h3 h4 h5 h6
    simp only at h2 h3 h5 h6
    have hKn := Cx.2.2.2.2.2.1.1.1 ci _ hc
    refine W.newcK Cx.1 Cx.2.1 Cx.2.2.2.1 (Cx.2.2.2.2.1 _ hw1) (Cx.2.2.2.2.1 _ hw2) (Cx.2.2.2.2.1 _ hw3) rfl hd (by omega) (by omega) hKn.2.1 rfl fun H1 kC hkC e1 z1 o1 => ?_
    have k2 := kk H1 locs ls (cells + 1) (slots + N) h1 (by simp only [List.length_append, List.length_cons, List.length_nil]; omega) (pm_pushed h3 h2 o1 ⟨_, hc, by
      show t_OB _ _ _ _ _ (vp_V (fs.map (pm_v B b)))
      rw [hfv]
      exact (u_born ty0 Cx.2.2.2.2.1 hin hKn hkC e1 hty).to hfs⟩) (pm_grown h4 z1 o1) (by simp only; omega) (by simp only; omega)
    simp only [List.map_cons, pm_v, ← h2] at k2
    exact k2
def s_newa (t : Nat) (x : (Nat → Int32) ⊕ (Nat → Int64) ⊕ (Nat → UInt32) ⊕ (Nat → UInt64) ⊕ (Nat → Option Nat)) (n : Nat) : pm_S → Option pm_S := fun σ => match σ.2.2.1 with
  | .int m :: st => bif !(decide (m < 0)) && (Nat.ble m.toNatClampNeg 10000 && (Nat.ble 1 σ.2.2.2.2.1 && Nat.ble m.toNatClampNeg σ.2.2.2.2.2)) then some (n, σ.2.1, .ref σ.2.2.2.1.length :: st, σ.2.2.2.1 ++ [.inl (t, m.toNatClampNeg, x)], σ.2.2.2.2.1 - 1, σ.2.2.2.2.2 - m.toNatClampNeg) else none
  | _ => none
theorem k_newa {cc : ByteArray} {own : String} {nL pc : Nat} {ini : Bool} {t : Nat} {at0 : ArrayType} {ty : FieldType} {x : (Nat → Int32) ⊕ (Nat → Int64) ⊕ (Nat → UInt32) ⊕ (Nat → UInt64) ⊕ (Nat → Option Nat)} (hat : newarray.typeOf at0 = ty) (ht : ∀ aC : Nat → ClassId, (pm_tys aC)[t]? = some (aC t, ty)) (hra : ∀ (U : State) (q : ClassId), va_RA U q ty → U.vm.findClass ("[" ++ ty.toString) = some q) (hbz : componentBytes ty ≤ 8) (hxe : ∀ (B b : Nat) (aC : Nat → ClassId) (m : Nat), pm_e B b aC (.inl (t, m, x)) = .inl (aC t, m, x)) (hx : ∀ (cA : ClassId) (m : Nat), vp_cell cA (m, x) = arrV cA m (fun _ => defaultValue ty)) (hw : Cond.arrayClass ty ∈ pm_T) (hd : decode cc pc = .ok (.newarray at0, 2)) : pm_okF cc own nL ini pc (s_newa t x (pc + 2)) := by
  intro p l e R s m args below meth c D aC B b Q Cx hR1 hR2 lv st w σ' hf kk
  subst hat
  simp only [s_newa] at hf
  split at hf
  · rename_i m st
    cases hb : (!(decide (m < 0)) && (Nat.ble m.toNatClampNeg 10000 && (Nat.ble 1 w.2.1 && Nat.ble m.toNatClampNeg w.2.2))) with
    | false => rw [hb] at hf; cases hf
    | true =>
      rw [hb] at hf
      obtain ⟨hb0, hb1⟩ := Bool.and_eq_true_iff.mp hb
      obtain ⟨hb1, hb2⟩ := Bool.and_eq_true_iff.mp hb1
      obtain ⟨hb2, hb3⟩ := Bool.and_eq_true_iff.mp hb2
      have hb1 := Nat.le_of_ble_eq_true hb1
      have hb2 := Nat.le_of_ble_eq_true hb2
      have hb3 := Nat.le_of_ble_eq_true hb3
      have hm : ¬ m < 0 := by simpa using hb0
      obtain rfl := Option.some.inj hf
      intro H locs ls cells slots h1 h2 h3 h4 h5 h6
      simp only at h2 h3 h5 h6
      have hby : m.toNatClampNeg * componentBytes (newarray.typeOf at0) ≤ 536870912 := Nat.le_trans (Nat.mul_le_mul hb1 hbz) (by decide)
      refine va_newaK Cx.1 Cx.2.1 (Cx.2.2.2.2.1 _ hw) rfl hd rfl hm rfl hby (by omega) (by omega) rfl fun H1 cA e1 z1 o1 hAr hNm => ?_
      have hcA : cA = aC t := Option.some.inj (hNm.symm.trans (hra _ _ (Cx.2.2.2.2.2.1.1.2 t _ (ht aC)).2))
      subst hcA
      have k2 := kk H1 locs ls (cells + 1) (slots + m.toNatClampNeg) h1 (by simp only [List.length_append, List.length_cons, List.length_nil]; omega) (pm_pushed h3 h2 o1 (by
        rw [hxe]
        show H1[H.size]? = some (vp_cell _ _)
        rw [hx]
        exact e1)) (pm_grown h4 z1 o1) (by simp only; omega) (by simp only; omega)
      simp only [List.map_cons, pm_v, ← h2] at k2
      exact k2
  · cases hf
def s_newq (t n : Nat) : pm_S → Option pm_S := fun σ => match σ.2.2.1 with
  | .int m :: st => bif !(decide (m < 0)) && (Nat.ble m.toNatClampNeg 10000 && (Nat.ble 1 σ.2.2.2.2.1 && Nat.ble m.toNatClampNeg σ.2.2.2.2.2)) then some (n, σ.2.1, .ref σ.2.2.2.1.length :: st, σ.2.2.2.1 ++ [.inl (t, m.toNatClampNeg, .inr (.inr (.inr (.inr (fun _ => none)))))], σ.2.2.2.2.1 - 1, σ.2.2.2.2.2 - m.toNatClampNeg) else none
  | _ => none
theorem k_newq {cc : ByteArray} {own : String} {nL pc : Nat} {ini : Bool} {t index : Nat} {C : String} (ht : ∀ aC : Nat → ClassId, (pm_tys aC)[t]? = some (aC t, .object C)) (hao : ∀ (D : va_G) (aC : Nat → ClassId) (U : State), pm_K D aC U → va_AO C U) (hw : Cond.classLink own index C ∈ pm_T) (hd : decode cc pc = .ok (.anewarray index, 3)) : pm_okF cc own nL ini pc (s_newq t (pc + 3)) := by
  intro p l e R s m args below meth c D aC B b Q Cx hR1 hR2 lv st w σ' hf kk
  simp only [s_newq] at hf
  split at hf
  · rename_i m st
    cases hb : (!(decide (m < 0)) && (Nat.ble m.toNatClampNeg 10000 && (Nat.ble 1 w.2.1 && Nat.ble m.toNatClampNeg w.2.2))) with
    | false => rw [hb] at hf; cases hf
    | true =>
      rw [hb] at hf
      obtain ⟨hb0, hb1⟩ := Bool.and_eq_true_iff.mp hb
      obtain ⟨hb1, hb2⟩ := Bool.and_eq_true_iff.mp hb1
      obtain ⟨hb2, hb3⟩ := Bool.and_eq_true_iff.mp hb2
      have hb1 := Nat.le_of_ble_eq_true hb1
      have hb2 := Nat.le_of_ble_eq_true hb2
      have hb3 := Nat.le_of_ble_eq_true hb3
      have hm : ¬ m < 0 := by simpa using hb0
      obtain rfl := Option.some.inj hf
      intro H locs ls cells slots h1 h2 h3 h4 h5 h6
      simp only at h2 h3 h5 h6
      refine W.anew Cx.1 Cx.2.1 Cx.2.2.2.1 (Cx.2.2.2.2.1 _ hw) (va_AO.use (hao D aC s Cx.2.2.2.2.2.1)) rfl hd rfl hm (by omega) (by omega) (by omega) fun cA kA comp f1 f2 f3 f4 => ?_
      generalize hH1 : H.push ({ cls := cA, slots := Array.replicate m.toNatClampNeg .null, vm := .none } : Cell) = H1
      have z1 : H1.size = H.size + 1 := by rw [← hH1, Array.size_push]
      have e1 : H1[H.size]? = some (arrV cA m.toNatClampNeg (fun _ => .null)) := by rw [← hH1, Array.getElem?_push_size, ← arrV_new]
      have o1 : ∀ q : Nat, q < H.size → H1[q]? = H[q]? := fun q hq => by rw [← hH1, Array.getElem?_push, if_neg (Nat.ne_of_lt hq)]
      obtain ⟨kA2, comp2, -, -, -, g4⟩ := (Cx.2.2.2.2.2.1.1.2 t _ (ht aC)).2
      have hcA : cA = aC t := Option.some.inj (f1.symm.trans g4)
      subst hcA
      have k2 := kk H1 locs ls (cells + 1) (slots + m.toNatClampNeg) h1 (by simp only [List.length_append, List.length_cons, List.length_nil]; omega) (pm_pushed h3 h2 o1 (by
        show H1[H.size]? = some (vp_cell _ _)
        rw [vp_cell_q]
        exact e1)) (pm_grown h4 z1 o1) (by simp only; omega) (by simp only; omega)
      simp only [List.map_cons, pm_v, ← h2] at k2
      exact k2
  · cases hf
def pm_sz (st : List Value) : Nat := (st.map fun v => v.category).sum
theorem pm_sz_v (B b : Nat) (st : List Value) : ((st.map (pm_v B b)).map fun v => v.category).sum = pm_sz st := by
  unfold pm_sz
  rw [List.map_map]
  congr 1
  exact List.map_congr_left fun v _ => pm_v_cat B b v
def s_obj (n : Nat) : pm_S → Option pm_S := fun σ => match σ.2.2.1 with
  | .ref _ :: st => bif Nat.ble (pm_sz st) 8 then some (n, σ.2.1, st, σ.2.2.2) else none
  | _ => none
theorem k_obj {cc : ByteArray} {own : String} {nL pc : Nat} {ini : Bool} {index : Nat} (hw1 : Cond.methodLink own index Lib.objectInit ∈ pm_T) (hw2 : Cond.instanceMethod Lib.objectInit ∈ pm_T) (hw3 : Cond.code Lib.objectInit ⟨#[0xb1]⟩ 1 none ∈ pm_T) (hd : decode cc pc = .ok (.invokespecial index, 3)) : pm_okF cc own nL ini pc (s_obj (pc + 3)) := by
  intro p l e R s m args below meth c D aC B b Q Cx hR1 hR2 lv st w σ' hf kk
  simp only [s_obj] at hf
  split at hf
  · rename_i a st
    cases hb : Nat.ble (pm_sz st) 8 with
    | false => rw [hb] at hf; cases hf
    | true =>
      rw [hb] at hf
      have hb := Nat.le_of_ble_eq_true hb
      obtain rfl := Option.some.inj hf
      intro H locs ls cells slots h1 h2 h3 h4 h5 h6
      exact W.objInit Cx.1 Cx.2.1 Cx.2.2.2.1 (Cx.2.2.2.2.1 _ hw1) (Cx.2.2.2.2.1 _ hw2) (Cx.2.2.2.2.1 _ hw3) rfl (by rw [Cx.2.2.1]; exact h1.1) rfl hd hR1 (by
        rw [pm_sz_v]
        show 2 * 0 + _ + 12 ≤ _
        omega) (kk H locs ls cells slots h1 h2 h3 h4 h5 h6)
  · cases hf
end
section
/-! THE PURE MACHINE, part 4: calls, returns, runs; methods by their runs -/
def pm_at {α : Type} : List (Nat × α) → Nat → Option α
  | [], _ => none
  | q :: l, i => bif Nat.beq q.1 i then some q.2 else pm_at l i
theorem pm_at_in {α : Type} {i : Nat} {v : α} : ∀ {l : List (Nat × α)}, pm_at l i = some v → (i, v) ∈ l
  | [], h => by cases h
  | q :: l, h => by
    unfold pm_at at h
    cases hb : Nat.beq q.1 i with
    | true =>
      rw [hb] at h
      have h1 : q.1 = i := Nat.eq_of_beq_eq_true hb
      have h2 : q.2 = v := Option.some.inj h
      subst h1; subst h2
      exact List.mem_cons_self
    | false =>
      rw [hb] at h
      exact List.mem_cons_of_mem _ (pm_at_in h)
/-- what a call answers and leaves: method, heap, arguments, heap behind it, answer -/
abbrev pm_Call : Type := Nat → pm_H → List Value → pm_H → Option Value → Prop
/-- what is tested ahead of a call -/
def pm_chk (k : Nat) (ci : Option Nat) (mc ms : Nat) (st : List Value) (w : pm_H × Nat × Nat) : Prop :=
  k ≤ st.length ∧ (∀ q : Nat, ci = some q → ∃ (a : Nat) (fs : List Value) (as : List Value), (st.take k).reverse = .ref a :: as ∧ w.1[a]? = some (.inr (q, fs))) ∧ pm_sz (st.drop k) ≤ 8 ∧ mc ≤ w.2.1 ∧ ms ≤ w.2.2
def pm_ret (kd : Nat) (st : List Value) (h : pm_H) (o : pm_H × Option Value) : Prop := match kd with
  | 0 => st = [] ∧ o = (h, none)
  | 1 => ∃ v : Int32, st = [.int v] ∧ o = (h, some (.int v))
  | 2 => ∃ v : Int32, st = [.int v] ∧ (v = 0 ∨ v = 1) ∧ o = (h, some (.int v))
  | _ => ∃ v : Int64, st = [.long v] ∧ o = (h, some (.long v))
def pm_go (look : Nat → Option pm_I) (call : pm_Call) : Nat → pm_S → pm_H × Option Value → Prop
  | 0, _, _ => False
  | n + 1, σ, o => match look σ.1 with
    | none => False
    | some (.inl f) => match f σ with
      | none => False
      | some σ' => pm_go look call n σ' o
    | some (.inr (.inl (y, k, ci, mc, ms))) => ∃ (h' : pm_H) (r : Option Value), call y σ.2.2.2.1 (σ.2.2.1.take k).reverse h' r ∧ pm_chk k ci mc ms σ.2.2.1 σ.2.2.2 ∧ pm_go look call n (σ.1 + 3, σ.2.1, r.toList ++ σ.2.2.1.drop k, h', σ.2.2.2.2.1 - mc, σ.2.2.2.2.2 - ms) o
    | some (.inr (.inr kd)) => pm_ret kd σ.2.2.1 σ.2.2.2.1 o
/-- from here the run ends so -/
def pm_Go (look : Nat → Option pm_I) (call : pm_Call) (σ : pm_S) (o : pm_H × Option Value) : Prop := ∃ n, pm_go look call n σ o
theorem Go_st {look : Nat → Option pm_I} {call : pm_Call} {σ σ' : pm_S} {o : pm_H × Option Value} {f : pm_S → Option pm_S} (h1 : look σ.1 = some (.inl f)) (h2 : f σ = some σ') (k : pm_Go look call σ' o) : pm_Go look call σ o := by
  obtain ⟨n, hn⟩ := k
  refine ⟨n + 1, ?_⟩
  unfold pm_go
  rw [h1]
  simp only [h2]
  exact hn
theorem Go_call {look : Nat → Option pm_I} {call : pm_Call} {σ : pm_S} {o : pm_H × Option Value} {y k mc ms : Nat} {ci : Option Nat} {h' : pm_H} {r : Option Value} (h1 : look σ.1 = some (.inr (.inl (y, k, ci, mc, ms)))) (hc : call y σ.2.2.2.1 (σ.2.2.1.take k).reverse h' r) (h2 : pm_chk k ci mc ms σ.2.2.1 σ.2.2.2) (kk : pm_Go look call (σ.1 + 3, σ.2.1, r.toList ++ σ.2.2.1.drop k, h', σ.2.2.2.2.1 - mc, σ.2.2.2.2.2 - ms) o) : pm_Go look call σ o := by
  obtain ⟨n, hn⟩ := kk
  refine ⟨n + 1, ?_⟩
  unfold pm_go
  rw [h1]
  exact ⟨h', r, hc, h2, hn⟩
theorem Go_ret {look : Nat → Option pm_I} {call : pm_Call} {σ : pm_S} {o : pm_H × Option Value} {kd : Nat} (h1 : look σ.1 = some (.inr (.inr kd))) (h2 : pm_ret kd σ.2.2.1 σ.2.2.2.1 o) : pm_Go look call σ o := by
  refine ⟨1, ?_⟩
  unfold pm_go
  rw [h1]
  exact h2
theorem Go_if {look : Nat → Option pm_I} {call : pm_Call} {z : Bool} {t n : Nat} {ρ : List (Nat × Value) × List Value × pm_H × Nat × Nat} {o : pm_H × Option Value} (ht : z = true → pm_Go look call (t, ρ) o) (hf : z = false → pm_Go look call (n, ρ) o) : pm_Go look call (bif z then t else n, ρ) o := by
  cases z
  · exact hf rfl
  · exact ht rfl
def pm_Pc (D : va_G) (aC : Nat → ClassId) (B b : Nat) (h : pm_H) (as : List Value) : Array Value → State → Prop := fun v U => v = (as.map (pm_v B b)).toArray ∧ U.heap.size = B + h.length ∧ va_P D vwCl (pm_w B b aC h) U.heap ∧ pm_K D aC U
def pm_Qc (D : va_G) (aC : Nat → ClassId) (B b : Nat) (h' : pm_H) (r : Option Value) : Array Value → State → Outcome → State → Prop := fun _ st oc t => oc = .returned (r.map (pm_v B b)) ∧ t.heap.size = B + h'.length ∧ va_P D vwCl (pm_w B b aC h') t.heap ∧ st.heap.size ≤ t.heap.size ∧ ∀ q : Nat, q < B → t.heap[q]? = st.heap[q]?
theorem pm_Pc_blind (D : va_G) (aC : Nat → ClassId) (B b : Nat) (h : pm_H) (as : List Value) : FrameBlind (pm_Pc D aC B b h as) := fun _ _ _ _ q => ⟨q.1, q.2.1, q.2.2.1, q.2.2.2.call⟩
/-- a method's contract of one run: from this heap and these arguments it comes to that heap and that answer -/
def pm_Mt (l : Launch) (D : va_G) (aC : Nat → ClassId) (B b : Nat) (y : MethodName) (bytes : ByteArray) (maxL : Nat) (ret : Option FieldType) (rF rL mc ms : Nat) (h : pm_H) (as : List Value) (h' : pm_H) (r : Option Value) : Prop :=
  Met l y (.code y bytes maxL ret :: pm_T) { frames := rF, cells := mc, slots := ms, locals := rL } (pm_Pc D aC B b h as) (pm_Qc D aC B b h' r) mc ms (fun q => B ≤ q)
section PMC
variable {p : Program} {l : Launch} {e : Env} {R : Room} {s : State} {m : MethodId} {args : Array Value} {below : List Frame} {meth : Method} {c : Code} {D : va_G} {aC : Nat → ClassId} {B b : Nat} {Q : State → Prop}
theorem pm_called {H : Heap} {locs : List Loc} {cells slots mc ms pc : Nat} {ls : Array Slot} {st0 rest : List Value} {h' : pm_H} {r : Option Value} {a : Array Value} (hr : va_Run p l e R s m args below meth c H locs cells slots mc ms (F0 m pc ls st0) rest (pm_Qc D aC B b h' r a) (fun q => B ≤ q)) (hS : va_S (fun q => B ≤ q) s.heap H locs) (hB : B ≤ s.heap.size)
    (kk : ∀ (H1 : Heap) (locs1 : List Loc), H1.size = B + h'.length → va_P D vwCl (pm_w B b aC h') H1 → va_S (fun q => B ≤ q) s.heap H1 locs1 → W p l e R s m args below meth c H1 locs1 (cells + mc) (slots + ms) Q (F0 m (pc + 3) ls ((r.map (pm_v B b)).toList ++ rest))) : W p l e R s m args below meth c H locs cells slots Q (F0 m pc ls st0) := by
  intro T hT X
  obtain ⟨v, st₀, t, T', L, h0, X', hL, e1, e2, ⟨hv, hz, hP, hg, hk⟩, st⟩ := hr T hT X
  have hv : v = r.map (pm_v B b) := by injection hv
  subst hv
  rw [h0] at hg hk
  obtain ⟨t2, a1, b1⟩ := kk T'.heap (locs ++ L) (by rw [e1]; exact hz) (by rw [e1]; exact hP) ⟨Nat.le_trans hS.1 (by rw [e1]; exact hg), fun q h1 h2 => by rw [e1, hk q (Nat.not_le.mp h2)]; exact hS.2.1 q h1 h2, fun q hq => by
      rcases List.mem_append.mp hq with h | h
      · exact hS.2.2 q h
      · exact hL q h⟩ T' rfl X'
  exact ⟨t2, st t2 a1, b1⟩
end PMC
/-- a call of the pure machine is one of the machine -/
def pm_okC (cc : ByteArray) (own : String) (nL : Nat) (ini : Bool) (pc : Nat) (y : MethodName) (bytes : ByteArray) (maxL : Nat) (ret : Option FieldType) (k : Nat) (ci : Option Nat) (mc ms : Nat) : Prop :=
  ∀ (p : Program) (l : Launch) (e : Env) (R : Room) (s : State) (m : MethodId) (args : Array Value) (below : List Frame) (meth : Method) (c : Code) (D : va_G) (aC : Nat → ClassId) (B b : Nat) (Q : State → Prop),
    pm_C p s m args meth c cc own nL ini D aC B → ∀ (rF rL : Nat), rF + 1 ≤ R.frames → rL + 100 ≤ R.locals → ∀ (lv : List (Nat × Value)) (st : List Value) (w : pm_H × Nat × Nat) (h' : pm_H) (r : Option Value), pm_chk k ci mc ms st w → pm_Mt l D aC B b y bytes maxL ret rF rL mc ms w.1 (st.take k).reverse h' r →
      pm_W p l e R s m args below meth c nL D aC B b Q (pc + 3, lv, r.toList ++ st.drop k, h', w.2.1 - mc, w.2.2 - ms) → pm_W p l e R s m args below meth c nL D aC B b Q (pc, lv, st, w)
theorem pm_good {y : MethodName} {bytes : ByteArray} {maxL : Nat} {ret : Option FieldType} (hcw : Cond.code y bytes maxL ret ∈ pm_T) : GoodIn pm_T (.code y bytes maxL ret :: pm_T) := by
  intro w hw
  rcases List.mem_cons.mp hw with rfl | hw
  · exact ⟨hcw, pm_T_word hcw⟩
  · exact ⟨hw, pm_T_word hw⟩
theorem pm_st_split {st : List Value} {k : Nat} (h : k ≤ st.length) : st = (st.take k).reverse.reverse ++ st.drop k := by
  rw [List.reverse_reverse, List.take_append_drop]
theorem pm_len_as {st : List Value} {k : Nat} (h : k ≤ st.length) : (st.take k).reverse.length = k := by
  rw [List.length_reverse, List.length_take]; omega
theorem pm_toList (B b : Nat) (r : Option Value) (st : List Value) : (r.toList ++ st).map (pm_v B b) = (r.map (pm_v B b)).toList ++ st.map (pm_v B b) := by
  cases r <;> simp
theorem k_callV {cc : ByteArray} {own : String} {nL pc : Nat} {ini : Bool} {index : Nat} {y : MethodName} {bytes : ByteArray} {maxL : Nat} {ret : Option FieldType} {n ci mc ms N : Nat} {T : u_T} (hd : decode cc pc = .ok (.invokevirtual index, 3)) (hc : vwCl[ci]? = some (y.cls, T, N)) (hcw : Cond.code y bytes maxL ret ∈ pm_T) (hw1 : Cond.methodLink own index y ∈ pm_T) (hw2 : Cond.instanceMethod y ∈ pm_T) (hw3 : Cond.selects y.cls y y ∈ pm_T) (hw4 : Cond.initialized y.cls ∈ pm_T) (hdesc : y.cls ≠ "java/lang/invoke/MethodHandle" ∧ y.cls ≠ "java/lang/invoke/VarHandle" ∧ (parseMethodDescriptor y.desc).map (fun d => d.parameters.length) = some n) (hL : maxL ≤ 80) : pm_okC cc own nL ini pc y bytes maxL ret (n + 1) (some ci) mc ms := by
  intro p l e R s m args below meth c D aC B b Q Cx rF rL hR1 hR2 lv st w h' r hch hM kk
  intro H locs ls cells slots h1 h2 h3 h4 h5 h6
  obtain ⟨c1, c2, c3, c4, c5⟩ := hch
  obtain ⟨a, fs, as, e1, e2⟩ := c2 ci rfl
  have hst := pm_st_split c1
  have hlen := pm_len_as c1
  simp only at h2 h3 h5 h6
  rw [e1] at hM hst hlen
  generalize hrest : st.drop (n + 1) = rest at hst kk c3
  subst hst
  refine pm_called (rest := rest.map (pm_v B b)) (va_runV (As := as.map (pm_v B b)) (b := B + a) (n := n) ⟨Cx.1, Cx.2.1, Cx.2.2.1, Cx.2.2.2.1, Cx.2.2.2.2.1⟩ hM (cwV n Cx.2.2.2.2.1 ?_ rfl rfl rfl ⟨rfl, hdesc⟩ ⟨hR1, by show 8 + (maxL + 11) + rL ≤ R.locals; omega⟩) ⟨pm_Pc_blind D aC B b w.1 (.ref a :: as), va_recv Cx.2.2.2.2.2.1.1 h3 hc (pm_w_at e2), fun U hU hW => ⟨rfl, by rw [hU]; exact h2, by rw [hU]; exact h3, Cx.2.2.2.2.2.1.moved hW⟩⟩ rfl (by simp at hlen ⊢; omega) h1.1 (by simp [List.map_append]; rfl) (lv_room (by rw [pm_sz_v]; exact c3)) hd ⟨by omega, by omega⟩) h4 Cx.2.2.2.2.2.2.1 (fun H1 locs1 z1 g1 g2 => ?_)
  · intro x hx
    rcases List.mem_append.mp hx with hx | hx
    · have : x ∈ pm_T := by
        simp only [List.mem_cons, List.not_mem_nil, or_false] at hx
        rcases hx with rfl | rfl | rfl | rfl
        · exact hw1
        · exact hw2
        · exact hw3
        · exact hw4
      exact ⟨this, pm_T_word this⟩
    · exact pm_good hcw x hx
  · have k2 := kk H1 locs1 ls (cells + mc) (slots + ms) h1 z1 g1 g2 (by simp only; omega) (by simp only; omega)
    simp only [pm_toList] at k2
    exact k2
theorem k_callS {cc : ByteArray} {own : String} {nL pc : Nat} {ini : Bool} {index : Nat} {y : MethodName} {bytes : ByteArray} {maxL : Nat} {ret : Option FieldType} {n mc ms : Nat} (hd : decode cc pc = .ok (.invokestatic index, 3)) (hcw : Cond.code y bytes maxL ret ∈ pm_T) (hw1 : Cond.methodLink own index y ∈ pm_T) (hw2 : Cond.static y ∈ pm_T) (hw4 : Cond.initialized y.cls ∈ pm_T) (hdesc : y.cls ≠ "java/lang/invoke/MethodHandle" ∧ y.cls ≠ "java/lang/invoke/VarHandle" ∧ (parseMethodDescriptor y.desc).map (fun d => d.parameters.length) = some n) (hL : maxL ≤ 80) : pm_okC cc own nL ini pc y bytes maxL ret n none mc ms := by
  intro p l e R s m args below meth c D aC B b Q Cx rF rL hR1 hR2 lv st w h' r hch hM kk
  intro H locs ls cells slots h1 h2 h3 h4 h5 h6
  obtain ⟨c1, c2, c3, c4, c5⟩ := hch
  have hst := pm_st_split c1
  have hlen := pm_len_as c1
  simp only at h2 h3 h5 h6
  generalize hrest : st.drop n = rest at hst kk c3
  generalize has : (st.take n).reverse = as at hM hst hlen
  subst hst
  refine pm_called (rest := rest.map (pm_v B b)) (va_runS (As := as.map (pm_v B b)) (n := n) ⟨Cx.1, Cx.2.1, Cx.2.2.1, Cx.2.2.2.1, Cx.2.2.2.2.1⟩ hM ⟨callB_of n Cx.2.2.2.2.1 (pm_good hcw) rfl rfl rfl (Cx.2.2.2.2.1 _ hw4) (Cx.2.2.2.2.1 _ hw1) hdesc ⟨hR1, by show 8 + (maxL + 11) + rL ≤ R.locals; omega⟩, Cx.2.2.2.2.1 _ hw2⟩ ⟨pm_Pc_blind D aC B b w.1 as, fun U hU hW => ⟨rfl, by rw [hU]; exact h2, by rw [hU]; exact h3, Cx.2.2.2.2.2.1.moved hW⟩⟩ rfl (by rw [List.length_map]; exact hlen) h1.1 (by simp [List.map_append]) (lv_room (by rw [pm_sz_v]; exact c3)) hd ⟨by omega, by omega⟩) h4 Cx.2.2.2.2.2.2.1 (fun H1 locs1 z1 g1 g2 => ?_)
  have k2 := kk H1 locs1 ls (cells + mc) (slots + ms) h1 z1 g1 g2 (by simp only; omega) (by simp only; omega)
  simp only [pm_toList] at k2
  exact k2
theorem k_callI {cc : ByteArray} {own : String} {nL pc : Nat} {ini : Bool} {index : Nat} {y : MethodName} {bytes : ByteArray} {maxL : Nat} {n ci mc ms : Nat} (hd : decode cc pc = .ok (.invokespecial index, 3)) (hcw : Cond.code y bytes maxL none ∈ pm_T) (hw1 : Cond.methodLink own index y ∈ pm_T) (hw2 : Cond.instanceMethod y ∈ pm_T) (hw4 : Cond.initialized y.cls ∈ pm_T) (hnm : y.name = "<init>") (hdesc : y.cls ≠ "java/lang/invoke/MethodHandle" ∧ y.cls ≠ "java/lang/invoke/VarHandle" ∧ (parseMethodDescriptor y.desc).map (fun d => d.parameters.length) = some n) (hL : maxL ≤ 80) : pm_okC cc own nL ini pc y bytes maxL none (n + 1) (some ci) mc ms := by
  intro p l e R s m args below meth c D aC B b Q Cx rF rL hR1 hR2 lv st w h' r hch hM kk
  intro H locs ls cells slots h1 h2 h3 h4 h5 h6
  obtain ⟨c1, c2, c3, c4, c5⟩ := hch
  obtain ⟨a, fs, as, e1, e2⟩ := c2 ci rfl
  have hst := pm_st_split c1
  have hlen := pm_len_as c1
  simp only at h2 h3 h5 h6
  rw [e1] at hM hst hlen
  generalize hrest : st.drop (n + 1) = rest at hst kk c3
  subst hst
  refine pm_called (rest := rest.map (pm_v B b)) (va_runI (As := as.map (pm_v B b)) (b := B + a) (n := n) ⟨Cx.1, Cx.2.1, Cx.2.2.1, Cx.2.2.2.1, Cx.2.2.2.2.1⟩ hM (cwI n Cx.2.2.2.2.1 (pm_good hcw) rfl rfl rfl (Cx.2.2.2.2.1 _ hw4) (Cx.2.2.2.2.1 _ hw1) (Cx.2.2.2.2.1 _ hw2) hnm hdesc ⟨hR1, by show 8 + (maxL + 11) + rL ≤ R.locals; omega⟩) ⟨pm_Pc_blind D aC B b w.1 (.ref a :: as), fun U hU hW => ⟨rfl, by rw [hU]; exact h2, by rw [hU]; exact h3, Cx.2.2.2.2.2.1.moved hW⟩⟩ rfl (by simp at hlen ⊢; omega) h1.1 (by simp [List.map_append]; rfl) (lv_room (by rw [pm_sz_v]; exact c3)) hd ⟨by omega, by omega⟩) h4 Cx.2.2.2.2.2.2.1 (fun H1 locs1 z1 g1 g2 => ?_)
  have k2 := kk H1 locs1 ls (cells + mc) (slots + ms) h1 z1 g1 g2 (by simp only; omega) (by simp only; omega)
  simp only [pm_toList] at k2
  exact k2
end
section
/-! THE PURE MACHINE, part 5: a method by its run, to any depth of calls; the law's own rows -/
/-- name, code, locals, answer's type, class, constructor, cells, slots, rows -/
abbrev pm_M : Type := MethodName × ByteArray × Nat × Option FieldType × Bool × Nat × Nat × List (Nat × pm_I)
/-- the methods' runs, calls at most d deep -/
def pm_Rt (P : List (Nat × pm_M)) : Nat → pm_Call
  | 0 => fun _ _ _ _ _ => False
  | d + 1 => fun y h as h' r => ∃ I : pm_M, pm_at P y = some I ∧ (lg_sl as).length ≤ I.2.2.1 ∧ pm_Go (pm_at I.2.2.2.2.2.2.2) (pm_Rt P d) (0, lv_args 0 as, [], h, I.2.2.2.2.2.1, I.2.2.2.2.2.2.1) (h', r)
/-- a return of the pure machine is one of the machine -/
def pm_okR (cc : ByteArray) (ret : Option FieldType) (pc kd : Nat) : Prop := match kd with
  | 0 => ret = none ∧ decode cc pc = .ok (.return_, 1)
  | 1 => ret = some .int ∧ decode cc pc = .ok (.ireturn, 1)
  | 2 => ret = some .boolean ∧ decode cc pc = .ok (.ireturn, 1)
  | _ => ret = some .long ∧ decode cc pc = .ok (.lreturn, 1)
/-- a row is sound: its step, its call, its return -/
def pm_ok (P : List (Nat × pm_M)) (cc : ByteArray) (own : String) (nL : Nat) (ini : Bool) (ret : Option FieldType) (q : Nat × pm_I) : Prop := match q.2 with
  | .inl f => pm_okF cc own nL ini q.1 f
  | .inr (.inl (y, k, ci, mc, ms)) => ∃ I : pm_M, pm_at P y = some I ∧ I.2.2.2.2.2.1 = mc ∧ I.2.2.2.2.2.2.1 = ms ∧ pm_okC cc own nL ini q.1 I.1 I.2.1 I.2.2.1 I.2.2.2.1 k ci mc ms
  | .inr (.inr kd) => pm_okR cc ret q.1 kd
def pm_okM (P : List (Nat × pm_M)) (I : pm_M) : Prop := plainName I.1.cls = true ∧ (I.2.2.2.2.1 = true → I.1.name = "<init>") ∧ ∀ q ∈ I.2.2.2.2.2.2.2, pm_ok P I.2.1 I.1.cls I.2.2.1 I.2.2.2.2.1 I.2.2.2.1 q
section PMR
variable {p : Program} {l : Launch} {e : Env} {R : Room} {s : State} {m : MethodId} {args : Array Value} {below : List Frame} {meth : Method} {c : Code} {nL : Nat} {D : va_G} {aC : Nat → ClassId} {B b : Nat} {Q : State → Prop}
/-- a run of the pure machine is one of the machine -/
theorem pm_run {look : Nat → Option pm_I} {call : pm_Call} {o : pm_H × Option Value}
    (hF : ∀ (pc : Nat) (f : pm_S → Option pm_S), look pc = some (.inl f) → ∀ (lv : List (Nat × Value)) (st : List Value) (w : pm_H × Nat × Nat) (σ' : pm_S), f (pc, lv, st, w) = some σ' → pm_W p l e R s m args below meth c nL D aC B b Q σ' → pm_W p l e R s m args below meth c nL D aC B b Q (pc, lv, st, w))
    (hC : ∀ (pc y k : Nat) (ci : Option Nat) (mc ms : Nat), look pc = some (.inr (.inl (y, k, ci, mc, ms))) → ∀ (lv : List (Nat × Value)) (st : List Value) (w : pm_H × Nat × Nat) (h' : pm_H) (r : Option Value), call y w.1 (st.take k).reverse h' r → pm_chk k ci mc ms st w → pm_W p l e R s m args below meth c nL D aC B b Q (pc + 3, lv, r.toList ++ st.drop k, h', w.2.1 - mc, w.2.2 - ms) → pm_W p l e R s m args below meth c nL D aC B b Q (pc, lv, st, w))
    (hR : ∀ (pc kd : Nat), look pc = some (.inr (.inr kd)) → ∀ (lv : List (Nat × Value)) (st : List Value) (w : pm_H × Nat × Nat), pm_ret kd st w.1 o → pm_W p l e R s m args below meth c nL D aC B b Q (pc, lv, st, w)) :
    ∀ (n : Nat) (σ : pm_S), pm_go look call n σ o → pm_W p l e R s m args below meth c nL D aC B b Q σ := by
  intro n
  induction n with
  | zero => intro σ h; exact h.elim
  | succ n ih =>
    intro σ h
    obtain ⟨pc, lv, st, w⟩ := σ
    unfold pm_go at h
    simp only at h
    cases ha : look pc with
    | none => rw [ha] at h; exact h.elim
    | some x =>
      rw [ha] at h
      match x, ha, h with
      | .inl f, ha, h =>
        simp only at h
        cases hf : f (pc, lv, st, w) with
        | none => rw [hf] at h; exact h.elim
        | some σ' =>
          rw [hf] at h
          exact hF pc f ha lv st w σ' hf (ih σ' h)
      | .inr (.inl (y, k, ci, mc, ms)), ha, h =>
        obtain ⟨h', r, c1, c2, c3⟩ := h
        exact hC pc y k ci mc ms ha lv st w h' r c1 c2 (ih _ c3)
      | .inr (.inr kd), ha, h => exact hR pc kd ha lv st w h
end PMR
theorem pm_args (B b : Nat) : ∀ (as : List Value) (i : Nat), lv_args i (as.map (pm_v B b)) = (lv_args i as).map (pm_q B b)
  | [], _ => rfl
  | v :: as, i => by
    simp only [List.map_cons, lv_args, pm_v_cat]
    rw [pm_args B b as]
    rfl
theorem pm_sl (B b : Nat) (as : List Value) : (lg_sl (as.map (pm_v B b))).length = (lg_sl as).length := by
  induction as with
  | nil => rfl
  | cons v as ih =>
    simp only [lg_sl, List.map_cons, List.flatMap_cons, List.length_append, pm_v_cat] at ih ⊢
    rw [ih]
    split <;> rfl
/-- every method of the program, calls at most d deep -/
theorem pm_sound {P : List (Nat × pm_M)} (hP : ∀ q ∈ P, pm_okM P q.2) (l : Launch) (D : va_G) (aC : Nat → ClassId) (B b : Nat) : ∀ (d y : Nat) (h : pm_H) (as : List Value) (h' : pm_H) (r : Option Value) (I : pm_M), pm_at P y = some I → pm_Rt P d y h as h' r → pm_Mt l D aC B b I.1 I.2.1 I.2.2.1 I.2.2.2.1 (d + 1) (100 * (d + 1)) I.2.2.2.2.2.1 I.2.2.2.2.2.2.1 h as h' r := by
  intro d
  induction d with
  | zero => intro y h as h' r I _ hr; exact hr.elim
  | succ d ih =>
    intro y h as h' r I hI hr
    obtain ⟨I', hI', hlen, n, hgo⟩ := hr
    obtain rfl : I' = I := Option.some.inj (hI'.symm.trans hI)
    have hok := hP _ (pm_at_in hI)
    obtain ⟨yn, bytes, maxL, ret, ini, mc, ms, tab⟩ := I'
    obtain ⟨hpl, hini, hrows⟩ := hok
    dsimp only at hlen hgo hpl hini hrows ⊢
    refine Met.ofW (cc := bytes) (maxL := maxL) (ret := ret) hpl rfl ?_
    intro p e s m args below meth c s₁ Bd hml hv
    obtain ⟨rfl, hsz, hPw, hK⟩ := hv
    have hts := atoms_spec (ws := .code yn bytes maxL ret :: pm_T) Bd.pre
    have hown : s.vm.findClass yn.cls = some m.cls := findClass_of_methodNamed Bd.named
    have hlocks := Bd.notSynchronized
    have hBs : B ≤ s.heap.size := by rw [hsz]; exact Nat.le_add_right _ _
    have Cx : pm_C p s m ((as.map (pm_v B b)).toArray) meth c bytes yn.cls maxL ini D aC B := ⟨Bd.exec, Bd.bytes, hml, hown, fun w hw => hts w (List.mem_cons_of_mem _ hw), hK, hBs, fun hi => by rw [← hini hi]; exact (name_of_methodNamed Bd.named Bd.method).1⟩
    have hl := lv_entry (as.map (pm_v B b)) (n := maxL) (by rw [pm_sl]; exact hlen)
    rw [pm_args] at hl
    rw [lg_entry_eq]
    refine pm_run (look := pm_at tab) (call := pm_Rt P d) (o := (h', r)) ?_ ?_ ?_ n _ hgo s.heap [] _ 0 0 hl hsz hPw va_S.rf (by show 0 + mc ≤ mc; omega) (by show 0 + ms ≤ ms; omega)
    · intro pc f ha lv st w σ' hf k
      have hq : pm_okF bytes yn.cls maxL ini pc f := hrows _ (pm_at_in ha)
      exact hq p l e _ s m _ below meth c D aC B b _ Cx (by show 1 ≤ d + 1 + 1; omega) (by show 100 ≤ 100 * (d + 1 + 1); omega) lv st w σ' hf k
    · intro pc y2 k ci mc2 ms2 ha lv st w h2 r2 hcall hch kk
      obtain ⟨I2, e1, e2, e3, e4⟩ : ∃ I : pm_M, pm_at P y2 = some I ∧ I.2.2.2.2.2.1 = mc2 ∧ I.2.2.2.2.2.2.1 = ms2 ∧ pm_okC bytes yn.cls maxL ini pc I.1 I.2.1 I.2.2.1 I.2.2.2.1 k ci mc2 ms2 := hrows _ (pm_at_in ha)
      subst e2; subst e3
      exact e4 p l e _ s m _ below meth c D aC B b _ Cx (d + 1) (100 * (d + 1)) (by show d + 1 + 1 ≤ d + 1 + 1; omega) (by show 100 * (d + 1) + 100 ≤ 100 * (d + 1 + 1); omega) lv st w h2 r2 hch (ih y2 w.1 _ h2 r2 I2 e1 hcall) kk
    · intro pc kd ha lv st w hret
      have hq : pm_okR bytes ret pc kd := hrows _ (pm_at_in ha)
      intro H locs ls cells slots h1 h2 h3 h4 h5 h6
      dsimp only at h1 h2 h3 h5 h6
      have hQ : ∀ t : State, t.heap = H → ∀ r0 : Option Value, (h', r) = (w.1, r0) → pm_Qc D aC B b h' r ((as.map (pm_v B b)).toArray) s (.returned (r0.map (pm_v B b))) t := by
        intro t ht r0 ho
        cases ho
        refine ⟨rfl, by rw [ht]; exact h2, by rw [ht]; exact h3, by rw [ht]; exact h4.1, fun q hq => ?_⟩
        rw [ht]
        exact h4.2.1 q (Nat.lt_of_lt_of_le hq hBs) (Nat.not_le.mpr hq)
      have hcc : cells ≤ mc := by
        have z : cells + w.2.1 ≤ mc := h5
        omega
      have hss : slots ≤ ms := by
        have z : slots + w.2.2 ≤ ms := h6
        omega
      refine W.widen hcc hss ?_
      match kd, hq, hret with
      | 0, hq, hret =>
        obtain ⟨rfl, ho⟩ := hret
        exact W.vret Bd.exec Bd.bytes (Bd.returns.trans hq.1) (fun t ht hW => hQ t ht none ho) h4.2.2 hq.2
      | 1, hq, hret =>
        obtain ⟨v, rfl, ho⟩ := hret
        exact W.iret Bd.exec Bd.bytes (Bd.returns.trans hq.1) (fun t ht hW => hQ t ht (some (.int v)) ho) h4.2.2 hq.2
      | 2, hq, hret =>
        obtain ⟨v, rfl, hv, ho⟩ := hret
        exact W.zret Bd.exec Bd.bytes (Bd.returns.trans hq.1) (by rcases hv with rfl | rfl <;> rfl) (fun t ht hW => hQ t ht (some (.int v)) ho) h4.2.2 hq.2
      | k + 3, hq, hret =>
        obtain ⟨v, rfl, ho⟩ := hret
        exact W.lret Bd.exec Bd.bytes (Bd.returns.trans hq.1) (fun t ht hW => hQ t ht (some (.long v)) ho) h4.2.2 hq.2
end
section
/-! THE PURE MACHINE, part 6: the law's own rows (its script), switches, tables in blocks -/
/-- a step of the law, which may read its script of L ints xs -/
def pm_okX (cc : ByteArray) (own : String) (nL L : Nat) (xs : Nat → Int32) (pc : Nat) (f : pm_S → Option pm_S) : Prop :=
  ∀ (p : Program) (l : Launch) (e : Env) (R : Room) (s : State) (m : MethodId) (args : Array Value) (below : List Frame) (meth : Method) (c : Code) (D : va_G) (aC : Nat → ClassId) (B b : Nat) (Q : State → Prop),
    pm_C p s m args meth c cc own nL false D aC B → va_X b L xs s s.heap → b < B → 1 ≤ R.frames → 100 ≤ R.locals → ∀ (lv : List (Nat × Value)) (st : List Value) (w : pm_H × Nat × Nat) (σ' : pm_S), f (pc, lv, st, w) = some σ' →
      pm_W p l e R s m args below meth c nL D aC B b Q σ' → pm_W p l e R s m args below meth c nL D aC B b Q (pc, lv, st, w)
theorem pm_okX_of {cc : ByteArray} {own : String} {nL L pc : Nat} {xs : Nat → Int32} {f : pm_S → Option pm_S} (h : pm_okF cc own nL false pc f) : pm_okX cc own nL L xs pc f :=
  fun p l e R s m args below meth c D aC B b Q C _ _ h1 h2 => h p l e R s m args below meth c D aC B b Q C h1 h2
def s_sld (L : Nat) (xs : Nat → Int32) (n : Nat) : pm_S → Option pm_S := fun σ => match σ.2.2.1 with
  | .int i :: .retAddr _ :: st => bif pm_ix i L then some (n, σ.2.1, .int (xs i.toNatClampNeg) :: st, σ.2.2.2) else none
  | _ => none
theorem k_sld {cc : ByteArray} {own : String} {nL L pc : Nat} {xs : Nat → Int32} (hd : decode cc pc = .ok (.iaload, 1)) : pm_okX cc own nL L xs pc (s_sld L xs (pc + 1)) := by
  intro p l e R s m args below meth c D aC B b Q Cx hX hbB hR1 hR2 lv st w σ' hf kk
  simp only [s_sld] at hf
  split at hf
  · rename_i i a st
    cases hb : pm_ix i L with
    | false => rw [hb] at hf; cases hf
    | true =>
      rw [hb] at hf
      obtain rfl := Option.some.inj hf
      intro H locs ls cells slots h1 h2 h3 h4 h5 h6
      exact va_sld (A := fun q => B ≤ q) Cx.1 Cx.2.1 hX (Nat.lt_of_lt_of_le hbB Cx.2.2.2.2.2.2.1) (Nat.not_le.mpr hbB) h4 (pm_ix_in hb) hd (kk H locs ls cells slots h1 h2 h3 h4 h5 h6)
  · cases hf
def s_slen (L : Nat) (n : Nat) : pm_S → Option pm_S := fun σ => match σ.2.2.1 with
  | .retAddr _ :: st => some (n, σ.2.1, .int (Int32.ofNat L) :: st, σ.2.2.2)
  | _ => none
theorem k_slen {cc : ByteArray} {own : String} {nL L pc : Nat} {xs : Nat → Int32} (hd : decode cc pc = .ok (.arraylength, 1)) : pm_okX cc own nL L xs pc (s_slen L (pc + 1)) := by
  intro p l e R s m args below meth c D aC B b Q Cx hX hbB hR1 hR2 lv st w σ' hf kk
  simp only [s_slen] at hf
  split at hf
  · rename_i a st
    obtain rfl := Option.some.inj hf
    intro H locs ls cells slots h1 h2 h3 h4 h5 h6
    exact va_slen (A := fun q => B ≤ q) Cx.1 Cx.2.1 hX (Nat.lt_of_lt_of_le hbB Cx.2.2.2.2.2.2.1) (Nat.not_le.mpr hbB) h4 hd (kk H locs ls cells slots h1 h2 h3 h4 h5 h6)
  · cases hf
def s_tsw (lo hi : Int) (ts : List Nat) (d : Nat) : pm_S → Option pm_S := fun σ => match σ.2.2.1 with
  | .int x :: st => bif decide (x.toInt < lo) || decide (hi < x.toInt) then some (d, σ.2.1, st, σ.2.2.2) else (match ts[(x.toInt - lo).toNat]? with | some t => some (t, σ.2.1, st, σ.2.2.2) | none => none)
  | _ => none
theorem k_tsw {cc : ByteArray} {own : String} {nL pc : Nat} {ini : Bool} {dflt lo hi : Int} {offs : Array Int} {len d : Nat} {ts : List Nat} (hd : decode cc pc = .ok (.tableswitch dflt lo hi offs, len)) (h0 : (pc : Int) + dflt = (d : Int)) (ht : offs.toList.map (fun o => (pc : Int) + o) = ts.map (fun t : Nat => (t : Int))) : pm_okF cc own nL ini pc (s_tsw lo hi ts d) := by
  intro p l e R s m args below meth c D aC B b Q Cx hR1 hR2 lv st w σ' hf kk
  simp only [s_tsw] at hf
  split at hf
  · rename_i x st
    cases hb : (decide (x.toInt < lo) || decide (hi < x.toInt)) with
    | true =>
      rw [hb] at hf
      obtain rfl := Option.some.inj hf
      intro H locs ls cells slots h1 h2 h3 h4 h5 h6
      refine lv_tableOut Cx.1 Cx.2.1 hd ?_ h0 (kk H locs ls cells slots h1 h2 h3 h4 h5 h6)
      simpa using hb
    | false =>
      rw [hb] at hf
      simp only [cond_false] at hf
      have hb2 : ¬ x.toInt < lo ∧ ¬ hi < x.toInt := by simpa using hb
      split at hf
      · rename_i t htt
        obtain rfl := Option.some.inj hf
        have e1 : (offs.toList.map (fun o => (pc : Int) + o))[(x.toInt - lo).toNat]? = some (t : Int) := by rw [ht, List.getElem?_map, htt]; rfl
        rw [List.getElem?_map] at e1
        cases ho : offs.toList[(x.toInt - lo).toNat]? with
        | none => rw [ho] at e1; cases e1
        | some o =>
          rw [ho] at e1
          intro H locs ls cells slots h1 h2 h3 h4 h5 h6
          exact lv_tableIn Cx.1 Cx.2.1 hd hb2.1 hb2.2 (by rw [← Array.getElem?_toList]; exact ho) (Option.some.inj e1) (kk H locs ls cells slots h1 h2 h3 h4 h5 h6)
      · cases hf
  · cases hf
/-- tables in blocks: each with a bound above its places -/
def pm_tr : List (Nat × List (Nat × pm_I)) → Nat → Option pm_I
  | [], _ => none
  | q :: l, pc => bif Nat.blt pc q.1 then pm_at q.2 pc else pm_tr l pc
theorem pm_tr_in {pc : Nat} {x : pm_I} : ∀ {l : List (Nat × List (Nat × pm_I))}, pm_tr l pc = some x → ∃ q ∈ l, (pc, x) ∈ q.2
  | [], h => by cases h
  | q :: l, h => by
    unfold pm_tr at h
    cases hb : Nat.blt pc q.1 with
    | true =>
      rw [hb] at h
      exact ⟨q, List.mem_cons_self, pm_at_in h⟩
    | false =>
      rw [hb] at h
      obtain ⟨q', h1, h2⟩ := pm_tr_in (l := l) h
      exact ⟨q', List.mem_cons_of_mem _ h1, h2⟩
/-- a row of the law is sound -/
def pm_okL (P : List (Nat × pm_M)) (L : Nat) (xs : Nat → Int32) (q : Nat × pm_I) : Prop := match q.2 with
  | .inl f => pm_okX cL_law RL 4 L xs q.1 f
  | .inr (.inl (y, k, ci, mc, ms)) => ∃ I : pm_M, pm_at P y = some I ∧ I.2.2.2.2.2.1 = mc ∧ I.2.2.2.2.2.2.1 = ms ∧ pm_okC cL_law RL 4 false q.1 I.1 I.2.1 I.2.2.1 I.2.2.2.1 k ci mc ms
  | .inr (.inr kd) => kd = 2 ∧ decode cL_law q.1 = .ok (.ireturn, 1)
theorem pm_t0 {w : Cond} (i : Nat) (h : (k2_sels lw_privs)[i]? = some w) (hg : goodWord w = true) : w ∈ pm_T := List.mem_filter.mpr ⟨List.mem_append_left _ (List.mem_of_getElem? h), hg⟩
theorem pm_t1 {w : Cond} (i : Nat) (h : tables_1_1[i]? = some w) (hg : goodWord w = true) : w ∈ pm_T := List.mem_filter.mpr ⟨List.mem_append_right _ (List.mem_append_left _ (List.mem_of_getElem? h)), hg⟩
theorem pm_t2 {w : Cond} (i : Nat) (h : tables_1_2[i]? = some w) (hg : goodWord w = true) : w ∈ pm_T := List.mem_filter.mpr ⟨List.mem_append_right _ (List.mem_append_right _ (List.mem_append_left _ (List.mem_of_getElem? h))), hg⟩
theorem pm_t3 {w : Cond} (i : Nat) (h : tables_1_3[i]? = some w) (hg : goodWord w = true) : w ∈ pm_T := List.mem_filter.mpr ⟨List.mem_append_right _ (List.mem_append_right _ (List.mem_append_right _ (List.mem_append_left _ (List.mem_of_getElem? h)))), hg⟩
theorem pm_t4 {w : Cond} (i : Nat) (h : tables_1_4[i]? = some w) (hg : goodWord w = true) : w ∈ pm_T := List.mem_filter.mpr ⟨List.mem_append_right _ (List.mem_append_right _ (List.mem_append_right _ (List.mem_append_right _ (List.mem_append_left _ (List.mem_of_getElem? h))))), hg⟩
theorem pm_t5 {w : Cond} (i : Nat) (h : tables_1_5[i]? = some w) (hg : goodWord w = true) : w ∈ pm_T := List.mem_filter.mpr ⟨List.mem_append_right _ (List.mem_append_right _ (List.mem_append_right _ (List.mem_append_right _ (List.mem_append_right _ (List.mem_append_left _ (List.mem_of_getElem? h)))))), hg⟩
theorem pm_t6 {w : Cond} (i : Nat) (h : tables_1_6[i]? = some w) (hg : goodWord w = true) : w ∈ pm_T := List.mem_filter.mpr ⟨List.mem_append_right _ (List.mem_append_right _ (List.mem_append_right _ (List.mem_append_right _ (List.mem_append_right _ (List.mem_append_right _ (List.mem_append_left _ (List.mem_of_getElem? h))))))), hg⟩
theorem pm_t7 {w : Cond} (i : Nat) (h : tables_1_7[i]? = some w) (hg : goodWord w = true) : w ∈ pm_T := List.mem_filter.mpr ⟨List.mem_append_right _ (List.mem_append_right _ (List.mem_append_right _ (List.mem_append_right _ (List.mem_append_right _ (List.mem_append_right _ (List.mem_append_right _ (List.mem_append_left _ (List.mem_of_getElem? h)))))))), hg⟩
theorem pm_t8 {w : Cond} (i : Nat) (h : tables_1_8[i]? = some w) (hg : goodWord w = true) : w ∈ pm_T := List.mem_filter.mpr ⟨List.mem_append_right _ (List.mem_append_right _ (List.mem_append_right _ (List.mem_append_right _ (List.mem_append_right _ (List.mem_append_right _ (List.mem_append_right _ (List.mem_append_right _ (List.mem_append_left _ (List.mem_of_getElem? h))))))))), hg⟩
theorem pm_t9 {w : Cond} (i : Nat) (h : tables_1_9[i]? = some w) (hg : goodWord w = true) : w ∈ pm_T := List.mem_filter.mpr ⟨List.mem_append_right _ (List.mem_append_right _ (List.mem_append_right _ (List.mem_append_right _ (List.mem_append_right _ (List.mem_append_right _ (List.mem_append_right _ (List.mem_append_right _ (List.mem_append_right _ (List.mem_of_getElem? h))))))))), hg⟩
end
