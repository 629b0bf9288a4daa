section
-- ===== PART A: goes FIRST, ahead of the names: the tables' words, and 'selects' of the private methods out of them =====
/-- a private method of a class that the tables say can be made, by its rows of tables_1 -/
def lw_okq (q : MethodName × Nat) : Prop := (q.1.cls ≠ "java/lang/invoke/MethodHandle" ∧ q.1.cls ≠ "java/lang/invoke/VarHandle") ∧ Cond.instantiable q.1.cls q.2 ∈ tables_1 ∧ Cond.privateMethod q.1 ∈ tables_1 ∧ Cond.instanceMethod q.1 ∈ tables_1
theorem lw_p0 : lw_okq (⟨"CliffGarden$Nets", "hangs", "(I)Z"⟩, 14) := ⟨⟨by decide +kernel, by decide +kernel⟩, List.mem_of_getElem? (i := 33) (by decide +kernel), List.mem_of_getElem? (i := 496) (by decide +kernel), List.mem_of_getElem? (i := 497) (by decide +kernel)⟩
theorem lw_p1 : lw_okq (⟨"CliffGarden$Nets", "clearCrop", "(I)V"⟩, 14) := ⟨⟨by decide +kernel, by decide +kernel⟩, List.mem_of_getElem? (i := 33) (by decide +kernel), List.mem_of_getElem? (i := 500) (by decide +kernel), List.mem_of_getElem? (i := 501) (by decide +kernel)⟩
theorem lw_p2 : lw_okq (⟨"CliffGarden$Nets", "setCrop", "(III)V"⟩, 14) := ⟨⟨by decide +kernel, by decide +kernel⟩, List.mem_of_getElem? (i := 33) (by decide +kernel), List.mem_of_getElem? (i := 504) (by decide +kernel), List.mem_of_getElem? (i := 505) (by decide +kernel)⟩
theorem lw_p3 : lw_okq (⟨"CliffGarden", "hungCell", "(II)I"⟩, 12) := ⟨⟨by decide +kernel, by decide +kernel⟩, List.mem_of_getElem? (i := 25) (by decide +kernel), List.mem_of_getElem? (i := 512) (by decide +kernel), List.mem_of_getElem? (i := 513) (by decide +kernel)⟩
theorem lw_p4 : lw_okq (⟨"CliffGarden$Nets", "hasCrop", "(I)Z"⟩, 14) := ⟨⟨by decide +kernel, by decide +kernel⟩, List.mem_of_getElem? (i := 33) (by decide +kernel), List.mem_of_getElem? (i := 524) (by decide +kernel), List.mem_of_getElem? (i := 525) (by decide +kernel)⟩
theorem lw_p5 : lw_okq (⟨"CliffGarden$Tape", "append", "(I)V"⟩, 2) := ⟨⟨by decide +kernel, by decide +kernel⟩, List.mem_of_getElem? (i := 323) (by decide +kernel), List.mem_of_getElem? (i := 555) (by decide +kernel), List.mem_of_getElem? (i := 556) (by decide +kernel)⟩
theorem lw_p6 : lw_okq (⟨"CliffGarden$Reader", "read", "(LCliffGarden$Tape;ILCliffGarden$Statute;)I"⟩, 5) := ⟨⟨by decide +kernel, by decide +kernel⟩, List.mem_of_getElem? (i := 338) (by decide +kernel), List.mem_of_getElem? (i := 563) (by decide +kernel), List.mem_of_getElem? (i := 564) (by decide +kernel)⟩
theorem lw_p7 : lw_okq (⟨"CliffGarden$Reader", "readClause", "()Z"⟩, 5) := ⟨⟨by decide +kernel, by decide +kernel⟩, List.mem_of_getElem? (i := 338) (by decide +kernel), List.mem_of_getElem? (i := 567) (by decide +kernel), List.mem_of_getElem? (i := 568) (by decide +kernel)⟩
theorem lw_p8 : lw_okq (⟨"CliffGarden$Reader", "look", "()I"⟩, 5) := ⟨⟨by decide +kernel, by decide +kernel⟩, List.mem_of_getElem? (i := 338) (by decide +kernel), List.mem_of_getElem? (i := 571) (by decide +kernel), List.mem_of_getElem? (i := 572) (by decide +kernel)⟩
theorem lw_p9 : lw_okq (⟨"CliffGarden$Reader", "fail", "(I)Z"⟩, 5) := ⟨⟨by decide +kernel, by decide +kernel⟩, List.mem_of_getElem? (i := 338) (by decide +kernel), List.mem_of_getElem? (i := 665) (by decide +kernel), List.mem_of_getElem? (i := 666) (by decide +kernel)⟩
theorem lw_p10 : lw_okq (⟨"CliffGarden$Reader", "readSum", "(I)Z"⟩, 5) := ⟨⟨by decide +kernel, by decide +kernel⟩, List.mem_of_getElem? (i := 338) (by decide +kernel), List.mem_of_getElem? (i := 669) (by decide +kernel), List.mem_of_getElem? (i := 670) (by decide +kernel)⟩
theorem lw_p11 : lw_okq (⟨"CliffGarden$Reader", "readTerm", "(I)Z"⟩, 5) := ⟨⟨by decide +kernel, by decide +kernel⟩, List.mem_of_getElem? (i := 338) (by decide +kernel), List.mem_of_getElem? (i := 673) (by decide +kernel), List.mem_of_getElem? (i := 674) (by decide +kernel)⟩
theorem lw_p12 : lw_okq (⟨"CliffGarden$Reader", "readFactor", "(I)Z"⟩, 5) := ⟨⟨by decide +kernel, by decide +kernel⟩, List.mem_of_getElem? (i := 338) (by decide +kernel), List.mem_of_getElem? (i := 677) (by decide +kernel), List.mem_of_getElem? (i := 678) (by decide +kernel)⟩
theorem lw_p13 : lw_okq (⟨"CliffGarden$Reader", "enter", "(I)Z"⟩, 5) := ⟨⟨by decide +kernel, by decide +kernel⟩, List.mem_of_getElem? (i := 338) (by decide +kernel), List.mem_of_getElem? (i := 681) (by decide +kernel), List.mem_of_getElem? (i := 682) (by decide +kernel)⟩
theorem lw_p14 : lw_okq (⟨"CliffGarden$Reader", "expect", "(I)Z"⟩, 5) := ⟨⟨by decide +kernel, by decide +kernel⟩, List.mem_of_getElem? (i := 338) (by decide +kernel), List.mem_of_getElem? (i := 685) (by decide +kernel), List.mem_of_getElem? (i := 686) (by decide +kernel)⟩
theorem lw_p15 : lw_okq (⟨"CliffGarden$Reader", "readNumber", "()Z"⟩, 5) := ⟨⟨by decide +kernel, by decide +kernel⟩, List.mem_of_getElem? (i := 338) (by decide +kernel), List.mem_of_getElem? (i := 692) (by decide +kernel), List.mem_of_getElem? (i := 693) (by decide +kernel)⟩
def lw_privs_1 : List (MethodName × Nat) := [(⟨"CliffGarden$Nets", "hangs", "(I)Z"⟩, 14), (⟨"CliffGarden$Nets", "clearCrop", "(I)V"⟩, 14), (⟨"CliffGarden$Nets", "setCrop", "(III)V"⟩, 14), (⟨"CliffGarden", "hungCell", "(II)I"⟩, 12), (⟨"CliffGarden$Nets", "hasCrop", "(I)Z"⟩, 14), (⟨"CliffGarden$Tape", "append", "(I)V"⟩, 2), (⟨"CliffGarden$Reader", "read", "(LCliffGarden$Tape;ILCliffGarden$Statute;)I"⟩, 5), (⟨"CliffGarden$Reader", "readClause", "()Z"⟩, 5), (⟨"CliffGarden$Reader", "look", "()I"⟩, 5), (⟨"CliffGarden$Reader", "fail", "(I)Z"⟩, 5), (⟨"CliffGarden$Reader", "readSum", "(I)Z"⟩, 5), (⟨"CliffGarden$Reader", "readTerm", "(I)Z"⟩, 5), (⟨"CliffGarden$Reader", "readFactor", "(I)Z"⟩, 5), (⟨"CliffGarden$Reader", "enter", "(I)Z"⟩, 5), (⟨"CliffGarden$Reader", "expect", "(I)Z"⟩, 5), (⟨"CliffGarden$Reader", "readNumber", "()Z"⟩, 5)]
theorem lw_r1 : ∀ q ∈ lw_privs_1, lw_okq q := List.forall_mem_cons.mpr ⟨lw_p0, List.forall_mem_cons.mpr ⟨lw_p1, List.forall_mem_cons.mpr ⟨lw_p2, List.forall_mem_cons.mpr ⟨lw_p3, List.forall_mem_cons.mpr ⟨lw_p4, List.forall_mem_cons.mpr ⟨lw_p5, List.forall_mem_cons.mpr ⟨lw_p6, List.forall_mem_cons.mpr ⟨lw_p7, List.forall_mem_cons.mpr ⟨lw_p8, List.forall_mem_cons.mpr ⟨lw_p9, List.forall_mem_cons.mpr ⟨lw_p10, List.forall_mem_cons.mpr ⟨lw_p11, List.forall_mem_cons.mpr ⟨lw_p12, List.forall_mem_cons.mpr ⟨lw_p13, List.forall_mem_cons.mpr ⟨lw_p14, List.forall_mem_cons.mpr ⟨lw_p15, fun _ h => absurd h List.not_mem_nil⟩⟩⟩⟩⟩⟩⟩⟩⟩⟩⟩⟩⟩⟩⟩⟩
theorem lw_p16 : lw_okq (⟨"CliffGarden$Statute", "put", "(II)V"⟩, 10) := ⟨⟨by decide +kernel, by decide +kernel⟩, List.mem_of_getElem? (i := 219) (by decide +kernel), List.mem_of_getElem? (i := 696) (by decide +kernel), List.mem_of_getElem? (i := 697) (by decide +kernel)⟩
theorem lw_p17 : lw_okq (⟨"CliffGarden$Reader", "readCondition", "(I)Z"⟩, 5) := ⟨⟨by decide +kernel, by decide +kernel⟩, List.mem_of_getElem? (i := 338) (by decide +kernel), List.mem_of_getElem? (i := 703) (by decide +kernel), List.mem_of_getElem? (i := 704) (by decide +kernel)⟩
theorem lw_p18 : lw_okq (⟨"CliffGarden$Reader", "readPart", "(I)Z"⟩, 5) := ⟨⟨by decide +kernel, by decide +kernel⟩, List.mem_of_getElem? (i := 338) (by decide +kernel), List.mem_of_getElem? (i := 707) (by decide +kernel), List.mem_of_getElem? (i := 708) (by decide +kernel)⟩
theorem lw_p19 : lw_okq (⟨"CliffGarden$Reader", "readPiece", "(I)Z"⟩, 5) := ⟨⟨by decide +kernel, by decide +kernel⟩, List.mem_of_getElem? (i := 338) (by decide +kernel), List.mem_of_getElem? (i := 711) (by decide +kernel), List.mem_of_getElem? (i := 712) (by decide +kernel)⟩
theorem lw_p20 : lw_okq (⟨"CliffGarden$Reader", "readComparison", "(I)Z"⟩, 5) := ⟨⟨by decide +kernel, by decide +kernel⟩, List.mem_of_getElem? (i := 338) (by decide +kernel), List.mem_of_getElem? (i := 715) (by decide +kernel), List.mem_of_getElem? (i := 716) (by decide +kernel)⟩
theorem lw_p21 : lw_okq (⟨"CliffGarden$Reader", "readJump", "()I"⟩, 5) := ⟨⟨by decide +kernel, by decide +kernel⟩, List.mem_of_getElem? (i := 338) (by decide +kernel), List.mem_of_getElem? (i := 720) (by decide +kernel), List.mem_of_getElem? (i := 721) (by decide +kernel)⟩
theorem lw_p22 : lw_okq (⟨"CliffGarden$Nets", "factOf", "(II)I"⟩, 14) := ⟨⟨by decide +kernel, by decide +kernel⟩, List.mem_of_getElem? (i := 33) (by decide +kernel), List.mem_of_getElem? (i := 730) (by decide +kernel), List.mem_of_getElem? (i := 731) (by decide +kernel)⟩
theorem lw_p23 : lw_okq (⟨"CliffGarden$Nets", "loadOf", "(I)I"⟩, 14) := ⟨⟨by decide +kernel, by decide +kernel⟩, List.mem_of_getElem? (i := 33) (by decide +kernel), List.mem_of_getElem? (i := 734) (by decide +kernel), List.mem_of_getElem? (i := 735) (by decide +kernel)⟩
theorem lw_p24 : lw_okq (⟨"CliffGarden$Court", "ageing", "(I)I"⟩, 5) := ⟨⟨by decide +kernel, by decide +kernel⟩, List.mem_of_getElem? (i := 213) (by decide +kernel), List.mem_of_getElem? (i := 745) (by decide +kernel), List.mem_of_getElem? (i := 746) (by decide +kernel)⟩
theorem lw_p25 : lw_okq (⟨"CliffGarden$Court", "seeCellAndCrop", "(I)V"⟩, 5) := ⟨⟨by decide +kernel, by decide +kernel⟩, List.mem_of_getElem? (i := 213) (by decide +kernel), List.mem_of_getElem? (i := 749) (by decide +kernel), List.mem_of_getElem? (i := 750) (by decide +kernel)⟩
theorem lw_p26 : lw_okq (⟨"CliffGarden$Court", "seeCell", "(I)V"⟩, 5) := ⟨⟨by decide +kernel, by decide +kernel⟩, List.mem_of_getElem? (i := 213) (by decide +kernel), List.mem_of_getElem? (i := 753) (by decide +kernel), List.mem_of_getElem? (i := 754) (by decide +kernel)⟩
theorem lw_p27 : lw_okq (⟨"CliffGarden$Nets", "isRipe", "(I)Z"⟩, 14) := ⟨⟨by decide +kernel, by decide +kernel⟩, List.mem_of_getElem? (i := 33) (by decide +kernel), List.mem_of_getElem? (i := 759) (by decide +kernel), List.mem_of_getElem? (i := 760) (by decide +kernel)⟩
theorem lw_p28 : lw_okq (⟨"CliffGarden$Statute", "answer", "(II[I)I"⟩, 10) := ⟨⟨by decide +kernel, by decide +kernel⟩, List.mem_of_getElem? (i := 219) (by decide +kernel), List.mem_of_getElem? (i := 764) (by decide +kernel), List.mem_of_getElem? (i := 765) (by decide +kernel)⟩
theorem lw_p29 : lw_okq (⟨"CliffGarden$Statute", "reckon", "(II[I)I"⟩, 10) := ⟨⟨by decide +kernel, by decide +kernel⟩, List.mem_of_getElem? (i := 219) (by decide +kernel), List.mem_of_getElem? (i := 768) (by decide +kernel), List.mem_of_getElem? (i := 769) (by decide +kernel)⟩
theorem lw_p30 : lw_okq (⟨"CliffGarden$Court", "growth", "(II)I"⟩, 5) := ⟨⟨by decide +kernel, by decide +kernel⟩, List.mem_of_getElem? (i := 213) (by decide +kernel), List.mem_of_getElem? (i := 777) (by decide +kernel), List.mem_of_getElem? (i := 778) (by decide +kernel)⟩
theorem lw_p31 : lw_okq (⟨"CliffGarden$Court", "oddsOfFall", "(I)I"⟩, 5) := ⟨⟨by decide +kernel, by decide +kernel⟩, List.mem_of_getElem? (i := 213) (by decide +kernel), List.mem_of_getElem? (i := 781) (by decide +kernel), List.mem_of_getElem? (i := 782) (by decide +kernel)⟩
def lw_privs_2 : List (MethodName × Nat) := [(⟨"CliffGarden$Statute", "put", "(II)V"⟩, 10), (⟨"CliffGarden$Reader", "readCondition", "(I)Z"⟩, 5), (⟨"CliffGarden$Reader", "readPart", "(I)Z"⟩, 5), (⟨"CliffGarden$Reader", "readPiece", "(I)Z"⟩, 5), (⟨"CliffGarden$Reader", "readComparison", "(I)Z"⟩, 5), (⟨"CliffGarden$Reader", "readJump", "()I"⟩, 5), (⟨"CliffGarden$Nets", "factOf", "(II)I"⟩, 14), (⟨"CliffGarden$Nets", "loadOf", "(I)I"⟩, 14), (⟨"CliffGarden$Court", "ageing", "(I)I"⟩, 5), (⟨"CliffGarden$Court", "seeCellAndCrop", "(I)V"⟩, 5), (⟨"CliffGarden$Court", "seeCell", "(I)V"⟩, 5), (⟨"CliffGarden$Nets", "isRipe", "(I)Z"⟩, 14), (⟨"CliffGarden$Statute", "answer", "(II[I)I"⟩, 10), (⟨"CliffGarden$Statute", "reckon", "(II[I)I"⟩, 10), (⟨"CliffGarden$Court", "growth", "(II)I"⟩, 5), (⟨"CliffGarden$Court", "oddsOfFall", "(I)I"⟩, 5)]
theorem lw_r2 : ∀ q ∈ lw_privs_2, lw_okq q := List.forall_mem_cons.mpr ⟨lw_p16, List.forall_mem_cons.mpr ⟨lw_p17, List.forall_mem_cons.mpr ⟨lw_p18, List.forall_mem_cons.mpr ⟨lw_p19, List.forall_mem_cons.mpr ⟨lw_p20, List.forall_mem_cons.mpr ⟨lw_p21, List.forall_mem_cons.mpr ⟨lw_p22, List.forall_mem_cons.mpr ⟨lw_p23, List.forall_mem_cons.mpr ⟨lw_p24, List.forall_mem_cons.mpr ⟨lw_p25, List.forall_mem_cons.mpr ⟨lw_p26, List.forall_mem_cons.mpr ⟨lw_p27, List.forall_mem_cons.mpr ⟨lw_p28, List.forall_mem_cons.mpr ⟨lw_p29, List.forall_mem_cons.mpr ⟨lw_p30, List.forall_mem_cons.mpr ⟨lw_p31, fun _ h => absurd h List.not_mem_nil⟩⟩⟩⟩⟩⟩⟩⟩⟩⟩⟩⟩⟩⟩⟩⟩
theorem lw_p32 : lw_okq (⟨"CliffGarden", "letWaterFlow", "()I"⟩, 12) := ⟨⟨by decide +kernel, by decide +kernel⟩, List.mem_of_getElem? (i := 25) (by decide +kernel), List.mem_of_getElem? (i := 789) (by decide +kernel), List.mem_of_getElem? (i := 790) (by decide +kernel)⟩
theorem lw_p33 : lw_okq (⟨"CliffGarden$Water", "pour", "([I[I)V"⟩, 11) := ⟨⟨by decide +kernel, by decide +kernel⟩, List.mem_of_getElem? (i := 281) (by decide +kernel), List.mem_of_getElem? (i := 793) (by decide +kernel), List.mem_of_getElem? (i := 794) (by decide +kernel)⟩
theorem lw_p34 : lw_okq (⟨"CliffGarden$Nets", "needOf", "(I)I"⟩, 14) := ⟨⟨by decide +kernel, by decide +kernel⟩, List.mem_of_getElem? (i := 33) (by decide +kernel), List.mem_of_getElem? (i := 801) (by decide +kernel), List.mem_of_getElem? (i := 802) (by decide +kernel)⟩
theorem lw_p35 : lw_okq (⟨"CliffGarden$Water", "passOn", "(III)V"⟩, 11) := ⟨⟨by decide +kernel, by decide +kernel⟩, List.mem_of_getElem? (i := 281) (by decide +kernel), List.mem_of_getElem? (i := 807) (by decide +kernel), List.mem_of_getElem? (i := 808) (by decide +kernel)⟩
theorem lw_p36 : lw_okq (⟨"CliffGarden", "dropCrop", "(IZ)I"⟩, 12) := ⟨⟨by decide +kernel, by decide +kernel⟩, List.mem_of_getElem? (i := 25) (by decide +kernel), List.mem_of_getElem? (i := 815) (by decide +kernel), List.mem_of_getElem? (i := 816) (by decide +kernel)⟩
theorem lw_p37 : lw_okq (⟨"CliffGarden$Falls", "open", "(LCliffGarden$Nets;II)I"⟩, 11) := ⟨⟨by decide +kernel, by decide +kernel⟩, List.mem_of_getElem? (i := 160) (by decide +kernel), List.mem_of_getElem? (i := 819) (by decide +kernel), List.mem_of_getElem? (i := 820) (by decide +kernel)⟩
theorem lw_p38 : lw_okq (⟨"CliffGarden$Court", "catchingLevel", "(I)I"⟩, 5) := ⟨⟨by decide +kernel, by decide +kernel⟩, List.mem_of_getElem? (i := 213) (by decide +kernel), List.mem_of_getElem? (i := 824) (by decide +kernel), List.mem_of_getElem? (i := 825) (by decide +kernel)⟩
theorem lw_p39 : lw_okq (⟨"CliffGarden$Court", "seeFallen", "(I)V"⟩, 5) := ⟨⟨by decide +kernel, by decide +kernel⟩, List.mem_of_getElem? (i := 213) (by decide +kernel), List.mem_of_getElem? (i := 830) (by decide +kernel), List.mem_of_getElem? (i := 831) (by decide +kernel)⟩
theorem lw_p40 : lw_okq (⟨"CliffGarden$Court", "ownerOf", "(I)I"⟩, 5) := ⟨⟨by decide +kernel, by decide +kernel⟩, List.mem_of_getElem? (i := 213) (by decide +kernel), List.mem_of_getElem? (i := 834) (by decide +kernel), List.mem_of_getElem? (i := 835) (by decide +kernel)⟩
theorem lw_p41 : lw_okq (⟨"CliffGarden$Court", "seeFallFromItsCell", "(I)V"⟩, 5) := ⟨⟨by decide +kernel, by decide +kernel⟩, List.mem_of_getElem? (i := 213) (by decide +kernel), List.mem_of_getElem? (i := 838) (by decide +kernel), List.mem_of_getElem? (i := 839) (by decide +kernel)⟩
theorem lw_p42 : lw_okq (⟨"CliffGarden", "landInKitchen", "(II)V"⟩, 12) := ⟨⟨by decide +kernel, by decide +kernel⟩, List.mem_of_getElem? (i := 25) (by decide +kernel), List.mem_of_getElem? (i := 842) (by decide +kernel), List.mem_of_getElem? (i := 843) (by decide +kernel)⟩
theorem lw_p43 : lw_okq (⟨"CliffGarden$Falls", "close", "()V"⟩, 11) := ⟨⟨by decide +kernel, by decide +kernel⟩, List.mem_of_getElem? (i := 160) (by decide +kernel), List.mem_of_getElem? (i := 846) (by decide +kernel), List.mem_of_getElem? (i := 847) (by decide +kernel)⟩
theorem lw_p44 : lw_okq (⟨"CliffGarden", "letKnotsGo", "()I"⟩, 12) := ⟨⟨by decide +kernel, by decide +kernel⟩, List.mem_of_getElem? (i := 25) (by decide +kernel), List.mem_of_getElem? (i := 854) (by decide +kernel), List.mem_of_getElem? (i := 855) (by decide +kernel)⟩
theorem lw_p45 : lw_okq (⟨"CliffGarden$Nets", "firstOverloaded", "()I"⟩, 14) := ⟨⟨by decide +kernel, by decide +kernel⟩, List.mem_of_getElem? (i := 33) (by decide +kernel), List.mem_of_getElem? (i := 858) (by decide +kernel), List.mem_of_getElem? (i := 859) (by decide +kernel)⟩
theorem lw_p46 : lw_okq (⟨"CliffGarden", "tearDown", "(I)I"⟩, 12) := ⟨⟨by decide +kernel, by decide +kernel⟩, List.mem_of_getElem? (i := 25) (by decide +kernel), List.mem_of_getElem? (i := 862) (by decide +kernel), List.mem_of_getElem? (i := 863) (by decide +kernel)⟩
theorem lw_p47 : lw_okq (⟨"CliffGarden$Nets", "unhang", "(II)V"⟩, 14) := ⟨⟨by decide +kernel, by decide +kernel⟩, List.mem_of_getElem? (i := 33) (by decide +kernel), List.mem_of_getElem? (i := 868) (by decide +kernel), List.mem_of_getElem? (i := 869) (by decide +kernel)⟩
def lw_privs_3 : List (MethodName × Nat) := [(⟨"CliffGarden", "letWaterFlow", "()I"⟩, 12), (⟨"CliffGarden$Water", "pour", "([I[I)V"⟩, 11), (⟨"CliffGarden$Nets", "needOf", "(I)I"⟩, 14), (⟨"CliffGarden$Water", "passOn", "(III)V"⟩, 11), (⟨"CliffGarden", "dropCrop", "(IZ)I"⟩, 12), (⟨"CliffGarden$Falls", "open", "(LCliffGarden$Nets;II)I"⟩, 11), (⟨"CliffGarden$Court", "catchingLevel", "(I)I"⟩, 5), (⟨"CliffGarden$Court", "seeFallen", "(I)V"⟩, 5), (⟨"CliffGarden$Court", "ownerOf", "(I)I"⟩, 5), (⟨"CliffGarden$Court", "seeFallFromItsCell", "(I)V"⟩, 5), (⟨"CliffGarden", "landInKitchen", "(II)V"⟩, 12), (⟨"CliffGarden$Falls", "close", "()V"⟩, 11), (⟨"CliffGarden", "letKnotsGo", "()I"⟩, 12), (⟨"CliffGarden$Nets", "firstOverloaded", "()I"⟩, 14), (⟨"CliffGarden", "tearDown", "(I)I"⟩, 12), (⟨"CliffGarden$Nets", "unhang", "(II)V"⟩, 14)]
theorem lw_r3 : ∀ q ∈ lw_privs_3, lw_okq q := List.forall_mem_cons.mpr ⟨lw_p32, List.forall_mem_cons.mpr ⟨lw_p33, List.forall_mem_cons.mpr ⟨lw_p34, List.forall_mem_cons.mpr ⟨lw_p35, List.forall_mem_cons.mpr ⟨lw_p36, List.forall_mem_cons.mpr ⟨lw_p37, List.forall_mem_cons.mpr ⟨lw_p38, List.forall_mem_cons.mpr ⟨lw_p39, List.forall_mem_cons.mpr ⟨lw_p40, List.forall_mem_cons.mpr ⟨lw_p41, List.forall_mem_cons.mpr ⟨lw_p42, List.forall_mem_cons.mpr ⟨lw_p43, List.forall_mem_cons.mpr ⟨lw_p44, List.forall_mem_cons.mpr ⟨lw_p45, List.forall_mem_cons.mpr ⟨lw_p46, List.forall_mem_cons.mpr ⟨lw_p47, fun _ h => absurd h List.not_mem_nil⟩⟩⟩⟩⟩⟩⟩⟩⟩⟩⟩⟩⟩⟩⟩⟩
theorem lw_p48 : lw_okq (⟨"CliffGarden$Nets", "loosen", "(II)V"⟩, 14) := ⟨⟨by decide +kernel, by decide +kernel⟩, List.mem_of_getElem? (i := 33) (by decide +kernel), List.mem_of_getElem? (i := 873) (by decide +kernel), List.mem_of_getElem? (i := 874) (by decide +kernel)⟩
theorem lw_p49 : lw_okq (⟨"CliffGarden", "letCropsGrow", "()V"⟩, 12) := ⟨⟨by decide +kernel, by decide +kernel⟩, List.mem_of_getElem? (i := 25) (by decide +kernel), List.mem_of_getElem? (i := 882) (by decide +kernel), List.mem_of_getElem? (i := 883) (by decide +kernel)⟩
theorem lw_p50 : lw_okq (⟨"CliffGarden", "letCropsFall", "()V"⟩, 12) := ⟨⟨by decide +kernel, by decide +kernel⟩, List.mem_of_getElem? (i := 25) (by decide +kernel), List.mem_of_getElem? (i := 887) (by decide +kernel), List.mem_of_getElem? (i := 888) (by decide +kernel)⟩
theorem lw_p51 : lw_okq (⟨"CliffGarden", "letKnotsAge", "()V"⟩, 12) := ⟨⟨by decide +kernel, by decide +kernel⟩, List.mem_of_getElem? (i := 25) (by decide +kernel), List.mem_of_getElem? (i := 891) (by decide +kernel), List.mem_of_getElem? (i := 892) (by decide +kernel)⟩
theorem lw_p52 : lw_okq (⟨"CliffGarden$Nets", "wouldGo", "(I)J"⟩, 14) := ⟨⟨by decide +kernel, by decide +kernel⟩, List.mem_of_getElem? (i := 33) (by decide +kernel), List.mem_of_getElem? (i := 901) (by decide +kernel), List.mem_of_getElem? (i := 902) (by decide +kernel)⟩
theorem lw_p53 : lw_okq (⟨"CliffGarden$Falls", "isWritten", "(I)Z"⟩, 11) := ⟨⟨by decide +kernel, by decide +kernel⟩, List.mem_of_getElem? (i := 160) (by decide +kernel), List.mem_of_getElem? (i := 912) (by decide +kernel), List.mem_of_getElem? (i := 913) (by decide +kernel)⟩
theorem lw_p54 : lw_okq (⟨"CliffGarden$Falls", "factOf", "(II)I"⟩, 11) := ⟨⟨by decide +kernel, by decide +kernel⟩, List.mem_of_getElem? (i := 160) (by decide +kernel), List.mem_of_getElem? (i := 916) (by decide +kernel), List.mem_of_getElem? (i := 917) (by decide +kernel)⟩
theorem lw_p55 : lw_okq (⟨"CliffGarden", "claimantOf", "(II)I"⟩, 12) := ⟨⟨by decide +kernel, by decide +kernel⟩, List.mem_of_getElem? (i := 25) (by decide +kernel), List.mem_of_getElem? (i := 924) (by decide +kernel), List.mem_of_getElem? (i := 925) (by decide +kernel)⟩
theorem lw_p56 : lw_okq (⟨"CliffGarden$Court", "pointsOf", "(II)I"⟩, 5) := ⟨⟨by decide +kernel, by decide +kernel⟩, List.mem_of_getElem? (i := 213) (by decide +kernel), List.mem_of_getElem? (i := 928) (by decide +kernel), List.mem_of_getElem? (i := 929) (by decide +kernel)⟩
theorem lw_p57 : lw_okq (⟨"CliffGarden$Brow", "factOf", "(II)I"⟩, 9) := ⟨⟨by decide +kernel, by decide +kernel⟩, List.mem_of_getElem? (i := 114) (by decide +kernel), List.mem_of_getElem? (i := 944) (by decide +kernel), List.mem_of_getElem? (i := 945) (by decide +kernel)⟩
theorem lw_p58 : lw_okq (⟨"CliffGarden$Brow", "carries", "(III)Z"⟩, 9) := ⟨⟨by decide +kernel, by decide +kernel⟩, List.mem_of_getElem? (i := 114) (by decide +kernel), List.mem_of_getElem? (i := 952) (by decide +kernel), List.mem_of_getElem? (i := 953) (by decide +kernel)⟩
theorem lw_p59 : lw_okq (⟨"CliffGarden$Rounds", "tell", "(J)V"⟩, 8) := ⟨⟨by decide +kernel, by decide +kernel⟩, List.mem_of_getElem? (i := 360) (by decide +kernel), List.mem_of_getElem? (i := 972) (by decide +kernel), List.mem_of_getElem? (i := 973) (by decide +kernel)⟩
theorem lw_p60 : lw_okq (⟨"CliffGarden$Rounds", "asWork", "(I)V"⟩, 8) := ⟨⟨by decide +kernel, by decide +kernel⟩, List.mem_of_getElem? (i := 360) (by decide +kernel), List.mem_of_getElem? (i := 977) (by decide +kernel), List.mem_of_getElem? (i := 978) (by decide +kernel)⟩
theorem lw_p61 : lw_okq (⟨"CliffGarden$Rounds", "solve", "()V"⟩, 8) := ⟨⟨by decide +kernel, by decide +kernel⟩, List.mem_of_getElem? (i := 360) (by decide +kernel), List.mem_of_getElem? (i := 987) (by decide +kernel), List.mem_of_getElem? (i := 988) (by decide +kernel)⟩
theorem lw_p62 : lw_okq (⟨"CliffGarden$Rounds", "spentOn", "(I)I"⟩, 8) := ⟨⟨by decide +kernel, by decide +kernel⟩, List.mem_of_getElem? (i := 360) (by decide +kernel), List.mem_of_getElem? (i := 991) (by decide +kernel), List.mem_of_getElem? (i := 992) (by decide +kernel)⟩
theorem lw_p63 : lw_okq (⟨"CliffGarden$Rounds", "leastOnward", "(III)I"⟩, 8) := ⟨⟨by decide +kernel, by decide +kernel⟩, List.mem_of_getElem? (i := 360) (by decide +kernel), List.mem_of_getElem? (i := 995) (by decide +kernel), List.mem_of_getElem? (i := 996) (by decide +kernel)⟩
def lw_privs_4 : List (MethodName × Nat) := [(⟨"CliffGarden$Nets", "loosen", "(II)V"⟩, 14), (⟨"CliffGarden", "letCropsGrow", "()V"⟩, 12), (⟨"CliffGarden", "letCropsFall", "()V"⟩, 12), (⟨"CliffGarden", "letKnotsAge", "()V"⟩, 12), (⟨"CliffGarden$Nets", "wouldGo", "(I)J"⟩, 14), (⟨"CliffGarden$Falls", "isWritten", "(I)Z"⟩, 11), (⟨"CliffGarden$Falls", "factOf", "(II)I"⟩, 11), (⟨"CliffGarden", "claimantOf", "(II)I"⟩, 12), (⟨"CliffGarden$Court", "pointsOf", "(II)I"⟩, 5), (⟨"CliffGarden$Brow", "factOf", "(II)I"⟩, 9), (⟨"CliffGarden$Brow", "carries", "(III)Z"⟩, 9), (⟨"CliffGarden$Rounds", "tell", "(J)V"⟩, 8), (⟨"CliffGarden$Rounds", "asWork", "(I)V"⟩, 8), (⟨"CliffGarden$Rounds", "solve", "()V"⟩, 8), (⟨"CliffGarden$Rounds", "spentOn", "(I)I"⟩, 8), (⟨"CliffGarden$Rounds", "leastOnward", "(III)I"⟩, 8)]
theorem lw_r4 : ∀ q ∈ lw_privs_4, lw_okq q := List.forall_mem_cons.mpr ⟨lw_p48, List.forall_mem_cons.mpr ⟨lw_p49, List.forall_mem_cons.mpr ⟨lw_p50, List.forall_mem_cons.mpr ⟨lw_p51, List.forall_mem_cons.mpr ⟨lw_p52, List.forall_mem_cons.mpr ⟨lw_p53, List.forall_mem_cons.mpr ⟨lw_p54, List.forall_mem_cons.mpr ⟨lw_p55, List.forall_mem_cons.mpr ⟨lw_p56, List.forall_mem_cons.mpr ⟨lw_p57, List.forall_mem_cons.mpr ⟨lw_p58, List.forall_mem_cons.mpr ⟨lw_p59, List.forall_mem_cons.mpr ⟨lw_p60, List.forall_mem_cons.mpr ⟨lw_p61, List.forall_mem_cons.mpr ⟨lw_p62, List.forall_mem_cons.mpr ⟨lw_p63, fun _ h => absurd h List.not_mem_nil⟩⟩⟩⟩⟩⟩⟩⟩⟩⟩⟩⟩⟩⟩⟩⟩
theorem lw_p64 : lw_okq (⟨"CliffGarden$Rounds", "costVia", "(IIII)I"⟩, 8) := ⟨⟨by decide +kernel, by decide +kernel⟩, List.mem_of_getElem? (i := 360) (by decide +kernel), List.mem_of_getElem? (i := 1000) (by decide +kernel), List.mem_of_getElem? (i := 1001) (by decide +kernel)⟩
theorem lw_p65 : lw_okq (⟨"CliffGarden$Rounds", "findRow", "(I)V"⟩, 8) := ⟨⟨by decide +kernel, by decide +kernel⟩, List.mem_of_getElem? (i := 360) (by decide +kernel), List.mem_of_getElem? (i := 1005) (by decide +kernel), List.mem_of_getElem? (i := 1006) (by decide +kernel)⟩
theorem lw_p66 : lw_okq (⟨"CliffGarden$Rounds", "least", "()I"⟩, 8) := ⟨⟨by decide +kernel, by decide +kernel⟩, List.mem_of_getElem? (i := 360) (by decide +kernel), List.mem_of_getElem? (i := 1009) (by decide +kernel), List.mem_of_getElem? (i := 1010) (by decide +kernel)⟩
theorem lw_p67 : lw_okq (⟨"CliffGarden$Rounds", "cellAt", "(I)I"⟩, 8) := ⟨⟨by decide +kernel, by decide +kernel⟩, List.mem_of_getElem? (i := 360) (by decide +kernel), List.mem_of_getElem? (i := 1013) (by decide +kernel), List.mem_of_getElem? (i := 1014) (by decide +kernel)⟩
theorem lw_p68 : lw_okq (⟨"CliffGarden$Nets", "columnsOf", "(I)I"⟩, 14) := ⟨⟨by decide +kernel, by decide +kernel⟩, List.mem_of_getElem? (i := 33) (by decide +kernel), List.mem_of_getElem? (i := 1022) (by decide +kernel), List.mem_of_getElem? (i := 1023) (by decide +kernel)⟩
theorem lw_p69 : lw_okq (⟨"CliffGarden$Swallow", "fly", "(IIII)V"⟩, 4) := ⟨⟨by decide +kernel, by decide +kernel⟩, List.mem_of_getElem? (i := 423) (by decide +kernel), List.mem_of_getElem? (i := 1026) (by decide +kernel), List.mem_of_getElem? (i := 1027) (by decide +kernel)⟩
theorem lw_p70 : lw_okq (⟨"CliffGarden$Swallow", "arrive", "(IIIII)V"⟩, 4) := ⟨⟨by decide +kernel, by decide +kernel⟩, List.mem_of_getElem? (i := 423) (by decide +kernel), List.mem_of_getElem? (i := 1031) (by decide +kernel), List.mem_of_getElem? (i := 1032) (by decide +kernel)⟩
theorem lw_p71 : lw_okq (⟨"CliffGarden$Swallow", "cancel", "(I)V"⟩, 4) := ⟨⟨by decide +kernel, by decide +kernel⟩, List.mem_of_getElem? (i := 423) (by decide +kernel), List.mem_of_getElem? (i := 1038) (by decide +kernel), List.mem_of_getElem? (i := 1039) (by decide +kernel)⟩
theorem lw_p72 : lw_okq (⟨"CliffGarden$Planting", "choose", "(J)Z"⟩, 8) := ⟨⟨by decide +kernel, by decide +kernel⟩, List.mem_of_getElem? (i := 391) (by decide +kernel), List.mem_of_getElem? (i := 1050) (by decide +kernel), List.mem_of_getElem? (i := 1051) (by decide +kernel)⟩
theorem lw_p73 : lw_okq (⟨"CliffGarden$Nets", "ripeLoadOf", "(I)I"⟩, 14) := ⟨⟨by decide +kernel, by decide +kernel⟩, List.mem_of_getElem? (i := 33) (by decide +kernel), List.mem_of_getElem? (i := 1055) (by decide +kernel), List.mem_of_getElem? (i := 1056) (by decide +kernel)⟩
theorem lw_p74 : lw_okq (⟨"CliffGarden$Planting", "tryCell", "(II)V"⟩, 8) := ⟨⟨by decide +kernel, by decide +kernel⟩, List.mem_of_getElem? (i := 391) (by decide +kernel), List.mem_of_getElem? (i := 1060) (by decide +kernel), List.mem_of_getElem? (i := 1061) (by decide +kernel)⟩
theorem lw_p75 : lw_okq (⟨"CliffGarden$Planting", "fits", "(II)Z"⟩, 8) := ⟨⟨by decide +kernel, by decide +kernel⟩, List.mem_of_getElem? (i := 391) (by decide +kernel), List.mem_of_getElem? (i := 1065) (by decide +kernel), List.mem_of_getElem? (i := 1066) (by decide +kernel)⟩
theorem lw_p76 : lw_okq (⟨"CliffGarden$Planting", "burden", "(II)V"⟩, 8) := ⟨⟨by decide +kernel, by decide +kernel⟩, List.mem_of_getElem? (i := 391) (by decide +kernel), List.mem_of_getElem? (i := 1069) (by decide +kernel), List.mem_of_getElem? (i := 1070) (by decide +kernel)⟩
theorem lw_p77 : lw_okq (⟨"CliffGarden$Planting", "carryOut", "()V"⟩, 8) := ⟨⟨by decide +kernel, by decide +kernel⟩, List.mem_of_getElem? (i := 391) (by decide +kernel), List.mem_of_getElem? (i := 1073) (by decide +kernel), List.mem_of_getElem? (i := 1074) (by decide +kernel)⟩
theorem lw_p78 : lw_okq (⟨"CliffGarden$Planting", "kindAt", "(I)I"⟩, 8) := ⟨⟨by decide +kernel, by decide +kernel⟩, List.mem_of_getElem? (i := 391) (by decide +kernel), List.mem_of_getElem? (i := 1078) (by decide +kernel), List.mem_of_getElem? (i := 1079) (by decide +kernel)⟩
theorem lw_p79 : lw_okq (⟨"CliffGarden$Water", "share", "(II)V"⟩, 11) := ⟨⟨by decide +kernel, by decide +kernel⟩, List.mem_of_getElem? (i := 281) (by decide +kernel), List.mem_of_getElem? (i := 1093) (by decide +kernel), List.mem_of_getElem? (i := 1094) (by decide +kernel)⟩
def lw_privs_5 : List (MethodName × Nat) := [(⟨"CliffGarden$Rounds", "costVia", "(IIII)I"⟩, 8), (⟨"CliffGarden$Rounds", "findRow", "(I)V"⟩, 8), (⟨"CliffGarden$Rounds", "least", "()I"⟩, 8), (⟨"CliffGarden$Rounds", "cellAt", "(I)I"⟩, 8), (⟨"CliffGarden$Nets", "columnsOf", "(I)I"⟩, 14), (⟨"CliffGarden$Swallow", "fly", "(IIII)V"⟩, 4), (⟨"CliffGarden$Swallow", "arrive", "(IIIII)V"⟩, 4), (⟨"CliffGarden$Swallow", "cancel", "(I)V"⟩, 4), (⟨"CliffGarden$Planting", "choose", "(J)Z"⟩, 8), (⟨"CliffGarden$Nets", "ripeLoadOf", "(I)I"⟩, 14), (⟨"CliffGarden$Planting", "tryCell", "(II)V"⟩, 8), (⟨"CliffGarden$Planting", "fits", "(II)Z"⟩, 8), (⟨"CliffGarden$Planting", "burden", "(II)V"⟩, 8), (⟨"CliffGarden$Planting", "carryOut", "()V"⟩, 8), (⟨"CliffGarden$Planting", "kindAt", "(I)I"⟩, 8), (⟨"CliffGarden$Water", "share", "(II)V"⟩, 11)]
theorem lw_r5 : ∀ q ∈ lw_privs_5, lw_okq q := List.forall_mem_cons.mpr ⟨lw_p64, List.forall_mem_cons.mpr ⟨lw_p65, List.forall_mem_cons.mpr ⟨lw_p66, List.forall_mem_cons.mpr ⟨lw_p67, List.forall_mem_cons.mpr ⟨lw_p68, List.forall_mem_cons.mpr ⟨lw_p69, List.forall_mem_cons.mpr ⟨lw_p70, List.forall_mem_cons.mpr ⟨lw_p71, List.forall_mem_cons.mpr ⟨lw_p72, List.forall_mem_cons.mpr ⟨lw_p73, List.forall_mem_cons.mpr ⟨lw_p74, List.forall_mem_cons.mpr ⟨lw_p75, List.forall_mem_cons.mpr ⟨lw_p76, List.forall_mem_cons.mpr ⟨lw_p77, List.forall_mem_cons.mpr ⟨lw_p78, List.forall_mem_cons.mpr ⟨lw_p79, fun _ h => absurd h List.not_mem_nil⟩⟩⟩⟩⟩⟩⟩⟩⟩⟩⟩⟩⟩⟩⟩⟩
theorem lw_p80 : lw_okq (⟨"CliffGarden$Water", "reckonGrowth", "(I)V"⟩, 11) := ⟨⟨by decide +kernel, by decide +kernel⟩, List.mem_of_getElem? (i := 281) (by decide +kernel), List.mem_of_getElem? (i := 1097) (by decide +kernel), List.mem_of_getElem? (i := 1098) (by decide +kernel)⟩
theorem lw_p81 : lw_okq (⟨"CliffGarden$Water", "tryValve", "(II)V"⟩, 11) := ⟨⟨by decide +kernel, by decide +kernel⟩, List.mem_of_getElem? (i := 281) (by decide +kernel), List.mem_of_getElem? (i := 1103) (by decide +kernel), List.mem_of_getElem? (i := 1104) (by decide +kernel)⟩
theorem lw_p82 : lw_okq (⟨"CliffGarden$Water", "weighTrial", "()V"⟩, 11) := ⟨⟨by decide +kernel, by decide +kernel⟩, List.mem_of_getElem? (i := 281) (by decide +kernel), List.mem_of_getElem? (i := 1107) (by decide +kernel), List.mem_of_getElem? (i := 1108) (by decide +kernel)⟩
theorem lw_p83 : lw_okq (⟨"CliffGarden$Water", "dropsAt", "(I)I"⟩, 11) := ⟨⟨by decide +kernel, by decide +kernel⟩, List.mem_of_getElem? (i := 281) (by decide +kernel), List.mem_of_getElem? (i := 1112) (by decide +kernel), List.mem_of_getElem? (i := 1113) (by decide +kernel)⟩
theorem lw_p84 : lw_okq (⟨"CliffGarden$Rounds", "asMending", "([I)V"⟩, 8) := ⟨⟨by decide +kernel, by decide +kernel⟩, List.mem_of_getElem? (i := 360) (by decide +kernel), List.mem_of_getElem? (i := 1121) (by decide +kernel), List.mem_of_getElem? (i := 1122) (by decide +kernel)⟩
theorem lw_p85 : lw_okq (⟨"CliffGarden$Nets", "highestFall", "(II)I"⟩, 14) := ⟨⟨by decide +kernel, by decide +kernel⟩, List.mem_of_getElem? (i := 33) (by decide +kernel), List.mem_of_getElem? (i := 1130) (by decide +kernel), List.mem_of_getElem? (i := 1131) (by decide +kernel)⟩
theorem lw_p86 : lw_okq (⟨"CliffGarden$Tape", "numberAt", "(I)I"⟩, 2) := ⟨⟨by decide +kernel, by decide +kernel⟩, List.mem_of_getElem? (i := 323) (by decide +kernel), List.mem_of_getElem? (i := 1138) (by decide +kernel), List.mem_of_getElem? (i := 1139) (by decide +kernel)⟩
theorem lw_p87 : lw_okq (⟨"CliffGarden$Nets", "crops", "()I"⟩, 14) := ⟨⟨by decide +kernel, by decide +kernel⟩, List.mem_of_getElem? (i := 33) (by decide +kernel), List.mem_of_getElem? (i := 1146) (by decide +kernel), List.mem_of_getElem? (i := 1147) (by decide +kernel)⟩
theorem lw_p88 : lw_okq (⟨"CliffGarden", "countOfRow", "(I)I"⟩, 12) := ⟨⟨by decide +kernel, by decide +kernel⟩, List.mem_of_getElem? (i := 25) (by decide +kernel), List.mem_of_getElem? (i := 1150) (by decide +kernel), List.mem_of_getElem? (i := 1151) (by decide +kernel)⟩
theorem lw_p89 : lw_okq (⟨"CliffGardenModel", "empties", "(I)V"⟩, 78) := ⟨⟨by decide +kernel, by decide +kernel⟩, List.mem_of_getElem? (i := 1154) (by decide +kernel), List.mem_of_getElem? (i := 1409) (by decide +kernel), List.mem_of_getElem? (i := 1410) (by decide +kernel)⟩
theorem lw_p90 : lw_okq (⟨"CliffGardenModel", "isHung", "(II)Z"⟩, 78) := ⟨⟨by decide +kernel, by decide +kernel⟩, List.mem_of_getElem? (i := 1154) (by decide +kernel), List.mem_of_getElem? (i := 1417) (by decide +kernel), List.mem_of_getElem? (i := 1418) (by decide +kernel)⟩
theorem lw_p91 : lw_okq (⟨"CliffGardenModel", "types", "(I)V"⟩, 78) := ⟨⟨by decide +kernel, by decide +kernel⟩, List.mem_of_getElem? (i := 1154) (by decide +kernel), List.mem_of_getElem? (i := 1450) (by decide +kernel), List.mem_of_getElem? (i := 1451) (by decide +kernel)⟩
theorem lw_p92 : lw_okq (⟨"CliffGardenModel", "readsClause", "()Z"⟩, 78) := ⟨⟨by decide +kernel, by decide +kernel⟩, List.mem_of_getElem? (i := 1154) (by decide +kernel), List.mem_of_getElem? (i := 1458) (by decide +kernel), List.mem_of_getElem? (i := 1459) (by decide +kernel)⟩
theorem lw_p93 : lw_okq (⟨"CliffGardenModel", "here", "()I"⟩, 78) := ⟨⟨by decide +kernel, by decide +kernel⟩, List.mem_of_getElem? (i := 1154) (by decide +kernel), List.mem_of_getElem? (i := 1462) (by decide +kernel), List.mem_of_getElem? (i := 1463) (by decide +kernel)⟩
theorem lw_p94 : lw_okq (⟨"CliffGardenModel", "wrongAt", "(II)Z"⟩, 78) := ⟨⟨by decide +kernel, by decide +kernel⟩, List.mem_of_getElem? (i := 1154) (by decide +kernel), List.mem_of_getElem? (i := 1469) (by decide +kernel), List.mem_of_getElem? (i := 1470) (by decide +kernel)⟩
theorem lw_p95 : lw_okq (⟨"CliffGardenModel", "readsSum", "()Z"⟩, 78) := ⟨⟨by decide +kernel, by decide +kernel⟩, List.mem_of_getElem? (i := 1154) (by decide +kernel), List.mem_of_getElem? (i := 1473) (by decide +kernel), List.mem_of_getElem? (i := 1474) (by decide +kernel)⟩
def lw_privs_6 : List (MethodName × Nat) := [(⟨"CliffGarden$Water", "reckonGrowth", "(I)V"⟩, 11), (⟨"CliffGarden$Water", "tryValve", "(II)V"⟩, 11), (⟨"CliffGarden$Water", "weighTrial", "()V"⟩, 11), (⟨"CliffGarden$Water", "dropsAt", "(I)I"⟩, 11), (⟨"CliffGarden$Rounds", "asMending", "([I)V"⟩, 8), (⟨"CliffGarden$Nets", "highestFall", "(II)I"⟩, 14), (⟨"CliffGarden$Tape", "numberAt", "(I)I"⟩, 2), (⟨"CliffGarden$Nets", "crops", "()I"⟩, 14), (⟨"CliffGarden", "countOfRow", "(I)I"⟩, 12), (⟨"CliffGardenModel", "empties", "(I)V"⟩, 78), (⟨"CliffGardenModel", "isHung", "(II)Z"⟩, 78), (⟨"CliffGardenModel", "types", "(I)V"⟩, 78), (⟨"CliffGardenModel", "readsClause", "()Z"⟩, 78), (⟨"CliffGardenModel", "here", "()I"⟩, 78), (⟨"CliffGardenModel", "wrongAt", "(II)Z"⟩, 78), (⟨"CliffGardenModel", "readsSum", "()Z"⟩, 78)]
theorem lw_r6 : ∀ q ∈ lw_privs_6, lw_okq q := List.forall_mem_cons.mpr ⟨lw_p80, List.forall_mem_cons.mpr ⟨lw_p81, List.forall_mem_cons.mpr ⟨lw_p82, List.forall_mem_cons.mpr ⟨lw_p83, List.forall_mem_cons.mpr ⟨lw_p84, List.forall_mem_cons.mpr ⟨lw_p85, List.forall_mem_cons.mpr ⟨lw_p86, List.forall_mem_cons.mpr ⟨lw_p87, List.forall_mem_cons.mpr ⟨lw_p88, List.forall_mem_cons.mpr ⟨lw_p89, List.forall_mem_cons.mpr ⟨lw_p90, List.forall_mem_cons.mpr ⟨lw_p91, List.forall_mem_cons.mpr ⟨lw_p92, List.forall_mem_cons.mpr ⟨lw_p93, List.forall_mem_cons.mpr ⟨lw_p94, List.forall_mem_cons.mpr ⟨lw_p95, fun _ h => absurd h List.not_mem_nil⟩⟩⟩⟩⟩⟩⟩⟩⟩⟩⟩⟩⟩⟩⟩⟩
theorem lw_p96 : lw_okq (⟨"CliffGardenModel", "readsFactor", "()Z"⟩, 78) := ⟨⟨by decide +kernel, by decide +kernel⟩, List.mem_of_getElem? (i := 1154) (by decide +kernel), List.mem_of_getElem? (i := 1477) (by decide +kernel), List.mem_of_getElem? (i := 1478) (by decide +kernel)⟩
theorem lw_p97 : lw_okq (⟨"CliffGardenModel", "opens", "(I)Z"⟩, 78) := ⟨⟨by decide +kernel, by decide +kernel⟩, List.mem_of_getElem? (i := 1154) (by decide +kernel), List.mem_of_getElem? (i := 1481) (by decide +kernel), List.mem_of_getElem? (i := 1482) (by decide +kernel)⟩
theorem lw_p98 : lw_okq (⟨"CliffGardenModel", "isDigit", "()Z"⟩, 78) := ⟨⟨by decide +kernel, by decide +kernel⟩, List.mem_of_getElem? (i := 1154) (by decide +kernel), List.mem_of_getElem? (i := 1486) (by decide +kernel), List.mem_of_getElem? (i := 1487) (by decide +kernel)⟩
theorem lw_p99 : lw_okq (⟨"CliffGardenModel", "readsNumber", "()Z"⟩, 78) := ⟨⟨by decide +kernel, by decide +kernel⟩, List.mem_of_getElem? (i := 1154) (by decide +kernel), List.mem_of_getElem? (i := 1490) (by decide +kernel), List.mem_of_getElem? (i := 1491) (by decide +kernel)⟩
theorem lw_p100 : lw_okq (⟨"CliffGardenModel", "notes", "(II)V"⟩, 78) := ⟨⟨by decide +kernel, by decide +kernel⟩, List.mem_of_getElem? (i := 1154) (by decide +kernel), List.mem_of_getElem? (i := 1494) (by decide +kernel), List.mem_of_getElem? (i := 1495) (by decide +kernel)⟩
theorem lw_p101 : lw_okq (⟨"CliffGardenModel", "closesSums", "(Z)V"⟩, 78) := ⟨⟨by decide +kernel, by decide +kernel⟩, List.mem_of_getElem? (i := 1154) (by decide +kernel), List.mem_of_getElem? (i := 1504) (by decide +kernel), List.mem_of_getElem? (i := 1505) (by decide +kernel)⟩
theorem lw_p102 : lw_okq (⟨"CliffGardenModel", "top", "()I"⟩, 78) := ⟨⟨by decide +kernel, by decide +kernel⟩, List.mem_of_getElem? (i := 1154) (by decide +kernel), List.mem_of_getElem? (i := 1508) (by decide +kernel), List.mem_of_getElem? (i := 1509) (by decide +kernel)⟩
theorem lw_p103 : lw_okq (⟨"CliffGardenModel", "hasOpenSum", "(I)Z"⟩, 78) := ⟨⟨by decide +kernel, by decide +kernel⟩, List.mem_of_getElem? (i := 1154) (by decide +kernel), List.mem_of_getElem? (i := 1512) (by decide +kernel), List.mem_of_getElem? (i := 1513) (by decide +kernel)⟩
theorem lw_p104 : lw_okq (⟨"CliffGardenModel", "readsCondition", "()Z"⟩, 78) := ⟨⟨by decide +kernel, by decide +kernel⟩, List.mem_of_getElem? (i := 1154) (by decide +kernel), List.mem_of_getElem? (i := 1516) (by decide +kernel), List.mem_of_getElem? (i := 1517) (by decide +kernel)⟩
theorem lw_p105 : lw_okq (⟨"CliffGardenModel", "readsCompared", "()Z"⟩, 78) := ⟨⟨by decide +kernel, by decide +kernel⟩, List.mem_of_getElem? (i := 1154) (by decide +kernel), List.mem_of_getElem? (i := 1520) (by decide +kernel), List.mem_of_getElem? (i := 1521) (by decide +kernel)⟩
theorem lw_p106 : lw_okq (⟨"CliffGardenModel", "endsPiece", "()V"⟩, 78) := ⟨⟨by decide +kernel, by decide +kernel⟩, List.mem_of_getElem? (i := 1154) (by decide +kernel), List.mem_of_getElem? (i := 1524) (by decide +kernel), List.mem_of_getElem? (i := 1525) (by decide +kernel)⟩
theorem lw_p107 : lw_okq (⟨"CliffGardenModel", "lands", "(Z)V"⟩, 78) := ⟨⟨by decide +kernel, by decide +kernel⟩, List.mem_of_getElem? (i := 1154) (by decide +kernel), List.mem_of_getElem? (i := 1528) (by decide +kernel), List.mem_of_getElem? (i := 1529) (by decide +kernel)⟩
theorem lw_p108 : lw_okq (⟨"CliffGardenModel", "jumps", "(I)V"⟩, 78) := ⟨⟨by decide +kernel, by decide +kernel⟩, List.mem_of_getElem? (i := 1154) (by decide +kernel), List.mem_of_getElem? (i := 1532) (by decide +kernel), List.mem_of_getElem? (i := 1533) (by decide +kernel)⟩
theorem lw_p109 : lw_okq (⟨"CliffGardenModel", "takes", "(I)Z"⟩, 78) := ⟨⟨by decide +kernel, by decide +kernel⟩, List.mem_of_getElem? (i := 1154) (by decide +kernel), List.mem_of_getElem? (i := 1536) (by decide +kernel), List.mem_of_getElem? (i := 1537) (by decide +kernel)⟩
theorem lw_p110 : lw_okq (⟨"CliffGardenModel", "asked", "(III)I"⟩, 78) := ⟨⟨by decide +kernel, by decide +kernel⟩, List.mem_of_getElem? (i := 1154) (by decide +kernel), List.mem_of_getElem? (i := 1544) (by decide +kernel), List.mem_of_getElem? (i := 1545) (by decide +kernel)⟩
theorem lw_p111 : lw_okq (⟨"CliffGardenModel", "feels", "(I)V"⟩, 78) := ⟨⟨by decide +kernel, by decide +kernel⟩, List.mem_of_getElem? (i := 1154) (by decide +kernel), List.mem_of_getElem? (i := 1548) (by decide +kernel), List.mem_of_getElem? (i := 1549) (by decide +kernel)⟩
def lw_privs_7 : List (MethodName × Nat) := [(⟨"CliffGardenModel", "readsFactor", "()Z"⟩, 78), (⟨"CliffGardenModel", "opens", "(I)Z"⟩, 78), (⟨"CliffGardenModel", "isDigit", "()Z"⟩, 78), (⟨"CliffGardenModel", "readsNumber", "()Z"⟩, 78), (⟨"CliffGardenModel", "notes", "(II)V"⟩, 78), (⟨"CliffGardenModel", "closesSums", "(Z)V"⟩, 78), (⟨"CliffGardenModel", "top", "()I"⟩, 78), (⟨"CliffGardenModel", "hasOpenSum", "(I)Z"⟩, 78), (⟨"CliffGardenModel", "readsCondition", "()Z"⟩, 78), (⟨"CliffGardenModel", "readsCompared", "()Z"⟩, 78), (⟨"CliffGardenModel", "endsPiece", "()V"⟩, 78), (⟨"CliffGardenModel", "lands", "(Z)V"⟩, 78), (⟨"CliffGardenModel", "jumps", "(I)V"⟩, 78), (⟨"CliffGardenModel", "takes", "(I)Z"⟩, 78), (⟨"CliffGardenModel", "asked", "(III)I"⟩, 78), (⟨"CliffGardenModel", "feels", "(I)V"⟩, 78)]
theorem lw_r7 : ∀ q ∈ lw_privs_7, lw_okq q := List.forall_mem_cons.mpr ⟨lw_p96, List.forall_mem_cons.mpr ⟨lw_p97, List.forall_mem_cons.mpr ⟨lw_p98, List.forall_mem_cons.mpr ⟨lw_p99, List.forall_mem_cons.mpr ⟨lw_p100, List.forall_mem_cons.mpr ⟨lw_p101, List.forall_mem_cons.mpr ⟨lw_p102, List.forall_mem_cons.mpr ⟨lw_p103, List.forall_mem_cons.mpr ⟨lw_p104, List.forall_mem_cons.mpr ⟨lw_p105, List.forall_mem_cons.mpr ⟨lw_p106, List.forall_mem_cons.mpr ⟨lw_p107, List.forall_mem_cons.mpr ⟨lw_p108, List.forall_mem_cons.mpr ⟨lw_p109, List.forall_mem_cons.mpr ⟨lw_p110, List.forall_mem_cons.mpr ⟨lw_p111, fun _ h => absurd h List.not_mem_nil⟩⟩⟩⟩⟩⟩⟩⟩⟩⟩⟩⟩⟩⟩⟩⟩
theorem lw_p112 : lw_okq (⟨"CliffGardenModel", "feelsCell", "(III)V"⟩, 78) := ⟨⟨by decide +kernel, by decide +kernel⟩, List.mem_of_getElem? (i := 1154) (by decide +kernel), List.mem_of_getElem? (i := 1552) (by decide +kernel), List.mem_of_getElem? (i := 1553) (by decide +kernel)⟩
theorem lw_p113 : lw_okq (⟨"CliffGardenModel", "isRipe", "(I)Z"⟩, 78) := ⟨⟨by decide +kernel, by decide +kernel⟩, List.mem_of_getElem? (i := 1154) (by decide +kernel), List.mem_of_getElem? (i := 1556) (by decide +kernel), List.mem_of_getElem? (i := 1557) (by decide +kernel)⟩
theorem lw_p114 : lw_okq (⟨"CliffGardenModel", "feelsCrop", "(IIZZ)V"⟩, 78) := ⟨⟨by decide +kernel, by decide +kernel⟩, List.mem_of_getElem? (i := 1154) (by decide +kernel), List.mem_of_getElem? (i := 1560) (by decide +kernel), List.mem_of_getElem? (i := 1561) (by decide +kernel)⟩
theorem lw_p115 : lw_okq (⟨"CliffGardenModel", "told", "(II)I"⟩, 78) := ⟨⟨by decide +kernel, by decide +kernel⟩, List.mem_of_getElem? (i := 1154) (by decide +kernel), List.mem_of_getElem? (i := 1564) (by decide +kernel), List.mem_of_getElem? (i := 1565) (by decide +kernel)⟩
theorem lw_p116 : lw_okq (⟨"CliffGardenModel", "comesTo", "(II)I"⟩, 78) := ⟨⟨by decide +kernel, by decide +kernel⟩, List.mem_of_getElem? (i := 1154) (by decide +kernel), List.mem_of_getElem? (i := 1568) (by decide +kernel), List.mem_of_getElem? (i := 1569) (by decide +kernel)⟩
theorem lw_p117 : lw_okq (⟨"CliffGardenModel", "flows", "()V"⟩, 78) := ⟨⟨by decide +kernel, by decide +kernel⟩, List.mem_of_getElem? (i := 1154) (by decide +kernel), List.mem_of_getElem? (i := 1579) (by decide +kernel), List.mem_of_getElem? (i := 1580) (by decide +kernel)⟩
theorem lw_p118 : lw_okq (⟨"CliffGardenModel", "drips", "(II)V"⟩, 78) := ⟨⟨by decide +kernel, by decide +kernel⟩, List.mem_of_getElem? (i := 1154) (by decide +kernel), List.mem_of_getElem? (i := 1583) (by decide +kernel), List.mem_of_getElem? (i := 1584) (by decide +kernel)⟩
theorem lw_p119 : lw_okq (⟨"CliffGardenModel", "sends", "(III)V"⟩, 78) := ⟨⟨by decide +kernel, by decide +kernel⟩, List.mem_of_getElem? (i := 1154) (by decide +kernel), List.mem_of_getElem? (i := 1587) (by decide +kernel), List.mem_of_getElem? (i := 1588) (by decide +kernel)⟩
theorem lw_p120 : lw_okq (⟨"CliffGardenModel", "loadOf", "(I)I"⟩, 78) := ⟨⟨by decide +kernel, by decide +kernel⟩, List.mem_of_getElem? (i := 1154) (by decide +kernel), List.mem_of_getElem? (i := 1598) (by decide +kernel), List.mem_of_getElem? (i := 1599) (by decide +kernel)⟩
theorem lw_p121 : lw_okq (⟨"CliffGardenModel", "ownLoad", "(I)I"⟩, 78) := ⟨⟨by decide +kernel, by decide +kernel⟩, List.mem_of_getElem? (i := 1154) (by decide +kernel), List.mem_of_getElem? (i := 1602) (by decide +kernel), List.mem_of_getElem? (i := 1603) (by decide +kernel)⟩
theorem lw_p122 : lw_okq (⟨"CliffGardenModel", "falls", "(IZ)I"⟩, 78) := ⟨⟨by decide +kernel, by decide +kernel⟩, List.mem_of_getElem? (i := 1154) (by decide +kernel), List.mem_of_getElem? (i := 1610) (by decide +kernel), List.mem_of_getElem? (i := 1611) (by decide +kernel)⟩
theorem lw_p123 : lw_okq (⟨"CliffGardenModel", "catcher", "(I)I"⟩, 78) := ⟨⟨by decide +kernel, by decide +kernel⟩, List.mem_of_getElem? (i := 1154) (by decide +kernel), List.mem_of_getElem? (i := 1614) (by decide +kernel), List.mem_of_getElem? (i := 1615) (by decide +kernel)⟩
theorem lw_p124 : lw_okq (⟨"CliffGardenModel", "writes", "(IIII)V"⟩, 78) := ⟨⟨by decide +kernel, by decide +kernel⟩, List.mem_of_getElem? (i := 1154) (by decide +kernel), List.mem_of_getElem? (i := 1618) (by decide +kernel), List.mem_of_getElem? (i := 1619) (by decide +kernel)⟩
theorem lw_p125 : lw_okq (⟨"CliffGardenModel", "firstGoing", "()I"⟩, 78) := ⟨⟨by decide +kernel, by decide +kernel⟩, List.mem_of_getElem? (i := 1154) (by decide +kernel), List.mem_of_getElem? (i := 1626) (by decide +kernel), List.mem_of_getElem? (i := 1627) (by decide +kernel)⟩
theorem lw_p126 : lw_okq (⟨"CliffGardenModel", "goesOff", "(IZ)I"⟩, 78) := ⟨⟨by decide +kernel, by decide +kernel⟩, List.mem_of_getElem? (i := 1154) (by decide +kernel), List.mem_of_getElem? (i := 1630) (by decide +kernel), List.mem_of_getElem? (i := 1631) (by decide +kernel)⟩
theorem lw_p127 : lw_okq (⟨"CliffGardenModel", "tears", "(III)V"⟩, 78) := ⟨⟨by decide +kernel, by decide +kernel⟩, List.mem_of_getElem? (i := 1154) (by decide +kernel), List.mem_of_getElem? (i := 1634) (by decide +kernel), List.mem_of_getElem? (i := 1635) (by decide +kernel)⟩
def lw_privs_8 : List (MethodName × Nat) := [(⟨"CliffGardenModel", "feelsCell", "(III)V"⟩, 78), (⟨"CliffGardenModel", "isRipe", "(I)Z"⟩, 78), (⟨"CliffGardenModel", "feelsCrop", "(IIZZ)V"⟩, 78), (⟨"CliffGardenModel", "told", "(II)I"⟩, 78), (⟨"CliffGardenModel", "comesTo", "(II)I"⟩, 78), (⟨"CliffGardenModel", "flows", "()V"⟩, 78), (⟨"CliffGardenModel", "drips", "(II)V"⟩, 78), (⟨"CliffGardenModel", "sends", "(III)V"⟩, 78), (⟨"CliffGardenModel", "loadOf", "(I)I"⟩, 78), (⟨"CliffGardenModel", "ownLoad", "(I)I"⟩, 78), (⟨"CliffGardenModel", "falls", "(IZ)I"⟩, 78), (⟨"CliffGardenModel", "catcher", "(I)I"⟩, 78), (⟨"CliffGardenModel", "writes", "(IIII)V"⟩, 78), (⟨"CliffGardenModel", "firstGoing", "()I"⟩, 78), (⟨"CliffGardenModel", "goesOff", "(IZ)I"⟩, 78), (⟨"CliffGardenModel", "tears", "(III)V"⟩, 78)]
theorem lw_r8 : ∀ q ∈ lw_privs_8, lw_okq q := List.forall_mem_cons.mpr ⟨lw_p112, List.forall_mem_cons.mpr ⟨lw_p113, List.forall_mem_cons.mpr ⟨lw_p114, List.forall_mem_cons.mpr ⟨lw_p115, List.forall_mem_cons.mpr ⟨lw_p116, List.forall_mem_cons.mpr ⟨lw_p117, List.forall_mem_cons.mpr ⟨lw_p118, List.forall_mem_cons.mpr ⟨lw_p119, List.forall_mem_cons.mpr ⟨lw_p120, List.forall_mem_cons.mpr ⟨lw_p121, List.forall_mem_cons.mpr ⟨lw_p122, List.forall_mem_cons.mpr ⟨lw_p123, List.forall_mem_cons.mpr ⟨lw_p124, List.forall_mem_cons.mpr ⟨lw_p125, List.forall_mem_cons.mpr ⟨lw_p126, List.forall_mem_cons.mpr ⟨lw_p127, fun _ h => absurd h List.not_mem_nil⟩⟩⟩⟩⟩⟩⟩⟩⟩⟩⟩⟩⟩⟩⟩⟩
theorem lw_p128 : lw_okq (⟨"CliffGardenModel", "isFall", "(I)Z"⟩, 78) := ⟨⟨by decide +kernel, by decide +kernel⟩, List.mem_of_getElem? (i := 1154) (by decide +kernel), List.mem_of_getElem? (i := 1657) (by decide +kernel), List.mem_of_getElem? (i := 1658) (by decide +kernel)⟩
theorem lw_p129 : lw_okq (⟨"CliffGardenModel", "claimer", "(II)I"⟩, 78) := ⟨⟨by decide +kernel, by decide +kernel⟩, List.mem_of_getElem? (i := 1154) (by decide +kernel), List.mem_of_getElem? (i := 1665) (by decide +kernel), List.mem_of_getElem? (i := 1666) (by decide +kernel)⟩
theorem lw_p130 : lw_okq (⟨"CliffGardenModel", "mayBe", "(II)Z"⟩, 78) := ⟨⟨by decide +kernel, by decide +kernel⟩, List.mem_of_getElem? (i := 1154) (by decide +kernel), List.mem_of_getElem? (i := 1685) (by decide +kernel), List.mem_of_getElem? (i := 1686) (by decide +kernel)⟩
theorem lw_p131 : lw_okq (⟨"CliffGardenModel", "lays", "(JI)Z"⟩, 78) := ⟨⟨by decide +kernel, by decide +kernel⟩, List.mem_of_getElem? (i := 1154) (by decide +kernel), List.mem_of_getElem? (i := 1693) (by decide +kernel), List.mem_of_getElem? (i := 1694) (by decide +kernel)⟩
theorem lw_p132 : lw_okq (⟨"CliffGardenModel", "laysHours", "()V"⟩, 78) := ⟨⟨by decide +kernel, by decide +kernel⟩, List.mem_of_getElem? (i := 1154) (by decide +kernel), List.mem_of_getElem? (i := 1698) (by decide +kernel), List.mem_of_getElem? (i := 1699) (by decide +kernel)⟩
theorem lw_p133 : lw_okq (⟨"CliffGardenModel", "takesUp", "(II)J"⟩, 78) := ⟨⟨by decide +kernel, by decide +kernel⟩, List.mem_of_getElem? (i := 1154) (by decide +kernel), List.mem_of_getElem? (i := 1713) (by decide +kernel), List.mem_of_getElem? (i := 1714) (by decide +kernel)⟩
theorem lw_p134 : lw_okq (⟨"CliffGardenModel", "hasKind", "(II)Z"⟩, 78) := ⟨⟨by decide +kernel, by decide +kernel⟩, List.mem_of_getElem? (i := 1154) (by decide +kernel), List.mem_of_getElem? (i := 1717) (by decide +kernel), List.mem_of_getElem? (i := 1718) (by decide +kernel)⟩
theorem lw_p135 : lw_okq (⟨"CliffGardenModel", "flies", "()V"⟩, 78) := ⟨⟨by decide +kernel, by decide +kernel⟩, List.mem_of_getElem? (i := 1154) (by decide +kernel), List.mem_of_getElem? (i := 1721) (by decide +kernel), List.mem_of_getElem? (i := 1722) (by decide +kernel)⟩
theorem lw_p136 : lw_okq (⟨"CliffGardenModel", "areWhole", "()Z"⟩, 78) := ⟨⟨by decide +kernel, by decide +kernel⟩, List.mem_of_getElem? (i := 1154) (by decide +kernel), List.mem_of_getElem? (i := 1740) (by decide +kernel), List.mem_of_getElem? (i := 1741) (by decide +kernel)⟩
theorem lw_p137 : lw_okq (⟨"CliffGardenModel", "bearsAll", "()Z"⟩, 78) := ⟨⟨by decide +kernel, by decide +kernel⟩, List.mem_of_getElem? (i := 1154) (by decide +kernel), List.mem_of_getElem? (i := 1744) (by decide +kernel), List.mem_of_getElem? (i := 1745) (by decide +kernel)⟩
theorem lw_p138 : lw_okq (⟨"CliffGardenModel", "growth", "()I"⟩, 78) := ⟨⟨by decide +kernel, by decide +kernel⟩, List.mem_of_getElem? (i := 1154) (by decide +kernel), List.mem_of_getElem? (i := 1755) (by decide +kernel), List.mem_of_getElem? (i := 1756) (by decide +kernel)⟩
theorem lw_p139 : lw_okq (⟨"CliffGardenModel", "canBeNext", "(II)Z"⟩, 78) := ⟨⟨by decide +kernel, by decide +kernel⟩, List.mem_of_getElem? (i := 1154) (by decide +kernel), List.mem_of_getElem? (i := 1763) (by decide +kernel), List.mem_of_getElem? (i := 1764) (by decide +kernel)⟩
theorem lw_p140 : lw_okq (⟨"CliffGardenModel", "costBy", "(II)I"⟩, 78) := ⟨⟨by decide +kernel, by decide +kernel⟩, List.mem_of_getElem? (i := 1154) (by decide +kernel), List.mem_of_getElem? (i := 1767) (by decide +kernel), List.mem_of_getElem? (i := 1768) (by decide +kernel)⟩
theorem lw_p141 : lw_okq (⟨"CliffGardenModel", "hoursOf", "(I)I"⟩, 78) := ⟨⟨by decide +kernel, by decide +kernel⟩, List.mem_of_getElem? (i := 1154) (by decide +kernel), List.mem_of_getElem? (i := 1771) (by decide +kernel), List.mem_of_getElem? (i := 1772) (by decide +kernel)⟩
theorem lw_p142 : lw_okq (⟨"CliffGardenModel", "isHit", "(II)Z"⟩, 78) := ⟨⟨by decide +kernel, by decide +kernel⟩, List.mem_of_getElem? (i := 1154) (by decide +kernel), List.mem_of_getElem? (i := 1782) (by decide +kernel), List.mem_of_getElem? (i := 1783) (by decide +kernel)⟩
theorem lw_p143 : lw_okq (⟨"CliffGardenModel", "tapeNumber", "(I)I"⟩, 78) := ⟨⟨by decide +kernel, by decide +kernel⟩, List.mem_of_getElem? (i := 1154) (by decide +kernel), List.mem_of_getElem? (i := 1790) (by decide +kernel), List.mem_of_getElem? (i := 1791) (by decide +kernel)⟩
def lw_privs_9 : List (MethodName × Nat) := [(⟨"CliffGardenModel", "isFall", "(I)Z"⟩, 78), (⟨"CliffGardenModel", "claimer", "(II)I"⟩, 78), (⟨"CliffGardenModel", "mayBe", "(II)Z"⟩, 78), (⟨"CliffGardenModel", "lays", "(JI)Z"⟩, 78), (⟨"CliffGardenModel", "laysHours", "()V"⟩, 78), (⟨"CliffGardenModel", "takesUp", "(II)J"⟩, 78), (⟨"CliffGardenModel", "hasKind", "(II)Z"⟩, 78), (⟨"CliffGardenModel", "flies", "()V"⟩, 78), (⟨"CliffGardenModel", "areWhole", "()Z"⟩, 78), (⟨"CliffGardenModel", "bearsAll", "()Z"⟩, 78), (⟨"CliffGardenModel", "growth", "()I"⟩, 78), (⟨"CliffGardenModel", "canBeNext", "(II)Z"⟩, 78), (⟨"CliffGardenModel", "costBy", "(II)I"⟩, 78), (⟨"CliffGardenModel", "hoursOf", "(I)I"⟩, 78), (⟨"CliffGardenModel", "isHit", "(II)Z"⟩, 78), (⟨"CliffGardenModel", "tapeNumber", "(I)I"⟩, 78)]
theorem lw_r9 : ∀ q ∈ lw_privs_9, lw_okq q := List.forall_mem_cons.mpr ⟨lw_p128, List.forall_mem_cons.mpr ⟨lw_p129, List.forall_mem_cons.mpr ⟨lw_p130, List.forall_mem_cons.mpr ⟨lw_p131, List.forall_mem_cons.mpr ⟨lw_p132, List.forall_mem_cons.mpr ⟨lw_p133, List.forall_mem_cons.mpr ⟨lw_p134, List.forall_mem_cons.mpr ⟨lw_p135, List.forall_mem_cons.mpr ⟨lw_p136, List.forall_mem_cons.mpr ⟨lw_p137, List.forall_mem_cons.mpr ⟨lw_p138, List.forall_mem_cons.mpr ⟨lw_p139, List.forall_mem_cons.mpr ⟨lw_p140, List.forall_mem_cons.mpr ⟨lw_p141, List.forall_mem_cons.mpr ⟨lw_p142, List.forall_mem_cons.mpr ⟨lw_p143, fun _ h => absurd h List.not_mem_nil⟩⟩⟩⟩⟩⟩⟩⟩⟩⟩⟩⟩⟩⟩⟩⟩
theorem lw_p144 : lw_okq (⟨"CliffGardenModel", "cells", "(Z)I"⟩, 78) := ⟨⟨by decide +kernel, by decide +kernel⟩, List.mem_of_getElem? (i := 1154) (by decide +kernel), List.mem_of_getElem? (i := 1798) (by decide +kernel), List.mem_of_getElem? (i := 1799) (by decide +kernel)⟩
def lw_privs_10 : List (MethodName × Nat) := [(⟨"CliffGardenModel", "cells", "(Z)I"⟩, 78)]
theorem lw_r10 : ∀ q ∈ lw_privs_10, lw_okq q := List.forall_mem_cons.mpr ⟨lw_p144, fun _ h => absurd h List.not_mem_nil⟩
def lw_privs : List (MethodName × Nat) := lw_privs_1 ++ (lw_privs_2 ++ (lw_privs_3 ++ (lw_privs_4 ++ (lw_privs_5 ++ (lw_privs_6 ++ (lw_privs_7 ++ (lw_privs_8 ++ (lw_privs_9 ++ (lw_privs_10)))))))))
def lw_tbl : List Cond := k2_sels lw_privs ++ tables_1
theorem lw_privs_ok : ∀ q ∈ lw_privs, lw_okq q := by
  show ∀ q ∈ lw_privs_1 ++ (lw_privs_2 ++ (lw_privs_3 ++ (lw_privs_4 ++ (lw_privs_5 ++ (lw_privs_6 ++ (lw_privs_7 ++ (lw_privs_8 ++ (lw_privs_9 ++ (lw_privs_10))))))))), lw_okq q
  exact List.forall_mem_append.mpr ⟨lw_r1, List.forall_mem_append.mpr ⟨lw_r2, List.forall_mem_append.mpr ⟨lw_r3, List.forall_mem_append.mpr ⟨lw_r4, List.forall_mem_append.mpr ⟨lw_r5, List.forall_mem_append.mpr ⟨lw_r6, List.forall_mem_append.mpr ⟨lw_r7, List.forall_mem_append.mpr ⟨lw_r8, List.forall_mem_append.mpr ⟨lw_r9, lw_r10⟩⟩⟩⟩⟩⟩⟩⟩⟩
end
section
def RX0 : String := "CliffGarden$Brow"
def TX0 : u_T := fun k => match k with
  | 0 => ("CliffGarden$Brow", "valve", "[I", true)
  | 1 => ("CliffGarden$Brow", "owner", "[I", true)
  | 2 => ("CliffGarden$Brow", "roof", "[I", true)
  | 3 => ("CliffGarden$Brow", "drops", "[I", true)
  | 4 => ("CliffGarden$Brow", "holes", "[I", true)
  | 5 => ("CliffGarden$Brow", "bears", "[I", true)
  | 6 => ("CliffGarden$Brow", "hourCosts", "[I", true)
  | 7 => ("CliffGarden$Brow", "food", "[I", true)
  | _ => ("CliffGarden$Brow", "today", "I", false)
def tyX0 : Nat → FieldType := fun k => match k with
  | 0 => .array .int
  | 1 => .array .int
  | 2 => .array .int
  | 3 => .array .int
  | 4 => .array .int
  | 5 => .array .int
  | 6 => .array .int
  | 7 => .array .int
  | _ => .int
abbrev wsX00 : List Cond := u_ws RX0 TX0 9
theorem nmX0 : ∀ a, a < 9 → ∀ b, b < 9 → a ≠ b → (TX0 a).2.1 ≠ (TX0 b).2.1 := by decide +kernel
theorem tyX0_ok : ∀ k, k < 9 → parseFieldDescriptor (TX0 k).2.2.1 = some (tyX0 k) := by decide +kernel
def RX1 : String := "CliffGarden$Court"
def TX1 : u_T := fun k => match k with
  | 0 => ("CliffGarden$Court", "nets", "LCliffGarden$Nets;", true)
  | 1 => ("CliffGarden$Court", "brow", "LCliffGarden$Brow;", true)
  | 2 => ("CliffGarden$Court", "falls", "LCliffGarden$Falls;", true)
  | 3 => ("CliffGarden$Court", "seen", "[I", true)
  | _ => ("CliffGarden$Court", "law", "LCliffGarden$Statute;", false)
def tyX1 : Nat → FieldType := fun k => match k with
  | 0 => .object "CliffGarden$Nets"
  | 1 => .object "CliffGarden$Brow"
  | 2 => .object "CliffGarden$Falls"
  | 3 => .array .int
  | _ => .object "CliffGarden$Statute"
abbrev wsX10 : List Cond := u_ws RX1 TX1 5
theorem nmX1 : ∀ a, a < 5 → ∀ b, b < 5 → a ≠ b → (TX1 a).2.1 ≠ (TX1 b).2.1 := by decide +kernel
theorem tyX1_ok : ∀ k, k < 5 → parseFieldDescriptor (TX1 k).2.2.1 = some (tyX1 k) := by decide +kernel
def RX2 : String := "CliffGarden$Falls"
def TX2 : u_T := fun k => match k with
  | 0 => ("CliffGarden$Falls", "from", "[I", true)
  | 1 => ("CliffGarden$Falls", "kind", "[I", true)
  | 2 => ("CliffGarden$Falls", "weight", "[I", true)
  | 3 => ("CliffGarden$Falls", "ripe", "[Z", true)
  | 4 => ("CliffGarden$Falls", "pollinated", "[Z", true)
  | 5 => ("CliffGarden$Falls", "lies", "[I", true)
  | 6 => ("CliffGarden$Falls", "whose", "[I", true)
  | 7 => ("CliffGarden$Falls", "food", "[I", true)
  | 8 => ("CliffGarden$Falls", "day", "[I", true)
  | 9 => ("CliffGarden$Falls", "written", "I", false)
  | _ => ("CliffGarden$Falls", "happened", "I", false)
def tyX2 : Nat → FieldType := fun k => match k with
  | 0 => .array .int
  | 1 => .array .int
  | 2 => .array .int
  | 3 => .array .boolean
  | 4 => .array .boolean
  | 5 => .array .int
  | 6 => .array .int
  | 7 => .array .int
  | 8 => .array .int
  | 9 => .int
  | _ => .int
abbrev wsX20 : List Cond := u_ws RX2 TX2 11
theorem nmX2 : ∀ a, a < 11 → ∀ b, b < 11 → a ≠ b → (TX2 a).2.1 ≠ (TX2 b).2.1 := by decide +kernel
theorem tyX2_ok : ∀ k, k < 11 → parseFieldDescriptor (TX2 k).2.2.1 = some (tyX2 k) := by decide +kernel
def RX3 : String := "CliffGarden$Nets"
def TX3 : u_T := fun k => match k with
  | 0 => ("CliffGarden$Nets", "hanging", "J", false)
  | 1 => ("CliffGarden$Nets", "knot", "[I", true)
  | 2 => ("CliffGarden$Nets", "soil", "[I", true)
  | 3 => ("CliffGarden$Nets", "farmer", "[I", true)
  | 4 => ("CliffGarden$Nets", "way", "[I", true)
  | 5 => ("CliffGarden$Nets", "kind", "[I", true)
  | 6 => ("CliffGarden$Nets", "weight", "[I", true)
  | 7 => ("CliffGarden$Nets", "caught", "[I", true)
  | 8 => ("CliffGarden$Nets", "kept", "[I", true)
  | 9 => ("CliffGarden$Nets", "pollinated", "[Z", true)
  | 10 => ("CliffGarden$Nets", "need", "[I", true)
  | 11 => ("CliffGarden$Nets", "ripe", "[I", true)
  | 12 => ("CliffGarden$Nets", "worth", "[I", true)
  | _ => ("CliffGarden$Nets", "knotsBefore", "[I", true)
def tyX3 : Nat → FieldType := fun k => match k with
  | 0 => .long
  | 1 => .array .int
  | 2 => .array .int
  | 3 => .array .int
  | 4 => .array .int
  | 5 => .array .int
  | 6 => .array .int
  | 7 => .array .int
  | 8 => .array .int
  | 9 => .array .boolean
  | 10 => .array .int
  | 11 => .array .int
  | 12 => .array .int
  | _ => .array .int
abbrev wsX30 : List Cond := u_ws RX3 TX3 14
theorem nmX3 : ∀ a, a < 14 → ∀ b, b < 14 → a ≠ b → (TX3 a).2.1 ≠ (TX3 b).2.1 := by decide +kernel
theorem tyX3_ok : ∀ k, k < 14 → parseFieldDescriptor (TX3 k).2.2.1 = some (tyX3 k) := by decide +kernel
def RX4 : String := "CliffGarden$Planting"
def TX4 : u_T := fun k => match k with
  | 0 => ("CliffGarden$Planting", "nets", "LCliffGarden$Nets;", true)
  | 1 => ("CliffGarden$Planting", "brow", "LCliffGarden$Brow;", true)
  | 2 => ("CliffGarden$Planting", "spare", "[I", true)
  | 3 => ("CliffGarden$Planting", "cells", "[I", true)
  | 4 => ("CliffGarden$Planting", "trial", "[I", true)
  | 5 => ("CliffGarden$Planting", "best", "[I", true)
  | 6 => ("CliffGarden$Planting", "told", "I", false)
  | _ => ("CliffGarden$Planting", "mostWorth", "I", false)
def tyX4 : Nat → FieldType := fun k => match k with
  | 0 => .object "CliffGarden$Nets"
  | 1 => .object "CliffGarden$Brow"
  | 2 => .array .int
  | 3 => .array .int
  | 4 => .array .int
  | 5 => .array .int
  | 6 => .int
  | _ => .int
abbrev wsX40 : List Cond := u_ws RX4 TX4 8
theorem nmX4 : ∀ a, a < 8 → ∀ b, b < 8 → a ≠ b → (TX4 a).2.1 ≠ (TX4 b).2.1 := by decide +kernel
theorem tyX4_ok : ∀ k, k < 8 → parseFieldDescriptor (TX4 k).2.2.1 = some (tyX4 k) := by decide +kernel
def RX5 : String := "CliffGarden$Reader"
def TX5 : u_T := fun k => match k with
  | 0 => ("CliffGarden$Reader", "text", "LCliffGarden$Tape;", false)
  | 1 => ("CliffGarden$Reader", "into", "LCliffGarden$Statute;", false)
  | 2 => ("CliffGarden$Reader", "length", "I", false)
  | 3 => ("CliffGarden$Reader", "at", "I", false)
  | _ => ("CliffGarden$Reader", "fault", "I", false)
def tyX5 : Nat → FieldType := fun k => match k with
  | 0 => .object "CliffGarden$Tape"
  | 1 => .object "CliffGarden$Statute"
  | 2 => .int
  | 3 => .int
  | _ => .int
abbrev wsX50 : List Cond := u_ws RX5 TX5 5
theorem nmX5 : ∀ a, a < 5 → ∀ b, b < 5 → a ≠ b → (TX5 a).2.1 ≠ (TX5 b).2.1 := by decide +kernel
theorem tyX5_ok : ∀ k, k < 5 → parseFieldDescriptor (TX5 k).2.2.1 = some (tyX5 k) := by decide +kernel
def RX6 : String := "CliffGarden$Rounds"
def TX6 : u_T := fun k => match k with
  | 0 => ("CliffGarden$Rounds", "cells", "[I", true)
  | 1 => ("CliffGarden$Rounds", "step", "[I", true)
  | 2 => ("CliffGarden$Rounds", "worth", "[I", true)
  | 3 => ("CliffGarden$Rounds", "hours", "[I", true)
  | 4 => ("CliffGarden$Rounds", "ahead", "[I", true)
  | 5 => ("CliffGarden$Rounds", "onward", "[I", true)
  | 6 => ("CliffGarden$Rounds", "row", "[I", true)
  | _ => ("CliffGarden$Rounds", "told", "I", false)
def tyX6 : Nat → FieldType := fun k => match k with
  | 0 => .array .int
  | 1 => .array .int
  | 2 => .array .int
  | 3 => .array .int
  | 4 => .array .int
  | 5 => .array .int
  | 6 => .array .int
  | _ => .int
abbrev wsX60 : List Cond := u_ws RX6 TX6 8
theorem nmX6 : ∀ a, a < 8 → ∀ b, b < 8 → a ≠ b → (TX6 a).2.1 ≠ (TX6 b).2.1 := by decide +kernel
theorem tyX6_ok : ∀ k, k < 8 → parseFieldDescriptor (TX6 k).2.2.1 = some (tyX6 k) := by decide +kernel
def RX7 : String := "CliffGarden$Statute"
def TX7 : u_T := fun k => match k with
  | 0 => ("CliffGarden$Statute", "step", "[I", true)
  | 1 => ("CliffGarden$Statute", "operand", "[I", true)
  | 2 => ("CliffGarden$Statute", "letter", "[I", true)
  | 3 => ("CliffGarden$Statute", "begin", "[I", true)
  | 4 => ("CliffGarden$Statute", "split", "[I", true)
  | 5 => ("CliffGarden$Statute", "end", "[I", true)
  | 6 => ("CliffGarden$Statute", "stack", "[I", true)
  | 7 => ("CliffGarden$Statute", "clauses", "I", false)
  | 8 => ("CliffGarden$Statute", "size", "I", false)
  | _ => ("CliffGarden$Statute", "height", "I", false)
def tyX7 : Nat → FieldType := fun k => match k with
  | 0 => .array .int
  | 1 => .array .int
  | 2 => .array .int
  | 3 => .array .int
  | 4 => .array .int
  | 5 => .array .int
  | 6 => .array .int
  | 7 => .int
  | 8 => .int
  | _ => .int
abbrev wsX70 : List Cond := u_ws RX7 TX7 10
theorem nmX7 : ∀ a, a < 10 → ∀ b, b < 10 → a ≠ b → (TX7 a).2.1 ≠ (TX7 b).2.1 := by decide +kernel
theorem tyX7_ok : ∀ k, k < 10 → parseFieldDescriptor (TX7 k).2.2.1 = some (tyX7 k) := by decide +kernel
def RX8 : String := "CliffGarden$Swallow"
def TX8 : u_T := fun k => match k with
  | 0 => ("CliffGarden$Swallow", "ways", "[I", true)
  | 1 => ("CliffGarden$Swallow", "before", "[I", true)
  | 2 => ("CliffGarden$Swallow", "above", "I", false)
  | _ => ("CliffGarden$Swallow", "below", "I", false)
def tyX8 : Nat → FieldType := fun k => match k with
  | 0 => .array .int
  | 1 => .array .int
  | 2 => .int
  | _ => .int
abbrev wsX80 : List Cond := u_ws RX8 TX8 4
theorem nmX8 : ∀ a, a < 4 → ∀ b, b < 4 → a ≠ b → (TX8 a).2.1 ≠ (TX8 b).2.1 := by decide +kernel
theorem tyX8_ok : ∀ k, k < 4 → parseFieldDescriptor (TX8 k).2.2.1 = some (tyX8 k) := by decide +kernel
def RX9 : String := "CliffGarden$Tape"
def TX9 : u_T := fun k => match k with
  | 0 => ("CliffGarden$Tape", "bytes", "[I", true)
  | _ => ("CliffGarden$Tape", "length", "I", false)
def tyX9 : Nat → FieldType := fun k => match k with
  | 0 => .array .int
  | _ => .int
abbrev wsX90 : List Cond := u_ws RX9 TX9 2
theorem nmX9 : ∀ a, a < 2 → ∀ b, b < 2 → a ≠ b → (TX9 a).2.1 ≠ (TX9 b).2.1 := by decide +kernel
theorem tyX9_ok : ∀ k, k < 2 → parseFieldDescriptor (TX9 k).2.2.1 = some (tyX9 k) := by decide +kernel
def RX10 : String := "CliffGarden$Water"
def TX10 : u_T := fun k => match k with
  | 0 => ("CliffGarden$Water", "nets", "LCliffGarden$Nets;", true)
  | 1 => ("CliffGarden$Water", "court", "LCliffGarden$Court;", true)
  | 2 => ("CliffGarden$Water", "landed", "[I", true)
  | 3 => ("CliffGarden$Water", "coming", "[I", true)
  | 4 => ("CliffGarden$Water", "told", "[I", true)
  | 5 => ("CliffGarden$Water", "best", "[I", true)
  | 6 => ("CliffGarden$Water", "trial", "[I", true)
  | 7 => ("CliffGarden$Water", "trialKept", "[I", true)
  | 8 => ("CliffGarden$Water", "growthBy", "[I", true)
  | 9 => ("CliffGarden$Water", "columns", "I", false)
  | _ => ("CliffGarden$Water", "mostGrowth", "I", false)
def tyX10 : Nat → FieldType := fun k => match k with
  | 0 => .object "CliffGarden$Nets"
  | 1 => .object "CliffGarden$Court"
  | 2 => .array .int
  | 3 => .array .int
  | 4 => .array .int
  | 5 => .array .int
  | 6 => .array .int
  | 7 => .array .int
  | 8 => .array .int
  | 9 => .int
  | _ => .int
abbrev wsX100 : List Cond := u_ws RX10 TX10 11
theorem nmX10 : ∀ a, a < 11 → ∀ b, b < 11 → a ≠ b → (TX10 a).2.1 ≠ (TX10 b).2.1 := by decide +kernel
theorem tyX10_ok : ∀ k, k < 11 → parseFieldDescriptor (TX10 k).2.2.1 = some (tyX10 k) := by decide +kernel
def RX11 : String := "CliffGarden"
def TX11 : u_T := fun k => match k with
  | 0 => ("CliffGarden", "nets", "LCliffGarden$Nets;", true)
  | 1 => ("CliffGarden", "brow", "LCliffGarden$Brow;", true)
  | 2 => ("CliffGarden", "falls", "LCliffGarden$Falls;", true)
  | 3 => ("CliffGarden", "court", "LCliffGarden$Court;", true)
  | 4 => ("CliffGarden", "streams", "LCliffGarden$Water;", true)
  | 5 => ("CliffGarden", "tape", "LCliffGarden$Tape;", true)
  | 6 => ("CliffGarden", "reader", "LCliffGarden$Reader;", true)
  | 7 => ("CliffGarden", "rounds", "LCliffGarden$Rounds;", true)
  | 8 => ("CliffGarden", "planting", "LCliffGarden$Planting;", true)
  | 9 => ("CliffGarden", "swallow", "LCliffGarden$Swallow;", true)
  | 10 => ("CliffGarden", "draft", "LCliffGarden$Statute;", false)
  | _ => ("CliffGarden", "drawn", "I", false)
def tyX11 : Nat → FieldType := fun k => match k with
  | 0 => .object "CliffGarden$Nets"
  | 1 => .object "CliffGarden$Brow"
  | 2 => .object "CliffGarden$Falls"
  | 3 => .object "CliffGarden$Court"
  | 4 => .object "CliffGarden$Water"
  | 5 => .object "CliffGarden$Tape"
  | 6 => .object "CliffGarden$Reader"
  | 7 => .object "CliffGarden$Rounds"
  | 8 => .object "CliffGarden$Planting"
  | 9 => .object "CliffGarden$Swallow"
  | 10 => .object "CliffGarden$Statute"
  | _ => .int
abbrev wsX110 : List Cond := u_ws RX11 TX11 12
theorem nmX11 : ∀ a, a < 12 → ∀ b, b < 12 → a ≠ b → (TX11 a).2.1 ≠ (TX11 b).2.1 := by decide +kernel
theorem tyX11_ok : ∀ k, k < 12 → parseFieldDescriptor (TX11 k).2.2.1 = some (tyX11 k) := by decide +kernel
def RX12 : String := "CliffGardenModel"
def TX12 : u_T := fun k => match k with
  | 0 => ("CliffGardenModel", "today", "I", false)
  | 1 => ("CliffGardenModel", "x0", "I", false)
  | 2 => ("CliffGardenModel", "fallMany", "I", false)
  | 3 => ("CliffGardenModel", "fallsNow", "I", false)
  | 4 => ("CliffGardenModel", "hangs", "[Z", true)
  | 5 => ("CliffGardenModel", "isPollinated", "[Z", true)
  | 6 => ("CliffGardenModel", "knotOf", "[I", true)
  | 7 => ("CliffGardenModel", "soilOf", "[I", true)
  | 8 => ("CliffGardenModel", "farmerOf", "[I", true)
  | 9 => ("CliffGardenModel", "wayOf", "[I", true)
  | 10 => ("CliffGardenModel", "kindOf", "[I", true)
  | 11 => ("CliffGardenModel", "weightOf", "[I", true)
  | 12 => ("CliffGardenModel", "caughtOf", "[I", true)
  | 13 => ("CliffGardenModel", "keptOf", "[I", true)
  | 14 => ("CliffGardenModel", "needOf", "[I", true)
  | 15 => ("CliffGardenModel", "ripeOf", "[I", true)
  | 16 => ("CliffGardenModel", "worthOf", "[I", true)
  | 17 => ("CliffGardenModel", "valveOf", "[I", true)
  | 18 => ("CliffGardenModel", "ownerOf", "[I", true)
  | 19 => ("CliffGardenModel", "roofOf", "[I", true)
  | 20 => ("CliffGardenModel", "cameTo", "[I", true)
  | 21 => ("CliffGardenModel", "holesOf", "[I", true)
  | 22 => ("CliffGardenModel", "foodOf", "[I", true)
  | 23 => ("CliffGardenModel", "bearsOf", "[I", true)
  | 24 => ("CliffGardenModel", "hourOf", "[I", true)
  | 25 => ("CliffGardenModel", "tape", "[B", true)
  | 26 => ("CliffGardenModel", "taped", "I", false)
  | 27 => ("CliffGardenModel", "place0", "I", false)
  | 28 => ("CliffGardenModel", "length0", "I", false)
  | 29 => ("CliffGardenModel", "fault", "I", false)
  | 30 => ("CliffGardenModel", "open", "I", false)
  | 31 => ("CliffGardenModel", "codeMany", "I", false)
  | 32 => ("CliffGardenModel", "waiting", "I", false)
  | 33 => ("CliffGardenModel", "saidMany", "I", false)
  | 34 => ("CliffGardenModel", "number0", "I", false)
  | 35 => ("CliffGardenModel", "clauses", "I", false)
  | 36 => ("CliffGardenModel", "said", "[I", true)
  | 37 => ("CliffGardenModel", "waits", "[I", true)
  | 38 => ("CliffGardenModel", "saidLetter", "[I", true)
  | 39 => ("CliffGardenModel", "saidFrom", "[I", true)
  | 40 => ("CliffGardenModel", "saidHalf", "[I", true)
  | 41 => ("CliffGardenModel", "saidTo", "[I", true)
  | 42 => ("CliffGardenModel", "codes", "[I", true)
  | 43 => ("CliffGardenModel", "letterOf", "[I", true)
  | 44 => ("CliffGardenModel", "codeFrom", "[I", true)
  | 45 => ("CliffGardenModel", "codeHalf", "[I", true)
  | 46 => ("CliffGardenModel", "codeTo", "[I", true)
  | 47 => ("CliffGardenModel", "stack", "[I", true)
  | 48 => ("CliffGardenModel", "facts", "[I", true)
  | 49 => ("CliffGardenModel", "comes", "[I", true)
  | 50 => ("CliffGardenModel", "then", "[I", true)
  | 51 => ("CliffGardenModel", "fallCell", "[I", true)
  | 52 => ("CliffGardenModel", "fallKind", "[I", true)
  | 53 => ("CliffGardenModel", "fallWeight", "[I", true)
  | 54 => ("CliffGardenModel", "fallLies", "[I", true)
  | 55 => ("CliffGardenModel", "fallWhose", "[I", true)
  | 56 => ("CliffGardenModel", "fallDay", "[I", true)
  | 57 => ("CliffGardenModel", "fallFood", "[I", true)
  | 58 => ("CliffGardenModel", "fallRipe", "[Z", true)
  | 59 => ("CliffGardenModel", "fallPollinated", "[Z", true)
  | 60 => ("CliffGardenModel", "hung", "[Z", true)
  | 61 => ("CliffGardenModel", "knots", "[I", true)
  | 62 => ("CliffGardenModel", "ages", "[I", true)
  | 63 => ("CliffGardenModel", "chosen", "I", false)
  | 64 => ("CliffGardenModel", "choice", "[I", true)
  | 65 => ("CliffGardenModel", "picked", "[I", true)
  | 66 => ("CliffGardenModel", "bestPicks", "[I", true)
  | 67 => ("CliffGardenModel", "hours", "[I", true)
  | 68 => ("CliffGardenModel", "without", "[J", true)
  | 69 => ("CliffGardenModel", "carrying", "[J", true)
  | 70 => ("CliffGardenModel", "after", "[J", true)
  | 71 => ("CliffGardenModel", "afterWith", "[J", true)
  | 72 => ("CliffGardenModel", "heavy", "[I", true)
  | 73 => ("CliffGardenModel", "keeps", "[I", true)
  | 74 => ("CliffGardenModel", "opened", "[I", true)
  | 75 => ("CliffGardenModel", "bestOpened", "[I", true)
  | 76 => ("CliffGardenModel", "valves", "[I", true)
  | _ => ("CliffGardenModel", "costs", "[I", true)
def tyX12 : Nat → FieldType := fun k => match k with
  | 0 => .int
  | 1 => .int
  | 2 => .int
  | 3 => .int
  | 4 => .array .boolean
  | 5 => .array .boolean
  | 6 => .array .int
  | 7 => .array .int
  | 8 => .array .int
  | 9 => .array .int
  | 10 => .array .int
  | 11 => .array .int
  | 12 => .array .int
  | 13 => .array .int
  | 14 => .array .int
  | 15 => .array .int
  | 16 => .array .int
  | 17 => .array .int
  | 18 => .array .int
  | 19 => .array .int
  | 20 => .array .int
  | 21 => .array .int
  | 22 => .array .int
  | 23 => .array .int
  | 24 => .array .int
  | 25 => .array .byte
  | 26 => .int
  | 27 => .int
  | 28 => .int
  | 29 => .int
  | 30 => .int
  | 31 => .int
  | 32 => .int
  | 33 => .int
  | 34 => .int
  | 35 => .int
  | 36 => .array .int
  | 37 => .array .int
  | 38 => .array .int
  | 39 => .array .int
  | 40 => .array .int
  | 41 => .array .int
  | 42 => .array .int
  | 43 => .array .int
  | 44 => .array .int
  | 45 => .array .int
  | 46 => .array .int
  | 47 => .array .int
  | 48 => .array .int
  | 49 => .array .int
  | 50 => .array .int
  | 51 => .array .int
  | 52 => .array .int
  | 53 => .array .int
  | 54 => .array .int
  | 55 => .array .int
  | 56 => .array .int
  | 57 => .array .int
  | 58 => .array .boolean
  | 59 => .array .boolean
  | 60 => .array .boolean
  | 61 => .array .int
  | 62 => .array .int
  | 63 => .int
  | 64 => .array .int
  | 65 => .array .int
  | 66 => .array .int
  | 67 => .array .int
  | 68 => .array .long
  | 69 => .array .long
  | 70 => .array .long
  | 71 => .array .long
  | 72 => .array .int
  | 73 => .array .int
  | 74 => .array .int
  | 75 => .array .int
  | 76 => .array .int
  | _ => .array .int
abbrev wsX120 : List Cond := u_ws RX12 TX12 78
theorem nmX12 : ∀ a, a < 78 → ∀ b, b < 78 → a ≠ b → (TX12 a).2.1 ≠ (TX12 b).2.1 := by decide +kernel
theorem tyX12_ok : ∀ k, k < 78 → parseFieldDescriptor (TX12 k).2.2.1 = some (tyX12 k) := by decide +kernel
abbrev vwCl : List vw_C := [(RX0, TX0, 9), (RX1, TX1, 5), (RX2, TX2, 11), (RX3, TX3, 14), (RX4, TX4, 8), (RX5, TX5, 5), (RX6, TX6, 8), (RX7, TX7, 10), (RX8, TX8, 4), (RX9, TX9, 2), (RX10, TX10, 11), (RX11, TX11, 12), (RX12, TX12, 78)]
end
section
/-! A PURE MACHINE: the methods' instructions over a list of cells; references are places in that list -/
abbrev pv_H : Type := List va_E
abbrev pv_L : Type := List (Nat × Value)
/-- a row: where it stands, the instruction, its length, what it names (places, targets), where its words stand -/
abbrev pv_R : Type := Nat × Instr × Nat × List Nat × List Nat
abbrev pv_M : Type := MethodName × ByteArray × Nat × Option FieldType × List pv_R
def pv_set1 (ls : pv_L) (i : Nat) (v : Value) : pv_L := (i, v) :: ls.filter (fun q => !(q.1 == i) && !(q.1 + 1 == i && q.2.category == 2))
def pv_set2 (ls : pv_L) (i : Nat) (v : Value) : pv_L := (i, v) :: ls.filter (fun q => !(q.1 == i) && (!(q.1 == i + 1) && !(q.1 + 1 == i && q.2.category == 2)))
def pv_get : pv_L → Nat → Option Value
  | [], _ => none
  | (j, v) :: ls, i => if j = i then some v else pv_get ls i
def pv_cat (st : List Value) : Nat := (st.map fun v => v.category).sum
def pv_pc (rows : List pv_R) (k : Nat) : Nat := match rows[k]? with
  | some r => r.1
  | none => 0
/-- what a new object of a kind holds -/
def pv_dv : FieldType → Value
  | .int => .int 0
  | .long => .long 0
  | _ => .null
def pv_tyX (ci : Nat) : Nat → FieldType := match ci with
  | 0 => tyX0 | 1 => tyX1 | 2 => tyX2 | 3 => tyX3 | 4 => tyX4 | 5 => tyX5 | 6 => tyX6 | 7 => tyX7 | 8 => tyX8 | 9 => tyX9 | 10 => tyX10 | 11 => tyX11 | _ => tyX12
def pv_nX (ci : Nat) : Nat := match vwCl[ci]? with
  | some q => q.2.2
  | none => 0
def pv_fresh (ci : Nat) : List Value := (List.range (pv_nX ci)).map (fun k => pv_dv (pv_tyX ci k))
abbrev pv_C : Type := Nat × pv_L × List Value × pv_H
/-- a load -/
def pv_lod (ls : pv_L) (i k : Nat) (t : Nat) (st : List Value) (h : pv_H) : Option pv_C := match pv_get ls i, t with
  | some (.int x), 0 => some (k + 1, ls, .int x :: st, h)
  | some (.long x), 1 => some (k + 1, ls, .long x :: st, h)
  | some (.ref x), 2 => some (k + 1, ls, .ref x :: st, h)
  | _, _ => none
/-- a store -/
def pv_sto (ls : pv_L) (i k : Nat) (t : Nat) (st : List Value) (h : pv_H) : Option pv_C := match st, t with
  | .int x :: r, 0 => some (k + 1, pv_set1 ls i (.int x), r, h)
  | .long x :: r, 1 => some (k + 1, pv_set2 ls i (.long x), r, h)
  | .ref x :: r, 2 => some (k + 1, pv_set1 ls i (.ref x), r, h)
  | _, _ => none
def pv_i2 (f : Int32 → Int32 → Int32) (k : Nat) (ls : pv_L) (st : List Value) (h : pv_H) : Option pv_C := match st with
  | .int y :: .int x :: r => some (k + 1, ls, .int (f x y) :: r, h)
  | _ => none
def pv_l2 (f : Int64 → Int64 → Int64) (k : Nat) (ls : pv_L) (st : List Value) (h : pv_H) : Option pv_C := match st with
  | .long y :: .long x :: r => some (k + 1, ls, .long (f x y) :: r, h)
  | _ => none
def pv_lsh (f : Int64 → Int32 → Int64) (k : Nat) (ls : pv_L) (st : List Value) (h : pv_H) : Option pv_C := match st with
  | .int y :: .long x :: r => some (k + 1, ls, .long (f x y) :: r, h)
  | _ => none
/-- a branch on one number, on two -/
def pv_b1 (c : Int32 → Bool) (xs : List Nat) (k : Nat) (ls : pv_L) (st : List Value) (h : pv_H) : Option pv_C := match xs, st with
  | [t], .int x :: r => if c x then some (t, ls, r, h) else some (k + 1, ls, r, h)
  | _, _ => none
def pv_b2 (c : Int32 → Int32 → Bool) (xs : List Nat) (k : Nat) (ls : pv_L) (st : List Value) (h : pv_H) : Option pv_C := match xs, st with
  | [t], .int y :: .int x :: r => if c x y then some (t, ls, r, h) else some (k + 1, ls, r, h)
  | _, _ => none
def pv_cond : Jvm.ClassFile.Cond → Int32 → Int32 → Bool
  | .eq, x, y => decide (x = y)
  | .ne, x, y => !decide (x = y)
  | .lt, x, y => decide (x < y)
  | .ge, x, y => decide (y ≤ x)
  | .gt, x, y => decide (y < x)
  | .le, x, y => decide (x ≤ y)
def pv_ald (t : Nat) (k : Nat) (ls : pv_L) (st : List Value) (h : pv_H) : Option pv_C := match st with
  | .int i :: .ref a :: r => match h[a]? with
    | some (.inl (t', n, .inl f)) => if t' = t then (if i < 0 ∨ n ≤ i.toNatClampNeg then none else some (k + 1, ls, .int (f i.toNatClampNeg) :: r, h)) else none
    | _ => none
  | _ => none
def pv_ast (t : Nat) (g : Int32 → Int32) (k : Nat) (ls : pv_L) (st : List Value) (h : pv_H) : Option pv_C := match st with
  | .int x :: .int i :: .ref a :: r => match h[a]? with
    | some (.inl (t', n, .inl f)) => if t' = t then (if i < 0 ∨ n ≤ i.toNatClampNeg then none else some (k + 1, ls, r, h.set a (.inl (t', n, .inl (upd f i.toNatClampNeg (g x)))))) else none
    | _ => none
  | _ => none
/-- an instruction that neither calls nor ends -/
def pv_x (i : Instr) (xs : List Nat) (k : Nat) (ls : pv_L) (st : List Value) (h : pv_H) : Option pv_C := match i with
  | .iconst n => some (k + 1, ls, .int (Int32.ofInt n) :: st, h)
  | .bipush n => some (k + 1, ls, .int (Int8.ofInt n).toInt32 :: st, h)
  | .sipush n => some (k + 1, ls, .int (Int16.ofInt n).toInt32 :: st, h)
  | .lconst n => some (k + 1, ls, .long (Int64.ofNat n) :: st, h)
  | .ldc _ => match xs with
    | [v] => some (k + 1, ls, .int (Int32.ofNat v) :: st, h)
    | _ => none
  | .ldc_w _ => match xs with
    | [v] => some (k + 1, ls, .int (Int32.ofNat v) :: st, h)
    | _ => none
  | .ldc2_w _ => match xs with
    | [v] => some (k + 1, ls, .long (Int64.ofNat v) :: st, h)
    | _ => none
  | .iload i => pv_lod ls i k 0 st h
  | .iload_n i => pv_lod ls i k 0 st h
  | .lload i => pv_lod ls i k 1 st h
  | .lload_n i => pv_lod ls i k 1 st h
  | .aload i => pv_lod ls i k 2 st h
  | .aload_n i => pv_lod ls i k 2 st h
  | .istore i => pv_sto ls i k 0 st h
  | .istore_n i => pv_sto ls i k 0 st h
  | .lstore i => pv_sto ls i k 1 st h
  | .lstore_n i => pv_sto ls i k 1 st h
  | .astore i => pv_sto ls i k 2 st h
  | .astore_n i => pv_sto ls i k 2 st h
  | .iinc i n => match pv_get ls i with
    | some (.int x) => some (k + 1, pv_set1 ls i (.int (x + Int32.ofInt n)), st, h)
    | _ => none
  | .iadd => pv_i2 (fun x y => x + y) k ls st h
  | .isub => pv_i2 (fun x y => x - y) k ls st h
  | .imul => pv_i2 (fun x y => x * y) k ls st h
  | .iand => pv_i2 (fun x y => x &&& y) k ls st h
  | .ior => pv_i2 (fun x y => x ||| y) k ls st h
  | .ixor => pv_i2 (fun x y => x ^^^ y) k ls st h
  | .ishl => pv_i2 (fun x y => x <<< (y &&& 31)) k ls st h
  | .ishr => pv_i2 (fun x y => x >>> (y &&& 31)) k ls st h
  | .iushr => pv_i2 (fun x y => (x.toUInt32 >>> (y.toUInt32 &&& Int32.toUInt32 31)).toInt32) k ls st h
  | .idiv => match st with
    | .int y :: .int x :: r => if y = 0 then none else some (k + 1, ls, .int (x / y) :: r, h)
    | _ => none
  | .irem => match st with
    | .int y :: .int x :: r => if y = 0 then none else some (k + 1, ls, .int (x - x / y * y) :: r, h)
    | _ => none
  | .ineg => match st with
    | .int x :: r => some (k + 1, ls, .int (-x) :: r, h)
    | _ => none
  | .ladd => pv_l2 (fun x y => x + y) k ls st h
  | .lsub => pv_l2 (fun x y => x - y) k ls st h
  | .lmul => pv_l2 (fun x y => x * y) k ls st h
  | .land => pv_l2 (fun x y => x &&& y) k ls st h
  | .lor => pv_l2 (fun x y => x ||| y) k ls st h
  | .lxor => pv_l2 (fun x y => x ^^^ y) k ls st h
  | .ldiv => match st with
    | .long y :: .long x :: r => if y = 0 then none else some (k + 1, ls, .long (x / y) :: r, h)
    | _ => none
  | .lrem => match st with
    | .long y :: .long x :: r => if y = 0 then none else some (k + 1, ls, .long (x - x / y * y) :: r, h)
    | _ => none
  | .lshl => pv_lsh (fun x y => x <<< (y.toInt64 &&& 63)) k ls st h
  | .lshr => pv_lsh (fun x y => x >>> (y.toInt64 &&& 63)) k ls st h
  | .lushr => pv_lsh (fun x y => (x.toUInt64 >>> (y.toInt64.toUInt64 &&& Int64.toUInt64 63)).toInt64) k ls st h
  | .lcmp => match st with
    | .long y :: .long x :: r => some (k + 1, ls, .int (lg_cmp x y) :: r, h)
    | _ => none
  | .i2l => match st with
    | .int x :: r => some (k + 1, ls, .long x.toInt64 :: r, h)
    | _ => none
  | .l2i => match st with
    | .long x :: r => some (k + 1, ls, .int x.toInt32 :: r, h)
    | _ => none
  | .i2b => match st with
    | .int x :: r => some (k + 1, ls, .int x.toInt8.toInt32 :: r, h)
    | _ => none
  | .i2c => match st with
    | .int x :: r => some (k + 1, ls, .int (x.toUInt32 % 65536).toInt32 :: r, h)
    | _ => none
  | .dup => match st with
    | v :: r => if v.category = 1 then some (k + 1, ls, v :: v :: r, h) else none
    | _ => none
  | .pop => match st with
    | v :: r => if v.category = 1 then some (k + 1, ls, r, h) else none
    | _ => none
  | .dup2 => match st with
    | v :: w :: r => if v.category = 1 ∧ w.category = 1 then some (k + 1, ls, v :: w :: v :: w :: r, h) else none
    | _ => none
  | .goto _ => match xs with
    | [t] => some (t, ls, st, h)
    | _ => none
  | .ifCond c _ => pv_b1 (fun x => pv_cond c x 0) xs k ls st h
  | .if_icmp c _ => pv_b2 (fun x y => pv_cond c x y) xs k ls st h
  | .tableswitch _ lo hi _ => match xs, st with
    | d :: ts, .int x :: r => if x.toInt < lo ∨ hi < x.toInt then some (d, ls, r, h) else match ts[(x.toInt - lo).toNat]? with
      | some t => some (t, ls, r, h)
      | none => none
    | _, _ => none
  | .getfield _ => match xs, st with
    | [ci, j], .ref a :: r => match h[a]? with
      | some (.inr (ci', fs)) => if ci' = ci then (match fs[j]? with
        | some v => some (k + 1, ls, v :: r, h)
        | none => none) else none
      | _ => none
    | _, _ => none
  | .putfield _ => match xs, st with
    | [ci, j], v :: .ref a :: r => match h[a]? with
      | some (.inr (ci', fs)) => if ci' = ci ∧ j < fs.length ∧ narrow (pv_tyX ci j) v = v ∧ fits (pv_tyX ci j) v = true then some (k + 1, ls, r, h.set a (.inr (ci', fs.set j v))) else none
      | _ => none
    | _, _ => none
  | .iaload => pv_ald 0 k ls st h
  | .baload => match xs with
    | [t] => if t = 1 ∨ t = 2 then pv_ald t k ls st h else none
    | _ => none
  | .laload => match st with
    | .int i :: .ref a :: r => match h[a]? with
      | some (.inl (t', n, .inr (.inl f))) => if t' = 3 then (if i < 0 ∨ n ≤ i.toNatClampNeg then none else some (k + 1, ls, .long (f i.toNatClampNeg) :: r, h)) else none
      | _ => none
    | _ => none
  | .iastore => pv_ast 0 (fun x => x) k ls st h
  | .bastore => match xs with
    | [1] => pv_ast 1 (vp_nar .boolean) k ls st h
    | [2] => pv_ast 2 (vp_nar .byte) k ls st h
    | _ => none
  | .lastore => match st with
    | .long x :: .int i :: .ref a :: r => match h[a]? with
      | some (.inl (t', n, .inr (.inl f))) => if t' = 3 then (if i < 0 ∨ n ≤ i.toNatClampNeg then none else some (k + 1, ls, r, h.set a (.inl (t', n, .inr (.inl (vp_updL f i.toNatClampNeg x)))))) else none
      | _ => none
    | _ => none
  | .arraylength => match st with
    | .ref a :: r => match h[a]? with
      | some (.inl (t', n, _)) => if t' < 4 then some (k + 1, ls, .int (Int32.ofNat n) :: r, h) else none
      | _ => none
    | _ => none
  | .newarray ty => match ty, st with
    | .int, .int n :: r => if n < 0 ∨ 100000 < n.toNatClampNeg then none else some (k + 1, ls, .ref h.length :: r, h ++ [.inl (0, n.toNatClampNeg, .inl (fun _ => 0))])
    | .boolean, .int n :: r => if n < 0 ∨ 100000 < n.toNatClampNeg then none else some (k + 1, ls, .ref h.length :: r, h ++ [.inl (1, n.toNatClampNeg, .inl (fun _ => 0))])
    | .byte, .int n :: r => if n < 0 ∨ 100000 < n.toNatClampNeg then none else some (k + 1, ls, .ref h.length :: r, h ++ [.inl (2, n.toNatClampNeg, .inl (fun _ => 0))])
    | .long, .int n :: r => if n < 0 ∨ 100000 < n.toNatClampNeg then none else some (k + 1, ls, .ref h.length :: r, h ++ [.inl (3, n.toNatClampNeg, .inr (.inl (fun _ => 0)))])
    | _, _ => none
  | .new _ => match xs with
    | [ci] => some (k + 1, ls, .ref h.length :: st, h ++ [.inr (ci, pv_fresh ci)])
    | _ => none
  | .invokespecial _ => match xs, st with
    | [9], .ref _ :: r => if pv_cat r ≤ 8 then some (k + 1, ls, r, h) else none
    | _, _ => none
  | .invokestatic _ => match xs, st with
    | [0], .int y :: .int x :: r => if pv_cat r ≤ 8 then some (k + 1, ls, .int (if x < y then y else x) :: r, h) else none
    | [1], .int y :: .int x :: r => if pv_cat r ≤ 8 then some (k + 1, ls, .int (if y < x then y else x) :: r, h) else none
    | [2], .int x :: r => if pv_cat r ≤ 8 then some (k + 1, ls, .int (if 0 ≤ x then x else 0 - x) :: r, h) else none
    | [3], .int n :: .int dp :: .ref a :: .int sp :: .ref a0 :: r => match h[a0]?, h[a]? with
      | some (.inl (t0, n0, .inl f)), some (.inl (t1, n1, .inl g)) => if t0 = 0 ∧ t1 = 0 ∧ pv_cat r ≤ 8 ∧ ¬ sp < 0 ∧ ¬ dp < 0 ∧ ¬ n < 0 ∧ sp.toNatClampNeg + n.toNatClampNeg ≤ n0 ∧ dp.toNatClampNeg + n.toNatClampNeg ≤ n1 then
          some (k + 1, ls, r, h.set a (.inl (t1, n1, .inl (va_cpy f g sp.toNatClampNeg dp.toNatClampNeg n.toNatClampNeg)))) else none
      | _, _ => none
    | _, _ => none
  | _ => none
/-- a call: which method, with what, what stays on the stack -/
def pv_inv (i : Instr) (xs : List Nat) (st : List Value) (h : pv_H) : Option (Nat × List Value × List Value) := match i, xs with
  | .invokestatic _, [j, n] => if n ≤ st.length ∧ pv_cat (st.drop n) ≤ 8 then some (j, (st.take n).reverse, st.drop n) else none
  | .invokevirtual _, [j, n, ci] => match st.drop n with
    | .ref b :: r => match h[b]? with
      | some (.inr (ci', _)) => if ci' = ci ∧ pv_cat r ≤ 8 then some (j, .ref b :: (st.take n).reverse, r) else none
      | _ => none
    | _ => none
  | .invokespecial _, [j, n, _] => match st.drop n with
    | .ref b :: r => if pv_cat r ≤ 8 then some (j, .ref b :: (st.take n).reverse, r) else none
    | _ => none
  | _, _ => none
/-- an end -/
def pv_ret (i : Instr) (xs : List Nat) (st : List Value) : Option (Option Value) := match i, st with
  | .ireturn, [.int v] => match xs with
    | [0] => some (some (.int v))
    | [1] => if v = 0 ∨ v = 1 then some (some (.int v)) else none
    | _ => none
  | .lreturn, [.long v] => some (some (.long v))
  | .return_, [] => some none
  | _, _ => none
def pv_go (call : Nat → List Value → pv_H → Option (Option Value × pv_H)) (rows : List pv_R) : Nat → Nat → pv_L → List Value → pv_H → Option (Option Value × pv_H)
  | 0, _, _, _, _ => none
  | f + 1, k, ls, st, h => match rows[k]? with
    | none => none
    | some r => match pv_ret r.2.1 r.2.2.2.1 st with
      | some v => some (v, h)
      | none => match pv_inv r.2.1 r.2.2.2.1 st h with
        | some (j, as, rest) => match call j as h with
          | some (v, h') => pv_go call rows f (k + 1) ls (v.toList ++ rest) h'
          | none => none
        | none => match pv_x r.2.1 r.2.2.2.1 k ls st h with
          | some (k', ls', st', h') => pv_go call rows f k' ls' st' h'
          | none => none
def pv_run (pr : List pv_M) (F : Nat) : Nat → Nat → List Value → pv_H → Option (Option Value × pv_H)
  | 0, _, _, _ => none
  | d + 1, j, as, h => match pr[j]? with
    | some M => if pv_cat as ≤ M.2.2.1 then pv_go (pv_run pr F d) M.2.2.2.2 F 0 (lv_args 0 as) [] h else none
    | none => none
end
section
/-! words, links, what a row must keep: definitions alone, so that the program's tables stand on them -/
def pv_T : List Cond := lw_tbl.filter goodWord
def pv_isN : Cond → Bool
  | .fieldLinkNest .. => true
  | .methodLinkNest .. => true
  | _ => false
def pv_N : List Cond := lw_tbl.filter pv_isN
/-! WHAT A ROW MUST KEEP, as a program tells -/
def pv_nx (rows : List pv_R) (k pc len L : Nat) : Bool := len == L && pv_pc rows (k + 1) == pc + L
/-- the owners of code, by their numbers -/
def pv_cn : List String := ["CliffGarden$Brow", "CliffGarden$Court", "CliffGarden$Falls", "CliffGarden$Nets", "CliffGarden$Planting", "CliffGarden$Reader", "CliffGarden$Rounds", "CliffGarden$Statute", "CliffGarden$Swallow", "CliffGarden$Tape", "CliffGarden$Water", "CliffGarden", "CliffGardenModel", "java/util/Arrays", "java/lang/Integer", "java/lang/Long"]
def pv_my (y : MethodName) (n : Nat) : Bool := decide (y.cls ≠ "java/lang/invoke/MethodHandle" ∧ y.cls ≠ "java/lang/invoke/VarHandle" ∧ (parseMethodDescriptor y.desc).map (fun d => d.parameters.length) = some n)
/-- what a link's number says -/
def pv_sem (pr : List pv_M) (c : List Nat) : Prop := match c with
  | [0, o, idx, ci, j] => ∀ own q, pv_cn[o]? = some own → vwCl[ci]? = some q → (Cond.fieldLink own idx (q.2.1 j).1 (q.2.1 j).2.1 (q.2.1 j).2.2.1 ∈ pv_T ∨ ∃ hst, Cond.fieldLinkNest own idx (q.2.1 j).1 (q.2.1 j).2.1 (q.2.1 j).2.2.1 hst ∈ pv_N)
  | [1, o, idx, ci, j] => ∀ own q, pv_cn[o]? = some own → vwCl[ci]? = some q → Cond.fieldLink own idx (q.2.1 j).1 (q.2.1 j).2.1 (q.2.1 j).2.2.1 ∈ pv_T ∧ (q.2.1 j).1 = own
  | [2, o, idx, v] => ∀ own, pv_cn[o]? = some own → Cond.constant own idx (Int32.ofNat v) ∈ pv_T
  | [3, o, idx, v] => ∀ own, pv_cn[o]? = some own → Cond.constantLong own idx (Int64.ofNat v) ∈ pv_T
  | [4, o, idx, ci] => ∀ own q, pv_cn[o]? = some own → vwCl[ci]? = some q → Cond.classLink own idx q.1 ∈ pv_T ∧ Cond.instantiable q.1 q.2.2 ∈ pv_T ∧ Cond.initialized q.1 ∈ pv_T
  | [5, o, idx] => ∀ own, pv_cn[o]? = some own → Cond.methodLink own idx Lib.objectInit ∈ pv_T ∧ Cond.instanceMethod Lib.objectInit ∈ pv_T ∧ Cond.code Lib.objectInit ⟨#[0xb1]⟩ 1 none ∈ pv_T
  | [6, o, idx, 0] => ∀ own, pv_cn[o]? = some own → Cond.methodLink own idx Lib.Math.max.name ∈ pv_T ∧ Cond.static Lib.Math.max.name ∈ pv_T ∧ Cond.initialized "java/lang/Math" ∈ pv_T ∧ Cond.code Lib.Math.max.name Lib.Math.max.code 2 (some .int) ∈ pv_T
  | [6, o, idx, 1] => ∀ own, pv_cn[o]? = some own → Cond.methodLink own idx Lib.Math.min.name ∈ pv_T ∧ Cond.static Lib.Math.min.name ∈ pv_T ∧ Cond.initialized "java/lang/Math" ∈ pv_T ∧ Cond.code Lib.Math.min.name Lib.Math.min.code 2 (some .int) ∈ pv_T
  | [6, o, idx, 2] => ∀ own, pv_cn[o]? = some own → Cond.methodLink own idx Lib.Math.abs.name ∈ pv_T ∧ Cond.static Lib.Math.abs.name ∈ pv_T ∧ Cond.initialized "java/lang/Math" ∈ pv_T ∧ Cond.code Lib.Math.abs.name Lib.Math.abs.code 1 (some .int) ∈ pv_T
  | [6, o, idx, 3] => ∀ own, pv_cn[o]? = some own → Cond.methodLink own idx arraycopyName ∈ pv_T ∧ Cond.static arraycopyName ∈ pv_T ∧ Cond.initialized "java/lang/System" ∈ pv_T ∧ Cond.native arraycopyName ∈ pv_T
  | [7, o, idx, j, n] => ∀ own M, pv_cn[o]? = some own → pr[j]? = some M → (Cond.methodLink own idx M.1 ∈ pv_T ∨ ∃ hst, Cond.methodLinkNest own idx M.1 hst ∈ pv_N) ∧ Cond.static M.1 ∈ pv_T ∧ pv_my M.1 n = true
  | [8, o, idx, j, n, ci] => ∀ own M q, pv_cn[o]? = some own → pr[j]? = some M → vwCl[ci]? = some q → (Cond.methodLink own idx M.1 ∈ pv_T ∨ ∃ hst, Cond.methodLinkNest own idx M.1 hst ∈ pv_N) ∧ Cond.instanceMethod M.1 ∈ pv_T ∧ Cond.selects M.1.cls M.1 M.1 ∈ pv_T ∧ pv_my M.1 n = true ∧ q.1 = M.1.cls
  | [9, o, idx, j, n] => ∀ own M, pv_cn[o]? = some own → pr[j]? = some M → (Cond.methodLink own idx M.1 ∈ pv_T ∨ ∃ hst, Cond.methodLinkNest own idx M.1 hst ∈ pv_N) ∧ Cond.instanceMethod M.1 ∈ pv_T ∧ pv_my M.1 n = true ∧ M.1.name = "<init>" ∧ M.2.2.2.1 = none
  | _ => True
def pv_lk (LK : List (List Nat)) (p : Nat) (c : List Nat) : Bool := decide (LK[p]? = some c)
theorem pv_lk_inv {LK : List (List Nat)} {p : Nat} {c : List Nat} (h : pv_lk LK p c = true) : c ∈ LK := List.mem_of_getElem? (of_decide_eq_true h)
/-- what holds of every method: its code's word, its class's -/
def pv_mf (M : pv_M) : Prop := Cond.code M.1 M.2.1 M.2.2.1 M.2.2.2.1 ∈ pv_T ∧ Cond.initialized M.1.cls ∈ pv_T
def pv_LKs (pr : List pv_M) (LK : List (List Nat)) : Prop := (∀ c ∈ LK, pv_sem pr c) ∧ ∀ (j : Nat) (M : pv_M), pr[j]? = some M → pv_mf M
def pv_jp (rows : List pv_R) (pc : Nat) (off : Int) (t : Nat) : Bool := decide ((pc : Int) + off = (pv_pc rows t : Int))
def pv_okx (LK : List (List Nat)) (rows : List pv_R) (o : Nat) (mn : String) (nL k pc len : Nat) (i : Instr) (xs ps : List Nat) : Bool := match i with
  | .iconst _ => pv_nx rows k pc len 1
  | .bipush _ => pv_nx rows k pc len 2
  | .sipush _ => pv_nx rows k pc len 3
  | .lconst _ => pv_nx rows k pc len 1
  | .ldc idx => match xs, ps with
    | [v], [p] => pv_nx rows k pc len 2 && pv_lk LK p [2, o, idx, v]
    | _, _ => false
  | .ldc_w idx => match xs, ps with
    | [v], [p] => pv_nx rows k pc len 3 && pv_lk LK p [2, o, idx, v]
    | _, _ => false
  | .ldc2_w idx => match xs, ps with
    | [v], [p] => pv_nx rows k pc len 3 && pv_lk LK p [3, o, idx, v]
    | _, _ => false
  | .iload _ => pv_nx rows k pc len 2
  | .lload _ => pv_nx rows k pc len 2
  | .aload _ => pv_nx rows k pc len 2
  | .iload_n _ => pv_nx rows k pc len 1
  | .lload_n _ => pv_nx rows k pc len 1
  | .aload_n _ => pv_nx rows k pc len 1
  | .istore i => pv_nx rows k pc len 2 && decide (i < nL)
  | .lstore i => pv_nx rows k pc len 2 && decide (i + 1 < nL)
  | .astore i => pv_nx rows k pc len 2 && decide (i < nL)
  | .istore_n i => pv_nx rows k pc len 1 && decide (i.val < nL)
  | .lstore_n i => pv_nx rows k pc len 1 && decide (i.val + 1 < nL)
  | .astore_n i => pv_nx rows k pc len 1 && decide (i.val < nL)
  | .iinc i _ => pv_nx rows k pc len 3 && decide (i < nL)
  | .iadd => pv_nx rows k pc len 1
  | .isub => pv_nx rows k pc len 1
  | .imul => pv_nx rows k pc len 1
  | .iand => pv_nx rows k pc len 1
  | .ior => pv_nx rows k pc len 1
  | .ixor => pv_nx rows k pc len 1
  | .ishl => pv_nx rows k pc len 1
  | .ishr => pv_nx rows k pc len 1
  | .iushr => pv_nx rows k pc len 1
  | .idiv => pv_nx rows k pc len 1
  | .irem => pv_nx rows k pc len 1
  | .ineg => pv_nx rows k pc len 1
  | .ladd => pv_nx rows k pc len 1
  | .lsub => pv_nx rows k pc len 1
  | .lmul => pv_nx rows k pc len 1
  | .land => pv_nx rows k pc len 1
  | .lor => pv_nx rows k pc len 1
  | .lxor => pv_nx rows k pc len 1
  | .ldiv => pv_nx rows k pc len 1
  | .lrem => pv_nx rows k pc len 1
  | .lshl => pv_nx rows k pc len 1
  | .lshr => pv_nx rows k pc len 1
  | .lushr => pv_nx rows k pc len 1
  | .lcmp => pv_nx rows k pc len 1
  | .i2l => pv_nx rows k pc len 1
  | .l2i => pv_nx rows k pc len 1
  | .i2b => pv_nx rows k pc len 1
  | .i2c => pv_nx rows k pc len 1
  | .dup => pv_nx rows k pc len 1
  | .pop => pv_nx rows k pc len 1
  | .dup2 => pv_nx rows k pc len 1
  | .goto off => match xs with
    | [t] => len == 3 && pv_jp rows pc off t
    | _ => false
  | .ifCond _ off => match xs with
    | [t] => pv_nx rows k pc len 3 && pv_jp rows pc off t
    | _ => false
  | .if_icmp _ off => match xs with
    | [t] => pv_nx rows k pc len 3 && pv_jp rows pc off t
    | _ => false
  | .tableswitch d lo hi offs => match xs with
    | t :: ts => pv_jp rows pc d t && decide (ts.length = offs.size) && (offs.toList.zip ts).all (fun q => pv_jp rows pc q.1 q.2)
    | _ => false
  | .getfield idx => match xs, ps with
    | [ci, j], [p] => pv_nx rows k pc len 3 && (match vwCl[ci]? with
      | some q => decide (j < q.2.2) && pv_lk LK p [0, o, idx, ci, j]
      | none => false)
    | _, _ => false
  | .putfield idx => match xs, ps with
    | [ci, j], [p] => pv_nx rows k pc len 3 && (match vwCl[ci]? with
      | some q => decide (j < q.2.2) && (if (q.2.1 j).2.2.2 then pv_lk LK p [1, o, idx, ci, j] && decide (mn = "<init>") else pv_lk LK p [0, o, idx, ci, j])
      | none => false)
    | _, _ => false
  | .iaload => pv_nx rows k pc len 1
  | .baload => pv_nx rows k pc len 1
  | .laload => pv_nx rows k pc len 1
  | .iastore => pv_nx rows k pc len 1
  | .bastore => pv_nx rows k pc len 1
  | .lastore => pv_nx rows k pc len 1
  | .arraylength => pv_nx rows k pc len 1
  | .newarray _ => pv_nx rows k pc len 2
  | .new idx => match xs, ps with
    | [ci], [p] => pv_nx rows k pc len 3 && (match vwCl[ci]? with
      | some _ => pv_lk LK p [4, o, idx, ci]
      | none => false)
    | _, _ => false
  | .invokespecial idx => match xs, ps with
    | [9], [p] => pv_nx rows k pc len 3 && pv_lk LK p [5, o, idx]
    | _, _ => false
  | .invokestatic idx => match xs, ps with
    | [z], [p] => pv_nx rows k pc len 3 && pv_lk LK p [6, o, idx, z]
    | _, _ => false
  | _ => false
/-! CALLS, ENDS, WHOLE METHODS -/
def pv_isR : Instr → Bool
  | .ireturn => true
  | .lreturn => true
  | .return_ => true
  | _ => false
def pv_isC (i : Instr) (xs : List Nat) : Bool := match i with
  | .invokestatic _ => decide (2 ≤ xs.length)
  | .invokevirtual _ => true
  | .invokespecial _ => decide (2 ≤ xs.length)
  | _ => false
def pv_okc (LK : List (List Nat)) (o : Nat) (i : Instr) (xs ps : List Nat) : Bool := match i, xs, ps with
  | .invokestatic idx, [j, n], [p] => pv_lk LK p [7, o, idx, j, n]
  | .invokevirtual idx, [j, n, ci], [p] => pv_lk LK p [8, o, idx, j, n, ci] && decide (ci < 13)
  | .invokespecial idx, [j, n, _], [p] => pv_lk LK p [9, o, idx, j, n]
  | _, _, _ => false
def pv_okr (rt : Option FieldType) (i : Instr) (xs : List Nat) : Bool := match i with
  | .ireturn => match xs with
    | [0] => decide (rt = some .int)
    | [1] => decide (rt = some .boolean)
    | _ => false
  | .lreturn => decide (rt = some .long)
  | .return_ => decide (rt = none)
  | _ => false
def pv_okR (LK : List (List Nat)) (M : pv_M) (o k : Nat) (r : pv_R) : Bool := decide (decode M.2.1 r.1 = .ok (r.2.1, r.2.2.1)) &&
  (if pv_isR r.2.1 then pv_okr M.2.2.2.1 r.2.1 r.2.2.2.1 && r.2.2.1 == 1
   else if pv_isC r.2.1 r.2.2.2.1 then pv_okc LK o r.2.1 r.2.2.2.1 r.2.2.2.2 && pv_nx M.2.2.2.2 k r.1 r.2.2.1 3
   else pv_okx LK M.2.2.2.2 o M.1.name M.2.2.1 k r.1 r.2.2.1 r.2.1 r.2.2.2.1 r.2.2.2.2)
def pv_okM (LK : List (List Nat)) (M : pv_M) : Bool := plainName M.1.cls && pv_pc M.2.2.2.2 0 == 0 && decide (M.2.2.1 ≤ 30) && (List.range pv_cn.length).any (fun o => decide (pv_cn[o]? = some M.1.cls) && (List.range M.2.2.2.2.length).all (fun k => match M.2.2.2.2[k]? with
  | some r => decide (r.2.1 = .nop) || pv_okR LK M o k r
  | none => true))
end
section
/-! THE PURE MACHINE AND THE MACHINE: cell k of the list lies at address B + k -/
def pv_v (B : Nat) : Value → Value
  | .ref k => .ref (B + k)
  | v => v
def pv_e (cA : Nat → ClassId) (B : Nat) : va_E → va_E
  | .inl (t, a) => .inl (cA t, a)
  | .inr (ci, fs) => .inr (ci, fs.map (pv_v B))
def pv_w (cA : Nat → ClassId) (B : Nat) (h : pv_H) : va_W := h.mapIdx (fun k e => (B + k, pv_e cA B e))
def pv_l (B : Nat) (ls : pv_L) : pv_L := ls.map (fun q => (q.1, pv_v B q.2))
def pv_ty (cA : Nat → ClassId) : List (ClassId × FieldType) := [(cA 0, .int), (cA 1, .boolean), (cA 2, .byte), (cA 3, .long)]
def pv_K (D : va_G) (cA : Nat → ClassId) (U : State) : Prop := va_K D vwCl (pv_ty cA) U ∧ ∀ w ∈ pv_N, va_Nw w U
def pv_ce : va_E → Nat
  | .inl (_, n, _) => n
  | .inr (_, fs) => fs.length
def pv_sl (h : pv_H) : Nat := (h.map pv_ce).sum
theorem pv_v_cat (B : Nat) (v : Value) : (pv_v B v).category = v.category := by cases v <;> rfl
theorem pv_cat_map (B : Nat) (st : List Value) : ((st.map (pv_v B)).map fun v => v.category).sum = pv_cat st := by
  simp only [pv_cat, List.map_map]
  congr 1
  apply List.map_congr_left
  intro v _
  exact pv_v_cat B v
theorem pv_w_get {cA : Nat → ClassId} {B : Nat} {h : pv_H} {k : Nat} {e : va_E} (hk : h[k]? = some e) : (pv_w cA B h)[k]? = some (B + k, pv_e cA B e) := by
  simp [pv_w, List.getElem?_mapIdx, hk]
theorem pv_w_get' {cA : Nat → ClassId} {B : Nat} {h : pv_H} {k : Nat} {q : Nat × va_E} (hk : (pv_w cA B h)[k]? = some q) : q.1 = B + k ∧ k < h.length := by
  simp only [pv_w, List.getElem?_mapIdx] at hk
  cases hq : h[k]? with
  | none => rw [hq] at hk; cases hk
  | some e =>
    rw [hq] at hk
    cases hk
    exact ⟨rfl, (List.getElem?_eq_some_iff.mp hq).1⟩
theorem pv_w_set (cA : Nat → ClassId) (B : Nat) (h : pv_H) (k : Nat) (e : va_E) : pv_w cA B (h.set k e) = (pv_w cA B h).set k (B + k, pv_e cA B e) := by
  apply List.ext_getElem?
  intro i
  simp only [pv_w, List.getElem?_mapIdx, List.getElem?_set, List.length_mapIdx]
  by_cases hki : k = i
  · subst hki
    by_cases hl : k < h.length
    · simp [hl]
    · simp [hl]
  · simp [hki]
theorem pv_w_app (cA : Nat → ClassId) (B : Nat) (h : pv_H) (e : va_E) : pv_w cA B (h ++ [e]) = pv_w cA B h ++ [(B + h.length, pv_e cA B e)] := by
  simp [pv_w, List.mapIdx_append]
theorem pv_w_len (cA : Nat → ClassId) (B : Nat) (h : pv_H) : (pv_w cA B h).length = h.length := by simp [pv_w]
theorem pv_D {A : Nat → Prop} (cA : Nat → ClassId) (B : Nat) (h : pv_H) (hA : ∀ k, k < h.length → A (B + k)) : va_D A (pv_w cA B h) := by
  refine ⟨fun i j x y hi hj hxy => ?_, fun k q hk => ?_⟩
  · have h1 := (pv_w_get' hi).1
    have h2 := (pv_w_get' hj).1
    omega
  · obtain ⟨h1, h2⟩ := pv_w_get' hk
    rw [h1]
    exact hA k h2
theorem pv_l_get {B : Nat} {i : Nat} {v : Value} : ∀ {ls : pv_L}, pv_get ls i = some v → (i, pv_v B v) ∈ pv_l B ls
  | [], h => by cases h
  | (j, w) :: ls, h => by
    unfold pv_get at h
    by_cases hj : j = i
    · rw [if_pos hj] at h
      cases h
      subst hj
      exact List.mem_cons_self
    · rw [if_neg hj] at h
      exact List.mem_cons_of_mem _ (pv_l_get h)
theorem pv_l_set1 (B : Nat) (ls : pv_L) (i : Nat) (v : Value) : (i, pv_v B v) :: (pv_l B ls).filter (fun q => !(q.1 == i) && !(q.1 + 1 == i && q.2.category == 2)) = pv_l B (pv_set1 ls i v) := by
  simp only [pv_l, pv_set1, List.map_cons, List.filter_map]
  congr 2
  apply List.filter_congr
  intro q _
  simp [pv_v_cat]
theorem pv_l_set2 (B : Nat) (ls : pv_L) (i : Nat) (v : Value) : (i, pv_v B v) :: (pv_l B ls).filter (fun q => !(q.1 == i) && (!(q.1 == i + 1) && !(q.1 + 1 == i && q.2.category == 2))) = pv_l B (pv_set2 ls i v) := by
  simp only [pv_l, pv_set2, List.map_cons, List.filter_map]
  congr 2
  apply List.filter_congr
  intro q _
  simp [pv_v_cat]
theorem pv_l_args (B : Nat) : ∀ (vs : List Value) (i : Nat), lv_args i (vs.map (pv_v B)) = pv_l B (lv_args i vs)
  | [], _ => rfl
  | v :: vs, i => by
    simp only [List.map_cons, lv_args, pv_v_cat, pv_l_args B vs]
    rfl
theorem pv_sl_set {h : pv_H} {a : Nat} {e e' : va_E} (ha : h[a]? = some e) (he : pv_ce e' = pv_ce e) : pv_sl (h.set a e') = pv_sl h := by
  have : (h.set a e').map pv_ce = h.map pv_ce := by
    rw [List.map_set, he]
    apply List.ext_getElem?
    intro i
    rw [List.getElem?_set]
    by_cases hi : a = i
    · subst hi
      obtain ⟨hl, hv⟩ := List.getElem?_eq_some_iff.mp ha
      simp [hl, hv]
    · simp [hi]
  simp [pv_sl, this]
theorem pv_sl_app (h : pv_H) (e : va_E) : pv_sl (h ++ [e]) = pv_sl h + pv_ce e := by simp [pv_sl]
theorem pv_K.warm {D : va_G} {cA : Nat → ClassId} {s U : State} (hW : s.WarmedH U.vm) (h : pv_K D cA s) : pv_K D cA U := by
  refine ⟨va_K.moved hW.alike h.1, fun w hw => ?_⟩
  have h1 := h.2 w hw
  have h2 := (List.mem_filter.mp hw).2
  cases w with
  | fieldLinkNest a i b n d hh => exact va_Nw.warmF hW h1
  | methodLinkNest a i x hh => exact va_Nw.warmM hW h1
  | _ => cases h2
theorem pv_K.same {D : va_G} {cA : Nat → ClassId} {s U : State} (hv : s.vm = U.vm) (h : pv_K D cA s) : pv_K D cA U := by
  refine ⟨va_K.moved (by rw [hv]; exact Vm.Alike.refl _) h.1, fun w hw => ?_⟩
  have h1 := h.2 w hw
  have h2 := (List.mem_filter.mp hw).2
  cases w with
  | fieldLinkNest a i b n d hh => exact va_Nw.same rfl hv h1
  | methodLinkNest a i x hh => exact va_Nw.same rfl hv h1
  | _ => cases h2
/-- where the heap ends: no more cells than were counted -/
theorem pv_bound {p : Program} {l : Launch} {e : Env} {R : Room} {s : State} {m : MethodId} {args : Array Value} {below : List Frame} {meth : Method} {c : Code} {H : Heap} {locs : List Loc} {cells slots : Nat} {Q : State → Prop} {g : JFrame}
    (kk : H.size ≤ s.heap.size + cells → W p l e R s m args below meth c H locs cells slots Q g) : W p l e R s m args below meth c H locs cells slots Q g := by
  intro T hT X
  have h1 : (T.setVm s.vm).heap.size ≤ s.heap.size + cells := X.same.2.2.1
  exact kk (by rw [← hT]; exact h1) T hT X
end
section
theorem pv_nx_inv {rows : List pv_R} {k pc len L : Nat} (h : pv_nx rows k pc len L = true) : len = L ∧ pv_pc rows (k + 1) = pc + L := by
  simpa [pv_nx] using h
theorem pv_jp_inv {rows : List pv_R} {pc t : Nat} {off : Int} (h : pv_jp rows pc off t = true) : (pc : Int) + off = (pv_pc rows t : Int) := by
  simpa [pv_jp] using h
/-- the classes' fields: their words are among the tables', their types, their names apart -/
theorem pv_cl (ci : Nat) {q : vw_C} (h : vwCl[ci]? = some q) : (∀ w ∈ u_ws q.1 q.2.1 q.2.2, w ∈ pv_T) ∧ (∀ k, k < q.2.2 → parseFieldDescriptor (q.2.1 k).2.2.1 = some (pv_tyX ci k)) ∧ (∀ a, a < q.2.2 → ∀ b, b < q.2.2 → a ≠ b → (q.2.1 a).2.1 ≠ (q.2.1 b).2.1) := by
  have key : ∀ w ∈ u_ws q.1 q.2.1 q.2.2, goodWord w = true ∧ w ∈ lw_tbl → w ∈ pv_T := fun w _ hw => List.mem_filter.mpr ⟨hw.2, hw.1⟩
  match ci, h with
  | 0, h => cases h; exact ⟨fun w hw => key w hw (by revert w; decide +kernel), tyX0_ok, nmX0⟩
  | 1, h => cases h; exact ⟨fun w hw => key w hw (by revert w; decide +kernel), tyX1_ok, nmX1⟩
  | 2, h => cases h; exact ⟨fun w hw => key w hw (by revert w; decide +kernel), tyX2_ok, nmX2⟩
  | 3, h => cases h; exact ⟨fun w hw => key w hw (by revert w; decide +kernel), tyX3_ok, nmX3⟩
  | 4, h => cases h; exact ⟨fun w hw => key w hw (by revert w; decide +kernel), tyX4_ok, nmX4⟩
  | 5, h => cases h; exact ⟨fun w hw => key w hw (by revert w; decide +kernel), tyX5_ok, nmX5⟩
  | 6, h => cases h; exact ⟨fun w hw => key w hw (by revert w; decide +kernel), tyX6_ok, nmX6⟩
  | 7, h => cases h; exact ⟨fun w hw => key w hw (by revert w; decide +kernel), tyX7_ok, nmX7⟩
  | 8, h => cases h; exact ⟨fun w hw => key w hw (by revert w; decide +kernel), tyX8_ok, nmX8⟩
  | 9, h => cases h; exact ⟨fun w hw => key w hw (by revert w; decide +kernel), tyX9_ok, nmX9⟩
  | 10, h => cases h; exact ⟨fun w hw => key w hw (by revert w; decide +kernel), tyX10_ok, nmX10⟩
  | 11, h => cases h; exact ⟨fun w hw => key w hw (by revert w; decide +kernel), tyX11_ok, nmX11⟩
  | 12, h => cases h; exact ⟨fun w hw => key w hw (by revert w; decide +kernel), tyX12_ok, nmX12⟩
  | n + 13, h => simp [vwCl] at h
end
section
/-! A STEP OF THE PURE MACHINE IS A STEP OF THE MACHINE -/
def pv_St (p : Program) (s : State) (m : MethodId) (args : Array Value) (meth : Method) (c : Code) (R : Room) (cc : ByteArray) (own mn : String) (nL : Nat) (D : va_G) (cA : Nat → ClassId) (B : Nat) (A : Nat → Prop) : Prop :=
  CallFix p m c cc nL s args pv_T own ∧ meth.name = mn ∧ pv_K D cA s ∧ ((∀ q, s.heap.size ≤ q → A q) ∧ ∀ q, A q → B ≤ q) ∧ 1 ≤ R.frames ∧ 60 ≤ R.locals
def pv_I (D : va_G) (cA : Nat → ClassId) (B : Nat) (A : Nat → Prop) (s : State) (h : pv_H) (H : Heap) (locs : List Loc) : Prop := va_P D vwCl (pv_w cA B h) H ∧ va_S A s.heap H locs ∧ ∀ k, k < h.length → A (B + k)
def pv_KK (p : Program) (l : Launch) (e : Env) (R : Room) (s : State) (m : MethodId) (args : Array Value) (below : List Frame) (meth : Method) (c : Code) (cells slots : Nat) (Q : State → Prop) (rows : List pv_R) (nL : Nat) (D : va_G) (cA : Nat → ClassId) (B : Nat) (A : Nat → Prop) (h : pv_H) (c' : pv_C) : Prop :=
  ∀ (H' : Heap) (locs' : List Loc) (ls' : Array Slot) (cells' slots' pc' : Nat), pv_pc rows c'.1 = pc' → pv_I D cA B A s c'.2.2.2 H' locs' → lv_has ls' nL (pv_l B c'.2.1) → cells' + h.length = cells + c'.2.2.2.length → slots' + pv_sl h = slots + pv_sl c'.2.2.2 → W p l e R s m args below meth c H' locs' cells' slots' Q (F0 m pc' ls' (c'.2.2.1.map (pv_v B)))
theorem pv_lod0 {lo : pv_L} {i k : Nat} {st : List Value} {h : pv_H} {c' : pv_C} (hx : pv_lod lo i k 0 st h = some c') : ∃ x, pv_get lo i = some (.int x) ∧ c' = (k + 1, lo, .int x :: st, h) := by
  unfold pv_lod at hx
  cases hg : pv_get lo i with
  | none => rw [hg] at hx; cases hx
  | some v => rw [hg] at hx; cases v with
    | int x => cases hx; exact ⟨x, rfl, rfl⟩
    | _ => cases hx
theorem pv_lod1 {lo : pv_L} {i k : Nat} {st : List Value} {h : pv_H} {c' : pv_C} (hx : pv_lod lo i k 1 st h = some c') : ∃ x, pv_get lo i = some (.long x) ∧ c' = (k + 1, lo, .long x :: st, h) := by
  unfold pv_lod at hx
  cases hg : pv_get lo i with
  | none => rw [hg] at hx; cases hx
  | some v => rw [hg] at hx; cases v with
    | long x => cases hx; exact ⟨x, rfl, rfl⟩
    | _ => cases hx
theorem pv_lod2 {lo : pv_L} {i k : Nat} {st : List Value} {h : pv_H} {c' : pv_C} (hx : pv_lod lo i k 2 st h = some c') : ∃ x, pv_get lo i = some (.ref x) ∧ c' = (k + 1, lo, .ref x :: st, h) := by
  unfold pv_lod at hx
  cases hg : pv_get lo i with
  | none => rw [hg] at hx; cases hx
  | some v => rw [hg] at hx; cases v with
    | ref x => cases hx; exact ⟨x, rfl, rfl⟩
    | _ => cases hx
theorem pv_sto0 {lo : pv_L} {i k : Nat} {st : List Value} {h : pv_H} {c' : pv_C} (hx : pv_sto lo i k 0 st h = some c') : ∃ x r, st = .int x :: r ∧ c' = (k + 1, pv_set1 lo i (.int x), r, h) := by
  unfold pv_sto at hx
  cases st with
  | nil => cases hx
  | cons v r => cases v with
    | int x => cases hx; exact ⟨x, r, rfl, rfl⟩
    | _ => cases hx
theorem pv_sto1 {lo : pv_L} {i k : Nat} {st : List Value} {h : pv_H} {c' : pv_C} (hx : pv_sto lo i k 1 st h = some c') : ∃ x r, st = .long x :: r ∧ c' = (k + 1, pv_set2 lo i (.long x), r, h) := by
  unfold pv_sto at hx
  cases st with
  | nil => cases hx
  | cons v r => cases v with
    | long x => cases hx; exact ⟨x, r, rfl, rfl⟩
    | _ => cases hx
theorem pv_sto2 {lo : pv_L} {i k : Nat} {st : List Value} {h : pv_H} {c' : pv_C} (hx : pv_sto lo i k 2 st h = some c') : ∃ x r, st = .ref x :: r ∧ c' = (k + 1, pv_set1 lo i (.ref x), r, h) := by
  unfold pv_sto at hx
  cases st with
  | nil => cases hx
  | cons v r => cases v with
    | ref x => cases hx; exact ⟨x, r, rfl, rfl⟩
    | _ => cases hx
theorem pv_i2_inv {f : Int32 → Int32 → Int32} {lo : pv_L} {k : Nat} {st : List Value} {h : pv_H} {c' : pv_C} (hx : pv_i2 f k lo st h = some c') : ∃ x y r, st = .int y :: .int x :: r ∧ c' = (k + 1, lo, .int (f x y) :: r, h) := by
  unfold pv_i2 at hx
  split at hx
  · cases hx; exact ⟨_, _, _, rfl, rfl⟩
  · cases hx
theorem pv_l2_inv {f : Int64 → Int64 → Int64} {lo : pv_L} {k : Nat} {st : List Value} {h : pv_H} {c' : pv_C} (hx : pv_l2 f k lo st h = some c') : ∃ x y r, st = .long y :: .long x :: r ∧ c' = (k + 1, lo, .long (f x y) :: r, h) := by
  unfold pv_l2 at hx
  split at hx
  · cases hx; exact ⟨_, _, _, rfl, rfl⟩
  · cases hx
theorem pv_lsh_inv {f : Int64 → Int32 → Int64} {lo : pv_L} {k : Nat} {st : List Value} {h : pv_H} {c' : pv_C} (hx : pv_lsh f k lo st h = some c') : ∃ x y r, st = .int y :: .long x :: r ∧ c' = (k + 1, lo, .long (f x y) :: r, h) := by
  unfold pv_lsh at hx
  split at hx
  · cases hx; exact ⟨_, _, _, rfl, rfl⟩
  · cases hx
theorem pv_b1_inv {f : Int32 → Bool} {xs : List Nat} {lo : pv_L} {k : Nat} {st : List Value} {h : pv_H} {c' : pv_C} (hx : pv_b1 f xs k lo st h = some c') : ∃ t x r, xs = [t] ∧ st = .int x :: r ∧ c' = if f x then (t, lo, r, h) else (k + 1, lo, r, h) := by
  unfold pv_b1 at hx
  split at hx
  · next t x r =>
    refine ⟨t, x, r, rfl, rfl, ?_⟩
    by_cases hc : f x = true
    · rw [if_pos hc] at hx ⊢; cases hx; rfl
    · rw [if_neg hc] at hx ⊢; cases hx; rfl
  · cases hx
theorem pv_b2_inv {f : Int32 → Int32 → Bool} {xs : List Nat} {lo : pv_L} {k : Nat} {st : List Value} {h : pv_H} {c' : pv_C} (hx : pv_b2 f xs k lo st h = some c') : ∃ t x y r, xs = [t] ∧ st = .int y :: .int x :: r ∧ c' = if f x y then (t, lo, r, h) else (k + 1, lo, r, h) := by
  unfold pv_b2 at hx
  split at hx
  · next t y x r =>
    refine ⟨t, x, y, r, rfl, rfl, ?_⟩
    by_cases hc : f x y = true
    · rw [if_pos hc] at hx ⊢; cases hx; rfl
    · rw [if_neg hc] at hx ⊢; cases hx; rfl
  · cases hx
theorem pv_ald_inv {t : Nat} {lo : pv_L} {k : Nat} {st : List Value} {h : pv_H} {c' : pv_C} (hx : pv_ald t k lo st h = some c') : ∃ (i : Int32) (a : Nat) (r : List Value) (n : Nat) (f : Nat → Int32), st = .int i :: .ref a :: r ∧ h[a]? = some (.inl (t, n, .inl f)) ∧ vp_in i n ∧ c' = (k + 1, lo, .int (f i.toNatClampNeg) :: r, h) := by
  unfold pv_ald at hx
  split at hx
  · next i a r =>
    split at hx
    · next t' n f hh =>
      by_cases ht : t' = t
      · rw [if_pos ht] at hx
        subst ht
        by_cases hi : i < 0 ∨ n ≤ i.toNatClampNeg
        · rw [if_pos hi] at hx; cases hx
        · rw [if_neg hi] at hx; cases hx
          exact ⟨i, a, r, n, f, rfl, hh, hi, rfl⟩
      · rw [if_neg ht] at hx; cases hx
    · cases hx
  · cases hx
theorem pv_ast_inv {t : Nat} {g : Int32 → Int32} {lo : pv_L} {k : Nat} {st : List Value} {h : pv_H} {c' : pv_C} (hx : pv_ast t g k lo st h = some c') : ∃ (x i : Int32) (a : Nat) (r : List Value) (n : Nat) (f : Nat → Int32), st = .int x :: .int i :: .ref a :: r ∧ h[a]? = some (.inl (t, n, .inl f)) ∧ vp_in i n ∧ c' = (k + 1, lo, r, h.set a (.inl (t, n, .inl (upd f i.toNatClampNeg (g x))))) := by
  unfold pv_ast at hx
  split at hx
  · next x i a r =>
    split at hx
    · next t' n f hh =>
      by_cases ht : t' = t
      · rw [if_pos ht] at hx
        subst ht
        by_cases hi : i < 0 ∨ n ≤ i.toNatClampNeg
        · rw [if_pos hi] at hx; cases hx
        · rw [if_neg hi] at hx; cases hx
          exact ⟨x, i, a, r, n, f, rfl, hh, hi, rfl⟩
      · rw [if_neg ht] at hx; cases hx
    · cases hx
  · cases hx
section PVS
variable {p : Program} {l : Launch} {e : Env} {R : Room} {s : State} {m : MethodId} {args : Array Value} {below : List Frame} {meth : Method} {c : Code} {H : Heap} {locs : List Loc} {cells slots : Nat} {Q : State → Prop}
variable {LK : List (List Nat)} {pr : List pv_M} {o : Nat} {rows : List pv_R} {own mn : String} {cc : ByteArray} {nL k pc len : Nat} {xs ps : List Nat} {lo : pv_L} {st : List Value} {h : pv_H} {ls : Array Slot} {c' : pv_C} {D : va_G} {cA : Nat → ClassId} {B : Nat} {A : Nat → Prop}
/-- a branch's two ways -/
theorem pv_if (t : Nat) (b : Bool) (r : List Value) (hI : pv_I D cA B A s h H locs) (hl : lv_has ls nL (pv_l B lo)) (hn : pv_pc rows (k + 1) = pc + 3)
    (kk : pv_KK p l e R s m args below meth c cells slots Q rows nL D cA B A h (if b then (t, lo, r, h) else (k + 1, lo, r, h))) :
    (b = true → W p l e R s m args below meth c H locs cells slots Q (F0 m (pv_pc rows t) ls (r.map (pv_v B)))) ∧ (b = false → W p l e R s m args below meth c H locs cells slots Q (F0 m (pc + 3) ls (r.map (pv_v B)))) := by
  refine ⟨fun hb => ?_, fun hb => ?_⟩
  · subst hb; exact kk H locs ls cells slots _ rfl hI hl rfl rfl
  · subst hb; exact kk H locs ls cells slots _ hn hI hl rfl rfl
set_option maxHeartbeats 4000000 in
theorem pv_stepB1 (S : pv_St p s m args meth c R cc own mn nL D cA B A) (hI : pv_I D cA B A s h H locs) (hl : lv_has ls nL (pv_l B lo)) {cd : Jvm.ClassFile.Cond} {off : Int} (hd : decode cc pc = .ok (.ifCond cd off, len)) (hok : pv_okx LK rows o mn nL k pc len (.ifCond cd off) xs ps = true) (hx : pv_x (.ifCond cd off) xs k lo st h = some c') (kk : pv_KK p l e R s m args below meth c cells slots Q rows nL D cA B A h c') : W p l e R s m args below meth c H locs cells slots Q (F0 m pc ls (st.map (pv_v B))) := by
  obtain ⟨⟨hex, hb, hml, hown, hts⟩, -⟩ := S
  obtain ⟨t, x, r, rfl, rfl, rfl⟩ := pv_b1_inv hx
  have hok : (pv_nx rows k pc len 3 && pv_jp rows pc off t) = true := hok
  simp only [Bool.and_eq_true] at hok
  obtain ⟨rfl, hn⟩ := pv_nx_inv hok.1
  have hj := pv_jp_inv hok.2
  obtain ⟨k1, k2⟩ := pv_if t _ r hI hl hn kk
  cases cd with
  | eq => exact lv_if_eq hex hb hd hj (fun q => k1 (by simp [pv_cond, q])) (fun q => k2 (by simp [pv_cond, q]))
  | ne => exact lv_if_ne hex hb hd hj (fun q => k1 (by simp [pv_cond, q])) (fun q => k2 (by simp [pv_cond, q]))
  | lt => exact lv_if_lt hex hb hd hj (fun q => k1 (by simp only [pv_cond, decide_eq_true_eq]; exact q)) (fun q => k2 (by simp only [pv_cond, decide_eq_false_iff_not]; exact q))
  | ge => exact lv_if_ge hex hb hd hj (fun q => k1 (by simp only [pv_cond, decide_eq_true_eq]; exact q)) (fun q => k2 (by simp only [pv_cond, decide_eq_false_iff_not]; exact q))
  | gt => exact lv_if_gt hex hb hd hj (fun q => k1 (by simp only [pv_cond, decide_eq_true_eq]; exact q)) (fun q => k2 (by simp only [pv_cond, decide_eq_false_iff_not]; exact q))
  | le => exact lv_if_le hex hb hd hj (fun q => k1 (by simp only [pv_cond, decide_eq_true_eq]; exact q)) (fun q => k2 (by simp only [pv_cond, decide_eq_false_iff_not]; exact q))
set_option maxHeartbeats 4000000 in
theorem pv_stepB2 (S : pv_St p s m args meth c R cc own mn nL D cA B A) (hI : pv_I D cA B A s h H locs) (hl : lv_has ls nL (pv_l B lo)) {cd : Jvm.ClassFile.Cond} {off : Int} (hd : decode cc pc = .ok (.if_icmp cd off, len)) (hok : pv_okx LK rows o mn nL k pc len (.if_icmp cd off) xs ps = true) (hx : pv_x (.if_icmp cd off) xs k lo st h = some c') (kk : pv_KK p l e R s m args below meth c cells slots Q rows nL D cA B A h c') : W p l e R s m args below meth c H locs cells slots Q (F0 m pc ls (st.map (pv_v B))) := by
  obtain ⟨⟨hex, hb, hml, hown, hts⟩, -⟩ := S
  obtain ⟨t, x, y, r, rfl, rfl, rfl⟩ := pv_b2_inv hx
  have hok : (pv_nx rows k pc len 3 && pv_jp rows pc off t) = true := hok
  simp only [Bool.and_eq_true] at hok
  obtain ⟨rfl, hn⟩ := pv_nx_inv hok.1
  have hj := pv_jp_inv hok.2
  obtain ⟨k1, k2⟩ := pv_if t _ r hI hl hn kk
  cases cd with
  | eq => exact lv_icmp_eq hex hb hd hj (fun q => k1 (by simp [pv_cond, q])) (fun q => k2 (by simp [pv_cond, q]))
  | ne => exact lv_icmp_ne hex hb hd hj (fun q => k1 (by simp [pv_cond, q])) (fun q => k2 (by simp [pv_cond, q]))
  | lt => exact lv_icmp_lt hex hb hd hj (fun q => k1 (by simp only [pv_cond, decide_eq_true_eq]; exact q)) (fun q => k2 (by simp only [pv_cond, decide_eq_false_iff_not]; exact q))
  | ge => exact lv_icmp_ge hex hb hd hj (fun q => k1 (by simp only [pv_cond, decide_eq_true_eq]; exact q)) (fun q => k2 (by simp only [pv_cond, decide_eq_false_iff_not]; exact q))
  | gt => exact lv_icmp_gt hex hb hd hj (fun q => k1 (by simp only [pv_cond, decide_eq_true_eq]; exact q)) (fun q => k2 (by simp only [pv_cond, decide_eq_false_iff_not]; exact q))
  | le => exact lv_icmp_le hex hb hd hj (fun q => k1 (by simp only [pv_cond, decide_eq_true_eq]; exact q)) (fun q => k2 (by simp only [pv_cond, decide_eq_false_iff_not]; exact q))
set_option maxHeartbeats 4000000 in
theorem pv_stepGet (hLK : pv_LKs pr LK) (ho : pv_cn[o]? = some own) (S : pv_St p s m args meth c R cc own mn nL D cA B A) (hI : pv_I D cA B A s h H locs) (hl : lv_has ls nL (pv_l B lo)) {idx : Nat} (hd : decode cc pc = .ok (.getfield idx, len)) (hok : pv_okx LK rows o mn nL k pc len (.getfield idx) xs ps = true) (hx : pv_x (.getfield idx) xs k lo st h = some c') (kk : pv_KK p l e R s m args below meth c cells slots Q rows nL D cA B A h c') : W p l e R s m args below meth c H locs cells slots Q (F0 m pc ls (st.map (pv_v B))) := by
  obtain ⟨⟨hex, hb, hml, hown, hts⟩, -, hK, -⟩ := S
  obtain ⟨hP, hS, hAk⟩ := id hI
  simp only [pv_x] at hx
  split at hx
  · next ci j a r =>
    split at hx
    · next ci' fs ha =>
      by_cases hci : ci' = ci
      · rw [if_pos hci] at hx
        subst hci
        split at hx
        · next v hv =>
          cases hx
          simp only [pv_okx] at hok
          split at hok
          · next ci2 j2 p0 e1 =>
            cases e1
            simp only [Bool.and_eq_true] at hok
            obtain ⟨hnx, hok⟩ := hok
            obtain ⟨rfl, hn⟩ := pv_nx_inv hnx
            split at hok
            · next q hq =>
              simp only [Bool.and_eq_true, decide_eq_true_eq] at hok
              obtain ⟨hj, hfk⟩ := hok
              obtain ⟨hin, hty, hnm⟩ := pv_cl ci' hq
              have hw := pv_w_get (cA := cA) (B := B) ha
              have hv' : (fs.map (pv_v B))[j]? = some (pv_v B v) := by simp [hv]
              have hfk : (Cond.fieldLink own idx (q.2.1 j).1 (q.2.1 j).2.1 (q.2.1 j).2.2.1 ∈ pv_T ∨ ∃ hst, Cond.fieldLinkNest own idx (q.2.1 j).1 (q.2.1 j).2.1 (q.2.1 j).2.2.1 hst ∈ pv_N) := hLK.1 _ (pv_lk_inv hfk) own q ho hq
              rcases hfk with hf | ⟨hst, hf⟩
              · exact va_get (C := q.1) (T := q.2.1) (N := q.2.2) hex hb hts hin hown hK.1 hP a hw hq j hj (hts _ hf) (fun _ h9 => h9) hv' hd (kk H locs ls cells slots _ hn hI hl rfl rfl)
              · exact va_getN (C := q.1) (T := q.2.1) (N := q.2.2) hex hb hts hin hown hK.1 hP a hw hq j hj (va_Nw.use rfl (hK.2 _ hf)) (fun _ h9 => h9) hv' hd (kk H locs ls cells slots _ hn hI hl rfl rfl)
            · cases hok
          · cases hok
        · cases hx
      · rw [if_neg hci] at hx; cases hx
    · cases hx
  · cases hx
set_option maxHeartbeats 4000000 in
theorem pv_stepPut (hLK : pv_LKs pr LK) (ho : pv_cn[o]? = some own) (S : pv_St p s m args meth c R cc own mn nL D cA B A) (hI : pv_I D cA B A s h H locs) (hl : lv_has ls nL (pv_l B lo)) {idx : Nat} (hd : decode cc pc = .ok (.putfield idx, len)) (hok : pv_okx LK rows o mn nL k pc len (.putfield idx) xs ps = true) (hx : pv_x (.putfield idx) xs k lo st h = some c') (kk : pv_KK p l e R s m args below meth c cells slots Q rows nL D cA B A h c') : W p l e R s m args below meth c H locs cells slots Q (F0 m pc ls (st.map (pv_v B))) := by
  obtain ⟨⟨hex, hb, hml, hown, hts⟩, hmn, hK, -⟩ := S
  obtain ⟨hP, hS, hAk⟩ := id hI
  simp only [pv_x] at hx
  split at hx
  · next ci j v a r =>
    split at hx
    · next ci' fs ha =>
      split at hx
      · next hcnd =>
        obtain ⟨rfl, hjl, hnar, hfit⟩ := hcnd
        cases hx
        simp only [pv_okx] at hok
        split at hok
        · next ci2 j2 p0 e1 =>
          cases e1
          simp only [Bool.and_eq_true] at hok
          obtain ⟨hnx, hok⟩ := hok
          obtain ⟨rfl, hn⟩ := pv_nx_inv hnx
          split at hok
          · next q hq =>
            simp only [Bool.and_eq_true, decide_eq_true_eq] at hok
            obtain ⟨hj, hfk⟩ := hok
            obtain ⟨hin, hty, hnm⟩ := pv_cl ci' hq
            have hw := pv_w_get (cA := cA) (B := B) ha
            have hnar' : narrow (pv_tyX ci' j) (pv_v B v) = pv_v B v := by
              cases v <;> first | exact hnar | (cases pv_tyX ci' j <;> rfl)
            have hfit' : fits (pv_tyX ci' j) (pv_v B v) = true := by
              cases v <;> first | exact hfit | (revert hfit; cases pv_tyX ci' j <;> simp [fits, pv_v])
            have hlen : j < (fs.map (pv_v B)).length := by simpa using hjl
            have hset : (pv_w cA B h).set a (B + a, .inr (ci', (fs.map (pv_v B)).set j (pv_v B v))) = pv_w cA B (h.set a (.inr (ci', fs.set j v))) := by
              rw [pv_w_set]
              simp [pv_e, List.map_set]
            have hkk : ∀ (H1 : Heap) (locs1 : List Loc), va_P D vwCl ((pv_w cA B h).set a (B + a, .inr (ci', (fs.map (pv_v B)).set j (pv_v B v)))) H1 → va_D A ((pv_w cA B h).set a (B + a, .inr (ci', (fs.map (pv_v B)).set j (pv_v B v)))) → va_S A s.heap H1 locs1 → W p l e R s m args below meth c H1 locs1 cells slots Q (F0 m (pc + 3) ls (r.map (pv_v B))) := by
              intro H1 locs1 hP1 _ hS1
              rw [hset] at hP1
              exact kk H1 locs1 ls cells slots _ hn ⟨hP1, hS1, fun k9 h9 => hAk k9 (by simpa using h9)⟩ hl (by simp) (by rw [pv_sl_set ha (by simp [pv_ce])])
            by_cases hfin : (q.2.1 j).2.2.2 = true
            · rw [if_pos hfin] at hfk
              simp only [Bool.and_eq_true, decide_eq_true_eq] at hfk
              obtain ⟨hfp, hmn2⟩ := hfk
              have hfp : Cond.fieldLink own idx (q.2.1 j).1 (q.2.1 j).2.1 (q.2.1 j).2.2.1 ∈ pv_T ∧ (q.2.1 j).1 = own := hLK.1 _ (pv_lk_inv hfp) own q ho hq
              obtain ⟨hfp, hdecl⟩ := hfp
              exact va_putF (C := q.1) (T := q.2.1) (N := q.2.2) hex hb hts hin (pv_tyX ci') hty hnm hown hK.1 hP (pv_D cA B h hAk) hS a hw hq j hj (hts _ hfp) (fun _ h9 => h9) hfin (hmn.trans hmn2) hdecl (hty j hj) hnar' hfit' hlen hd hkk
            · rw [if_neg hfin] at hfk
              have hfin : (q.2.1 j).2.2.2 = false := by simpa using hfin
              have hfk : (Cond.fieldLink own idx (q.2.1 j).1 (q.2.1 j).2.1 (q.2.1 j).2.2.1 ∈ pv_T ∨ ∃ hst, Cond.fieldLinkNest own idx (q.2.1 j).1 (q.2.1 j).2.1 (q.2.1 j).2.2.1 hst ∈ pv_N) := hLK.1 _ (pv_lk_inv hfk) own q ho hq
              rcases hfk with hf | ⟨hst, hf⟩
              · exact va_put (C := q.1) (T := q.2.1) (N := q.2.2) hex hb hts hin (pv_tyX ci') hty hnm hown hK.1 hP (pv_D cA B h hAk) hS a hw hq j hj (hts _ hf) (fun _ h9 => h9) hfin (hty j hj) hnar' hfit' hlen hd hkk
              · exact va_putN (C := q.1) (T := q.2.1) (N := q.2.2) hex hb hts hin (pv_tyX ci') hty hnm hown hK.1 hP (pv_D cA B h hAk) hS a hw hq j hj (va_Nw.use rfl (hK.2 _ hf)) (fun _ h9 => h9) hfin (hty j hj) hnar' hfit' hlen hd hkk
          · cases hok
        · cases hok
      · cases hx
    · cases hx
  · cases hx
end PVS
end
section
section PVT
variable {p : Program} {l : Launch} {e : Env} {R : Room} {s : State} {m : MethodId} {args : Array Value} {below : List Frame} {meth : Method} {c : Code} {H : Heap} {locs : List Loc} {cells slots : Nat} {Q : State → Prop}
variable {rows : List pv_R} {own mn : String} {cc : ByteArray} {nL k pc len : Nat} {xs ps : List Nat} {lo : pv_L} {st : List Value} {h : pv_H} {ls : Array Slot} {c' : pv_C} {D : va_G} {cA : Nat → ClassId} {B : Nat} {A : Nat → Prop}
/-- a new cell lies behind the last one -/
theorem pv_next {q : Nat} {e9 : va_E} {H1 : Heap} {n : Nat} (hB : s.heap.size + n = B + h.length + 1) (hP : va_P D vwCl (pv_w cA B h ++ [(q, e9)]) H1) (hAB : ∀ q, A q → B ≤ q) (hD : va_D A (pv_w cA B h ++ [(q, e9)])) (hz : H1.size ≤ s.heap.size + n) : q = B + h.length := by
  have hlast : (pv_w cA B h ++ [(q, e9)])[(pv_w cA B h).length]? = some (q, e9) := by simp
  have h1 : q < H1.size := (hP _ _ hlast).lt
  have h2 : B ≤ q := hAB _ (hD.2 _ _ hlast)
  rcases Nat.lt_or_ge q (B + h.length) with h3 | h3
  · exfalso
    have hk : q - B < h.length := by omega
    have h4 : (pv_w cA B h)[q - B]? = some (B + (q - B), pv_e cA B h[q - B]) := pv_w_get (by simp [hk])
    have h5 : (pv_w cA B h ++ [(q, e9)])[q - B]? = some (B + (q - B), pv_e cA B h[q - B]) := by
      rw [List.getElem?_append_left (by rw [pv_w_len]; exact hk)]
      exact h4
    have h6 := hD.1 _ _ _ _ h5 hlast (by show B + (q - B) = q; omega)
    rw [pv_w_len] at h6
    omega
  · omega
theorem pv_ra {cA' : ClassId} {ty : FieldType} {t : Nat} {cA2 : ClassId} (h1 : va_RA s cA' ty) (h2 : va_RA s cA2 ty) (hp : (∃ C, ty = .object C) ∨ True) (hno : ∀ C, ty ≠ .object C) : cA' = cA2 := by
  cases ty with
  | object C => exact absurd rfl (hno C)
  | _ => exact Option.some.inj (Eq.trans (Eq.symm h1) h2)
set_option maxHeartbeats 4000000 in
theorem pv_newa (t : Nat) (ty : FieldType) (at0 : ArrayType) (a0 : Nat → vp_A) (S : pv_St p s m args meth c R cc own mn nL D cA B A) (hI : pv_I D cA B A s h H locs) (hl : lv_has ls nL (pv_l B lo)) (hat : newarray.typeOf at0 = ty) (hno : ∀ C, ty ≠ .object C) (htt : (pv_ty cA)[t]? = some (cA t, ty)) (harr : Cond.arrayClass ty ∈ pv_T)
    (ha0 : ∀ (N : Nat) (cX : ClassId), vp_cell cX (a0 N) = arrV cX N (fun _ => defaultValue ty)) (hN0 : ∀ N, (a0 N).1 = N) (hby : componentBytes ty ≤ 8) {n : Int32} {r : List Value} (hd : decode cc pc = .ok (.newarray at0, 2)) (hn : pv_pc rows (k + 1) = pc + 2) (hcn : ¬ (n < 0 ∨ 100000 < n.toNatClampNeg)) (hB : s.heap.size + cells = B + h.length)
    (hc : cells + (h ++ [Sum.inl (t, a0 n.toNatClampNeg)]).length ≤ R.cells + h.length) (hs : slots + pv_sl (h ++ [Sum.inl (t, a0 n.toNatClampNeg)]) ≤ R.slots + pv_sl h)
    (kk : pv_KK p l e R s m args below meth c cells slots Q rows nL D cA B A h (k + 1, lo, .ref h.length :: r, h ++ [.inl (t, a0 n.toNatClampNeg)])) : W p l e R s m args below meth c H locs cells slots Q (F0 m pc ls (.int n :: r.map (pv_v B))) := by
  obtain ⟨⟨hex, hb, hml, hown, hts⟩, hmn, hK, hBs, -⟩ := S
  obtain ⟨hP, hS, hAk⟩ := id hI
  have hn0 : ¬ n < 0 := fun q => hcn (Or.inl q)
  have hn1 : ¬ 100000 < n.toNatClampNeg := fun q => hcn (Or.inr q)
  have hce : pv_ce (Sum.inl (t, a0 n.toNatClampNeg)) = n.toNatClampNeg := hN0 _
  rw [List.length_append, List.length_singleton] at hc
  rw [pv_sl_app, hce] at hs
  refine va_newa (N' := n.toNatClampNeg) (a0 := a0 n.toNatClampNeg) hex hb (by rw [hat]; exact hts _ harr) hat hK.1 hP (pv_D cA B h hAk) hS hBs.1 (fun cX => ha0 _ cX) hn0 rfl (by
    have := Nat.mul_le_mul (Nat.le_of_not_lt hn1) hby
    omega) (by omega) (by omega) hd (fun q cX H1 hK1 hP1 hD1 hS1 => ?_)
  refine pv_bound (fun hz => ?_)
  have hq : q = B + h.length := pv_next (n := cells + 1) (by omega) hP1 hBs.2 hD1 hz
  subst hq
  have hcx : cX = cA t := by
    have h1 := (hK1.2 (pv_ty cA).length (cX, ty) (by simp)).2
    have h2 := (hK.1.2 t _ htt).2
    exact pv_ra (t := t) h1 h2 (Or.inr trivial) hno
  subst hcx
  have hP2 : va_P D vwCl (pv_w cA B (h ++ [.inl (t, a0 n.toNatClampNeg)])) H1 := by
    rw [pv_w_app]
    exact hP1
  refine kk H1 locs ls (cells + 1) (slots + n.toNatClampNeg) _ hn ⟨hP2, hS1, fun k9 h9 => by
    rcases Nat.lt_or_ge k9 h.length with h5 | h5
    · exact hAk k9 h5
    · exact hBs.1 _ (by omega)⟩ hl ?_ ?_
  · simp; omega
  · show _ = slots + pv_sl (h ++ [_])
    rw [pv_sl_app, hce]; omega
theorem pv_dvd (ty : FieldType) (h : pv_dv ty = defaultValue ty) : defaultValue ty = pv_dv ty := h.symm
theorem pv_fr {ci : Nat} {q : vw_C} (hq : vwCl[ci]? = some q) : ∀ j, j < q.2.2 → defaultValue (pv_tyX ci j) = vp_V ((pv_fresh ci).map (pv_v B)) j := by
  have key : ∀ j, j < q.2.2 → defaultValue (pv_tyX ci j) = pv_v B (pv_dv (pv_tyX ci j)) → defaultValue (pv_tyX ci j) = vp_V ((pv_fresh ci).map (pv_v B)) j := by
    intro j hj he
    have hN : pv_nX ci = q.2.2 := by simp [pv_nX, hq]
    simp [vp_V, pv_fresh, hN, hj, he]
  intro j hj
  refine key j hj ?_
  have ht : ∀ ty : FieldType, ty = .int ∨ ty = .long ∨ (∃ C, ty = .object C) ∨ (∃ t, ty = .array t) → defaultValue ty = pv_v B (pv_dv ty) := by
    intro ty h
    rcases h with rfl | rfl | ⟨C, rfl⟩ | ⟨t, rfl⟩ <;> rfl
  have hall : ∀ ci, ci < 13 → ∀ j, j < pv_nX ci → (match pv_tyX ci j with | .int => true | .long => true | .object _ => true | .array _ => true | _ => false) = true := by decide +kernel
  have hN : pv_nX ci = q.2.2 := by simp [pv_nX, hq]
  have hci : ci < 13 := (List.getElem?_eq_some_iff.mp hq).1
  have h1 := hall ci hci j (by omega)
  apply ht
  revert h1
  cases pv_tyX ci j <;> simp
theorem pv_frl {ci : Nat} {q : vw_C} (hq : vwCl[ci]? = some q) : (pv_fresh ci).length = q.2.2 := by
  simp [pv_fresh, pv_nX, hq]
set_option maxHeartbeats 4000000 in
theorem pv_new (S : pv_St p s m args meth c R cc own mn nL D cA B A) (hI : pv_I D cA B A s h H locs) (hl : lv_has ls nL (pv_l B lo)) {idx ci : Nat} {q : vw_C} (hq : vwCl[ci]? = some q) (hd : decode cc pc = .ok (.new idx, 3)) (hn : pv_pc rows (k + 1) = pc + 3) (w1 : Cond.classLink own idx q.1 ∈ pv_T) (w2 : Cond.instantiable q.1 q.2.2 ∈ pv_T) (w3 : Cond.initialized q.1 ∈ pv_T) (hB : s.heap.size + cells = B + h.length)
    (hc : cells + (h ++ [Sum.inr (ci, pv_fresh ci)]).length ≤ R.cells + h.length) (hs : slots + pv_sl (h ++ [Sum.inr (ci, pv_fresh ci)]) ≤ R.slots + pv_sl h)
    (kk : pv_KK p l e R s m args below meth c cells slots Q rows nL D cA B A h (k + 1, lo, .ref h.length :: st, h ++ [.inr (ci, pv_fresh ci)])) : W p l e R s m args below meth c H locs cells slots Q (F0 m pc ls (st.map (pv_v B))) := by
  obtain ⟨⟨hex, hb, hml, hown, hts⟩, hmn, hK, hBs, -⟩ := S
  obtain ⟨hP, hS, hAk⟩ := id hI
  have hce : pv_ce (Sum.inr (ci, pv_fresh ci)) = q.2.2 := pv_frl hq
  rw [List.length_append, List.length_singleton] at hc
  rw [pv_sl_app, hce] at hs
  obtain ⟨hin, hty, hnm⟩ := pv_cl ci hq
  refine va_new (C := q.1) (T := q.2.1) (N := q.2.2) (ci := ci) (fs := (pv_fresh ci).map (pv_v B)) hex hb hts hin (pv_tyX ci) hty hown (hts _ w1) (hts _ w2) (hts _ w3) hK.1 hP (pv_D cA B h hAk) hS hBs.1 hq (pv_fr hq) (by omega) (by omega) hd (fun a H1 hP1 hD1 hS1 => ?_)
  refine pv_bound (fun hz => ?_)
  have ha : a = B + h.length := pv_next (n := cells + 1) (by omega) hP1 hBs.2 hD1 hz
  subst ha
  have hP2 : va_P D vwCl (pv_w cA B (h ++ [.inr (ci, pv_fresh ci)])) H1 := by
    rw [pv_w_app]
    exact hP1
  refine kk H1 locs ls (cells + 1) (slots + q.2.2) _ hn ⟨hP2, hS1, fun k9 h9 => by
    rcases Nat.lt_or_ge k9 h.length with h5 | h5
    · exact hAk k9 h5
    · exact hBs.1 _ (by omega)⟩ hl ?_ ?_
  · simp; omega
  · show _ = slots + pv_sl (h ++ [_])
    rw [pv_sl_app, hce]; omega
set_option maxHeartbeats 4000000 in
theorem pv_stepAst (t : Nat) (g : Int32 → Int32) {i9 : Instr} (hI : pv_I D cA B A s h H locs) (hl : lv_has ls nL (pv_l B lo)) (hn : pv_pc rows (k + 1) = pc + 1) (hx : pv_ast t g k lo st h = some c')
    (row : ∀ (x i : Int32) (a : Nat) (r : List Value) (n : Nat) (f : Nat → Int32), (pv_w cA B h)[a]? = some (B + a, .inl (cA t, n, .inl f)) → vp_in i n → (∀ (H1 : Heap) (locs1 : List Loc), va_P D vwCl ((pv_w cA B h).set a (B + a, .inl (cA t, n, .inl (upd f i.toNatClampNeg (g x))))) H1 → va_D A ((pv_w cA B h).set a (B + a, .inl (cA t, n, .inl (upd f i.toNatClampNeg (g x))))) → va_S A s.heap H1 locs1 → W p l e R s m args below meth c H1 locs1 cells slots Q (F0 m (pc + 1) ls r)) → W p l e R s m args below meth c H locs cells slots Q (F0 m pc ls (.int x :: .int i :: .ref (B + a) :: r)))
    (kk : pv_KK p l e R s m args below meth c cells slots Q rows nL D cA B A h c') : W p l e R s m args below meth c H locs cells slots Q (F0 m pc ls (st.map (pv_v B))) := by
  obtain ⟨x, i, a, r, n, f, rfl, ha, hin, rfl⟩ := pv_ast_inv hx
  have hAk := hI.2.2
  refine row x i a (r.map (pv_v B)) n f (pv_w_get ha) hin (fun H1 locs1 hP1 _ hS1 => ?_)
  have hset : (pv_w cA B h).set a (B + a, .inl (cA t, n, .inl (upd f i.toNatClampNeg (g x)))) = pv_w cA B (h.set a (.inl (t, n, .inl (upd f i.toNatClampNeg (g x))))) := by
    rw [pv_w_set]; rfl
  rw [hset] at hP1
  exact kk H1 locs1 ls cells slots _ hn ⟨hP1, hS1, fun k9 h9 => hAk k9 (by simpa using h9)⟩ hl (by simp) (by rw [pv_sl_set ha (by rfl)])
end PVT
end
section
section PVU
variable {p : Program} {l : Launch} {e : Env} {R : Room} {s : State} {m : MethodId} {args : Array Value} {below : List Frame} {meth : Method} {c : Code} {H : Heap} {locs : List Loc} {cells slots : Nat} {Q : State → Prop}
variable {LK : List (List Nat)} {pr : List pv_M} {o : Nat} {rows : List pv_R} {own mn : String} {cc : ByteArray} {nL k pc len : Nat} {xs ps : List Nat} {lo : pv_L} {st : List Value} {h : pv_H} {ls : Array Slot} {c' : pv_C} {D : va_G} {cA : Nat → ClassId} {B : Nat} {A : Nat → Prop}
theorem pv_arr : Cond.arrayClass .int ∈ pv_T ∧ Cond.arrayClass .boolean ∈ pv_T ∧ Cond.arrayClass .byte ∈ pv_T ∧ Cond.arrayClass .long ∈ pv_T := by
  refine ⟨List.mem_filter.mpr ⟨?_, rfl⟩, List.mem_filter.mpr ⟨?_, rfl⟩, List.mem_filter.mpr ⟨?_, rfl⟩, List.mem_filter.mpr ⟨?_, rfl⟩⟩ <;> decide +kernel
set_option maxHeartbeats 8000000 in
theorem pv_step {i : Instr} (hLK : pv_LKs pr LK) (ho : pv_cn[o]? = some own) (S : pv_St p s m args meth c R cc own mn nL D cA B A) (hI : pv_I D cA B A s h H locs) (hl : lv_has ls nL (pv_l B lo)) (hd : decode cc pc = .ok (i, len)) (hok : pv_okx LK rows o mn nL k pc len i xs ps = true) (hx : pv_x i xs k lo st h = some c') (hB : h.length < c'.2.2.2.length → s.heap.size + cells = B + h.length) (hc : cells + c'.2.2.2.length ≤ R.cells + h.length) (hs : slots + pv_sl c'.2.2.2 ≤ R.slots + pv_sl h) (kk : pv_KK p l e R s m args below meth c cells slots Q rows nL D cA B A h c') : W p l e R s m args below meth c H locs cells slots Q (F0 m pc ls (st.map (pv_v B))) := by
  obtain ⟨⟨hex, hb, hml, hown, hts⟩, hmn, hK, hBs, hfr, hlo⟩ := id S
  obtain ⟨hP, hS, hAk⟩ := id hI
  cases i with
  | iconst n =>
    have hok : pv_nx rows k pc len 1 = true := hok
    obtain ⟨rfl, hn⟩ := pv_nx_inv hok
    obtain rfl : ((k + 1, lo, .int (Int32.ofInt n) :: st, h) : pv_C) = c' := Option.some.inj hx
    exact lv_iconst hex hb hd rfl (kk H locs ls cells slots _ hn hI hl rfl rfl)
  | bipush n =>
    have hok : pv_nx rows k pc len 2 = true := hok
    obtain ⟨rfl, hn⟩ := pv_nx_inv hok
    obtain rfl : ((k + 1, lo, .int (Int8.ofInt n).toInt32 :: st, h) : pv_C) = c' := Option.some.inj hx
    exact lv_bipush hex hb hd rfl (kk H locs ls cells slots _ hn hI hl rfl rfl)
  | sipush n =>
    have hok : pv_nx rows k pc len 3 = true := hok
    obtain ⟨rfl, hn⟩ := pv_nx_inv hok
    obtain rfl : ((k + 1, lo, .int (Int16.ofInt n).toInt32 :: st, h) : pv_C) = c' := Option.some.inj hx
    exact lv_sipush hex hb hd rfl (kk H locs ls cells slots _ hn hI hl rfl rfl)
  | lconst n =>
    have hok : pv_nx rows k pc len 1 = true := hok
    obtain ⟨rfl, hn⟩ := pv_nx_inv hok
    obtain rfl : ((k + 1, lo, .long (Int64.ofNat n) :: st, h) : pv_C) = c' := Option.some.inj hx
    exact lv_lconst hex hb hd rfl (kk H locs ls cells slots _ hn hI hl rfl rfl)
  | ldc idx =>
    simp only [pv_x] at hx
    split at hx
    · next v =>
      cases hx
      simp only [pv_okx] at hok
      split at hok
      · next v2 p0 e1 =>
        cases e1
        simp only [Bool.and_eq_true] at hok
        obtain ⟨rfl, hn⟩ := pv_nx_inv hok.1
        exact lv_ldc hex hb hown (hts _ (hLK.1 _ (pv_lk_inv hok.2) own ho)) hd (kk H locs ls cells slots _ hn hI hl rfl rfl)
      · cases hok
    · cases hx
  | ldc_w idx =>
    simp only [pv_x] at hx
    split at hx
    · next v =>
      cases hx
      simp only [pv_okx] at hok
      split at hok
      · next v2 p0 e1 =>
        cases e1
        simp only [Bool.and_eq_true] at hok
        obtain ⟨rfl, hn⟩ := pv_nx_inv hok.1
        exact lv_ldcw hex hb hown (hts _ (hLK.1 _ (pv_lk_inv hok.2) own ho)) hd (kk H locs ls cells slots _ hn hI hl rfl rfl)
      · cases hok
    · cases hx
  | ldc2_w idx =>
    simp only [pv_x] at hx
    split at hx
    · next v =>
      cases hx
      simp only [pv_okx] at hok
      split at hok
      · next v2 p0 e1 =>
        cases e1
        simp only [Bool.and_eq_true] at hok
        obtain ⟨rfl, hn⟩ := pv_nx_inv hok.1
        exact lv_ldc2 hex hb hown (hts _ (hLK.1 _ (pv_lk_inv hok.2) own ho)) hd (kk H locs ls cells slots _ hn hI hl rfl rfl)
      · cases hok
    · cases hx
  | iload i =>
    have hok : pv_nx rows k pc len 2 = true := hok
    obtain ⟨rfl, hn⟩ := pv_nx_inv hok
    obtain ⟨x, hg, rfl⟩ := pv_lod0 hx
    exact lv_iload hex hb hd (hl.2.2 _ (pv_l_get hg)) (kk H locs ls cells slots _ hn hI hl rfl rfl)
  | iload_n i =>
    have hok : pv_nx rows k pc len 1 = true := hok
    obtain ⟨rfl, hn⟩ := pv_nx_inv hok
    obtain ⟨x, hg, rfl⟩ := pv_lod0 hx
    exact lv_iload_n hex hb hd rfl (hl.2.2 _ (pv_l_get hg)) (kk H locs ls cells slots _ hn hI hl rfl rfl)
  | lload i =>
    have hok : pv_nx rows k pc len 2 = true := hok
    obtain ⟨rfl, hn⟩ := pv_nx_inv hok
    obtain ⟨x, hg, rfl⟩ := pv_lod1 hx
    exact lv_lload hex hb hd (hl.2.2 _ (pv_l_get hg)) (kk H locs ls cells slots _ hn hI hl rfl rfl)
  | lload_n i =>
    have hok : pv_nx rows k pc len 1 = true := hok
    obtain ⟨rfl, hn⟩ := pv_nx_inv hok
    obtain ⟨x, hg, rfl⟩ := pv_lod1 hx
    exact lv_lload_n hex hb hd rfl (hl.2.2 _ (pv_l_get hg)) (kk H locs ls cells slots _ hn hI hl rfl rfl)
  | aload i =>
    have hok : pv_nx rows k pc len 2 = true := hok
    obtain ⟨rfl, hn⟩ := pv_nx_inv hok
    obtain ⟨x, hg, rfl⟩ := pv_lod2 hx
    exact lv_aload hex hb hd (hl.2.2 _ (pv_l_get hg)) (kk H locs ls cells slots _ hn hI hl rfl rfl)
  | aload_n i =>
    have hok : pv_nx rows k pc len 1 = true := hok
    obtain ⟨rfl, hn⟩ := pv_nx_inv hok
    obtain ⟨x, hg, rfl⟩ := pv_lod2 hx
    exact lv_aload_n hex hb hd rfl (hl.2.2 _ (pv_l_get hg)) (kk H locs ls cells slots _ hn hI hl rfl rfl)
  | istore i =>
    have hok : (pv_nx rows k pc len 2 && decide (i < nL)) = true := hok
    simp only [Bool.and_eq_true, decide_eq_true_eq] at hok
    obtain ⟨rfl, hn⟩ := pv_nx_inv hok.1
    obtain ⟨x, r, rfl, rfl⟩ := pv_sto0 hx
    exact lv_istore hex hb hd hl hok.2 (pv_l_set1 B lo i (.int x)) (fun ls9 hl9 => kk H locs ls9 cells slots _ hn hI hl9 rfl rfl)
  | istore_n i =>
    have hok : (pv_nx rows k pc len 1 && decide (i.val < nL)) = true := hok
    simp only [Bool.and_eq_true, decide_eq_true_eq] at hok
    obtain ⟨rfl, hn⟩ := pv_nx_inv hok.1
    obtain ⟨x, r, rfl, rfl⟩ := pv_sto0 hx
    exact lv_istore_n hex hb hd rfl hl hok.2 (pv_l_set1 B lo i (.int x)) (fun ls9 hl9 => kk H locs ls9 cells slots _ hn hI hl9 rfl rfl)
  | lstore i =>
    have hok : (pv_nx rows k pc len 2 && decide (i + 1 < nL)) = true := hok
    simp only [Bool.and_eq_true, decide_eq_true_eq] at hok
    obtain ⟨rfl, hn⟩ := pv_nx_inv hok.1
    obtain ⟨x, r, rfl, rfl⟩ := pv_sto1 hx
    exact lv_lstore hex hb hd hl hok.2 (pv_l_set2 B lo i (.long x)) (fun ls9 hl9 => kk H locs ls9 cells slots _ hn hI hl9 rfl rfl)
  | lstore_n i =>
    have hok : (pv_nx rows k pc len 1 && decide (i.val + 1 < nL)) = true := hok
    simp only [Bool.and_eq_true, decide_eq_true_eq] at hok
    obtain ⟨rfl, hn⟩ := pv_nx_inv hok.1
    obtain ⟨x, r, rfl, rfl⟩ := pv_sto1 hx
    exact lv_lstore_n hex hb hd rfl hl hok.2 (pv_l_set2 B lo i (.long x)) (fun ls9 hl9 => kk H locs ls9 cells slots _ hn hI hl9 rfl rfl)
  | astore i =>
    have hok : (pv_nx rows k pc len 2 && decide (i < nL)) = true := hok
    simp only [Bool.and_eq_true, decide_eq_true_eq] at hok
    obtain ⟨rfl, hn⟩ := pv_nx_inv hok.1
    obtain ⟨x, r, rfl, rfl⟩ := pv_sto2 hx
    exact lv_astore hex hb hd hl hok.2 (pv_l_set1 B lo i (.ref x)) (fun ls9 hl9 => kk H locs ls9 cells slots _ hn hI hl9 rfl rfl)
  | astore_n i =>
    have hok : (pv_nx rows k pc len 1 && decide (i.val < nL)) = true := hok
    simp only [Bool.and_eq_true, decide_eq_true_eq] at hok
    obtain ⟨rfl, hn⟩ := pv_nx_inv hok.1
    obtain ⟨x, r, rfl, rfl⟩ := pv_sto2 hx
    exact lv_astore_n hex hb hd rfl hl hok.2 (pv_l_set1 B lo i (.ref x)) (fun ls9 hl9 => kk H locs ls9 cells slots _ hn hI hl9 rfl rfl)
  | iinc i n =>
    have hok : (pv_nx rows k pc len 3 && decide (i < nL)) = true := hok
    simp only [Bool.and_eq_true, decide_eq_true_eq] at hok
    obtain ⟨rfl, hn⟩ := pv_nx_inv hok.1
    simp only [pv_x] at hx
    split at hx
    · next x hg =>
      cases hx
      obtain ⟨k0, hk0⟩ := List.getElem?_of_mem (pv_l_get (B := B) hg)
      exact lv_iinc hex hb hd hl hk0 rfl hok.2 (pv_l_set1 B lo i (.int (x + Int32.ofInt n))) (fun ls9 hl9 => kk H locs ls9 cells slots _ hn hI hl9 rfl rfl)
    · cases hx
  | iadd =>
    have hok : pv_nx rows k pc len 1 = true := hok
    obtain ⟨rfl, hn⟩ := pv_nx_inv hok
    obtain ⟨x, y, r, rfl, rfl⟩ := pv_i2_inv hx
    exact lv_iadd hex hb hd (kk H locs ls cells slots _ hn hI hl rfl rfl)
  | isub =>
    have hok : pv_nx rows k pc len 1 = true := hok
    obtain ⟨rfl, hn⟩ := pv_nx_inv hok
    obtain ⟨x, y, r, rfl, rfl⟩ := pv_i2_inv hx
    exact lv_isub hex hb hd (kk H locs ls cells slots _ hn hI hl rfl rfl)
  | imul =>
    have hok : pv_nx rows k pc len 1 = true := hok
    obtain ⟨rfl, hn⟩ := pv_nx_inv hok
    obtain ⟨x, y, r, rfl, rfl⟩ := pv_i2_inv hx
    exact lv_imul hex hb hd (kk H locs ls cells slots _ hn hI hl rfl rfl)
  | iand =>
    have hok : pv_nx rows k pc len 1 = true := hok
    obtain ⟨rfl, hn⟩ := pv_nx_inv hok
    obtain ⟨x, y, r, rfl, rfl⟩ := pv_i2_inv hx
    exact lv_iand hex hb hd (kk H locs ls cells slots _ hn hI hl rfl rfl)
  | ior =>
    have hok : pv_nx rows k pc len 1 = true := hok
    obtain ⟨rfl, hn⟩ := pv_nx_inv hok
    obtain ⟨x, y, r, rfl, rfl⟩ := pv_i2_inv hx
    exact lv_ior hex hb hd (kk H locs ls cells slots _ hn hI hl rfl rfl)
  | ixor =>
    have hok : pv_nx rows k pc len 1 = true := hok
    obtain ⟨rfl, hn⟩ := pv_nx_inv hok
    obtain ⟨x, y, r, rfl, rfl⟩ := pv_i2_inv hx
    exact lv_ixor hex hb hd (kk H locs ls cells slots _ hn hI hl rfl rfl)
  | ishl =>
    have hok : pv_nx rows k pc len 1 = true := hok
    obtain ⟨rfl, hn⟩ := pv_nx_inv hok
    obtain ⟨x, y, r, rfl, rfl⟩ := pv_i2_inv hx
    exact lv_ishl hex hb hd (kk H locs ls cells slots _ hn hI hl rfl rfl)
  | ishr =>
    have hok : pv_nx rows k pc len 1 = true := hok
    obtain ⟨rfl, hn⟩ := pv_nx_inv hok
    obtain ⟨x, y, r, rfl, rfl⟩ := pv_i2_inv hx
    exact lv_ishr hex hb hd (kk H locs ls cells slots _ hn hI hl rfl rfl)
  | iushr =>
    have hok : pv_nx rows k pc len 1 = true := hok
    obtain ⟨rfl, hn⟩ := pv_nx_inv hok
    obtain ⟨x, y, r, rfl, rfl⟩ := pv_i2_inv hx
    exact lv_iushr hex hb hd rfl (kk H locs ls cells slots _ hn hI hl rfl rfl)
  | ladd =>
    have hok : pv_nx rows k pc len 1 = true := hok
    obtain ⟨rfl, hn⟩ := pv_nx_inv hok
    obtain ⟨x, y, r, rfl, rfl⟩ := pv_l2_inv hx
    exact lv_ladd hex hb hd (kk H locs ls cells slots _ hn hI hl rfl rfl)
  | lsub =>
    have hok : pv_nx rows k pc len 1 = true := hok
    obtain ⟨rfl, hn⟩ := pv_nx_inv hok
    obtain ⟨x, y, r, rfl, rfl⟩ := pv_l2_inv hx
    exact lv_lsub hex hb hd (kk H locs ls cells slots _ hn hI hl rfl rfl)
  | lmul =>
    have hok : pv_nx rows k pc len 1 = true := hok
    obtain ⟨rfl, hn⟩ := pv_nx_inv hok
    obtain ⟨x, y, r, rfl, rfl⟩ := pv_l2_inv hx
    exact lv_lmul hex hb hd (kk H locs ls cells slots _ hn hI hl rfl rfl)
  | land =>
    have hok : pv_nx rows k pc len 1 = true := hok
    obtain ⟨rfl, hn⟩ := pv_nx_inv hok
    obtain ⟨x, y, r, rfl, rfl⟩ := pv_l2_inv hx
    exact lv_land hex hb hd (kk H locs ls cells slots _ hn hI hl rfl rfl)
  | lor =>
    have hok : pv_nx rows k pc len 1 = true := hok
    obtain ⟨rfl, hn⟩ := pv_nx_inv hok
    obtain ⟨x, y, r, rfl, rfl⟩ := pv_l2_inv hx
    exact lv_lor hex hb hd (kk H locs ls cells slots _ hn hI hl rfl rfl)
  | lxor =>
    have hok : pv_nx rows k pc len 1 = true := hok
    obtain ⟨rfl, hn⟩ := pv_nx_inv hok
    obtain ⟨x, y, r, rfl, rfl⟩ := pv_l2_inv hx
    exact lv_lxor hex hb hd (kk H locs ls cells slots _ hn hI hl rfl rfl)
  | lshl =>
    have hok : pv_nx rows k pc len 1 = true := hok
    obtain ⟨rfl, hn⟩ := pv_nx_inv hok
    obtain ⟨x, y, r, rfl, rfl⟩ := pv_lsh_inv hx
    exact lv_lshl hex hb hd rfl (kk H locs ls cells slots _ hn hI hl rfl rfl)
  | lshr =>
    have hok : pv_nx rows k pc len 1 = true := hok
    obtain ⟨rfl, hn⟩ := pv_nx_inv hok
    obtain ⟨x, y, r, rfl, rfl⟩ := pv_lsh_inv hx
    exact lv_lshr hex hb hd rfl (kk H locs ls cells slots _ hn hI hl rfl rfl)
  | lushr =>
    have hok : pv_nx rows k pc len 1 = true := hok
    obtain ⟨rfl, hn⟩ := pv_nx_inv hok
    obtain ⟨x, y, r, rfl, rfl⟩ := pv_lsh_inv hx
    exact lv_lushr hex hb hd rfl (kk H locs ls cells slots _ hn hI hl rfl rfl)
  | idiv =>
    have hok : pv_nx rows k pc len 1 = true := hok
    obtain ⟨rfl, hn⟩ := pv_nx_inv hok
    simp only [pv_x] at hx
    split at hx
    · next y x r =>
      by_cases hy : y = 0
      · rw [if_pos hy] at hx; cases hx
      · rw [if_neg hy] at hx; cases hx
        exact lv_idiv hex hb hd hy (kk H locs ls cells slots _ hn hI hl rfl rfl)
    · cases hx
  | irem =>
    have hok : pv_nx rows k pc len 1 = true := hok
    obtain ⟨rfl, hn⟩ := pv_nx_inv hok
    simp only [pv_x] at hx
    split at hx
    · next y x r =>
      by_cases hy : y = 0
      · rw [if_pos hy] at hx; cases hx
      · rw [if_neg hy] at hx; cases hx
        exact lv_irem hex hb hd hy (kk H locs ls cells slots _ hn hI hl rfl rfl)
    · cases hx
  | ldiv =>
    have hok : pv_nx rows k pc len 1 = true := hok
    obtain ⟨rfl, hn⟩ := pv_nx_inv hok
    simp only [pv_x] at hx
    split at hx
    · next y x r =>
      by_cases hy : y = 0
      · rw [if_pos hy] at hx; cases hx
      · rw [if_neg hy] at hx; cases hx
        exact lv_ldiv hex hb hd hy (kk H locs ls cells slots _ hn hI hl rfl rfl)
    · cases hx
  | lrem =>
    have hok : pv_nx rows k pc len 1 = true := hok
    obtain ⟨rfl, hn⟩ := pv_nx_inv hok
    simp only [pv_x] at hx
    split at hx
    · next y x r =>
      by_cases hy : y = 0
      · rw [if_pos hy] at hx; cases hx
      · rw [if_neg hy] at hx; cases hx
        exact lv_lrem hex hb hd hy (kk H locs ls cells slots _ hn hI hl rfl rfl)
    · cases hx
  | ineg =>
    have hok : pv_nx rows k pc len 1 = true := hok
    obtain ⟨rfl, hn⟩ := pv_nx_inv hok
    simp only [pv_x] at hx
    split at hx
    · next x r =>
      cases hx
      exact lv_ineg hex hb hd (kk H locs ls cells slots _ hn hI hl rfl rfl)
    · cases hx
  | i2l =>
    have hok : pv_nx rows k pc len 1 = true := hok
    obtain ⟨rfl, hn⟩ := pv_nx_inv hok
    simp only [pv_x] at hx
    split at hx
    · next x r =>
      cases hx
      exact lv_i2l hex hb hd rfl (kk H locs ls cells slots _ hn hI hl rfl rfl)
    · cases hx
  | l2i =>
    have hok : pv_nx rows k pc len 1 = true := hok
    obtain ⟨rfl, hn⟩ := pv_nx_inv hok
    simp only [pv_x] at hx
    split at hx
    · next x r =>
      cases hx
      exact lv_l2i hex hb hd rfl (kk H locs ls cells slots _ hn hI hl rfl rfl)
    · cases hx
  | i2b =>
    have hok : pv_nx rows k pc len 1 = true := hok
    obtain ⟨rfl, hn⟩ := pv_nx_inv hok
    simp only [pv_x] at hx
    split at hx
    · next x r =>
      cases hx
      exact lv_i2b hex hb hd rfl (kk H locs ls cells slots _ hn hI hl rfl rfl)
    · cases hx
  | i2c =>
    have hok : pv_nx rows k pc len 1 = true := hok
    obtain ⟨rfl, hn⟩ := pv_nx_inv hok
    simp only [pv_x] at hx
    split at hx
    · next x r =>
      cases hx
      exact lv_i2c hex hb hd rfl (kk H locs ls cells slots _ hn hI hl rfl rfl)
    · cases hx
  | lcmp =>
    have hok : pv_nx rows k pc len 1 = true := hok
    obtain ⟨rfl, hn⟩ := pv_nx_inv hok
    simp only [pv_x] at hx
    split at hx
    · next y x r =>
      cases hx
      exact W.lcmp hex hb hd (kk H locs ls cells slots _ hn hI hl rfl rfl)
    · cases hx
  | dup =>
    have hok : pv_nx rows k pc len 1 = true := hok
    obtain ⟨rfl, hn⟩ := pv_nx_inv hok
    simp only [pv_x] at hx
    split at hx
    · next v r =>
      by_cases hv : v.category = 1
      · rw [if_pos hv] at hx; cases hx
        exact lv_dup hex hb hd ((pv_v_cat B v).trans hv) (kk H locs ls cells slots _ hn hI hl rfl rfl)
      · rw [if_neg hv] at hx; cases hx
    · cases hx
  | pop =>
    have hok : pv_nx rows k pc len 1 = true := hok
    obtain ⟨rfl, hn⟩ := pv_nx_inv hok
    simp only [pv_x] at hx
    split at hx
    · next v r =>
      by_cases hv : v.category = 1
      · rw [if_pos hv] at hx; cases hx
        exact lv_pop hex hb hd ((pv_v_cat B v).trans hv) (kk H locs ls cells slots _ hn hI hl rfl rfl)
      · rw [if_neg hv] at hx; cases hx
    · cases hx
  | dup2 =>
    have hok : pv_nx rows k pc len 1 = true := hok
    obtain ⟨rfl, hn⟩ := pv_nx_inv hok
    simp only [pv_x] at hx
    split at hx
    · next v w r =>
      by_cases hv : v.category = 1 ∧ w.category = 1
      · rw [if_pos hv] at hx; cases hx
        exact lv_dup2_11 hex hb hd ((pv_v_cat B v).trans hv.1) ((pv_v_cat B w).trans hv.2) (kk H locs ls cells slots _ hn hI hl rfl rfl)
      · rw [if_neg hv] at hx; cases hx
    · cases hx
  | goto off =>
    simp only [pv_x] at hx
    split at hx
    · next t =>
      cases hx
      have hok : (len == 3 && pv_jp rows pc off t) = true := hok
      simp only [Bool.and_eq_true, beq_iff_eq] at hok
      obtain ⟨rfl, hj⟩ := hok
      exact lv_goto hex hb hd (pv_jp_inv hj) (kk H locs ls cells slots _ rfl hI hl rfl rfl)
    · cases hx
  | ifCond cd off =>
    exact pv_stepB1 S hI hl hd hok hx kk
  | if_icmp cd off =>
    exact pv_stepB2 S hI hl hd hok hx kk
  | getfield idx =>
    exact pv_stepGet hLK ho S hI hl hd hok hx kk
  | putfield idx =>
    exact pv_stepPut hLK ho S hI hl hd hok hx kk
  | tableswitch d lo9 hi9 offs =>
    simp only [pv_x] at hx
    split at hx
    · next t ts x r =>
      have hok : (pv_jp rows pc d t && decide (ts.length = offs.size) && (offs.toList.zip ts).all (fun q => pv_jp rows pc q.1 q.2)) = true := hok
      simp only [Bool.and_eq_true, decide_eq_true_eq] at hok
      obtain ⟨⟨hj, hsz⟩, hal⟩ := hok
      by_cases hr9 : x.toInt < lo9 ∨ hi9 < x.toInt
      · rw [if_pos hr9] at hx; cases hx
        exact lv_tableOut hex hb hd hr9 (pv_jp_inv hj) (kk H locs ls cells slots _ rfl hI hl rfl rfl)
      · rw [if_neg hr9] at hx
        split at hx
        · next t1 ht1 =>
          cases hx
          have hlt : (x.toInt - lo9).toNat < ts.length := (List.getElem?_eq_some_iff.mp ht1).1
          have hlt2 : (x.toInt - lo9).toNat < offs.size := by omega
          have hmem : (offs[(x.toInt - lo9).toNat], t1) ∈ offs.toList.zip ts := by
            apply List.mem_of_getElem? (i := (x.toInt - lo9).toNat)
            rw [List.getElem?_zip_eq_some]
            exact ⟨by simp [hlt2], ht1⟩
          have hj1 := pv_jp_inv (List.all_eq_true.mp hal _ hmem)
          exact lv_tableIn hex hb hd (fun q => hr9 (Or.inl q)) (fun q => hr9 (Or.inr q)) (by simp [hlt2]) hj1 (kk H locs ls cells slots _ rfl hI hl rfl rfl)
        · cases hx
    · cases hx
  | iaload =>
    have hok : pv_nx rows k pc len 1 = true := hok
    obtain ⟨rfl, hn⟩ := pv_nx_inv hok
    obtain ⟨i, a, r, n, f, rfl, ha, hin, rfl⟩ := pv_ald_inv hx
    exact va_iald hex hb hK.1 hP a 0 (pv_w_get ha) rfl hin hd (kk H locs ls cells slots _ hn hI hl rfl rfl)
  | baload =>
    have hok : pv_nx rows k pc len 1 = true := hok
    obtain ⟨rfl, hn⟩ := pv_nx_inv hok
    simp only [pv_x] at hx
    split at hx
    · next t =>
      by_cases ht : t = 1 ∨ t = 2
      · rw [if_pos ht] at hx
        obtain ⟨i, a, r, n, f, rfl, ha, hin, rfl⟩ := pv_ald_inv hx
        rcases ht with rfl | rfl
        · exact va_zald hex hb hK.1 hP a 1 (pv_w_get ha) rfl hin hd (kk H locs ls cells slots _ hn hI hl rfl rfl)
        · exact va_bald hex hb hK.1 hP a 2 (pv_w_get ha) rfl hin hd (kk H locs ls cells slots _ hn hI hl rfl rfl)
      · rw [if_neg ht] at hx; cases hx
    · cases hx
  | iastore =>
    have hok : pv_nx rows k pc len 1 = true := hok
    obtain ⟨rfl, hn⟩ := pv_nx_inv hok
    exact pv_stepAst (i9 := .iastore) 0 (fun x => x) hI hl hn hx (fun x i a r n f ha hin k9 => va_iast hex hb hK.1 hP (pv_D cA B h hAk) hS a 0 ha rfl hin hd k9) kk
  | bastore =>
    have hok : pv_nx rows k pc len 1 = true := hok
    obtain ⟨rfl, hn⟩ := pv_nx_inv hok
    simp only [pv_x] at hx
    split at hx
    · exact pv_stepAst (i9 := .bastore) 1 (vp_nar .boolean) hI hl hn hx (fun x i a r n f ha hin k9 => va_zast hex hb hK.1 hP (pv_D cA B h hAk) hS a 1 ha rfl hin hd k9) kk
    · exact pv_stepAst (i9 := .bastore) 2 (vp_nar .byte) hI hl hn hx (fun x i a r n f ha hin k9 => va_bast hex hb hK.1 hP (pv_D cA B h hAk) hS a 2 ha rfl hin hd k9) kk
    · cases hx
  | laload =>
    have hok : pv_nx rows k pc len 1 = true := hok
    obtain ⟨rfl, hn⟩ := pv_nx_inv hok
    simp only [pv_x] at hx
    split at hx
    · next i a r =>
      split at hx
      · next t9 n f ha =>
        by_cases ht : t9 = 3
        · rw [if_pos ht] at hx
          subst ht
          by_cases hi : i < 0 ∨ n ≤ i.toNatClampNeg
          · rw [if_pos hi] at hx; cases hx
          · rw [if_neg hi] at hx; cases hx
            exact va_lald hex hb hK.1 hP a 3 (pv_w_get ha) rfl hi hd (kk H locs ls cells slots _ hn hI hl rfl rfl)
        · rw [if_neg ht] at hx; cases hx
      · cases hx
    · cases hx
  | lastore =>
    have hok : pv_nx rows k pc len 1 = true := hok
    obtain ⟨rfl, hn⟩ := pv_nx_inv hok
    simp only [pv_x] at hx
    split at hx
    · next x i a r =>
      split at hx
      · next t9 n f ha =>
        by_cases ht : t9 = 3
        · rw [if_pos ht] at hx
          subst ht
          by_cases hi : i < 0 ∨ n ≤ i.toNatClampNeg
          · rw [if_pos hi] at hx; cases hx
          · rw [if_neg hi] at hx; cases hx
            refine va_last hex hb hK.1 hP (pv_D cA B h hAk) hS a 3 (pv_w_get ha) rfl hi hd (fun H1 locs1 hP1 _ hS1 => ?_)
            have hset : (pv_w cA B h).set a (B + a, .inl (cA 3, n, .inr (.inl (vp_updL f i.toNatClampNeg x)))) = pv_w cA B (h.set a (.inl (3, n, .inr (.inl (vp_updL f i.toNatClampNeg x))))) := by
              rw [pv_w_set]; rfl
            rw [hset] at hP1
            exact kk H1 locs1 ls cells slots _ hn ⟨hP1, hS1, fun k9 h9 => hAk k9 (by simpa using h9)⟩ hl (by simp) (by rw [pv_sl_set ha (by rfl)])
        · rw [if_neg ht] at hx; cases hx
      · cases hx
    · cases hx
  | arraylength =>
    have hok : pv_nx rows k pc len 1 = true := hok
    obtain ⟨rfl, hn⟩ := pv_nx_inv hok
    simp only [pv_x] at hx
    split at hx
    · next a r =>
      split at hx
      · next t9 n f ha =>
        by_cases ht : t9 < 4
        · rw [if_pos ht] at hx; cases hx
          have h4 : ∃ ty, (pv_ty cA)[t9]? = some (cA t9, ty) := by
            match t9, ht with
            | 0, _ => exact ⟨_, rfl⟩
            | 1, _ => exact ⟨_, rfl⟩
            | 2, _ => exact ⟨_, rfl⟩
            | 3, _ => exact ⟨_, rfl⟩
          obtain ⟨ty, hty⟩ := h4
          exact va_alen hex hb hK.1 hP a t9 (x := (n, f)) (pv_w_get ha) hty rfl hd (kk H locs ls cells slots _ hn hI hl rfl rfl)
        · rw [if_neg ht] at hx; cases hx
      · cases hx
    · cases hx
  | newarray ty9 =>
    have hok : pv_nx rows k pc len 2 = true := hok
    obtain ⟨rfl, hn⟩ := pv_nx_inv hok
    simp only [pv_x] at hx
    split at hx
    · next n r =>
      by_cases hcn : n < 0 ∨ 100000 < n.toNatClampNeg
      · rw [if_pos hcn] at hx; cases hx
      · rw [if_neg hcn] at hx; cases hx
        exact pv_newa 0 .int .int (fun N => (N, .inl (fun _ => 0))) S hI hl rfl (fun C q => by cases q) rfl pv_arr.1 (fun N cX => rfl) (fun N => rfl) (by decide) hd hn hcn (hB (by simp)) hc hs kk
    · next n r =>
      by_cases hcn : n < 0 ∨ 100000 < n.toNatClampNeg
      · rw [if_pos hcn] at hx; cases hx
      · rw [if_neg hcn] at hx; cases hx
        exact pv_newa 1 .boolean .boolean (fun N => (N, .inl (fun _ => 0))) S hI hl rfl (fun C q => by cases q) rfl pv_arr.2.1 (fun N cX => rfl) (fun N => rfl) (by decide) hd hn hcn (hB (by simp)) hc hs kk
    · next n r =>
      by_cases hcn : n < 0 ∨ 100000 < n.toNatClampNeg
      · rw [if_pos hcn] at hx; cases hx
      · rw [if_neg hcn] at hx; cases hx
        exact pv_newa 2 .byte .byte (fun N => (N, .inl (fun _ => 0))) S hI hl rfl (fun C q => by cases q) rfl pv_arr.2.2.1 (fun N cX => rfl) (fun N => rfl) (by decide) hd hn hcn (hB (by simp)) hc hs kk
    · next n r =>
      by_cases hcn : n < 0 ∨ 100000 < n.toNatClampNeg
      · rw [if_pos hcn] at hx; cases hx
      · rw [if_neg hcn] at hx; cases hx
        exact pv_newa 3 .long .long (fun N => (N, .inr (.inl (fun _ => 0)))) S hI hl rfl (fun C q => by cases q) rfl pv_arr.2.2.2 (fun N cX => rfl) (fun N => rfl) (by decide) hd hn hcn (hB (by simp)) hc hs kk
    · cases hx
  | new idx =>
    simp only [pv_x] at hx
    split at hx
    · next ci =>
      cases hx
      simp only [pv_okx] at hok
      split at hok
      · next ci2 p0 e1 =>
        cases e1
        simp only [Bool.and_eq_true] at hok
        obtain ⟨rfl, hn⟩ := pv_nx_inv hok.1
        replace hok := hok.2
        split at hok
        · next q hq =>
          obtain ⟨w1, w2, w3⟩ : Cond.classLink own idx q.1 ∈ pv_T ∧ Cond.instantiable q.1 q.2.2 ∈ pv_T ∧ Cond.initialized q.1 ∈ pv_T := hLK.1 _ (pv_lk_inv hok) own q ho hq
          exact pv_new S hI hl hq hd hn w1 w2 w3 (hB (by simp)) hc hs kk
        · cases hok
      · cases hok
    · cases hx
  | invokespecial idx =>
    simp only [pv_x] at hx
    split at hx
    · next a r =>
      by_cases hr9 : pv_cat r ≤ 8
      · rw [if_pos hr9] at hx; cases hx
        simp only [pv_okx] at hok
        split at hok
        · next p0 e1 =>
          simp only [Bool.and_eq_true] at hok
          obtain ⟨hnx, hlk⟩ := hok
          obtain ⟨rfl, hn⟩ := pv_nx_inv hnx
          obtain ⟨w1, w2, w3⟩ : Cond.methodLink own idx Lib.objectInit ∈ pv_T ∧ Cond.instanceMethod Lib.objectInit ∈ pv_T ∧ Cond.code Lib.objectInit ⟨#[0xb1]⟩ 1 none ∈ pv_T := hLK.1 _ (pv_lk_inv hlk) own ho
          refine W.objInit hex hb hown (hts _ w1) (hts _ w2) (hts _ w3) rfl (by rw [hml]; exact hl.1) rfl hd hfr ?_ ?_
          · show 2 * 0 + (((r.map (pv_v B)).map fun v => v.category)).sum + 12 ≤ R.locals
            rw [pv_cat_map]; omega
          · exact W.eq (g2 := F0 m (pc + 3) ls (r.map (pv_v B))) rfl (kk H locs ls cells slots _ hn hI hl rfl rfl)
        · cases hok
      · rw [if_neg hr9] at hx; cases hx
    · cases hx
  | invokestatic idx =>
    simp only [pv_x] at hx
    split at hx
    · next y x r =>
      by_cases hr9 : pv_cat r ≤ 8
      · rw [if_pos hr9] at hx; cases hx
        rcases ps with _ | ⟨p0, _ | ⟨p1, pr9⟩⟩ <;> try (cases hok; done)
        have hok : (pv_nx rows k pc len 3 && pv_lk LK p0 [6, o, idx, 0]) = true := hok
        dsimp only at hc hs
        simp only [Bool.and_eq_true] at hok
        obtain ⟨hnx, hlk⟩ := hok
        obtain ⟨rfl, hn⟩ := pv_nx_inv hnx
        obtain ⟨w1, w2, w3, w4⟩ : Cond.methodLink own idx Lib.Math.max.name ∈ pv_T ∧ Cond.static Lib.Math.max.name ∈ pv_T ∧ Cond.initialized "java/lang/Math" ∈ pv_T ∧ Cond.code Lib.Math.max.name Lib.Math.max.code 2 (some .int) ∈ pv_T := hLK.1 _ (pv_lk_inv hlk) own ho
        exact va_mmax hex hb (by rw [hml]; exact hl.1.symm) hown (hts _ w1) (hts _ w2) (hts _ w3) (hts _ w4) hfr (by rw [pv_cat_map]; omega) (by omega) (by omega) hd (kk H locs ls cells slots _ hn hI hl rfl rfl)
      · rw [if_neg hr9] at hx; cases hx
    · next y x r =>
      by_cases hr9 : pv_cat r ≤ 8
      · rw [if_pos hr9] at hx; cases hx
        rcases ps with _ | ⟨p0, _ | ⟨p1, pr9⟩⟩ <;> try (cases hok; done)
        have hok : (pv_nx rows k pc len 3 && pv_lk LK p0 [6, o, idx, 1]) = true := hok
        dsimp only at hc hs
        simp only [Bool.and_eq_true] at hok
        obtain ⟨hnx, hlk⟩ := hok
        obtain ⟨rfl, hn⟩ := pv_nx_inv hnx
        obtain ⟨w1, w2, w3, w4⟩ : Cond.methodLink own idx Lib.Math.min.name ∈ pv_T ∧ Cond.static Lib.Math.min.name ∈ pv_T ∧ Cond.initialized "java/lang/Math" ∈ pv_T ∧ Cond.code Lib.Math.min.name Lib.Math.min.code 2 (some .int) ∈ pv_T := hLK.1 _ (pv_lk_inv hlk) own ho
        exact va_mmin hex hb (by rw [hml]; exact hl.1.symm) hown (hts _ w1) (hts _ w2) (hts _ w3) (hts _ w4) hfr (by rw [pv_cat_map]; omega) (by omega) (by omega) hd (kk H locs ls cells slots _ hn hI hl rfl rfl)
      · rw [if_neg hr9] at hx; cases hx
    · next x r =>
      by_cases hr9 : pv_cat r ≤ 8
      · rw [if_pos hr9] at hx; cases hx
        rcases ps with _ | ⟨p0, _ | ⟨p1, pr9⟩⟩ <;> try (cases hok; done)
        have hok : (pv_nx rows k pc len 3 && pv_lk LK p0 [6, o, idx, 2]) = true := hok
        dsimp only at hc hs
        simp only [Bool.and_eq_true] at hok
        obtain ⟨hnx, hlk⟩ := hok
        obtain ⟨rfl, hn⟩ := pv_nx_inv hnx
        obtain ⟨w1, w2, w3, w4⟩ : Cond.methodLink own idx Lib.Math.abs.name ∈ pv_T ∧ Cond.static Lib.Math.abs.name ∈ pv_T ∧ Cond.initialized "java/lang/Math" ∈ pv_T ∧ Cond.code Lib.Math.abs.name Lib.Math.abs.code 1 (some .int) ∈ pv_T := hLK.1 _ (pv_lk_inv hlk) own ho
        exact va_mabs hex hb (by rw [hml]; exact hl.1.symm) hown (hts _ w1) (hts _ w2) (hts _ w3) (hts _ w4) hfr (by rw [pv_cat_map]; omega) (by omega) (by omega) hd (kk H locs ls cells slots _ hn hI hl rfl rfl)
      · rw [if_neg hr9] at hx; cases hx
    · next n dp a sp a0 r =>
      split at hx
      · next t0 n0 f t1 n1 g ha0 ha1 =>
        split at hx
        · next hq =>
          obtain ⟨rfl, rfl, hr9, h1, h2, h3, h4, h5⟩ := hq
          cases hx
          rcases ps with _ | ⟨p0, _ | ⟨p1, pr9⟩⟩ <;> try (cases hok; done)
          have hok : (pv_nx rows k pc len 3 && pv_lk LK p0 [6, o, idx, 3]) = true := hok
          simp only [Bool.and_eq_true] at hok
          obtain ⟨hnx, hlk⟩ := hok
          obtain ⟨rfl, hn⟩ := pv_nx_inv hnx
          obtain ⟨w1, w2, w3, w4⟩ : Cond.methodLink own idx arraycopyName ∈ pv_T ∧ Cond.static arraycopyName ∈ pv_T ∧ Cond.initialized "java/lang/System" ∈ pv_T ∧ Cond.native arraycopyName ∈ pv_T := hLK.1 _ (pv_lk_inv hlk) own ho
          refine va_copyi (ty := .int) hex hb (by rw [hml]; exact hl.1.symm) hown (hts _ w1) (hts _ w4) (hts _ w2) (hts _ w3) hK.1 hP (pv_D cA B h hAk) hS a0 a 0 0 (pv_w_get ha0) (pv_w_get ha1) rfl rfl rfl h1 h2 h3 h4 h5 (fun _ _ => rfl) hfr ?_ hd (fun H1 locs1 hP1 _ hS1 => ?_)
          · rw [pv_cat_map]
            have : nativeFrameWords "java/lang/System" "arraycopy" 5 ≤ 30 := by decide +kernel
            omega
          · have hset : (pv_w cA B h).set a (B + a, .inl (cA 0, n1, .inl (va_cpy f g sp.toNatClampNeg dp.toNatClampNeg n.toNatClampNeg))) = pv_w cA B (h.set a (.inl (0, n1, .inl (va_cpy f g sp.toNatClampNeg dp.toNatClampNeg n.toNatClampNeg)))) := by
              rw [pv_w_set]; rfl
            rw [hset] at hP1
            exact kk H1 locs1 ls cells slots _ hn ⟨hP1, hS1, fun k9 h9 => hAk k9 (by simpa using h9)⟩ hl (by simp) (by rw [pv_sl_set ha1 (by rfl)])
        · cases hx
      · cases hx
    · cases hx
  | _ =>
    cases hx
end PVU
end
section
theorem pv_okM_row {LK : List (List Nat)} {M : pv_M} (h : pv_okM LK M = true) : ∃ o, pv_cn[o]? = some M.1.cls ∧ ∀ (k : Nat) (r : pv_R), M.2.2.2.2[k]? = some r → r.2.1 = .nop ∨ pv_okR LK M o k r = true := by
  simp only [pv_okM, Bool.and_eq_true] at h
  obtain ⟨o, -, ho⟩ := List.any_eq_true.mp h.2
  simp only [Bool.and_eq_true, decide_eq_true_eq] at ho
  refine ⟨o, ho.1, fun k r hk => ?_⟩
  have h1 := List.all_eq_true.mp ho.2 k (List.mem_range.mpr (List.getElem?_eq_some_iff.mp hk).1)
  rw [hk] at h1
  simpa using h1
theorem pv_ret_is {i : Instr} {xs : List Nat} {st : List Value} {v : Option Value} (h : pv_ret i xs st = some v) : pv_isR i = true := by
  unfold pv_ret at h
  split at h <;> first | rfl | cases h
theorem pv_inv_is {i : Instr} {xs : List Nat} {st : List Value} {h : pv_H} {v : Nat × List Value × List Value} (hx : pv_inv i xs st h = some v) : pv_isR i = false ∧ pv_isC i xs = true := by
  unfold pv_inv at hx
  split at hx <;> first | exact ⟨rfl, rfl⟩ | cases hx
theorem pv_x_is {i : Instr} {xs : List Nat} {k : Nat} {lo : pv_L} {st : List Value} {h : pv_H} {c' : pv_C} (hx : pv_x i xs k lo st h = some c') : pv_isR i = false ∧ pv_isC i xs = false := by
  cases i with
  | invokestatic idx =>
    simp only [pv_x] at hx
    split at hx <;> first | exact ⟨rfl, rfl⟩ | cases hx
  | invokespecial idx =>
    simp only [pv_x] at hx
    split at hx <;> first | exact ⟨rfl, rfl⟩ | cases hx
  | invokevirtual idx => cases hx
  | ireturn => cases hx
  | lreturn => cases hx
  | return_ => cases hx
  | _ => exact ⟨rfl, rfl⟩
set_option maxHeartbeats 8000000 in
theorem pv_x_len {i : Instr} {xs : List Nat} {k : Nat} {lo : pv_L} {st : List Value} {h : pv_H} {c' : pv_C} (hx : pv_x i xs k lo st h = some c') : h.length ≤ c'.2.2.2.length ∧ pv_sl h ≤ pv_sl c'.2.2.2 := by
  have same : ∀ {k' : Nat} {l' : pv_L} {s' : List Value}, c' = (k', l', s', h) → h.length ≤ c'.2.2.2.length ∧ pv_sl h ≤ pv_sl c'.2.2.2 := by
    intro k' l' s' e; subst e; exact ⟨Nat.le_refl _, Nat.le_refl _⟩
  have put : ∀ {k' : Nat} {l' : pv_L} {s' : List Value} {a : Nat} {e1 e2 : va_E}, h[a]? = some e1 → pv_ce e2 = pv_ce e1 → c' = (k', l', s', h.set a e2) → h.length ≤ c'.2.2.2.length ∧ pv_sl h ≤ pv_sl c'.2.2.2 := by
    intro k' l' s' a e1 e2 h1 h2 e; subst e; exact ⟨by simp, by rw [pv_sl_set h1 h2]; exact Nat.le_refl _⟩
  have app : ∀ {k' : Nat} {l' : pv_L} {s' : List Value} {e2 : va_E}, c' = (k', l', s', h ++ [e2]) → h.length ≤ c'.2.2.2.length ∧ pv_sl h ≤ pv_sl c'.2.2.2 := by
    intro k' l' s' e2 e; subst e; exact ⟨by simp, by rw [pv_sl_app]; omega⟩
  cases i with
  | iload i => obtain ⟨_, _, e⟩ := pv_lod0 hx; exact same e
  | iload_n i => obtain ⟨_, _, e⟩ := pv_lod0 hx; exact same e
  | lload i => obtain ⟨_, _, e⟩ := pv_lod1 hx; exact same e
  | lload_n i => obtain ⟨_, _, e⟩ := pv_lod1 hx; exact same e
  | aload i => obtain ⟨_, _, e⟩ := pv_lod2 hx; exact same e
  | aload_n i => obtain ⟨_, _, e⟩ := pv_lod2 hx; exact same e
  | istore i => obtain ⟨_, _, _, e⟩ := pv_sto0 hx; exact same e
  | istore_n i => obtain ⟨_, _, _, e⟩ := pv_sto0 hx; exact same e
  | lstore i => obtain ⟨_, _, _, e⟩ := pv_sto1 hx; exact same e
  | lstore_n i => obtain ⟨_, _, _, e⟩ := pv_sto1 hx; exact same e
  | astore i => obtain ⟨_, _, _, e⟩ := pv_sto2 hx; exact same e
  | astore_n i => obtain ⟨_, _, _, e⟩ := pv_sto2 hx; exact same e
  | ifCond cd off =>
    obtain ⟨t, x, r, _, _, e⟩ := pv_b1_inv hx
    split at e <;> exact same e
  | if_icmp cd off =>
    obtain ⟨t, x, y, r, _, _, e⟩ := pv_b2_inv hx
    split at e <;> exact same e
  | iaload => obtain ⟨_, _, _, _, _, _, _, _, e⟩ := pv_ald_inv hx; exact same e
  | iastore => obtain ⟨_, _, _, _, _, _, _, ha, _, e⟩ := pv_ast_inv hx; exact put ha (by rfl) e
  | baload =>
    simp only [pv_x] at hx
    split at hx
    · split at hx
      · obtain ⟨_, _, _, _, _, _, _, _, e⟩ := pv_ald_inv hx; exact same e
      · cases hx
    · cases hx
  | bastore =>
    simp only [pv_x] at hx
    split at hx
    · obtain ⟨_, _, _, _, _, _, _, ha, _, e⟩ := pv_ast_inv hx; exact put ha (by rfl) e
    · obtain ⟨_, _, _, _, _, _, _, ha, _, e⟩ := pv_ast_inv hx; exact put ha (by rfl) e
    · cases hx
  | _ =>
    simp only [pv_x, pv_i2, pv_l2, pv_lsh] at hx
    repeat' split at hx
    all_goals first
      | (cases hx; done)
      | (cases hx; exact same rfl)
      | (cases hx; exact app rfl)
      | (cases hx; exact put (by assumption) (by first | rfl | simp [pv_ce]) rfl)
theorem pv_go_len {call : Nat → List Value → pv_H → Option (Option Value × pv_H)} (hcall : ∀ j as h v h', call j as h = some (v, h') → h.length ≤ h'.length ∧ pv_sl h ≤ pv_sl h') {rows : List pv_R} : ∀ (f k : Nat) (lo : pv_L) (st : List Value) (h : pv_H) (v : Option Value) (h' : pv_H), pv_go call rows f k lo st h = some (v, h') → h.length ≤ h'.length ∧ pv_sl h ≤ pv_sl h' := by
  intro f
  induction f with
  | zero => intro k lo st h v h' hx; cases hx
  | succ f ih =>
    intro k lo st h v h' hx
    simp only [pv_go] at hx
    split at hx
    · cases hx
    · split at hx
      · cases hx; exact ⟨Nat.le_refl _, Nat.le_refl _⟩
      · split at hx
        · split at hx
          · next v1 h1 hc =>
            have a1 := hcall _ _ _ _ _ hc
            have a2 := ih _ _ _ _ _ _ hx
            exact ⟨Nat.le_trans a1.1 a2.1, Nat.le_trans a1.2 a2.2⟩
          · cases hx
        · split at hx
          · next hc =>
            have a1 := pv_x_len hc
            have a2 := ih _ _ _ _ _ _ hx
            exact ⟨Nat.le_trans a1.1 a2.1, Nat.le_trans a1.2 a2.2⟩
          · cases hx
theorem pv_run_len {pr : List pv_M} {F : Nat} : ∀ (d j : Nat) (as : List Value) (h : pv_H) (v : Option Value) (h' : pv_H), pv_run pr F d j as h = some (v, h') → h.length ≤ h'.length ∧ pv_sl h ≤ pv_sl h' := by
  intro d
  induction d with
  | zero => intro j as h v h' hx; cases hx
  | succ d ih =>
    intro j as h v h' hx
    simp only [pv_run] at hx
    split at hx
    · split at hx
      · exact pv_go_len ih _ _ _ _ _ _ _ hx
      · cases hx
    · cases hx
end
section
/-! WHAT THE PURE MACHINE ANSWERS, THE MACHINE ANSWERS -/
def pv_A (B n z : Nat) : Nat → Prop := fun q => (B ≤ q ∧ q < B + n) ∨ z ≤ q
def pv_Qc (D : va_G) (cA : Nat → ClassId) (B : Nat) (A : Nat → Prop) (v : Option Value) (h' : pv_H) : Array Value → State → Outcome → State → Prop := fun _ st o t =>
  o = .returned (v.map (pv_v B)) ∧ pv_K D cA t ∧ va_P D vwCl (pv_w cA B h') t.heap ∧ va_F A st t
def pv_Pc (D : va_G) (cA : Nat → ClassId) (B sz : Nat) (as : List Value) (h : pv_H) : Array Value → State → Prop :=
  va_Pc (as.map (pv_v B)) (fun U => U.heap.size = sz ∧ pv_K D cA U ∧ va_P D vwCl (pv_w cA B h) U.heap)
def pv_rm (d : Nat) (h h' : pv_H) : Room := { frames := d, cells := h'.length - h.length, slots := pv_sl h' - pv_sl h, locals := 60 * d }
def pv_ws (M : pv_M) : List Cond := Cond.code M.1 M.2.1 M.2.2.1 M.2.2.2.1 :: pv_T
def pv_Met (l : Launch) (D : va_G) (cA : Nat → ClassId) (B sz : Nat) (pr : List pv_M) (d j : Nat) (as : List Value) (h : pv_H) (v : Option Value) (h' : pv_H) : Prop :=
  ∃ M, pr[j]? = some M ∧ Met l M.1 (pv_ws M) (pv_rm d h h') (pv_Pc D cA B sz as h) (pv_Qc D cA B (pv_A B h.length sz) v h') (h'.length - h.length) (pv_sl h' - pv_sl h) (pv_A B h.length sz)
theorem pv_blind (D : va_G) (cA : Nat → ClassId) (B sz : Nat) (as : List Value) (h : pv_H) : FrameBlind (pv_Pc D cA B sz as h) :=
  fun _ U g mk q => ⟨q.1, q.2.1, pv_K.same (s := U) rfl q.2.2.1, q.2.2.2⟩
theorem pv_goodT (M : pv_M) (hc : Cond.code M.1 M.2.1 M.2.2.1 M.2.2.2.1 ∈ pv_T) : GoodIn pv_T (pv_ws M) := by
  intro w hw
  rcases List.mem_cons.mp hw with rfl | hw
  · exact ⟨hc, good_of_word (List.mem_filter.mp hc).2⟩
  · exact ⟨hw, good_of_word (List.mem_filter.mp hw).2⟩
theorem pv_low {D : va_G} {cA : Nat → ClassId} {B : Nat} {A : Nat → Prop} {s : State} {h : pv_H} {H : Heap} {locs : List Loc} (hI : pv_I D cA B A s h H locs) (hBs : (∀ q, s.heap.size ≤ q → A q) ∧ ∀ q, A q → B ≤ q) : B + h.length ≤ H.size := by
  rcases Nat.eq_zero_or_pos h.length with h0 | h0
  · have := hBs.2 _ (hBs.1 _ hI.2.1.1)
    omega
  · have hk : h.length - 1 < h.length := by omega
    have h2 : (pv_w cA B h)[h.length - 1]? = some (B + (h.length - 1), pv_e cA B h[h.length - 1]) := pv_w_get (by simp [hk])
    have h4 : B + (h.length - 1) < H.size := (hI.1 _ _ h2).lt
    omega
section PVV
variable {p : Program} {l : Launch} {e : Env} {R : Room} {s : State} {m : MethodId} {args : Array Value} {below : List Frame} {meth : Method} {c : Code} {H : Heap} {locs : List Loc} {cells slots : Nat} {Q : State → Prop}
variable {D : va_G} {cA : Nat → ClassId} {B : Nat} {A A1 : Nat → Prop}
/-- behind a call -/
theorem pv_after {mc ms pc : Nat} {ls : Array Slot} {st0 rest : List Value} {v : Option Value} {h1 : pv_H} {a : Array Value} (hr : va_Run p l e R s m args below meth c H locs cells slots mc ms (F0 m pc ls st0) rest (pv_Qc D cA B A1 v h1 a) A1) (hS : va_S A s.heap H locs) (hAA : ∀ q, A1 q → A q) (hAk : ∀ k, k < h1.length → A (B + k))
    (kk : ∀ (H1 : Heap) (locs1 : List Loc), pv_I D cA B A s h1 H1 locs1 → W p l e R s m args below meth c H1 locs1 (cells + mc) (slots + ms) Q (F0 m (pc + 3) ls ((v.map (pv_v B)).toList ++ rest))) : W p l e R s m args below meth c H locs cells slots Q (F0 m pc ls st0) := by
  intro T hT X
  obtain ⟨v', st₀, t, T', L, h0, X', hL, e1, e2, ⟨hv, hKt, hPt, hz, hk⟩, st⟩ := hr T hT X
  cases hv
  rw [h0] at hz hk
  obtain ⟨t2, a1, b1⟩ := kk T'.heap (locs ++ L) ⟨by rw [e1]; exact hPt, ⟨Nat.le_trans hS.1 (by rw [e1]; exact hz), fun q h1 h2 => by
    rw [e1, hk q (Nat.lt_of_lt_of_le h1 hS.1) (fun z => h2 (hAA q z))]; exact hS.2.1 q h1 h2, fun q hq => by
      rcases List.mem_append.mp hq with h | h
      · exact hS.2.2 q h
      · exact hAA _ (hL q h)⟩, hAk⟩ T' rfl X'
  exact ⟨t2, st t2 a1, b1⟩
theorem pv_lsl (B : Nat) (vs : List Value) : (lg_sl (vs.map (pv_v B))).length = pv_cat vs := by
  induction vs with
  | nil => rfl
  | cons v vs ih =>
    simp only [lg_sl, pv_cat, List.map_cons, List.flatMap_cons, List.length_append, List.sum_cons] at ih ⊢
    rw [ih, pv_v_cat]
    rcases lv_cat v with h | h <;> simp [h]
theorem pv_okc_s {LK : List (List Nat)} {o idx j n : Nat} {ps : List Nat} (h : pv_okc LK o (.invokestatic idx) [j, n] ps = true) : [7, o, idx, j, n] ∈ LK := by
  rcases ps with _ | ⟨p0, _ | ⟨p1, pr9⟩⟩ <;> try (cases h; done)
  have h : pv_lk LK p0 [7, o, idx, j, n] = true := h
  exact pv_lk_inv h
theorem pv_okc_v {LK : List (List Nat)} {o idx j n ci : Nat} {ps : List Nat} (h : pv_okc LK o (.invokevirtual idx) [j, n, ci] ps = true) : [8, o, idx, j, n, ci] ∈ LK ∧ ci < 13 := by
  rcases ps with _ | ⟨p0, _ | ⟨p1, pr9⟩⟩ <;> try (cases h; done)
  have h : (pv_lk LK p0 [8, o, idx, j, n, ci] && decide (ci < 13)) = true := h
  simp only [Bool.and_eq_true, decide_eq_true_eq] at h
  exact ⟨pv_lk_inv h.1, h.2⟩
theorem pv_okc_i {LK : List (List Nat)} {o idx j n z : Nat} {ps : List Nat} (h : pv_okc LK o (.invokespecial idx) [j, n, z] ps = true) : [9, o, idx, j, n] ∈ LK := by
  rcases ps with _ | ⟨p0, _ | ⟨p1, pr9⟩⟩ <;> try (cases h; done)
  have h : pv_lk LK p0 [9, o, idx, j, n] = true := h
  exact pv_lk_inv h
set_option maxHeartbeats 8000000 in
/-- a call -/
theorem pv_call {rows : List pv_R} {own mn : String} {cc : ByteArray} {nL k pc len d j : Nat} {i : Instr} {xs ps : List Nat} {lo : pv_L} {st as rest : List Value} {h h1 : pv_H} {v : Option Value} {ls : Array Slot} {pr : List pv_M} {LK : List (List Nat)} {o : Nat} (hLK : pv_LKs pr LK) (ho : pv_cn[o]? = some own)
    (S : pv_St p s m args meth c R cc own mn nL D cA B A) (hI : pv_I D cA B A s h H locs) (hl : lv_has ls nL (pv_l B lo)) (hd : decode cc pc = .ok (i, 3)) (hok : pv_okc LK o i xs ps = true) (hx : pv_inv i xs st h = some (j, as, rest)) (hM : ∀ sz, B + h.length ≤ sz → (h.length < h1.length → sz = B + h.length) → pv_Met l D cA B sz pr d j as h v h1) (hlen1 : h.length ≤ h1.length) (hB : h.length < h1.length → s.heap.size + cells = B + h.length) (hRf : d + 1 ≤ R.frames) (hRl : 60 * (d + 1) ≤ R.locals) (hm30 : ∀ M, pr[j]? = some M → M.2.2.1 ≤ 30) (hRc : cells + (h1.length - h.length) ≤ R.cells) (hRs : slots + (pv_sl h1 - pv_sl h) ≤ R.slots)
    (kk : ∀ (H1 : Heap) (locs1 : List Loc), pv_I D cA B A s h1 H1 locs1 → W p l e R s m args below meth c H1 locs1 (cells + (h1.length - h.length)) (slots + (pv_sl h1 - pv_sl h)) Q (F0 m (pc + 3) ls ((v.toList ++ rest).map (pv_v B)))) : W p l e R s m args below meth c H locs cells slots Q (F0 m pc ls (st.map (pv_v B))) := by
  obtain ⟨hF, hmn, hK, hBs, hfr, hlo⟩ := id S
  obtain ⟨hex, hb, hml, hown, hts⟩ := id hF
  obtain ⟨hP, hS, hAk⟩ := id hI
  have kk2 : ∀ (H1 : Heap) (locs1 : List Loc), pv_I D cA B A s h1 H1 locs1 → W p l e R s m args below meth c H1 locs1 (cells + (h1.length - h.length)) (slots + (pv_sl h1 - pv_sl h)) Q (F0 m (pc + 3) ls ((v.map (pv_v B)).toList ++ rest.map (pv_v B))) := by
    intro H1 locs1 hI1
    have h9 := kk H1 locs1 hI1
    have e9 : (v.toList ++ rest).map (pv_v B) = (v.map (pv_v B)).toList ++ rest.map (pv_v B) := by cases v <;> simp
    rw [e9] at h9
    exact h9
  refine pv_bound (fun hz => ?_)
  have hlow := pv_low hI hBs
  have hsz : h.length < h1.length → H.size = B + h.length := fun q => by have := hB q; omega
  obtain ⟨M, hj, hMet⟩ := hM H.size hlow hsz
  have w5 := hm30 M hj
  obtain ⟨w3, w2⟩ := hLK.2 j M hj
  have hAA : ∀ q, pv_A B h.length H.size q → A q := by
    intro q hq
    rcases hq with ⟨q1, q2⟩ | q1
    · have h5 := hAk (q - B) (by omega)
      rw [show B + (q - B) = q by omega] at h5
      exact h5
    · exact hBs.1 _ (Nat.le_trans hS.1 q1)
  have hAk1 : ∀ k, k < h1.length → A (B + k) := by
    intro k9 h9
    rcases Nat.lt_or_ge k9 h.length with h5 | h5
    · exact hAk k9 h5
    · have := hsz (by omega)
      exact hBs.1 _ (by have := hS.1; omega)
  have hpre : ∀ U : State, U.heap = H → s.WarmedH U.vm → pv_Pc D cA B H.size as h (as.map (pv_v B)).toArray U := fun U hU hW => ⟨rfl, by rw [hU], pv_K.warm hW hK, by rw [hU]; exact hP⟩
  unfold pv_inv at hx
  split at hx
  · next idx j2 n =>
    split at hx
    · next hcn =>
      cases hx
      obtain ⟨w0, w1, w4⟩ : (Cond.methodLink own idx M.1 ∈ pv_T ∨ ∃ hst, Cond.methodLinkNest own idx M.1 hst ∈ pv_N) ∧ Cond.static M.1 ∈ pv_T ∧ pv_my M.1 n = true := hLK.1 _ (pv_okc_s hok) own M ho hj
      · skip
        have hG := pv_goodT M w3
        simp only [pv_my, decide_eq_true_eq] at w4
        have hn9 : ((st.take n).reverse.map (pv_v B)).length = n := by simp; omega
        have hst9 : st.map (pv_v B) = ((st.take n).reverse.map (pv_v B)).reverse ++ (st.drop n).map (pv_v B) := by
          rw [← List.map_reverse, List.reverse_reverse, ← List.map_append, List.take_append_drop]
        have hW9 : 2 * (F0 m pc ls (st.map (pv_v B))).monitorRoom + (((st.drop n).map (pv_v B)).map fun v => v.category).sum ≤ 8 := lv_room (by rw [pv_cat_map]; exact hcn.2)
        rcases w0 with hl9 | ⟨hst, hl9⟩
        · exact pv_after (va_runS (As := (st.take n).reverse.map (pv_v B)) (rest := (st.drop n).map (pv_v B)) hF hMet ⟨callB_of n hts hG rfl rfl rfl (hts _ w2) (hts _ hl9) w4 ⟨hRf, by show 8 + (M.2.2.1 + 11) + 60 * d ≤ R.locals; omega⟩, hts _ w1⟩ ⟨pv_blind D cA B _ _ h, hpre⟩ rfl hn9 hl.1 hst9 hW9 hd ⟨hRc, hRs⟩) hS hAA hAk1 kk2
        · exact pv_after (va_runSN (As := (st.take n).reverse.map (pv_v B)) (rest := (st.drop n).map (pv_v B)) hF hMet ⟨va_cnB n hts hG rfl rfl rfl (hK.2 _ hl9) (hts _ w2) w4 ⟨hRf, by show 8 + (M.2.2.1 + 11) + 60 * d ≤ R.locals; omega⟩, hts _ w1, trivial⟩ ⟨pv_blind D cA B _ _ h, hpre⟩ rfl hn9 hl.1 hst9 hW9 hd ⟨hRc, hRs⟩) hS hAA hAk1 kk2
    · cases hx
  · next idx j2 n ci =>
    split at hx
    · next b r hdrop =>
      split at hx
      · next ci2 fs hb9 =>
        split at hx
        · next hcn =>
          obtain ⟨rfl, hcat⟩ := hcn
          cases hx
          obtain ⟨hok8, hci⟩ := pv_okc_v hok
          obtain ⟨q, hq⟩ : ∃ q, vwCl[ci2]? = some q := ⟨_, List.getElem?_eq_getElem (by exact hci)⟩
          obtain ⟨w0, w1, w6, w4, w7⟩ : (Cond.methodLink own idx M.1 ∈ pv_T ∨ ∃ hst, Cond.methodLinkNest own idx M.1 hst ∈ pv_N) ∧ Cond.instanceMethod M.1 ∈ pv_T ∧ Cond.selects M.1.cls M.1 M.1 ∈ pv_T ∧ pv_my M.1 n = true ∧ q.1 = M.1.cls := hLK.1 _ hok8 own M q ho hj hq
          · · skip
              have hG := pv_goodT M w3
              simp only [pv_my, decide_eq_true_eq] at w4
              have hlen : n ≤ st.length := by
                rcases Nat.lt_or_ge st.length n with h5 | h5
                · rw [List.drop_eq_nil_of_le (by omega)] at hdrop; cases hdrop
                · exact h5
              have hn9 : ((st.take n).reverse.map (pv_v B)).length = n := by simp; omega
              have hst9 : st.map (pv_v B) = ((st.take n).reverse.map (pv_v B)).reverse ++ .ref (B + b) :: rest.map (pv_v B) := by
                have h5 : st = st.take n ++ (.ref b :: rest) := by rw [← hdrop, List.take_append_drop]
                rw [← List.map_reverse, List.reverse_reverse]
                conv => lhs; rw [h5]
                rw [List.map_append]
                rfl
              have hW9 : 2 * (F0 m pc ls (st.map (pv_v B))).monitorRoom + ((rest.map (pv_v B)).map fun v => v.category).sum ≤ 8 := lv_room (by rw [pv_cat_map]; exact hcat)
              have hrec := va_recv hK.1 hP hq (pv_w_get hb9)
              rw [w7] at hrec
              rcases w0 with hl9 | ⟨hst, hl9⟩
              · exact pv_after (va_runV (C := M.1.cls) (As := (st.take n).reverse.map (pv_v B)) (rest := rest.map (pv_v B)) hF hMet ⟨callB_of n hts hG rfl rfl rfl (hts _ w2) (hts _ hl9) w4 ⟨hRf, by show 8 + (M.2.2.1 + 11) + 60 * d ≤ R.locals; omega⟩, hts _ w1, hts _ w6⟩ ⟨pv_blind D cA B _ _ h, hrec, hpre⟩ rfl hn9 hl.1 hst9 hW9 hd ⟨hRc, hRs⟩) hS hAA hAk1 kk2
              · exact pv_after (va_runVN (C := M.1.cls) (As := (st.take n).reverse.map (pv_v B)) (rest := rest.map (pv_v B)) hF hMet ⟨va_cnB n hts hG rfl rfl rfl (hK.2 _ hl9) (hts _ w2) w4 ⟨hRf, by show 8 + (M.2.2.1 + 11) + 60 * d ≤ R.locals; omega⟩, hts _ w1, hts _ w6⟩ ⟨pv_blind D cA B _ _ h, hrec, hpre⟩ rfl hn9 hl.1 hst9 hW9 hd ⟨hRc, hRs⟩) hS hAA hAk1 kk2
        · cases hx
      · cases hx
    · cases hx
  · next idx j2 n z =>
    split at hx
    · next b r hdrop =>
      split at hx
      · next hcat =>
        cases hx
        obtain ⟨w0, w1, w4, w6, w7⟩ : (Cond.methodLink own idx M.1 ∈ pv_T ∨ ∃ hst, Cond.methodLinkNest own idx M.1 hst ∈ pv_N) ∧ Cond.instanceMethod M.1 ∈ pv_T ∧ pv_my M.1 n = true ∧ M.1.name = "<init>" ∧ M.2.2.2.1 = none := hLK.1 _ (pv_okc_i hok) own M ho hj
        · skip
          have hG := pv_goodT M w3
          simp only [pv_my, decide_eq_true_eq] at w4
          have hlen : n ≤ st.length := by
            rcases Nat.lt_or_ge st.length n with h5 | h5
            · rw [List.drop_eq_nil_of_le (by omega)] at hdrop; cases hdrop
            · exact h5
          have hn9 : ((st.take n).reverse.map (pv_v B)).length = n := by simp; omega
          have hst9 : st.map (pv_v B) = ((st.take n).reverse.map (pv_v B)).reverse ++ .ref (B + b) :: rest.map (pv_v B) := by
            have h5 : st = st.take n ++ (.ref b :: rest) := by rw [← hdrop, List.take_append_drop]
            rw [← List.map_reverse, List.reverse_reverse]
            conv => lhs; rw [h5]
            rw [List.map_append]
            rfl
          have hW9 : 2 * (F0 m pc ls (st.map (pv_v B))).monitorRoom + ((rest.map (pv_v B)).map fun v => v.category).sum ≤ 8 := lv_room (by rw [pv_cat_map]; exact hcat)
          have hwM : pv_ws M = Cond.code M.1 M.2.1 M.2.2.1 none :: pv_T := by unfold pv_ws; rw [w7]
          rcases w0 with hl9 | ⟨hst, hl9⟩
          · exact pv_after (va_runI (As := (st.take n).reverse.map (pv_v B)) (rest := rest.map (pv_v B)) hF hMet (cwI n hts hG hwM rfl rfl (hts _ w2) (hts _ hl9) (hts _ w1) w6 w4 ⟨hRf, by show 8 + (M.2.2.1 + 11) + 60 * d ≤ R.locals; omega⟩) ⟨pv_blind D cA B _ _ h, hpre⟩ rfl hn9 hl.1 hst9 hW9 hd ⟨hRc, hRs⟩) hS hAA hAk1 kk2
          · exact pv_after (va_runIN (As := (st.take n).reverse.map (pv_v B)) (rest := rest.map (pv_v B)) hF hMet ⟨va_cnB n hts hG hwM rfl rfl (hK.2 _ hl9) (hts _ w2) w4 ⟨hRf, by show 8 + (M.2.2.1 + 11) + 60 * d ≤ R.locals; omega⟩, w6, hts _ w1⟩ ⟨pv_blind D cA B _ _ h, hpre⟩ rfl hn9 hl.1 hst9 hW9 hd ⟨hRc, hRs⟩) hS hAA hAk1 kk2
      · cases hx
    · cases hx
  · cases hx
end PVV
end
section
/-! WHOLE METHODS -/
section PVX
variable {p : Program} {l : Launch} {e : Env} {R : Room} {s : State} {m : MethodId} {args : Array Value} {below : List Frame} {meth : Method} {c : Code}
variable {D : va_G} {cA : Nat → ClassId} {B : Nat} {A : Nat → Prop}
set_option maxHeartbeats 8000000 in
theorem pv_goW {call : Nat → List Value → pv_H → Option (Option Value × pv_H)} {pr : List pv_M} {LK : List (List Nat)} (hLK : pv_LKs pr LK) (hm30 : ∀ (j : Nat) (M : pv_M), pr[j]? = some M → M.2.2.1 ≤ 30) {d : Nat} (hcall : ∀ j as h v h', call j as h = some (v, h') → ∀ sz, B + h.length ≤ sz → (h.length < h'.length → sz = B + h.length) → pv_Met l D cA B sz pr d j as h v h') (hlen : ∀ j as h v h', call j as h = some (v, h') → h.length ≤ h'.length ∧ pv_sl h ≤ pv_sl h')
    {M : pv_M} (hM : pv_okM LK M = true) (S : pv_St p s m args meth c R M.2.1 M.1.cls M.1.name M.2.2.1 D cA B A) (hr : meth.sig.returnType = M.2.2.2.1) (hlocks : meth.locks = false) {v : Option Value} {h' : pv_H} {n0 s0 : Nat} (hs0 : n0 < h'.length → s.heap.size = B + n0) (hRf : d + 1 ≤ R.frames) (hRl : 60 * (d + 1) ≤ R.locals) (hRc : R.cells + n0 = h'.length) (hRs : R.slots + s0 = pv_sl h') :
    ∀ (f k : Nat) (lo : pv_L) (st : List Value) (h : pv_H), pv_go call M.2.2.2.2 f k lo st h = some (v, h') → ∀ (H : Heap) (locs : List Loc) (ls : Array Slot) (cells slots pc : Nat), pv_pc M.2.2.2.2 k = pc → pv_I D cA B A s h H locs → lv_has ls M.2.2.1 (pv_l B lo) → cells + n0 = h.length → slots + s0 = pv_sl h → W p l e R s m args below meth c H locs cells slots (MQ below (pv_Qc D cA B A v h') args s R.cells R.slots A) (F0 m pc ls (st.map (pv_v B))) := by
  obtain ⟨o, ho, hrows⟩ := pv_okM_row hM
  intro f
  induction f with
  | zero => intro k lo st h hx; cases hx
  | succ f ih =>
    intro k lo st h hx H locs ls cells slots pc hpc hI hl hcn hsn
    obtain ⟨hF, hmn, hK, hBs, hfr, hlo⟩ := id S
    obtain ⟨hex, hb, hml, hown, hts⟩ := id hF
    simp only [pv_go] at hx
    split at hx
    · cases hx
    · next r hrow =>
      have hpc' : r.1 = pc := by rw [← hpc]; simp [pv_pc, hrow]
      rcases hrows _ _ hrow with hnop | hok
      · exfalso
        rw [hnop] at hx
        simp [pv_ret, pv_inv, pv_x] at hx
      simp only [pv_okR, Bool.and_eq_true, decide_eq_true_eq] at hok
      obtain ⟨hdec, hok⟩ := hok
      rw [hpc'] at hdec hok
      split at hx
      · next v9 hret =>
        cases hx
        rw [if_pos (pv_ret_is hret)] at hok
        simp only [Bool.and_eq_true, beq_iff_eq] at hok
        obtain ⟨hokr, hlen1⟩ := hok
        rw [hlen1] at hdec
        have hc9 : R.cells = cells := by omega
        have hs9 : R.slots = slots := by omega
        rw [hc9, hs9]
        have hq : ∀ (v9 : Option Value), ∀ t : State, t.heap = H → s.WarmedH t.vm → pv_Qc D cA B A v9 h' args s (.returned (v9.map (pv_v B))) t := fun v9 t ht hW => ⟨rfl, pv_K.warm hW hK, by rw [ht]; exact hI.1, hI.2.1.F ht⟩
        obtain ⟨rpc, ri, rlen, rxs, rps⟩ := r
        dsimp only at hret hokr hdec
        unfold pv_ret at hret
        split at hret
        · next z =>
          split at hret
          · cases hret
            have hokr : decide (M.2.2.2.1 = some .int) = true := hokr
            exact W.iret hex hb (hr.trans (of_decide_eq_true hokr)) (hq (some (.int z))) hI.2.1.2.2 hdec hlocks
          · split at hret
            · next hz =>
              cases hret
              have hokr : decide (M.2.2.2.1 = some .boolean) = true := hokr
              exact W.zret (ty := .boolean) hex hb (hr.trans (of_decide_eq_true hokr)) (by rcases hz with rfl | rfl <;> rfl) (hq (some (.int z))) hI.2.1.2.2 hdec hlocks
            · cases hret
          · cases hret
        · next z =>
          cases hret
          have hokr : decide (M.2.2.2.1 = some .long) = true := hokr
          exact W.lret hex hb (hr.trans (of_decide_eq_true hokr)) (hq (some (.long z))) hI.2.1.2.2 hdec hlocks
        · cases hret
          have hokr : decide (M.2.2.2.1 = none) = true := hokr
          exact W.vret hex hb (hr.trans (of_decide_eq_true hokr)) (hq none) hI.2.1.2.2 hdec hlocks
        · cases hret
      · split at hx
        · next j as rest hinv =>
          obtain ⟨i1, i2⟩ := pv_inv_is hinv
          rw [if_neg (by rw [i1]; decide), if_pos i2] at hok
          simp only [Bool.and_eq_true] at hok
          obtain ⟨hokc, hnx⟩ := hok
          obtain ⟨hl3, hn⟩ := pv_nx_inv hnx
          rw [hl3] at hdec
          split at hx
          · next v1 h1 hc =>
            have a1 := hlen _ _ _ _ _ hc
            have a2 := pv_go_len hlen _ _ _ _ _ _ _ hx
            refine pv_call (rows := M.2.2.2.2) (k := k) (len := 3) hLK ho S hI hl hdec hokc hinv (hcall _ _ _ _ _ hc) a1.1 (fun q => by have := hs0 (by omega); omega) hRf hRl (fun M9 h9 => hm30 _ M9 h9) (by omega) (by omega) (fun H1 locs1 hI1 => ?_)
            exact ih _ _ _ _ hx H1 locs1 ls _ _ _ hn hI1 hl (by omega) (by omega)
          · cases hx
        · split at hx
          · next k1 lo1 st1 h1 hc =>
            obtain ⟨i1, i2⟩ := pv_x_is hc
            rw [if_neg (by rw [i1]; decide), if_neg (by rw [i2]; decide)] at hok
            have a1 := pv_x_len hc
            have a2 := pv_go_len hlen _ _ _ _ _ _ _ hx
            dsimp only at a1
            refine pv_step hLK ho S hI hl hdec hok hc (fun q => by have q : h.length < h1.length := q; have := hs0 (by omega); omega) (by dsimp only; omega) (by dsimp only; omega) (fun H1 locs1 ls1 cells1 slots1 pc1 hp1 hI1 hl1 e1 e2 => ?_)
            dsimp only at e1 e2 hp1 hI1 hl1
            exact ih _ _ _ _ hx H1 locs1 ls1 cells1 slots1 pc1 hp1 hI1 hl1 (by omega) (by omega)
          · cases hx
end PVX
set_option maxHeartbeats 8000000 in
theorem pv_runMet {l : Launch} {D : va_G} {cA : Nat → ClassId} {B : Nat} {pr : List pv_M} {LK : List (List Nat)} (hLK : pv_LKs pr LK) (hpr : ∀ (j : Nat) (M : pv_M), pr[j]? = some M → pv_okM LK M = true) (F : Nat) : ∀ (d j : Nat) (as : List Value) (h : pv_H) (v : Option Value) (h' : pv_H), pv_run pr F d j as h = some (v, h') → ∀ sz, B + h.length ≤ sz → (h.length < h'.length → sz = B + h.length) → pv_Met l D cA B sz pr d j as h v h' := by
  have hm30 : ∀ (j : Nat) (M : pv_M), pr[j]? = some M → M.2.2.1 ≤ 30 := by
    intro j M hj
    have h1 := hpr j M hj
    simp only [pv_okM, Bool.and_eq_true, decide_eq_true_eq] at h1
    exact h1.1.2
  intro d
  induction d with
  | zero => intro j as h v h' hx; cases hx
  | succ d ih =>
    intro j as h v h' hx sz hsz0 hsz1
    simp only [pv_run] at hx
    split at hx
    · next M hj =>
      split at hx
      · next hcat =>
        refine ⟨M, hj, ?_⟩
        have hM := hpr j M hj
        have hM2 := hM
        simp only [pv_okM, Bool.and_eq_true, beq_iff_eq, decide_eq_true_eq] at hM2
        have hlen := pv_go_len (pv_run_len d) _ _ _ _ _ _ _ hx
        refine Met.ofW (cc := M.2.1) (maxL := M.2.2.1) (ret := M.2.2.2.1) hM2.1.1.1 rfl ?_
        intro p e s m args below meth c s₁ BB hml hv
        obtain ⟨rfl, hsz, hK, hP⟩ := hv
        have hts := atoms_spec (ws := pv_ws M) BB.pre
        have hown : s.vm.findClass M.1.cls = some m.cls := findClass_of_methodNamed BB.named
        have hin : meth.name = M.1.name := (name_of_methodNamed BB.named BB.method).1
        have S : pv_St p s m (as.map (pv_v B)).toArray meth c (headSpec (pv_ws M) (pv_rm (d + 1) h h')).room M.2.1 M.1.cls M.1.name M.2.2.1 D cA B (pv_A B h.length sz) := by
          refine ⟨⟨BB.exec, BB.bytes, hml, hown, fun w hw => hts w (List.mem_cons_of_mem _ hw)⟩, hin, hK, ⟨fun q hq => Or.inr (by rw [← hsz]; exact hq), fun q hq => by rcases hq with hq | hq <;> omega⟩, ?_, ?_⟩
          · show 1 ≤ d + 1
            omega
          · show 60 ≤ 60 * (d + 1)
            omega
        have hl := lv_entry (as.map (pv_v B)) (n := M.2.2.1) (by rw [pv_lsl]; exact hcat)
        rw [pv_l_args] at hl
        rw [lg_entry_eq]
        exact pv_goW (R := (headSpec (pv_ws M) (pv_rm (d + 1) h h')).room) hLK hm30 (d := d) ih (pv_run_len d) hM S BB.returns BB.notSynchronized (n0 := h.length) (s0 := pv_sl h) (fun q => by rw [hsz]; exact hsz1 q) (Nat.le_refl _) (Nat.le_refl _) (by show h'.length - h.length + h.length = _; omega) (by show pv_sl h' - pv_sl h + pv_sl h = _; omega) F 0 (lv_args 0 as) [] h hx s.heap [] _ 0 0 0 hM2.1.1.2 ⟨hP, va_S.rf, fun k9 h9 => Or.inl ⟨by omega, by omega⟩⟩ hl (by omega) (by omega)
      · cases hx
    · cases hx
end
