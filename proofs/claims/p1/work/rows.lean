section
-- ===== PART A: goes FIRST, ahead of the names: the tables' words, and 'selects' of the private methods out of them =====
/-- a private method of a class that the tables say can be made, by its rows of tables_1 -/
def lw_okq (q : MethodName × Nat) : Prop := (q.1.cls ≠ "java/lang/invoke/MethodHandle" ∧ q.1.cls ≠ "java/lang/invoke/VarHandle") ∧ Cond.instantiable q.1.cls q.2 ∈ tables_1 ∧ Cond.privateMethod q.1 ∈ tables_1 ∧ Cond.instanceMethod q.1 ∈ tables_1
theorem lw_p0 : lw_okq (⟨"CliffGarden$Nets", "hangs", "(I)Z"⟩, 14) := ⟨⟨by decide +kernel, by decide +kernel⟩, List.mem_of_getElem? (i := 33) (by decide +kernel), List.mem_of_getElem? (i := 496) (by decide +kernel), List.mem_of_getElem? (i := 497) (by decide +kernel)⟩
theorem lw_p1 : lw_okq (⟨"CliffGarden$Nets", "clearCrop", "(I)V"⟩, 14) := ⟨⟨by decide +kernel, by decide +kernel⟩, List.mem_of_getElem? (i := 33) (by decide +kernel), List.mem_of_getElem? (i := 500) (by decide +kernel), List.mem_of_getElem? (i := 501) (by decide +kernel)⟩
theorem lw_p2 : lw_okq (⟨"CliffGarden$Nets", "setCrop", "(III)V"⟩, 14) := ⟨⟨by decide +kernel, by decide +kernel⟩, List.mem_of_getElem? (i := 33) (by decide +kernel), List.mem_of_getElem? (i := 504) (by decide +kernel), List.mem_of_getElem? (i := 505) (by decide +kernel)⟩
theorem lw_p3 : lw_okq (⟨"CliffGarden", "hungCell", "(II)I"⟩, 12) := ⟨⟨by decide +kernel, by decide +kernel⟩, List.mem_of_getElem? (i := 25) (by decide +kernel), List.mem_of_getElem? (i := 512) (by decide +kernel), List.mem_of_getElem? (i := 513) (by decide +kernel)⟩
theorem lw_p4 : lw_okq (⟨"CliffGarden$Nets", "hasCrop", "(I)Z"⟩, 14) := ⟨⟨by decide +kernel, by decide +kernel⟩, List.mem_of_getElem? (i := 33) (by decide +kernel), List.mem_of_getElem? (i := 524) (by decide +kernel), List.mem_of_getElem? (i := 525) (by decide +kernel)⟩
theorem lw_p5 : lw_okq (⟨"CliffGarden$Tape", "append", "(I)V"⟩, 2) := ⟨⟨by decide +kernel, by decide +kernel⟩, List.mem_of_getElem? (i := 323) (by decide +kernel), List.mem_of_getElem? (i := 555) (by decide +kernel), List.mem_of_getElem? (i := 556) (by decide +kernel)⟩
theorem lw_p6 : lw_okq (⟨"CliffGarden$Reader", "read", "(LCliffGarden$Tape;ILCliffGarden$Statute;)I"⟩, 5) := ⟨⟨by decide +kernel, by decide +kernel⟩, List.mem_of_getElem? (i := 338) (by decide +kernel), List.mem_of_getElem? (i := 563) (by decide +kernel), List.mem_of_getElem? (i := 564) (by decide +kernel)⟩
theorem lw_p7 : lw_okq (⟨"CliffGarden$Reader", "readClause", "()Z"⟩, 5) := ⟨⟨by decide +kernel, by decide +kernel⟩, List.mem_of_getElem? (i := 338) (by decide +kernel), List.mem_of_getElem? (i := 567) (by decide +kernel), List.mem_of_getElem? (i := 568) (by decide +kernel)⟩
theorem lw_p8 : lw_okq (⟨"CliffGarden$Reader", "look", "()I"⟩, 5) := ⟨⟨by decide +kernel, by decide +kernel⟩, List.mem_of_getElem? (i := 338) (by decide +kernel), List.mem_of_getElem? (i := 571) (by decide +kernel), List.mem_of_getElem? (i := 572) (by decide +kernel)⟩
theorem lw_p9 : lw_okq (⟨"CliffGarden$Reader", "fail", "(I)Z"⟩, 5) := ⟨⟨by decide +kernel, by decide +kernel⟩, List.mem_of_getElem? (i := 338) (by decide +kernel), List.mem_of_getElem? (i := 665) (by decide +kernel), List.mem_of_getElem? (i := 666) (by decide +kernel)⟩
theorem lw_p10 : lw_okq (⟨"CliffGarden$Reader", "readSum", "(I)Z"⟩, 5) := ⟨⟨by decide +kernel, by decide +kernel⟩, List.mem_of_getElem? (i := 338) (by decide +kernel), List.mem_of_getElem? (i := 669) (by decide +kernel), List.mem_of_getElem? (i := 670) (by decide +kernel)⟩
theorem lw_p11 : lw_okq (⟨"CliffGarden$Reader", "readTerm", "(I)Z"⟩, 5) := ⟨⟨by decide +kernel, by decide +kernel⟩, List.mem_of_getElem? (i := 338) (by decide +kernel), List.mem_of_getElem? (i := 673) (by decide +kernel), List.mem_of_getElem? (i := 674) (by decide +kernel)⟩
theorem lw_p12 : lw_okq (⟨"CliffGarden$Reader", "readFactor", "(I)Z"⟩, 5) := ⟨⟨by decide +kernel, by decide +kernel⟩, List.mem_of_getElem? (i := 338) (by decide +kernel), List.mem_of_getElem? (i := 677) (by decide +kernel), List.mem_of_getElem? (i := 678) (by decide +kernel)⟩
theorem lw_p13 : lw_okq (⟨"CliffGarden$Reader", "enter", "(I)Z"⟩, 5) := ⟨⟨by decide +kernel, by decide +kernel⟩, List.mem_of_getElem? (i := 338) (by decide +kernel), List.mem_of_getElem? (i := 681) (by decide +kernel), List.mem_of_getElem? (i := 682) (by decide +kernel)⟩
theorem lw_p14 : lw_okq (⟨"CliffGarden$Reader", "expect", "(I)Z"⟩, 5) := ⟨⟨by decide +kernel, by decide +kernel⟩, List.mem_of_getElem? (i := 338) (by decide +kernel), List.mem_of_getElem? (i := 685) (by decide +kernel), List.mem_of_getElem? (i := 686) (by decide +kernel)⟩
theorem lw_p15 : lw_okq (⟨"CliffGarden$Reader", "readNumber", "()Z"⟩, 5) := ⟨⟨by decide +kernel, by decide +kernel⟩, List.mem_of_getElem? (i := 338) (by decide +kernel), List.mem_of_getElem? (i := 692) (by decide +kernel), List.mem_of_getElem? (i := 693) (by decide +kernel)⟩
def lw_privs_1 : List (MethodName × Nat) := [(⟨"CliffGarden$Nets", "hangs", "(I)Z"⟩, 14), (⟨"CliffGarden$Nets", "clearCrop", "(I)V"⟩, 14), (⟨"CliffGarden$Nets", "setCrop", "(III)V"⟩, 14), (⟨"CliffGarden", "hungCell", "(II)I"⟩, 12), (⟨"CliffGarden$Nets", "hasCrop", "(I)Z"⟩, 14), (⟨"CliffGarden$Tape", "append", "(I)V"⟩, 2), (⟨"CliffGarden$Reader", "read", "(LCliffGarden$Tape;ILCliffGarden$Statute;)I"⟩, 5), (⟨"CliffGarden$Reader", "readClause", "()Z"⟩, 5), (⟨"CliffGarden$Reader", "look", "()I"⟩, 5), (⟨"CliffGarden$Reader", "fail", "(I)Z"⟩, 5), (⟨"CliffGarden$Reader", "readSum", "(I)Z"⟩, 5), (⟨"CliffGarden$Reader", "readTerm", "(I)Z"⟩, 5), (⟨"CliffGarden$Reader", "readFactor", "(I)Z"⟩, 5), (⟨"CliffGarden$Reader", "enter", "(I)Z"⟩, 5), (⟨"CliffGarden$Reader", "expect", "(I)Z"⟩, 5), (⟨"CliffGarden$Reader", "readNumber", "()Z"⟩, 5)]
theorem lw_r1 : ∀ q ∈ lw_privs_1, lw_okq q := List.forall_mem_cons.mpr ⟨lw_p0, List.forall_mem_cons.mpr ⟨lw_p1, List.forall_mem_cons.mpr ⟨lw_p2, List.forall_mem_cons.mpr ⟨lw_p3, List.forall_mem_cons.mpr ⟨lw_p4, List.forall_mem_cons.mpr ⟨lw_p5, List.forall_mem_cons.mpr ⟨lw_p6, List.forall_mem_cons.mpr ⟨lw_p7, List.forall_mem_cons.mpr ⟨lw_p8, List.forall_mem_cons.mpr ⟨lw_p9, List.forall_mem_cons.mpr ⟨lw_p10, List.forall_mem_cons.mpr ⟨lw_p11, List.forall_mem_cons.mpr ⟨lw_p12, List.forall_mem_cons.mpr ⟨lw_p13, List.forall_mem_cons.mpr ⟨lw_p14, List.forall_mem_cons.mpr ⟨lw_p15, fun _ h => absurd h List.not_mem_nil⟩⟩⟩⟩⟩⟩⟩⟩⟩⟩⟩⟩⟩⟩⟩⟩
theorem lw_p16 : lw_okq (⟨"CliffGarden$Statute", "put", "(II)V"⟩, 10) := ⟨⟨by decide +kernel, by decide +kernel⟩, List.mem_of_getElem? (i := 219) (by decide +kernel), List.mem_of_getElem? (i := 696) (by decide +kernel), List.mem_of_getElem? (i := 697) (by decide +kernel)⟩
theorem lw_p17 : lw_okq (⟨"CliffGarden$Reader", "readCondition", "(I)Z"⟩, 5) := ⟨⟨by decide +kernel, by decide +kernel⟩, List.mem_of_getElem? (i := 338) (by decide +kernel), List.mem_of_getElem? (i := 703) (by decide +kernel), List.mem_of_getElem? (i := 704) (by decide +kernel)⟩
theorem lw_p18 : lw_okq (⟨"CliffGarden$Reader", "readPart", "(I)Z"⟩, 5) := ⟨⟨by decide +kernel, by decide +kernel⟩, List.mem_of_getElem? (i := 338) (by decide +kernel), List.mem_of_getElem? (i := 707) (by decide +kernel), List.mem_of_getElem? (i := 708) (by decide +kernel)⟩
theorem lw_p19 : lw_okq (⟨"CliffGarden$Reader", "readPiece", "(I)Z"⟩, 5) := ⟨⟨by decide +kernel, by decide +kernel⟩, List.mem_of_getElem? (i := 338) (by decide +kernel), List.mem_of_getElem? (i := 711) (by decide +kernel), List.mem_of_getElem? (i := 712) (by decide +kernel)⟩
theorem lw_p20 : lw_okq (⟨"CliffGarden$Reader", "readComparison", "(I)Z"⟩, 5) := ⟨⟨by decide +kernel, by decide +kernel⟩, List.mem_of_getElem? (i := 338) (by decide +kernel), List.mem_of_getElem? (i := 715) (by decide +kernel), List.mem_of_getElem? (i := 716) (by decide +kernel)⟩
theorem lw_p21 : lw_okq (⟨"CliffGarden$Reader", "readJump", "()I"⟩, 5) := ⟨⟨by decide +kernel, by decide +kernel⟩, List.mem_of_getElem? (i := 338) (by decide +kernel), List.mem_of_getElem? (i := 720) (by decide +kernel), List.mem_of_getElem? (i := 721) (by decide +kernel)⟩
theorem lw_p22 : lw_okq (⟨"CliffGarden$Nets", "factOf", "(II)I"⟩, 14) := ⟨⟨by decide +kernel, by decide +kernel⟩, List.mem_of_getElem? (i := 33) (by decide +kernel), List.mem_of_getElem? (i := 730) (by decide +kernel), List.mem_of_getElem? (i := 731) (by decide +kernel)⟩
theorem lw_p23 : lw_okq (⟨"CliffGarden$Nets", "loadOf", "(I)I"⟩, 14) := ⟨⟨by decide +kernel, by decide +kernel⟩, List.mem_of_getElem? (i := 33) (by decide +kernel), List.mem_of_getElem? (i := 734) (by decide +kernel), List.mem_of_getElem? (i := 735) (by decide +kernel)⟩
theorem lw_p24 : lw_okq (⟨"CliffGarden$Court", "ageing", "(I)I"⟩, 5) := ⟨⟨by decide +kernel, by decide +kernel⟩, List.mem_of_getElem? (i := 213) (by decide +kernel), List.mem_of_getElem? (i := 745) (by decide +kernel), List.mem_of_getElem? (i := 746) (by decide +kernel)⟩
theorem lw_p25 : lw_okq (⟨"CliffGarden$Court", "seeCellAndCrop", "(I)V"⟩, 5) := ⟨⟨by decide +kernel, by decide +kernel⟩, List.mem_of_getElem? (i := 213) (by decide +kernel), List.mem_of_getElem? (i := 749) (by decide +kernel), List.mem_of_getElem? (i := 750) (by decide +kernel)⟩
theorem lw_p26 : lw_okq (⟨"CliffGarden$Court", "seeCell", "(I)V"⟩, 5) := ⟨⟨by decide +kernel, by decide +kernel⟩, List.mem_of_getElem? (i := 213) (by decide +kernel), List.mem_of_getElem? (i := 753) (by decide +kernel), List.mem_of_getElem? (i := 754) (by decide +kernel)⟩
theorem lw_p27 : lw_okq (⟨"CliffGarden$Nets", "isRipe", "(I)Z"⟩, 14) := ⟨⟨by decide +kernel, by decide +kernel⟩, List.mem_of_getElem? (i := 33) (by decide +kernel), List.mem_of_getElem? (i := 759) (by decide +kernel), List.mem_of_getElem? (i := 760) (by decide +kernel)⟩
theorem lw_p28 : lw_okq (⟨"CliffGarden$Statute", "answer", "(II[I)I"⟩, 10) := ⟨⟨by decide +kernel, by decide +kernel⟩, List.mem_of_getElem? (i := 219) (by decide +kernel), List.mem_of_getElem? (i := 764) (by decide +kernel), List.mem_of_getElem? (i := 765) (by decide +kernel)⟩
theorem lw_p29 : lw_okq (⟨"CliffGarden$Statute", "reckon", "(II[I)I"⟩, 10) := ⟨⟨by decide +kernel, by decide +kernel⟩, List.mem_of_getElem? (i := 219) (by decide +kernel), List.mem_of_getElem? (i := 768) (by decide +kernel), List.mem_of_getElem? (i := 769) (by decide +kernel)⟩
theorem lw_p30 : lw_okq (⟨"CliffGarden$Court", "growth", "(II)I"⟩, 5) := ⟨⟨by decide +kernel, by decide +kernel⟩, List.mem_of_getElem? (i := 213) (by decide +kernel), List.mem_of_getElem? (i := 777) (by decide +kernel), List.mem_of_getElem? (i := 778) (by decide +kernel)⟩
theorem lw_p31 : lw_okq (⟨"CliffGarden$Court", "oddsOfFall", "(I)I"⟩, 5) := ⟨⟨by decide +kernel, by decide +kernel⟩, List.mem_of_getElem? (i := 213) (by decide +kernel), List.mem_of_getElem? (i := 781) (by decide +kernel), List.mem_of_getElem? (i := 782) (by decide +kernel)⟩
def lw_privs_2 : List (MethodName × Nat) := [(⟨"CliffGarden$Statute", "put", "(II)V"⟩, 10), (⟨"CliffGarden$Reader", "readCondition", "(I)Z"⟩, 5), (⟨"CliffGarden$Reader", "readPart", "(I)Z"⟩, 5), (⟨"CliffGarden$Reader", "readPiece", "(I)Z"⟩, 5), (⟨"CliffGarden$Reader", "readComparison", "(I)Z"⟩, 5), (⟨"CliffGarden$Reader", "readJump", "()I"⟩, 5), (⟨"CliffGarden$Nets", "factOf", "(II)I"⟩, 14), (⟨"CliffGarden$Nets", "loadOf", "(I)I"⟩, 14), (⟨"CliffGarden$Court", "ageing", "(I)I"⟩, 5), (⟨"CliffGarden$Court", "seeCellAndCrop", "(I)V"⟩, 5), (⟨"CliffGarden$Court", "seeCell", "(I)V"⟩, 5), (⟨"CliffGarden$Nets", "isRipe", "(I)Z"⟩, 14), (⟨"CliffGarden$Statute", "answer", "(II[I)I"⟩, 10), (⟨"CliffGarden$Statute", "reckon", "(II[I)I"⟩, 10), (⟨"CliffGarden$Court", "growth", "(II)I"⟩, 5), (⟨"CliffGarden$Court", "oddsOfFall", "(I)I"⟩, 5)]
theorem lw_r2 : ∀ q ∈ lw_privs_2, lw_okq q := List.forall_mem_cons.mpr ⟨lw_p16, List.forall_mem_cons.mpr ⟨lw_p17, List.forall_mem_cons.mpr ⟨lw_p18, List.forall_mem_cons.mpr ⟨lw_p19, List.forall_mem_cons.mpr ⟨lw_p20, List.forall_mem_cons.mpr ⟨lw_p21, List.forall_mem_cons.mpr ⟨lw_p22, List.forall_mem_cons.mpr ⟨lw_p23, List.forall_mem_cons.mpr ⟨lw_p24, List.forall_mem_cons.mpr ⟨lw_p25, List.forall_mem_cons.mpr ⟨lw_p26, List.forall_mem_cons.mpr ⟨lw_p27, List.forall_mem_cons.mpr ⟨lw_p28, List.forall_mem_cons.mpr ⟨lw_p29, List.forall_mem_cons.mpr ⟨lw_p30, List.forall_mem_cons.mpr ⟨lw_p31, fun _ h => absurd h List.not_mem_nil⟩⟩⟩⟩⟩⟩⟩⟩⟩⟩⟩⟩⟩⟩⟩⟩
theorem lw_p32 : lw_okq (⟨"CliffGarden", "letWaterFlow", "()I"⟩, 12) := ⟨⟨by decide +kernel, by decide +kernel⟩, List.mem_of_getElem? (i := 25) (by decide +kernel), List.mem_of_getElem? (i := 789) (by decide +kernel), List.mem_of_getElem? (i := 790) (by decide +kernel)⟩
theorem lw_p33 : lw_okq (⟨"CliffGarden$Water", "pour", "([I[I)V"⟩, 11) := ⟨⟨by decide +kernel, by decide +kernel⟩, List.mem_of_getElem? (i := 281) (by decide +kernel), List.mem_of_getElem? (i := 793) (by decide +kernel), List.mem_of_getElem? (i := 794) (by decide +kernel)⟩
theorem lw_p34 : lw_okq (⟨"CliffGarden$Nets", "needOf", "(I)I"⟩, 14) := ⟨⟨by decide +kernel, by decide +kernel⟩, List.mem_of_getElem? (i := 33) (by decide +kernel), List.mem_of_getElem? (i := 801) (by decide +kernel), List.mem_of_getElem? (i := 802) (by decide +kernel)⟩
theorem lw_p35 : lw_okq (⟨"CliffGarden$Water", "passOn", "(III)V"⟩, 11) := ⟨⟨by decide +kernel, by decide +kernel⟩, List.mem_of_getElem? (i := 281) (by decide +kernel), List.mem_of_getElem? (i := 807) (by decide +kernel), List.mem_of_getElem? (i := 808) (by decide +kernel)⟩
theorem lw_p36 : lw_okq (⟨"CliffGarden", "dropCrop", "(IZ)I"⟩, 12) := ⟨⟨by decide +kernel, by decide +kernel⟩, List.mem_of_getElem? (i := 25) (by decide +kernel), List.mem_of_getElem? (i := 815) (by decide +kernel), List.mem_of_getElem? (i := 816) (by decide +kernel)⟩
theorem lw_p37 : lw_okq (⟨"CliffGarden$Falls", "open", "(LCliffGarden$Nets;II)I"⟩, 11) := ⟨⟨by decide +kernel, by decide +kernel⟩, List.mem_of_getElem? (i := 160) (by decide +kernel), List.mem_of_getElem? (i := 819) (by decide +kernel), List.mem_of_getElem? (i := 820) (by decide +kernel)⟩
theorem lw_p38 : lw_okq (⟨"CliffGarden$Court", "catchingLevel", "(I)I"⟩, 5) := ⟨⟨by decide +kernel, by decide +kernel⟩, List.mem_of_getElem? (i := 213) (by decide +kernel), List.mem_of_getElem? (i := 824) (by decide +kernel), List.mem_of_getElem? (i := 825) (by decide +kernel)⟩
theorem lw_p39 : lw_okq (⟨"CliffGarden$Court", "seeFallen", "(I)V"⟩, 5) := ⟨⟨by decide +kernel, by decide +kernel⟩, List.mem_of_getElem? (i := 213) (by decide +kernel), List.mem_of_getElem? (i := 830) (by decide +kernel), List.mem_of_getElem? (i := 831) (by decide +kernel)⟩
theorem lw_p40 : lw_okq (⟨"CliffGarden$Court", "ownerOf", "(I)I"⟩, 5) := ⟨⟨by decide +kernel, by decide +kernel⟩, List.mem_of_getElem? (i := 213) (by decide +kernel), List.mem_of_getElem? (i := 834) (by decide +kernel), List.mem_of_getElem? (i := 835) (by decide +kernel)⟩
theorem lw_p41 : lw_okq (⟨"CliffGarden$Court", "seeFallFromItsCell", "(I)V"⟩, 5) := ⟨⟨by decide +kernel, by decide +kernel⟩, List.mem_of_getElem? (i := 213) (by decide +kernel), List.mem_of_getElem? (i := 838) (by decide +kernel), List.mem_of_getElem? (i := 839) (by decide +kernel)⟩
theorem lw_p42 : lw_okq (⟨"CliffGarden", "landInKitchen", "(II)V"⟩, 12) := ⟨⟨by decide +kernel, by decide +kernel⟩, List.mem_of_getElem? (i := 25) (by decide +kernel), List.mem_of_getElem? (i := 842) (by decide +kernel), List.mem_of_getElem? (i := 843) (by decide +kernel)⟩
theorem lw_p43 : lw_okq (⟨"CliffGarden$Falls", "close", "()V"⟩, 11) := ⟨⟨by decide +kernel, by decide +kernel⟩, List.mem_of_getElem? (i := 160) (by decide +kernel), List.mem_of_getElem? (i := 846) (by decide +kernel), List.mem_of_getElem? (i := 847) (by decide +kernel)⟩
theorem lw_p44 : lw_okq (⟨"CliffGarden", "letKnotsGo", "()I"⟩, 12) := ⟨⟨by decide +kernel, by decide +kernel⟩, List.mem_of_getElem? (i := 25) (by decide +kernel), List.mem_of_getElem? (i := 854) (by decide +kernel), List.mem_of_getElem? (i := 855) (by decide +kernel)⟩
theorem lw_p45 : lw_okq (⟨"CliffGarden$Nets", "firstOverloaded", "()I"⟩, 14) := ⟨⟨by decide +kernel, by decide +kernel⟩, List.mem_of_getElem? (i := 33) (by decide +kernel), List.mem_of_getElem? (i := 858) (by decide +kernel), List.mem_of_getElem? (i := 859) (by decide +kernel)⟩
theorem lw_p46 : lw_okq (⟨"CliffGarden", "tearDown", "(I)I"⟩, 12) := ⟨⟨by decide +kernel, by decide +kernel⟩, List.mem_of_getElem? (i := 25) (by decide +kernel), List.mem_of_getElem? (i := 862) (by decide +kernel), List.mem_of_getElem? (i := 863) (by decide +kernel)⟩
theorem lw_p47 : lw_okq (⟨"CliffGarden$Nets", "unhang", "(II)V"⟩, 14) := ⟨⟨by decide +kernel, by decide +kernel⟩, List.mem_of_getElem? (i := 33) (by decide +kernel), List.mem_of_getElem? (i := 868) (by decide +kernel), List.mem_of_getElem? (i := 869) (by decide +kernel)⟩
def lw_privs_3 : List (MethodName × Nat) := [(⟨"CliffGarden", "letWaterFlow", "()I"⟩, 12), (⟨"CliffGarden$Water", "pour", "([I[I)V"⟩, 11), (⟨"CliffGarden$Nets", "needOf", "(I)I"⟩, 14), (⟨"CliffGarden$Water", "passOn", "(III)V"⟩, 11), (⟨"CliffGarden", "dropCrop", "(IZ)I"⟩, 12), (⟨"CliffGarden$Falls", "open", "(LCliffGarden$Nets;II)I"⟩, 11), (⟨"CliffGarden$Court", "catchingLevel", "(I)I"⟩, 5), (⟨"CliffGarden$Court", "seeFallen", "(I)V"⟩, 5), (⟨"CliffGarden$Court", "ownerOf", "(I)I"⟩, 5), (⟨"CliffGarden$Court", "seeFallFromItsCell", "(I)V"⟩, 5), (⟨"CliffGarden", "landInKitchen", "(II)V"⟩, 12), (⟨"CliffGarden$Falls", "close", "()V"⟩, 11), (⟨"CliffGarden", "letKnotsGo", "()I"⟩, 12), (⟨"CliffGarden$Nets", "firstOverloaded", "()I"⟩, 14), (⟨"CliffGarden", "tearDown", "(I)I"⟩, 12), (⟨"CliffGarden$Nets", "unhang", "(II)V"⟩, 14)]
theorem lw_r3 : ∀ q ∈ lw_privs_3, lw_okq q := List.forall_mem_cons.mpr ⟨lw_p32, List.forall_mem_cons.mpr ⟨lw_p33, List.forall_mem_cons.mpr ⟨lw_p34, List.forall_mem_cons.mpr ⟨lw_p35, List.forall_mem_cons.mpr ⟨lw_p36, List.forall_mem_cons.mpr ⟨lw_p37, List.forall_mem_cons.mpr ⟨lw_p38, List.forall_mem_cons.mpr ⟨lw_p39, List.forall_mem_cons.mpr ⟨lw_p40, List.forall_mem_cons.mpr ⟨lw_p41, List.forall_mem_cons.mpr ⟨lw_p42, List.forall_mem_cons.mpr ⟨lw_p43, List.forall_mem_cons.mpr ⟨lw_p44, List.forall_mem_cons.mpr ⟨lw_p45, List.forall_mem_cons.mpr ⟨lw_p46, List.forall_mem_cons.mpr ⟨lw_p47, fun _ h => absurd h List.not_mem_nil⟩⟩⟩⟩⟩⟩⟩⟩⟩⟩⟩⟩⟩⟩⟩⟩
theorem lw_p48 : lw_okq (⟨"CliffGarden$Nets", "loosen", "(II)V"⟩, 14) := ⟨⟨by decide +kernel, by decide +kernel⟩, List.mem_of_getElem? (i := 33) (by decide +kernel), List.mem_of_getElem? (i := 873) (by decide +kernel), List.mem_of_getElem? (i := 874) (by decide +kernel)⟩
theorem lw_p49 : lw_okq (⟨"CliffGarden", "letCropsGrow", "()V"⟩, 12) := ⟨⟨by decide +kernel, by decide +kernel⟩, List.mem_of_getElem? (i := 25) (by decide +kernel), List.mem_of_getElem? (i := 882) (by decide +kernel), List.mem_of_getElem? (i := 883) (by decide +kernel)⟩
theorem lw_p50 : lw_okq (⟨"CliffGarden", "letCropsFall", "()V"⟩, 12) := ⟨⟨by decide +kernel, by decide +kernel⟩, List.mem_of_getElem? (i := 25) (by decide +kernel), List.mem_of_getElem? (i := 887) (by decide +kernel), List.mem_of_getElem? (i := 888) (by decide +kernel)⟩
theorem lw_p51 : lw_okq (⟨"CliffGarden", "letKnotsAge", "()V"⟩, 12) := ⟨⟨by decide +kernel, by decide +kernel⟩, List.mem_of_getElem? (i := 25) (by decide +kernel), List.mem_of_getElem? (i := 891) (by decide +kernel), List.mem_of_getElem? (i := 892) (by decide +kernel)⟩
theorem lw_p52 : lw_okq (⟨"CliffGarden$Nets", "wouldGo", "(I)J"⟩, 14) := ⟨⟨by decide +kernel, by decide +kernel⟩, List.mem_of_getElem? (i := 33) (by decide +kernel), List.mem_of_getElem? (i := 901) (by decide +kernel), List.mem_of_getElem? (i := 902) (by decide +kernel)⟩
theorem lw_p53 : lw_okq (⟨"CliffGarden$Falls", "isWritten", "(I)Z"⟩, 11) := ⟨⟨by decide +kernel, by decide +kernel⟩, List.mem_of_getElem? (i := 160) (by decide +kernel), List.mem_of_getElem? (i := 912) (by decide +kernel), List.mem_of_getElem? (i := 913) (by decide +kernel)⟩
theorem lw_p54 : lw_okq (⟨"CliffGarden$Falls", "factOf", "(II)I"⟩, 11) := ⟨⟨by decide +kernel, by decide +kernel⟩, List.mem_of_getElem? (i := 160) (by decide +kernel), List.mem_of_getElem? (i := 916) (by decide +kernel), List.mem_of_getElem? (i := 917) (by decide +kernel)⟩
theorem lw_p55 : lw_okq (⟨"CliffGarden", "claimantOf", "(II)I"⟩, 12) := ⟨⟨by decide +kernel, by decide +kernel⟩, List.mem_of_getElem? (i := 25) (by decide +kernel), List.mem_of_getElem? (i := 924) (by decide +kernel), List.mem_of_getElem? (i := 925) (by decide +kernel)⟩
theorem lw_p56 : lw_okq (⟨"CliffGarden$Court", "pointsOf", "(II)I"⟩, 5) := ⟨⟨by decide +kernel, by decide +kernel⟩, List.mem_of_getElem? (i := 213) (by decide +kernel), List.mem_of_getElem? (i := 928) (by decide +kernel), List.mem_of_getElem? (i := 929) (by decide +kernel)⟩
theorem lw_p57 : lw_okq (⟨"CliffGarden$Brow", "factOf", "(II)I"⟩, 9) := ⟨⟨by decide +kernel, by decide +kernel⟩, List.mem_of_getElem? (i := 114) (by decide +kernel), List.mem_of_getElem? (i := 944) (by decide +kernel), List.mem_of_getElem? (i := 945) (by decide +kernel)⟩
theorem lw_p58 : lw_okq (⟨"CliffGarden$Brow", "carries", "(III)Z"⟩, 9) := ⟨⟨by decide +kernel, by decide +kernel⟩, List.mem_of_getElem? (i := 114) (by decide +kernel), List.mem_of_getElem? (i := 952) (by decide +kernel), List.mem_of_getElem? (i := 953) (by decide +kernel)⟩
theorem lw_p59 : lw_okq (⟨"CliffGarden$Rounds", "tell", "(J)V"⟩, 8) := ⟨⟨by decide +kernel, by decide +kernel⟩, List.mem_of_getElem? (i := 360) (by decide +kernel), List.mem_of_getElem? (i := 972) (by decide +kernel), List.mem_of_getElem? (i := 973) (by decide +kernel)⟩
theorem lw_p60 : lw_okq (⟨"CliffGarden$Rounds", "asWork", "(I)V"⟩, 8) := ⟨⟨by decide +kernel, by decide +kernel⟩, List.mem_of_getElem? (i := 360) (by decide +kernel), List.mem_of_getElem? (i := 977) (by decide +kernel), List.mem_of_getElem? (i := 978) (by decide +kernel)⟩
theorem lw_p61 : lw_okq (⟨"CliffGarden$Rounds", "solve", "()V"⟩, 8) := ⟨⟨by decide +kernel, by decide +kernel⟩, List.mem_of_getElem? (i := 360) (by decide +kernel), List.mem_of_getElem? (i := 987) (by decide +kernel), List.mem_of_getElem? (i := 988) (by decide +kernel)⟩
theorem lw_p62 : lw_okq (⟨"CliffGarden$Rounds", "spentOn", "(I)I"⟩, 8) := ⟨⟨by decide +kernel, by decide +kernel⟩, List.mem_of_getElem? (i := 360) (by decide +kernel), List.mem_of_getElem? (i := 991) (by decide +kernel), List.mem_of_getElem? (i := 992) (by decide +kernel)⟩
theorem lw_p63 : lw_okq (⟨"CliffGarden$Rounds", "leastOnward", "(III)I"⟩, 8) := ⟨⟨by decide +kernel, by decide +kernel⟩, List.mem_of_getElem? (i := 360) (by decide +kernel), List.mem_of_getElem? (i := 995) (by decide +kernel), List.mem_of_getElem? (i := 996) (by decide +kernel)⟩
def lw_privs_4 : List (MethodName × Nat) := [(⟨"CliffGarden$Nets", "loosen", "(II)V"⟩, 14), (⟨"CliffGarden", "letCropsGrow", "()V"⟩, 12), (⟨"CliffGarden", "letCropsFall", "()V"⟩, 12), (⟨"CliffGarden", "letKnotsAge", "()V"⟩, 12), (⟨"CliffGarden$Nets", "wouldGo", "(I)J"⟩, 14), (⟨"CliffGarden$Falls", "isWritten", "(I)Z"⟩, 11), (⟨"CliffGarden$Falls", "factOf", "(II)I"⟩, 11), (⟨"CliffGarden", "claimantOf", "(II)I"⟩, 12), (⟨"CliffGarden$Court", "pointsOf", "(II)I"⟩, 5), (⟨"CliffGarden$Brow", "factOf", "(II)I"⟩, 9), (⟨"CliffGarden$Brow", "carries", "(III)Z"⟩, 9), (⟨"CliffGarden$Rounds", "tell", "(J)V"⟩, 8), (⟨"CliffGarden$Rounds", "asWork", "(I)V"⟩, 8), (⟨"CliffGarden$Rounds", "solve", "()V"⟩, 8), (⟨"CliffGarden$Rounds", "spentOn", "(I)I"⟩, 8), (⟨"CliffGarden$Rounds", "leastOnward", "(III)I"⟩, 8)]
theorem lw_r4 : ∀ q ∈ lw_privs_4, lw_okq q := List.forall_mem_cons.mpr ⟨lw_p48, List.forall_mem_cons.mpr ⟨lw_p49, List.forall_mem_cons.mpr ⟨lw_p50, List.forall_mem_cons.mpr ⟨lw_p51, List.forall_mem_cons.mpr ⟨lw_p52, List.forall_mem_cons.mpr ⟨lw_p53, List.forall_mem_cons.mpr ⟨lw_p54, List.forall_mem_cons.mpr ⟨lw_p55, List.forall_mem_cons.mpr ⟨lw_p56, List.forall_mem_cons.mpr ⟨lw_p57, List.forall_mem_cons.mpr ⟨lw_p58, List.forall_mem_cons.mpr ⟨lw_p59, List.forall_mem_cons.mpr ⟨lw_p60, List.forall_mem_cons.mpr ⟨lw_p61, List.forall_mem_cons.mpr ⟨lw_p62, List.forall_mem_cons.mpr ⟨lw_p63, fun _ h => absurd h List.not_mem_nil⟩⟩⟩⟩⟩⟩⟩⟩⟩⟩⟩⟩⟩⟩⟩⟩
theorem lw_p64 : lw_okq (⟨"CliffGarden$Rounds", "costVia", "(IIII)I"⟩, 8) := ⟨⟨by decide +kernel, by decide +kernel⟩, List.mem_of_getElem? (i := 360) (by decide +kernel), List.mem_of_getElem? (i := 1000) (by decide +kernel), List.mem_of_getElem? (i := 1001) (by decide +kernel)⟩
theorem lw_p65 : lw_okq (⟨"CliffGarden$Rounds", "findRow", "(I)V"⟩, 8) := ⟨⟨by decide +kernel, by decide +kernel⟩, List.mem_of_getElem? (i := 360) (by decide +kernel), List.mem_of_getElem? (i := 1005) (by decide +kernel), List.mem_of_getElem? (i := 1006) (by decide +kernel)⟩
theorem lw_p66 : lw_okq (⟨"CliffGarden$Rounds", "least", "()I"⟩, 8) := ⟨⟨by decide +kernel, by decide +kernel⟩, List.mem_of_getElem? (i := 360) (by decide +kernel), List.mem_of_getElem? (i := 1009) (by decide +kernel), List.mem_of_getElem? (i := 1010) (by decide +kernel)⟩
theorem lw_p67 : lw_okq (⟨"CliffGarden$Rounds", "cellAt", "(I)I"⟩, 8) := ⟨⟨by decide +kernel, by decide +kernel⟩, List.mem_of_getElem? (i := 360) (by decide +kernel), List.mem_of_getElem? (i := 1013) (by decide +kernel), List.mem_of_getElem? (i := 1014) (by decide +kernel)⟩
theorem lw_p68 : lw_okq (⟨"CliffGarden$Nets", "columnsOf", "(I)I"⟩, 14) := ⟨⟨by decide +kernel, by decide +kernel⟩, List.mem_of_getElem? (i := 33) (by decide +kernel), List.mem_of_getElem? (i := 1022) (by decide +kernel), List.mem_of_getElem? (i := 1023) (by decide +kernel)⟩
theorem lw_p69 : lw_okq (⟨"CliffGarden$Swallow", "fly", "(IIII)V"⟩, 4) := ⟨⟨by decide +kernel, by decide +kernel⟩, List.mem_of_getElem? (i := 423) (by decide +kernel), List.mem_of_getElem? (i := 1026) (by decide +kernel), List.mem_of_getElem? (i := 1027) (by decide +kernel)⟩
theorem lw_p70 : lw_okq (⟨"CliffGarden$Swallow", "arrive", "(IIIII)V"⟩, 4) := ⟨⟨by decide +kernel, by decide +kernel⟩, List.mem_of_getElem? (i := 423) (by decide +kernel), List.mem_of_getElem? (i := 1031) (by decide +kernel), List.mem_of_getElem? (i := 1032) (by decide +kernel)⟩
theorem lw_p71 : lw_okq (⟨"CliffGarden$Swallow", "cancel", "(I)V"⟩, 4) := ⟨⟨by decide +kernel, by decide +kernel⟩, List.mem_of_getElem? (i := 423) (by decide +kernel), List.mem_of_getElem? (i := 1038) (by decide +kernel), List.mem_of_getElem? (i := 1039) (by decide +kernel)⟩
theorem lw_p72 : lw_okq (⟨"CliffGarden$Planting", "choose", "(J)Z"⟩, 8) := ⟨⟨by decide +kernel, by decide +kernel⟩, List.mem_of_getElem? (i := 391) (by decide +kernel), List.mem_of_getElem? (i := 1050) (by decide +kernel), List.mem_of_getElem? (i := 1051) (by decide +kernel)⟩
theorem lw_p73 : lw_okq (⟨"CliffGarden$Nets", "ripeLoadOf", "(I)I"⟩, 14) := ⟨⟨by decide +kernel, by decide +kernel⟩, List.mem_of_getElem? (i := 33) (by decide +kernel), List.mem_of_getElem? (i := 1055) (by decide +kernel), List.mem_of_getElem? (i := 1056) (by decide +kernel)⟩
theorem lw_p74 : lw_okq (⟨"CliffGarden$Planting", "tryCell", "(II)V"⟩, 8) := ⟨⟨by decide +kernel, by decide +kernel⟩, List.mem_of_getElem? (i := 391) (by decide +kernel), List.mem_of_getElem? (i := 1060) (by decide +kernel), List.mem_of_getElem? (i := 1061) (by decide +kernel)⟩
theorem lw_p75 : lw_okq (⟨"CliffGarden$Planting", "fits", "(II)Z"⟩, 8) := ⟨⟨by decide +kernel, by decide +kernel⟩, List.mem_of_getElem? (i := 391) (by decide +kernel), List.mem_of_getElem? (i := 1065) (by decide +kernel), List.mem_of_getElem? (i := 1066) (by decide +kernel)⟩
theorem lw_p76 : lw_okq (⟨"CliffGarden$Planting", "burden", "(II)V"⟩, 8) := ⟨⟨by decide +kernel, by decide +kernel⟩, List.mem_of_getElem? (i := 391) (by decide +kernel), List.mem_of_getElem? (i := 1069) (by decide +kernel), List.mem_of_getElem? (i := 1070) (by decide +kernel)⟩
theorem lw_p77 : lw_okq (⟨"CliffGarden$Planting", "carryOut", "()V"⟩, 8) := ⟨⟨by decide +kernel, by decide +kernel⟩, List.mem_of_getElem? (i := 391) (by decide +kernel), List.mem_of_getElem? (i := 1073) (by decide +kernel), List.mem_of_getElem? (i := 1074) (by decide +kernel)⟩
theorem lw_p78 : lw_okq (⟨"CliffGarden$Planting", "kindAt", "(I)I"⟩, 8) := ⟨⟨by decide +kernel, by decide +kernel⟩, List.mem_of_getElem? (i := 391) (by decide +kernel), List.mem_of_getElem? (i := 1078) (by decide +kernel), List.mem_of_getElem? (i := 1079) (by decide +kernel)⟩
theorem lw_p79 : lw_okq (⟨"CliffGarden$Water", "share", "(II)V"⟩, 11) := ⟨⟨by decide +kernel, by decide +kernel⟩, List.mem_of_getElem? (i := 281) (by decide +kernel), List.mem_of_getElem? (i := 1093) (by decide +kernel), List.mem_of_getElem? (i := 1094) (by decide +kernel)⟩
def lw_privs_5 : List (MethodName × Nat) := [(⟨"CliffGarden$Rounds", "costVia", "(IIII)I"⟩, 8), (⟨"CliffGarden$Rounds", "findRow", "(I)V"⟩, 8), (⟨"CliffGarden$Rounds", "least", "()I"⟩, 8), (⟨"CliffGarden$Rounds", "cellAt", "(I)I"⟩, 8), (⟨"CliffGarden$Nets", "columnsOf", "(I)I"⟩, 14), (⟨"CliffGarden$Swallow", "fly", "(IIII)V"⟩, 4), (⟨"CliffGarden$Swallow", "arrive", "(IIIII)V"⟩, 4), (⟨"CliffGarden$Swallow", "cancel", "(I)V"⟩, 4), (⟨"CliffGarden$Planting", "choose", "(J)Z"⟩, 8), (⟨"CliffGarden$Nets", "ripeLoadOf", "(I)I"⟩, 14), (⟨"CliffGarden$Planting", "tryCell", "(II)V"⟩, 8), (⟨"CliffGarden$Planting", "fits", "(II)Z"⟩, 8), (⟨"CliffGarden$Planting", "burden", "(II)V"⟩, 8), (⟨"CliffGarden$Planting", "carryOut", "()V"⟩, 8), (⟨"CliffGarden$Planting", "kindAt", "(I)I"⟩, 8), (⟨"CliffGarden$Water", "share", "(II)V"⟩, 11)]
theorem lw_r5 : ∀ q ∈ lw_privs_5, lw_okq q := List.forall_mem_cons.mpr ⟨lw_p64, List.forall_mem_cons.mpr ⟨lw_p65, List.forall_mem_cons.mpr ⟨lw_p66, List.forall_mem_cons.mpr ⟨lw_p67, List.forall_mem_cons.mpr ⟨lw_p68, List.forall_mem_cons.mpr ⟨lw_p69, List.forall_mem_cons.mpr ⟨lw_p70, List.forall_mem_cons.mpr ⟨lw_p71, List.forall_mem_cons.mpr ⟨lw_p72, List.forall_mem_cons.mpr ⟨lw_p73, List.forall_mem_cons.mpr ⟨lw_p74, List.forall_mem_cons.mpr ⟨lw_p75, List.forall_mem_cons.mpr ⟨lw_p76, List.forall_mem_cons.mpr ⟨lw_p77, List.forall_mem_cons.mpr ⟨lw_p78, List.forall_mem_cons.mpr ⟨lw_p79, fun _ h => absurd h List.not_mem_nil⟩⟩⟩⟩⟩⟩⟩⟩⟩⟩⟩⟩⟩⟩⟩⟩
theorem lw_p80 : lw_okq (⟨"CliffGarden$Water", "reckonGrowth", "(I)V"⟩, 11) := ⟨⟨by decide +kernel, by decide +kernel⟩, List.mem_of_getElem? (i := 281) (by decide +kernel), List.mem_of_getElem? (i := 1097) (by decide +kernel), List.mem_of_getElem? (i := 1098) (by decide +kernel)⟩
theorem lw_p81 : lw_okq (⟨"CliffGarden$Water", "tryValve", "(II)V"⟩, 11) := ⟨⟨by decide +kernel, by decide +kernel⟩, List.mem_of_getElem? (i := 281) (by decide +kernel), List.mem_of_getElem? (i := 1103) (by decide +kernel), List.mem_of_getElem? (i := 1104) (by decide +kernel)⟩
theorem lw_p82 : lw_okq (⟨"CliffGarden$Water", "weighTrial", "()V"⟩, 11) := ⟨⟨by decide +kernel, by decide +kernel⟩, List.mem_of_getElem? (i := 281) (by decide +kernel), List.mem_of_getElem? (i := 1107) (by decide +kernel), List.mem_of_getElem? (i := 1108) (by decide +kernel)⟩
theorem lw_p83 : lw_okq (⟨"CliffGarden$Water", "dropsAt", "(I)I"⟩, 11) := ⟨⟨by decide +kernel, by decide +kernel⟩, List.mem_of_getElem? (i := 281) (by decide +kernel), List.mem_of_getElem? (i := 1112) (by decide +kernel), List.mem_of_getElem? (i := 1113) (by decide +kernel)⟩
theorem lw_p84 : lw_okq (⟨"CliffGarden$Rounds", "asMending", "([I)V"⟩, 8) := ⟨⟨by decide +kernel, by decide +kernel⟩, List.mem_of_getElem? (i := 360) (by decide +kernel), List.mem_of_getElem? (i := 1121) (by decide +kernel), List.mem_of_getElem? (i := 1122) (by decide +kernel)⟩
theorem lw_p85 : lw_okq (⟨"CliffGarden$Nets", "highestFall", "(II)I"⟩, 14) := ⟨⟨by decide +kernel, by decide +kernel⟩, List.mem_of_getElem? (i := 33) (by decide +kernel), List.mem_of_getElem? (i := 1130) (by decide +kernel), List.mem_of_getElem? (i := 1131) (by decide +kernel)⟩
theorem lw_p86 : lw_okq (⟨"CliffGarden$Tape", "numberAt", "(I)I"⟩, 2) := ⟨⟨by decide +kernel, by decide +kernel⟩, List.mem_of_getElem? (i := 323) (by decide +kernel), List.mem_of_getElem? (i := 1138) (by decide +kernel), List.mem_of_getElem? (i := 1139) (by decide +kernel)⟩
theorem lw_p87 : lw_okq (⟨"CliffGarden$Nets", "crops", "()I"⟩, 14) := ⟨⟨by decide +kernel, by decide +kernel⟩, List.mem_of_getElem? (i := 33) (by decide +kernel), List.mem_of_getElem? (i := 1146) (by decide +kernel), List.mem_of_getElem? (i := 1147) (by decide +kernel)⟩
theorem lw_p88 : lw_okq (⟨"CliffGarden", "countOfRow", "(I)I"⟩, 12) := ⟨⟨by decide +kernel, by decide +kernel⟩, List.mem_of_getElem? (i := 25) (by decide +kernel), List.mem_of_getElem? (i := 1150) (by decide +kernel), List.mem_of_getElem? (i := 1151) (by decide +kernel)⟩
theorem lw_p89 : lw_okq (⟨"CliffGardenModel", "empties", "(I)V"⟩, 78) := ⟨⟨by decide +kernel, by decide +kernel⟩, List.mem_of_getElem? (i := 1154) (by decide +kernel), List.mem_of_getElem? (i := 1409) (by decide +kernel), List.mem_of_getElem? (i := 1410) (by decide +kernel)⟩
theorem lw_p90 : lw_okq (⟨"CliffGardenModel", "isHung", "(II)Z"⟩, 78) := ⟨⟨by decide +kernel, by decide +kernel⟩, List.mem_of_getElem? (i := 1154) (by decide +kernel), List.mem_of_getElem? (i := 1417) (by decide +kernel), List.mem_of_getElem? (i := 1418) (by decide +kernel)⟩
theorem lw_p91 : lw_okq (⟨"CliffGardenModel", "types", "(I)V"⟩, 78) := ⟨⟨by decide +kernel, by decide +kernel⟩, List.mem_of_getElem? (i := 1154) (by decide +kernel), List.mem_of_getElem? (i := 1450) (by decide +kernel), List.mem_of_getElem? (i := 1451) (by decide +kernel)⟩
theorem lw_p92 : lw_okq (⟨"CliffGardenModel", "readsClause", "()Z"⟩, 78) := ⟨⟨by decide +kernel, by decide +kernel⟩, List.mem_of_getElem? (i := 1154) (by decide +kernel), List.mem_of_getElem? (i := 1458) (by decide +kernel), List.mem_of_getElem? (i := 1459) (by decide +kernel)⟩
theorem lw_p93 : lw_okq (⟨"CliffGardenModel", "here", "()I"⟩, 78) := ⟨⟨by decide +kernel, by decide +kernel⟩, List.mem_of_getElem? (i := 1154) (by decide +kernel), List.mem_of_getElem? (i := 1462) (by decide +kernel), List.mem_of_getElem? (i := 1463) (by decide +kernel)⟩
theorem lw_p94 : lw_okq (⟨"CliffGardenModel", "wrongAt", "(II)Z"⟩, 78) := ⟨⟨by decide +kernel, by decide +kernel⟩, List.mem_of_getElem? (i := 1154) (by decide +kernel), List.mem_of_getElem? (i := 1469) (by decide +kernel), List.mem_of_getElem? (i := 1470) (by decide +kernel)⟩
theorem lw_p95 : lw_okq (⟨"CliffGardenModel", "readsSum", "()Z"⟩, 78) := ⟨⟨by decide +kernel, by decide +kernel⟩, List.mem_of_getElem? (i := 1154) (by decide +kernel), List.mem_of_getElem? (i := 1473) (by decide +kernel), List.mem_of_getElem? (i := 1474) (by decide +kernel)⟩
def lw_privs_6 : List (MethodName × Nat) := [(⟨"CliffGarden$Water", "reckonGrowth", "(I)V"⟩, 11), (⟨"CliffGarden$Water", "tryValve", "(II)V"⟩, 11), (⟨"CliffGarden$Water", "weighTrial", "()V"⟩, 11), (⟨"CliffGarden$Water", "dropsAt", "(I)I"⟩, 11), (⟨"CliffGarden$Rounds", "asMending", "([I)V"⟩, 8), (⟨"CliffGarden$Nets", "highestFall", "(II)I"⟩, 14), (⟨"CliffGarden$Tape", "numberAt", "(I)I"⟩, 2), (⟨"CliffGarden$Nets", "crops", "()I"⟩, 14), (⟨"CliffGarden", "countOfRow", "(I)I"⟩, 12), (⟨"CliffGardenModel", "empties", "(I)V"⟩, 78), (⟨"CliffGardenModel", "isHung", "(II)Z"⟩, 78), (⟨"CliffGardenModel", "types", "(I)V"⟩, 78), (⟨"CliffGardenModel", "readsClause", "()Z"⟩, 78), (⟨"CliffGardenModel", "here", "()I"⟩, 78), (⟨"CliffGardenModel", "wrongAt", "(II)Z"⟩, 78), (⟨"CliffGardenModel", "readsSum", "()Z"⟩, 78)]
theorem lw_r6 : ∀ q ∈ lw_privs_6, lw_okq q := List.forall_mem_cons.mpr ⟨lw_p80, List.forall_mem_cons.mpr ⟨lw_p81, List.forall_mem_cons.mpr ⟨lw_p82, List.forall_mem_cons.mpr ⟨lw_p83, List.forall_mem_cons.mpr ⟨lw_p84, List.forall_mem_cons.mpr ⟨lw_p85, List.forall_mem_cons.mpr ⟨lw_p86, List.forall_mem_cons.mpr ⟨lw_p87, List.forall_mem_cons.mpr ⟨lw_p88, List.forall_mem_cons.mpr ⟨lw_p89, List.forall_mem_cons.mpr ⟨lw_p90, List.forall_mem_cons.mpr ⟨lw_p91, List.forall_mem_cons.mpr ⟨lw_p92, List.forall_mem_cons.mpr ⟨lw_p93, List.forall_mem_cons.mpr ⟨lw_p94, List.forall_mem_cons.mpr ⟨lw_p95, fun _ h => absurd h List.not_mem_nil⟩⟩⟩⟩⟩⟩⟩⟩⟩⟩⟩⟩⟩⟩⟩⟩
theorem lw_p96 : lw_okq (⟨"CliffGardenModel", "readsFactor", "()Z"⟩, 78) := ⟨⟨by decide +kernel, by decide +kernel⟩, List.mem_of_getElem? (i := 1154) (by decide +kernel), List.mem_of_getElem? (i := 1477) (by decide +kernel), List.mem_of_getElem? (i := 1478) (by decide +kernel)⟩
theorem lw_p97 : lw_okq (⟨"CliffGardenModel", "opens", "(I)Z"⟩, 78) := ⟨⟨by decide +kernel, by decide +kernel⟩, List.mem_of_getElem? (i := 1154) (by decide +kernel), List.mem_of_getElem? (i := 1481) (by decide +kernel), List.mem_of_getElem? (i := 1482) (by decide +kernel)⟩
theorem lw_p98 : lw_okq (⟨"CliffGardenModel", "isDigit", "()Z"⟩, 78) := ⟨⟨by decide +kernel, by decide +kernel⟩, List.mem_of_getElem? (i := 1154) (by decide +kernel), List.mem_of_getElem? (i := 1486) (by decide +kernel), List.mem_of_getElem? (i := 1487) (by decide +kernel)⟩
theorem lw_p99 : lw_okq (⟨"CliffGardenModel", "readsNumber", "()Z"⟩, 78) := ⟨⟨by decide +kernel, by decide +kernel⟩, List.mem_of_getElem? (i := 1154) (by decide +kernel), List.mem_of_getElem? (i := 1490) (by decide +kernel), List.mem_of_getElem? (i := 1491) (by decide +kernel)⟩
theorem lw_p100 : lw_okq (⟨"CliffGardenModel", "notes", "(II)V"⟩, 78) := ⟨⟨by decide +kernel, by decide +kernel⟩, List.mem_of_getElem? (i := 1154) (by decide +kernel), List.mem_of_getElem? (i := 1494) (by decide +kernel), List.mem_of_getElem? (i := 1495) (by decide +kernel)⟩
theorem lw_p101 : lw_okq (⟨"CliffGardenModel", "closesSums", "(Z)V"⟩, 78) := ⟨⟨by decide +kernel, by decide +kernel⟩, List.mem_of_getElem? (i := 1154) (by decide +kernel), List.mem_of_getElem? (i := 1504) (by decide +kernel), List.mem_of_getElem? (i := 1505) (by decide +kernel)⟩
theorem lw_p102 : lw_okq (⟨"CliffGardenModel", "top", "()I"⟩, 78) := ⟨⟨by decide +kernel, by decide +kernel⟩, List.mem_of_getElem? (i := 1154) (by decide +kernel), List.mem_of_getElem? (i := 1508) (by decide +kernel), List.mem_of_getElem? (i := 1509) (by decide +kernel)⟩
theorem lw_p103 : lw_okq (⟨"CliffGardenModel", "hasOpenSum", "(I)Z"⟩, 78) := ⟨⟨by decide +kernel, by decide +kernel⟩, List.mem_of_getElem? (i := 1154) (by decide +kernel), List.mem_of_getElem? (i := 1512) (by decide +kernel), List.mem_of_getElem? (i := 1513) (by decide +kernel)⟩
theorem lw_p104 : lw_okq (⟨"CliffGardenModel", "readsCondition", "()Z"⟩, 78) := ⟨⟨by decide +kernel, by decide +kernel⟩, List.mem_of_getElem? (i := 1154) (by decide +kernel), List.mem_of_getElem? (i := 1516) (by decide +kernel), List.mem_of_getElem? (i := 1517) (by decide +kernel)⟩
theorem lw_p105 : lw_okq (⟨"CliffGardenModel", "readsCompared", "()Z"⟩, 78) := ⟨⟨by decide +kernel, by decide +kernel⟩, List.mem_of_getElem? (i := 1154) (by decide +kernel), List.mem_of_getElem? (i := 1520) (by decide +kernel), List.mem_of_getElem? (i := 1521) (by decide +kernel)⟩
theorem lw_p106 : lw_okq (⟨"CliffGardenModel", "endsPiece", "()V"⟩, 78) := ⟨⟨by decide +kernel, by decide +kernel⟩, List.mem_of_getElem? (i := 1154) (by decide +kernel), List.mem_of_getElem? (i := 1524) (by decide +kernel), List.mem_of_getElem? (i := 1525) (by decide +kernel)⟩
theorem lw_p107 : lw_okq (⟨"CliffGardenModel", "lands", "(Z)V"⟩, 78) := ⟨⟨by decide +kernel, by decide +kernel⟩, List.mem_of_getElem? (i := 1154) (by decide +kernel), List.mem_of_getElem? (i := 1528) (by decide +kernel), List.mem_of_getElem? (i := 1529) (by decide +kernel)⟩
theorem lw_p108 : lw_okq (⟨"CliffGardenModel", "jumps", "(I)V"⟩, 78) := ⟨⟨by decide +kernel, by decide +kernel⟩, List.mem_of_getElem? (i := 1154) (by decide +kernel), List.mem_of_getElem? (i := 1532) (by decide +kernel), List.mem_of_getElem? (i := 1533) (by decide +kernel)⟩
theorem lw_p109 : lw_okq (⟨"CliffGardenModel", "takes", "(I)Z"⟩, 78) := ⟨⟨by decide +kernel, by decide +kernel⟩, List.mem_of_getElem? (i := 1154) (by decide +kernel), List.mem_of_getElem? (i := 1536) (by decide +kernel), List.mem_of_getElem? (i := 1537) (by decide +kernel)⟩
theorem lw_p110 : lw_okq (⟨"CliffGardenModel", "asked", "(III)I"⟩, 78) := ⟨⟨by decide +kernel, by decide +kernel⟩, List.mem_of_getElem? (i := 1154) (by decide +kernel), List.mem_of_getElem? (i := 1544) (by decide +kernel), List.mem_of_getElem? (i := 1545) (by decide +kernel)⟩
theorem lw_p111 : lw_okq (⟨"CliffGardenModel", "feels", "(I)V"⟩, 78) := ⟨⟨by decide +kernel, by decide +kernel⟩, List.mem_of_getElem? (i := 1154) (by decide +kernel), List.mem_of_getElem? (i := 1548) (by decide +kernel), List.mem_of_getElem? (i := 1549) (by decide +kernel)⟩
def lw_privs_7 : List (MethodName × Nat) := [(⟨"CliffGardenModel", "readsFactor", "()Z"⟩, 78), (⟨"CliffGardenModel", "opens", "(I)Z"⟩, 78), (⟨"CliffGardenModel", "isDigit", "()Z"⟩, 78), (⟨"CliffGardenModel", "readsNumber", "()Z"⟩, 78), (⟨"CliffGardenModel", "notes", "(II)V"⟩, 78), (⟨"CliffGardenModel", "closesSums", "(Z)V"⟩, 78), (⟨"CliffGardenModel", "top", "()I"⟩, 78), (⟨"CliffGardenModel", "hasOpenSum", "(I)Z"⟩, 78), (⟨"CliffGardenModel", "readsCondition", "()Z"⟩, 78), (⟨"CliffGardenModel", "readsCompared", "()Z"⟩, 78), (⟨"CliffGardenModel", "endsPiece", "()V"⟩, 78), (⟨"CliffGardenModel", "lands", "(Z)V"⟩, 78), (⟨"CliffGardenModel", "jumps", "(I)V"⟩, 78), (⟨"CliffGardenModel", "takes", "(I)Z"⟩, 78), (⟨"CliffGardenModel", "asked", "(III)I"⟩, 78), (⟨"CliffGardenModel", "feels", "(I)V"⟩, 78)]
theorem lw_r7 : ∀ q ∈ lw_privs_7, lw_okq q := List.forall_mem_cons.mpr ⟨lw_p96, List.forall_mem_cons.mpr ⟨lw_p97, List.forall_mem_cons.mpr ⟨lw_p98, List.forall_mem_cons.mpr ⟨lw_p99, List.forall_mem_cons.mpr ⟨lw_p100, List.forall_mem_cons.mpr ⟨lw_p101, List.forall_mem_cons.mpr ⟨lw_p102, List.forall_mem_cons.mpr ⟨lw_p103, List.forall_mem_cons.mpr ⟨lw_p104, List.forall_mem_cons.mpr ⟨lw_p105, List.forall_mem_cons.mpr ⟨lw_p106, List.forall_mem_cons.mpr ⟨lw_p107, List.forall_mem_cons.mpr ⟨lw_p108, List.forall_mem_cons.mpr ⟨lw_p109, List.forall_mem_cons.mpr ⟨lw_p110, List.forall_mem_cons.mpr ⟨lw_p111, fun _ h => absurd h List.not_mem_nil⟩⟩⟩⟩⟩⟩⟩⟩⟩⟩⟩⟩⟩⟩⟩⟩
theorem lw_p112 : lw_okq (⟨"CliffGardenModel", "feelsCell", "(III)V"⟩, 78) := ⟨⟨by decide +kernel, by decide +kernel⟩, List.mem_of_getElem? (i := 1154) (by decide +kernel), List.mem_of_getElem? (i := 1552) (by decide +kernel), List.mem_of_getElem? (i := 1553) (by decide +kernel)⟩
theorem lw_p113 : lw_okq (⟨"CliffGardenModel", "isRipe", "(I)Z"⟩, 78) := ⟨⟨by decide +kernel, by decide +kernel⟩, List.mem_of_getElem? (i := 1154) (by decide +kernel), List.mem_of_getElem? (i := 1556) (by decide +kernel), List.mem_of_getElem? (i := 1557) (by decide +kernel)⟩
theorem lw_p114 : lw_okq (⟨"CliffGardenModel", "feelsCrop", "(IIZZ)V"⟩, 78) := ⟨⟨by decide +kernel, by decide +kernel⟩, List.mem_of_getElem? (i := 1154) (by decide +kernel), List.mem_of_getElem? (i := 1560) (by decide +kernel), List.mem_of_getElem? (i := 1561) (by decide +kernel)⟩
theorem lw_p115 : lw_okq (⟨"CliffGardenModel", "told", "(II)I"⟩, 78) := ⟨⟨by decide +kernel, by decide +kernel⟩, List.mem_of_getElem? (i := 1154) (by decide +kernel), List.mem_of_getElem? (i := 1564) (by decide +kernel), List.mem_of_getElem? (i := 1565) (by decide +kernel)⟩
theorem lw_p116 : lw_okq (⟨"CliffGardenModel", "comesTo", "(II)I"⟩, 78) := ⟨⟨by decide +kernel, by decide +kernel⟩, List.mem_of_getElem? (i := 1154) (by decide +kernel), List.mem_of_getElem? (i := 1568) (by decide +kernel), List.mem_of_getElem? (i := 1569) (by decide +kernel)⟩
theorem lw_p117 : lw_okq (⟨"CliffGardenModel", "flows", "()V"⟩, 78) := ⟨⟨by decide +kernel, by decide +kernel⟩, List.mem_of_getElem? (i := 1154) (by decide +kernel), List.mem_of_getElem? (i := 1579) (by decide +kernel), List.mem_of_getElem? (i := 1580) (by decide +kernel)⟩
theorem lw_p118 : lw_okq (⟨"CliffGardenModel", "drips", "(II)V"⟩, 78) := ⟨⟨by decide +kernel, by decide +kernel⟩, List.mem_of_getElem? (i := 1154) (by decide +kernel), List.mem_of_getElem? (i := 1583) (by decide +kernel), List.mem_of_getElem? (i := 1584) (by decide +kernel)⟩
theorem lw_p119 : lw_okq (⟨"CliffGardenModel", "sends", "(III)V"⟩, 78) := ⟨⟨by decide +kernel, by decide +kernel⟩, List.mem_of_getElem? (i := 1154) (by decide +kernel), List.mem_of_getElem? (i := 1587) (by decide +kernel), List.mem_of_getElem? (i := 1588) (by decide +kernel)⟩
theorem lw_p120 : lw_okq (⟨"CliffGardenModel", "loadOf", "(I)I"⟩, 78) := ⟨⟨by decide +kernel, by decide +kernel⟩, List.mem_of_getElem? (i := 1154) (by decide +kernel), List.mem_of_getElem? (i := 1598) (by decide +kernel), List.mem_of_getElem? (i := 1599) (by decide +kernel)⟩
theorem lw_p121 : lw_okq (⟨"CliffGardenModel", "ownLoad", "(I)I"⟩, 78) := ⟨⟨by decide +kernel, by decide +kernel⟩, List.mem_of_getElem? (i := 1154) (by decide +kernel), List.mem_of_getElem? (i := 1602) (by decide +kernel), List.mem_of_getElem? (i := 1603) (by decide +kernel)⟩
theorem lw_p122 : lw_okq (⟨"CliffGardenModel", "falls", "(IZ)I"⟩, 78) := ⟨⟨by decide +kernel, by decide +kernel⟩, List.mem_of_getElem? (i := 1154) (by decide +kernel), List.mem_of_getElem? (i := 1610) (by decide +kernel), List.mem_of_getElem? (i := 1611) (by decide +kernel)⟩
theorem lw_p123 : lw_okq (⟨"CliffGardenModel", "catcher", "(I)I"⟩, 78) := ⟨⟨by decide +kernel, by decide +kernel⟩, List.mem_of_getElem? (i := 1154) (by decide +kernel), List.mem_of_getElem? (i := 1614) (by decide +kernel), List.mem_of_getElem? (i := 1615) (by decide +kernel)⟩
theorem lw_p124 : lw_okq (⟨"CliffGardenModel", "writes", "(IIII)V"⟩, 78) := ⟨⟨by decide +kernel, by decide +kernel⟩, List.mem_of_getElem? (i := 1154) (by decide +kernel), List.mem_of_getElem? (i := 1618) (by decide +kernel), List.mem_of_getElem? (i := 1619) (by decide +kernel)⟩
theorem lw_p125 : lw_okq (⟨"CliffGardenModel", "firstGoing", "()I"⟩, 78) := ⟨⟨by decide +kernel, by decide +kernel⟩, List.mem_of_getElem? (i := 1154) (by decide +kernel), List.mem_of_getElem? (i := 1626) (by decide +kernel), List.mem_of_getElem? (i := 1627) (by decide +kernel)⟩
theorem lw_p126 : lw_okq (⟨"CliffGardenModel", "goesOff", "(IZ)I"⟩, 78) := ⟨⟨by decide +kernel, by decide +kernel⟩, List.mem_of_getElem? (i := 1154) (by decide +kernel), List.mem_of_getElem? (i := 1630) (by decide +kernel), List.mem_of_getElem? (i := 1631) (by decide +kernel)⟩
theorem lw_p127 : lw_okq (⟨"CliffGardenModel", "tears", "(III)V"⟩, 78) := ⟨⟨by decide +kernel, by decide +kernel⟩, List.mem_of_getElem? (i := 1154) (by decide +kernel), List.mem_of_getElem? (i := 1634) (by decide +kernel), List.mem_of_getElem? (i := 1635) (by decide +kernel)⟩
def lw_privs_8 : List (MethodName × Nat) := [(⟨"CliffGardenModel", "feelsCell", "(III)V"⟩, 78), (⟨"CliffGardenModel", "isRipe", "(I)Z"⟩, 78), (⟨"CliffGardenModel", "feelsCrop", "(IIZZ)V"⟩, 78), (⟨"CliffGardenModel", "told", "(II)I"⟩, 78), (⟨"CliffGardenModel", "comesTo", "(II)I"⟩, 78), (⟨"CliffGardenModel", "flows", "()V"⟩, 78), (⟨"CliffGardenModel", "drips", "(II)V"⟩, 78), (⟨"CliffGardenModel", "sends", "(III)V"⟩, 78), (⟨"CliffGardenModel", "loadOf", "(I)I"⟩, 78), (⟨"CliffGardenModel", "ownLoad", "(I)I"⟩, 78), (⟨"CliffGardenModel", "falls", "(IZ)I"⟩, 78), (⟨"CliffGardenModel", "catcher", "(I)I"⟩, 78), (⟨"CliffGardenModel", "writes", "(IIII)V"⟩, 78), (⟨"CliffGardenModel", "firstGoing", "()I"⟩, 78), (⟨"CliffGardenModel", "goesOff", "(IZ)I"⟩, 78), (⟨"CliffGardenModel", "tears", "(III)V"⟩, 78)]
theorem lw_r8 : ∀ q ∈ lw_privs_8, lw_okq q := List.forall_mem_cons.mpr ⟨lw_p112, List.forall_mem_cons.mpr ⟨lw_p113, List.forall_mem_cons.mpr ⟨lw_p114, List.forall_mem_cons.mpr ⟨lw_p115, List.forall_mem_cons.mpr ⟨lw_p116, List.forall_mem_cons.mpr ⟨lw_p117, List.forall_mem_cons.mpr ⟨lw_p118, List.forall_mem_cons.mpr ⟨lw_p119, List.forall_mem_cons.mpr ⟨lw_p120, List.forall_mem_cons.mpr ⟨lw_p121, List.forall_mem_cons.mpr ⟨lw_p122, List.forall_mem_cons.mpr ⟨lw_p123, List.forall_mem_cons.mpr ⟨lw_p124, List.forall_mem_cons.mpr ⟨lw_p125, List.forall_mem_cons.mpr ⟨lw_p126, List.forall_mem_cons.mpr ⟨lw_p127, fun _ h => absurd h List.not_mem_nil⟩⟩⟩⟩⟩⟩⟩⟩⟩⟩⟩⟩⟩⟩⟩⟩
theorem lw_p128 : lw_okq (⟨"CliffGardenModel", "isFall", "(I)Z"⟩, 78) := ⟨⟨by decide +kernel, by decide +kernel⟩, List.mem_of_getElem? (i := 1154) (by decide +kernel), List.mem_of_getElem? (i := 1657) (by decide +kernel), List.mem_of_getElem? (i := 1658) (by decide +kernel)⟩
theorem lw_p129 : lw_okq (⟨"CliffGardenModel", "claimer", "(II)I"⟩, 78) := ⟨⟨by decide +kernel, by decide +kernel⟩, List.mem_of_getElem? (i := 1154) (by decide +kernel), List.mem_of_getElem? (i := 1665) (by decide +kernel), List.mem_of_getElem? (i := 1666) (by decide +kernel)⟩
theorem lw_p130 : lw_okq (⟨"CliffGardenModel", "mayBe", "(II)Z"⟩, 78) := ⟨⟨by decide +kernel, by decide +kernel⟩, List.mem_of_getElem? (i := 1154) (by decide +kernel), List.mem_of_getElem? (i := 1685) (by decide +kernel), List.mem_of_getElem? (i := 1686) (by decide +kernel)⟩
theorem lw_p131 : lw_okq (⟨"CliffGardenModel", "lays", "(JI)Z"⟩, 78) := ⟨⟨by decide +kernel, by decide +kernel⟩, List.mem_of_getElem? (i := 1154) (by decide +kernel), List.mem_of_getElem? (i := 1693) (by decide +kernel), List.mem_of_getElem? (i := 1694) (by decide +kernel)⟩
theorem lw_p132 : lw_okq (⟨"CliffGardenModel", "laysHours", "()V"⟩, 78) := ⟨⟨by decide +kernel, by decide +kernel⟩, List.mem_of_getElem? (i := 1154) (by decide +kernel), List.mem_of_getElem? (i := 1698) (by decide +kernel), List.mem_of_getElem? (i := 1699) (by decide +kernel)⟩
theorem lw_p133 : lw_okq (⟨"CliffGardenModel", "takesUp", "(II)J"⟩, 78) := ⟨⟨by decide +kernel, by decide +kernel⟩, List.mem_of_getElem? (i := 1154) (by decide +kernel), List.mem_of_getElem? (i := 1713) (by decide +kernel), List.mem_of_getElem? (i := 1714) (by decide +kernel)⟩
theorem lw_p134 : lw_okq (⟨"CliffGardenModel", "hasKind", "(II)Z"⟩, 78) := ⟨⟨by decide +kernel, by decide +kernel⟩, List.mem_of_getElem? (i := 1154) (by decide +kernel), List.mem_of_getElem? (i := 1717) (by decide +kernel), List.mem_of_getElem? (i := 1718) (by decide +kernel)⟩
theorem lw_p135 : lw_okq (⟨"CliffGardenModel", "flies", "()V"⟩, 78) := ⟨⟨by decide +kernel, by decide +kernel⟩, List.mem_of_getElem? (i := 1154) (by decide +kernel), List.mem_of_getElem? (i := 1721) (by decide +kernel), List.mem_of_getElem? (i := 1722) (by decide +kernel)⟩
theorem lw_p136 : lw_okq (⟨"CliffGardenModel", "areWhole", "()Z"⟩, 78) := ⟨⟨by decide +kernel, by decide +kernel⟩, List.mem_of_getElem? (i := 1154) (by decide +kernel), List.mem_of_getElem? (i := 1740) (by decide +kernel), List.mem_of_getElem? (i := 1741) (by decide +kernel)⟩
theorem lw_p137 : lw_okq (⟨"CliffGardenModel", "bearsAll", "()Z"⟩, 78) := ⟨⟨by decide +kernel, by decide +kernel⟩, List.mem_of_getElem? (i := 1154) (by decide +kernel), List.mem_of_getElem? (i := 1744) (by decide +kernel), List.mem_of_getElem? (i := 1745) (by decide +kernel)⟩
theorem lw_p138 : lw_okq (⟨"CliffGardenModel", "growth", "()I"⟩, 78) := ⟨⟨by decide +kernel, by decide +kernel⟩, List.mem_of_getElem? (i := 1154) (by decide +kernel), List.mem_of_getElem? (i := 1755) (by decide +kernel), List.mem_of_getElem? (i := 1756) (by decide +kernel)⟩
theorem lw_p139 : lw_okq (⟨"CliffGardenModel", "canBeNext", "(II)Z"⟩, 78) := ⟨⟨by decide +kernel, by decide +kernel⟩, List.mem_of_getElem? (i := 1154) (by decide +kernel), List.mem_of_getElem? (i := 1763) (by decide +kernel), List.mem_of_getElem? (i := 1764) (by decide +kernel)⟩
theorem lw_p140 : lw_okq (⟨"CliffGardenModel", "costBy", "(II)I"⟩, 78) := ⟨⟨by decide +kernel, by decide +kernel⟩, List.mem_of_getElem? (i := 1154) (by decide +kernel), List.mem_of_getElem? (i := 1767) (by decide +kernel), List.mem_of_getElem? (i := 1768) (by decide +kernel)⟩
theorem lw_p141 : lw_okq (⟨"CliffGardenModel", "hoursOf", "(I)I"⟩, 78) := ⟨⟨by decide +kernel, by decide +kernel⟩, List.mem_of_getElem? (i := 1154) (by decide +kernel), List.mem_of_getElem? (i := 1771) (by decide +kernel), List.mem_of_getElem? (i := 1772) (by decide +kernel)⟩
theorem lw_p142 : lw_okq (⟨"CliffGardenModel", "isHit", "(II)Z"⟩, 78) := ⟨⟨by decide +kernel, by decide +kernel⟩, List.mem_of_getElem? (i := 1154) (by decide +kernel), List.mem_of_getElem? (i := 1782) (by decide +kernel), List.mem_of_getElem? (i := 1783) (by decide +kernel)⟩
theorem lw_p143 : lw_okq (⟨"CliffGardenModel", "tapeNumber", "(I)I"⟩, 78) := ⟨⟨by decide +kernel, by decide +kernel⟩, List.mem_of_getElem? (i := 1154) (by decide +kernel), List.mem_of_getElem? (i := 1790) (by decide +kernel), List.mem_of_getElem? (i := 1791) (by decide +kernel)⟩
def lw_privs_9 : List (MethodName × Nat) := [(⟨"CliffGardenModel", "isFall", "(I)Z"⟩, 78), (⟨"CliffGardenModel", "claimer", "(II)I"⟩, 78), (⟨"CliffGardenModel", "mayBe", "(II)Z"⟩, 78), (⟨"CliffGardenModel", "lays", "(JI)Z"⟩, 78), (⟨"CliffGardenModel", "laysHours", "()V"⟩, 78), (⟨"CliffGardenModel", "takesUp", "(II)J"⟩, 78), (⟨"CliffGardenModel", "hasKind", "(II)Z"⟩, 78), (⟨"CliffGardenModel", "flies", "()V"⟩, 78), (⟨"CliffGardenModel", "areWhole", "()Z"⟩, 78), (⟨"CliffGardenModel", "bearsAll", "()Z"⟩, 78), (⟨"CliffGardenModel", "growth", "()I"⟩, 78), (⟨"CliffGardenModel", "canBeNext", "(II)Z"⟩, 78), (⟨"CliffGardenModel", "costBy", "(II)I"⟩, 78), (⟨"CliffGardenModel", "hoursOf", "(I)I"⟩, 78), (⟨"CliffGardenModel", "isHit", "(II)Z"⟩, 78), (⟨"CliffGardenModel", "tapeNumber", "(I)I"⟩, 78)]
theorem lw_r9 : ∀ q ∈ lw_privs_9, lw_okq q := List.forall_mem_cons.mpr ⟨lw_p128, List.forall_mem_cons.mpr ⟨lw_p129, List.forall_mem_cons.mpr ⟨lw_p130, List.forall_mem_cons.mpr ⟨lw_p131, List.forall_mem_cons.mpr ⟨lw_p132, List.forall_mem_cons.mpr ⟨lw_p133, List.forall_mem_cons.mpr ⟨lw_p134, List.forall_mem_cons.mpr ⟨lw_p135, List.forall_mem_cons.mpr ⟨lw_p136, List.forall_mem_cons.mpr ⟨lw_p137, List.forall_mem_cons.mpr ⟨lw_p138, List.forall_mem_cons.mpr ⟨lw_p139, List.forall_mem_cons.mpr ⟨lw_p140, List.forall_mem_cons.mpr ⟨lw_p141, List.forall_mem_cons.mpr ⟨lw_p142, List.forall_mem_cons.mpr ⟨lw_p143, fun _ h => absurd h List.not_mem_nil⟩⟩⟩⟩⟩⟩⟩⟩⟩⟩⟩⟩⟩⟩⟩⟩
theorem lw_p144 : lw_okq (⟨"CliffGardenModel", "cells", "(Z)I"⟩, 78) := ⟨⟨by decide +kernel, by decide +kernel⟩, List.mem_of_getElem? (i := 1154) (by decide +kernel), List.mem_of_getElem? (i := 1798) (by decide +kernel), List.mem_of_getElem? (i := 1799) (by decide +kernel)⟩
def lw_privs_10 : List (MethodName × Nat) := [(⟨"CliffGardenModel", "cells", "(Z)I"⟩, 78)]
theorem lw_r10 : ∀ q ∈ lw_privs_10, lw_okq q := List.forall_mem_cons.mpr ⟨lw_p144, fun _ h => absurd h List.not_mem_nil⟩
def lw_privs : List (MethodName × Nat) := lw_privs_1 ++ (lw_privs_2 ++ (lw_privs_3 ++ (lw_privs_4 ++ (lw_privs_5 ++ (lw_privs_6 ++ (lw_privs_7 ++ (lw_privs_8 ++ (lw_privs_9 ++ (lw_privs_10)))))))))
def lw_tbl : List Cond := k2_sels lw_privs ++ tables_1
theorem lw_privs_ok : ∀ q ∈ lw_privs, lw_okq q := by
  show ∀ q ∈ lw_privs_1 ++ (lw_privs_2 ++ (lw_privs_3 ++ (lw_privs_4 ++ (lw_privs_5 ++ (lw_privs_6 ++ (lw_privs_7 ++ (lw_privs_8 ++ (lw_privs_9 ++ (lw_privs_10))))))))), lw_okq q
  exact List.forall_mem_append.mpr ⟨lw_r1, List.forall_mem_append.mpr ⟨lw_r2, List.forall_mem_append.mpr ⟨lw_r3, List.forall_mem_append.mpr ⟨lw_r4, List.forall_mem_append.mpr ⟨lw_r5, List.forall_mem_append.mpr ⟨lw_r6, List.forall_mem_append.mpr ⟨lw_r7, List.forall_mem_append.mpr ⟨lw_r8, List.forall_mem_append.mpr ⟨lw_r9, lw_r10⟩⟩⟩⟩⟩⟩⟩⟩⟩
end
section
def RX0 : String := "CliffGarden$Brow"
def TX0 : u_T := fun k => match k with
  | 0 => ("CliffGarden$Brow", "valve", "[I", true)
  | 1 => ("CliffGarden$Brow", "owner", "[I", true)
  | 2 => ("CliffGarden$Brow", "roof", "[I", true)
  | 3 => ("CliffGarden$Brow", "drops", "[I", true)
  | 4 => ("CliffGarden$Brow", "holes", "[I", true)
  | 5 => ("CliffGarden$Brow", "bears", "[I", true)
  | 6 => ("CliffGarden$Brow", "hourCosts", "[I", true)
  | 7 => ("CliffGarden$Brow", "food", "[I", true)
  | _ => ("CliffGarden$Brow", "today", "I", false)
def tyX0 : Nat → FieldType := fun k => match k with
  | 0 => .array .int
  | 1 => .array .int
  | 2 => .array .int
  | 3 => .array .int
  | 4 => .array .int
  | 5 => .array .int
  | 6 => .array .int
  | 7 => .array .int
  | _ => .int
abbrev wsX00 : List Cond := u_ws RX0 TX0 9
theorem nmX0 : ∀ a, a < 9 → ∀ b, b < 9 → a ≠ b → (TX0 a).2.1 ≠ (TX0 b).2.1 := by decide +kernel
theorem tyX0_ok : ∀ k, k < 9 → parseFieldDescriptor (TX0 k).2.2.1 = some (tyX0 k) := by decide +kernel
def RX1 : String := "CliffGarden$Court"
def TX1 : u_T := fun k => match k with
  | 0 => ("CliffGarden$Court", "nets", "LCliffGarden$Nets;", true)
  | 1 => ("CliffGarden$Court", "brow", "LCliffGarden$Brow;", true)
  | 2 => ("CliffGarden$Court", "falls", "LCliffGarden$Falls;", true)
  | 3 => ("CliffGarden$Court", "seen", "[I", true)
  | _ => ("CliffGarden$Court", "law", "LCliffGarden$Statute;", false)
def tyX1 : Nat → FieldType := fun k => match k with
  | 0 => .object "CliffGarden$Nets"
  | 1 => .object "CliffGarden$Brow"
  | 2 => .object "CliffGarden$Falls"
  | 3 => .array .int
  | _ => .object "CliffGarden$Statute"
abbrev wsX10 : List Cond := u_ws RX1 TX1 5
theorem nmX1 : ∀ a, a < 5 → ∀ b, b < 5 → a ≠ b → (TX1 a).2.1 ≠ (TX1 b).2.1 := by decide +kernel
theorem tyX1_ok : ∀ k, k < 5 → parseFieldDescriptor (TX1 k).2.2.1 = some (tyX1 k) := by decide +kernel
def RX2 : String := "CliffGarden$Falls"
def TX2 : u_T := fun k => match k with
  | 0 => ("CliffGarden$Falls", "from", "[I", true)
  | 1 => ("CliffGarden$Falls", "kind", "[I", true)
  | 2 => ("CliffGarden$Falls", "weight", "[I", true)
  | 3 => ("CliffGarden$Falls", "ripe", "[Z", true)
  | 4 => ("CliffGarden$Falls", "pollinated", "[Z", true)
  | 5 => ("CliffGarden$Falls", "lies", "[I", true)
  | 6 => ("CliffGarden$Falls", "whose", "[I", true)
  | 7 => ("CliffGarden$Falls", "food", "[I", true)
  | 8 => ("CliffGarden$Falls", "day", "[I", true)
  | 9 => ("CliffGarden$Falls", "written", "I", false)
  | _ => ("CliffGarden$Falls", "happened", "I", false)
def tyX2 : Nat → FieldType := fun k => match k with
  | 0 => .array .int
  | 1 => .array .int
  | 2 => .array .int
  | 3 => .array .boolean
  | 4 => .array .boolean
  | 5 => .array .int
  | 6 => .array .int
  | 7 => .array .int
  | 8 => .array .int
  | 9 => .int
  | _ => .int
abbrev wsX20 : List Cond := u_ws RX2 TX2 11
theorem nmX2 : ∀ a, a < 11 → ∀ b, b < 11 → a ≠ b → (TX2 a).2.1 ≠ (TX2 b).2.1 := by decide +kernel
theorem tyX2_ok : ∀ k, k < 11 → parseFieldDescriptor (TX2 k).2.2.1 = some (tyX2 k) := by decide +kernel
def RX3 : String := "CliffGarden$Nets"
def TX3 : u_T := fun k => match k with
  | 0 => ("CliffGarden$Nets", "hanging", "J", false)
  | 1 => ("CliffGarden$Nets", "knot", "[I", true)
  | 2 => ("CliffGarden$Nets", "soil", "[I", true)
  | 3 => ("CliffGarden$Nets", "farmer", "[I", true)
  | 4 => ("CliffGarden$Nets", "way", "[I", true)
  | 5 => ("CliffGarden$Nets", "kind", "[I", true)
  | 6 => ("CliffGarden$Nets", "weight", "[I", true)
  | 7 => ("CliffGarden$Nets", "caught", "[I", true)
  | 8 => ("CliffGarden$Nets", "kept", "[I", true)
  | 9 => ("CliffGarden$Nets", "pollinated", "[Z", true)
  | 10 => ("CliffGarden$Nets", "need", "[I", true)
  | 11 => ("CliffGarden$Nets", "ripe", "[I", true)
  | 12 => ("CliffGarden$Nets", "worth", "[I", true)
  | _ => ("CliffGarden$Nets", "knotsBefore", "[I", true)
def tyX3 : Nat → FieldType := fun k => match k with
  | 0 => .long
  | 1 => .array .int
  | 2 => .array .int
  | 3 => .array .int
  | 4 => .array .int
  | 5 => .array .int
  | 6 => .array .int
  | 7 => .array .int
  | 8 => .array .int
  | 9 => .array .boolean
  | 10 => .array .int
  | 11 => .array .int
  | 12 => .array .int
  | _ => .array .int
abbrev wsX30 : List Cond := u_ws RX3 TX3 14
theorem nmX3 : ∀ a, a < 14 → ∀ b, b < 14 → a ≠ b → (TX3 a).2.1 ≠ (TX3 b).2.1 := by decide +kernel
theorem tyX3_ok : ∀ k, k < 14 → parseFieldDescriptor (TX3 k).2.2.1 = some (tyX3 k) := by decide +kernel
def RX4 : String := "CliffGarden$Planting"
def TX4 : u_T := fun k => match k with
  | 0 => ("CliffGarden$Planting", "nets", "LCliffGarden$Nets;", true)
  | 1 => ("CliffGarden$Planting", "brow", "LCliffGarden$Brow;", true)
  | 2 => ("CliffGarden$Planting", "spare", "[I", true)
  | 3 => ("CliffGarden$Planting", "cells", "[I", true)
  | 4 => ("CliffGarden$Planting", "trial", "[I", true)
  | 5 => ("CliffGarden$Planting", "best", "[I", true)
  | 6 => ("CliffGarden$Planting", "told", "I", false)
  | _ => ("CliffGarden$Planting", "mostWorth", "I", false)
def tyX4 : Nat → FieldType := fun k => match k with
  | 0 => .object "CliffGarden$Nets"
  | 1 => .object "CliffGarden$Brow"
  | 2 => .array .int
  | 3 => .array .int
  | 4 => .array .int
  | 5 => .array .int
  | 6 => .int
  | _ => .int
abbrev wsX40 : List Cond := u_ws RX4 TX4 8
theorem nmX4 : ∀ a, a < 8 → ∀ b, b < 8 → a ≠ b → (TX4 a).2.1 ≠ (TX4 b).2.1 := by decide +kernel
theorem tyX4_ok : ∀ k, k < 8 → parseFieldDescriptor (TX4 k).2.2.1 = some (tyX4 k) := by decide +kernel
def RX5 : String := "CliffGarden$Reader"
def TX5 : u_T := fun k => match k with
  | 0 => ("CliffGarden$Reader", "text", "LCliffGarden$Tape;", false)
  | 1 => ("CliffGarden$Reader", "into", "LCliffGarden$Statute;", false)
  | 2 => ("CliffGarden$Reader", "length", "I", false)
  | 3 => ("CliffGarden$Reader", "at", "I", false)
  | _ => ("CliffGarden$Reader", "fault", "I", false)
def tyX5 : Nat → FieldType := fun k => match k with
  | 0 => .object "CliffGarden$Tape"
  | 1 => .object "CliffGarden$Statute"
  | 2 => .int
  | 3 => .int
  | _ => .int
abbrev wsX50 : List Cond := u_ws RX5 TX5 5
theorem nmX5 : ∀ a, a < 5 → ∀ b, b < 5 → a ≠ b → (TX5 a).2.1 ≠ (TX5 b).2.1 := by decide +kernel
theorem tyX5_ok : ∀ k, k < 5 → parseFieldDescriptor (TX5 k).2.2.1 = some (tyX5 k) := by decide +kernel
def RX6 : String := "CliffGarden$Rounds"
def TX6 : u_T := fun k => match k with
  | 0 => ("CliffGarden$Rounds", "cells", "[I", true)
  | 1 => ("CliffGarden$Rounds", "step", "[I", true)
  | 2 => ("CliffGarden$Rounds", "worth", "[I", true)
  | 3 => ("CliffGarden$Rounds", "hours", "[I", true)
  | 4 => ("CliffGarden$Rounds", "ahead", "[I", true)
  | 5 => ("CliffGarden$Rounds", "onward", "[I", true)
  | 6 => ("CliffGarden$Rounds", "row", "[I", true)
  | _ => ("CliffGarden$Rounds", "told", "I", false)
def tyX6 : Nat → FieldType := fun k => match k with
  | 0 => .array .int
  | 1 => .array .int
  | 2 => .array .int
  | 3 => .array .int
  | 4 => .array .int
  | 5 => .array .int
  | 6 => .array .int
  | _ => .int
abbrev wsX60 : List Cond := u_ws RX6 TX6 8
theorem nmX6 : ∀ a, a < 8 → ∀ b, b < 8 → a ≠ b → (TX6 a).2.1 ≠ (TX6 b).2.1 := by decide +kernel
theorem tyX6_ok : ∀ k, k < 8 → parseFieldDescriptor (TX6 k).2.2.1 = some (tyX6 k) := by decide +kernel
def RX7 : String := "CliffGarden$Statute"
def TX7 : u_T := fun k => match k with
  | 0 => ("CliffGarden$Statute", "step", "[I", true)
  | 1 => ("CliffGarden$Statute", "operand", "[I", true)
  | 2 => ("CliffGarden$Statute", "letter", "[I", true)
  | 3 => ("CliffGarden$Statute", "begin", "[I", true)
  | 4 => ("CliffGarden$Statute", "split", "[I", true)
  | 5 => ("CliffGarden$Statute", "end", "[I", true)
  | 6 => ("CliffGarden$Statute", "stack", "[I", true)
  | 7 => ("CliffGarden$Statute", "clauses", "I", false)
  | 8 => ("CliffGarden$Statute", "size", "I", false)
  | _ => ("CliffGarden$Statute", "height", "I", false)
def tyX7 : Nat → FieldType := fun k => match k with
  | 0 => .array .int
  | 1 => .array .int
  | 2 => .array .int
  | 3 => .array .int
  | 4 => .array .int
  | 5 => .array .int
  | 6 => .array .int
  | 7 => .int
  | 8 => .int
  | _ => .int
abbrev wsX70 : List Cond := u_ws RX7 TX7 10
theorem nmX7 : ∀ a, a < 10 → ∀ b, b < 10 → a ≠ b → (TX7 a).2.1 ≠ (TX7 b).2.1 := by decide +kernel
theorem tyX7_ok : ∀ k, k < 10 → parseFieldDescriptor (TX7 k).2.2.1 = some (tyX7 k) := by decide +kernel
def RX8 : String := "CliffGarden$Swallow"
def TX8 : u_T := fun k => match k with
  | 0 => ("CliffGarden$Swallow", "ways", "[I", true)
  | 1 => ("CliffGarden$Swallow", "before", "[I", true)
  | 2 => ("CliffGarden$Swallow", "above", "I", false)
  | _ => ("CliffGarden$Swallow", "below", "I", false)
def tyX8 : Nat → FieldType := fun k => match k with
  | 0 => .array .int
  | 1 => .array .int
  | 2 => .int
  | _ => .int
abbrev wsX80 : List Cond := u_ws RX8 TX8 4
theorem nmX8 : ∀ a, a < 4 → ∀ b, b < 4 → a ≠ b → (TX8 a).2.1 ≠ (TX8 b).2.1 := by decide +kernel
theorem tyX8_ok : ∀ k, k < 4 → parseFieldDescriptor (TX8 k).2.2.1 = some (tyX8 k) := by decide +kernel
def RX9 : String := "CliffGarden$Tape"
def TX9 : u_T := fun k => match k with
  | 0 => ("CliffGarden$Tape", "bytes", "[I", true)
  | _ => ("CliffGarden$Tape", "length", "I", false)
def tyX9 : Nat → FieldType := fun k => match k with
  | 0 => .array .int
  | _ => .int
abbrev wsX90 : List Cond := u_ws RX9 TX9 2
theorem nmX9 : ∀ a, a < 2 → ∀ b, b < 2 → a ≠ b → (TX9 a).2.1 ≠ (TX9 b).2.1 := by decide +kernel
theorem tyX9_ok : ∀ k, k < 2 → parseFieldDescriptor (TX9 k).2.2.1 = some (tyX9 k) := by decide +kernel
def RX10 : String := "CliffGarden$Water"
def TX10 : u_T := fun k => match k with
  | 0 => ("CliffGarden$Water", "nets", "LCliffGarden$Nets;", true)
  | 1 => ("CliffGarden$Water", "court", "LCliffGarden$Court;", true)
  | 2 => ("CliffGarden$Water", "landed", "[I", true)
  | 3 => ("CliffGarden$Water", "coming", "[I", true)
  | 4 => ("CliffGarden$Water", "told", "[I", true)
  | 5 => ("CliffGarden$Water", "best", "[I", true)
  | 6 => ("CliffGarden$Water", "trial", "[I", true)
  | 7 => ("CliffGarden$Water", "trialKept", "[I", true)
  | 8 => ("CliffGarden$Water", "growthBy", "[I", true)
  | 9 => ("CliffGarden$Water", "columns", "I", false)
  | _ => ("CliffGarden$Water", "mostGrowth", "I", false)
def tyX10 : Nat → FieldType := fun k => match k with
  | 0 => .object "CliffGarden$Nets"
  | 1 => .object "CliffGarden$Court"
  | 2 => .array .int
  | 3 => .array .int
  | 4 => .array .int
  | 5 => .array .int
  | 6 => .array .int
  | 7 => .array .int
  | 8 => .array .int
  | 9 => .int
  | _ => .int
abbrev wsX100 : List Cond := u_ws RX10 TX10 11
theorem nmX10 : ∀ a, a < 11 → ∀ b, b < 11 → a ≠ b → (TX10 a).2.1 ≠ (TX10 b).2.1 := by decide +kernel
theorem tyX10_ok : ∀ k, k < 11 → parseFieldDescriptor (TX10 k).2.2.1 = some (tyX10 k) := by decide +kernel
def RX11 : String := "CliffGarden"
def TX11 : u_T := fun k => match k with
  | 0 => ("CliffGarden", "nets", "LCliffGarden$Nets;", true)
  | 1 => ("CliffGarden", "brow", "LCliffGarden$Brow;", true)
  | 2 => ("CliffGarden", "falls", "LCliffGarden$Falls;", true)
  | 3 => ("CliffGarden", "court", "LCliffGarden$Court;", true)
  | 4 => ("CliffGarden", "streams", "LCliffGarden$Water;", true)
  | 5 => ("CliffGarden", "tape", "LCliffGarden$Tape;", true)
  | 6 => ("CliffGarden", "reader", "LCliffGarden$Reader;", true)
  | 7 => ("CliffGarden", "rounds", "LCliffGarden$Rounds;", true)
  | 8 => ("CliffGarden", "planting", "LCliffGarden$Planting;", true)
  | 9 => ("CliffGarden", "swallow", "LCliffGarden$Swallow;", true)
  | 10 => ("CliffGarden", "draft", "LCliffGarden$Statute;", false)
  | _ => ("CliffGarden", "drawn", "I", false)
def tyX11 : Nat → FieldType := fun k => match k with
  | 0 => .object "CliffGarden$Nets"
  | 1 => .object "CliffGarden$Brow"
  | 2 => .object "CliffGarden$Falls"
  | 3 => .object "CliffGarden$Court"
  | 4 => .object "CliffGarden$Water"
  | 5 => .object "CliffGarden$Tape"
  | 6 => .object "CliffGarden$Reader"
  | 7 => .object "CliffGarden$Rounds"
  | 8 => .object "CliffGarden$Planting"
  | 9 => .object "CliffGarden$Swallow"
  | 10 => .object "CliffGarden$Statute"
  | _ => .int
abbrev wsX110 : List Cond := u_ws RX11 TX11 12
theorem nmX11 : ∀ a, a < 12 → ∀ b, b < 12 → a ≠ b → (TX11 a).2.1 ≠ (TX11 b).2.1 := by decide +kernel
theorem tyX11_ok : ∀ k, k < 12 → parseFieldDescriptor (TX11 k).2.2.1 = some (tyX11 k) := by decide +kernel
def RX12 : String := "CliffGardenModel"
def TX12 : u_T := fun k => match k with
  | 0 => ("CliffGardenModel", "today", "I", false)
  | 1 => ("CliffGardenModel", "x0", "I", false)
  | 2 => ("CliffGardenModel", "fallMany", "I", false)
  | 3 => ("CliffGardenModel", "fallsNow", "I", false)
  | 4 => ("CliffGardenModel", "hangs", "[Z", true)
  | 5 => ("CliffGardenModel", "isPollinated", "[Z", true)
  | 6 => ("CliffGardenModel", "knotOf", "[I", true)
  | 7 => ("CliffGardenModel", "soilOf", "[I", true)
  | 8 => ("CliffGardenModel", "farmerOf", "[I", true)
  | 9 => ("CliffGardenModel", "wayOf", "[I", true)
  | 10 => ("CliffGardenModel", "kindOf", "[I", true)
  | 11 => ("CliffGardenModel", "weightOf", "[I", true)
  | 12 => ("CliffGardenModel", "caughtOf", "[I", true)
  | 13 => ("CliffGardenModel", "keptOf", "[I", true)
  | 14 => ("CliffGardenModel", "needOf", "[I", true)
  | 15 => ("CliffGardenModel", "ripeOf", "[I", true)
  | 16 => ("CliffGardenModel", "worthOf", "[I", true)
  | 17 => ("CliffGardenModel", "valveOf", "[I", true)
  | 18 => ("CliffGardenModel", "ownerOf", "[I", true)
  | 19 => ("CliffGardenModel", "roofOf", "[I", true)
  | 20 => ("CliffGardenModel", "cameTo", "[I", true)
  | 21 => ("CliffGardenModel", "holesOf", "[I", true)
  | 22 => ("CliffGardenModel", "foodOf", "[I", true)
  | 23 => ("CliffGardenModel", "bearsOf", "[I", true)
  | 24 => ("CliffGardenModel", "hourOf", "[I", true)
  | 25 => ("CliffGardenModel", "tape", "[B", true)
  | 26 => ("CliffGardenModel", "taped", "I", false)
  | 27 => ("CliffGardenModel", "place0", "I", false)
  | 28 => ("CliffGardenModel", "length0", "I", false)
  | 29 => ("CliffGardenModel", "fault", "I", false)
  | 30 => ("CliffGardenModel", "open", "I", false)
  | 31 => ("CliffGardenModel", "codeMany", "I", false)
  | 32 => ("CliffGardenModel", "waiting", "I", false)
  | 33 => ("CliffGardenModel", "saidMany", "I", false)
  | 34 => ("CliffGardenModel", "number0", "I", false)
  | 35 => ("CliffGardenModel", "clauses", "I", false)
  | 36 => ("CliffGardenModel", "said", "[I", true)
  | 37 => ("CliffGardenModel", "waits", "[I", true)
  | 38 => ("CliffGardenModel", "saidLetter", "[I", true)
  | 39 => ("CliffGardenModel", "saidFrom", "[I", true)
  | 40 => ("CliffGardenModel", "saidHalf", "[I", true)
  | 41 => ("CliffGardenModel", "saidTo", "[I", true)
  | 42 => ("CliffGardenModel", "codes", "[I", true)
  | 43 => ("CliffGardenModel", "letterOf", "[I", true)
  | 44 => ("CliffGardenModel", "codeFrom", "[I", true)
  | 45 => ("CliffGardenModel", "codeHalf", "[I", true)
  | 46 => ("CliffGardenModel", "codeTo", "[I", true)
  | 47 => ("CliffGardenModel", "stack", "[I", true)
  | 48 => ("CliffGardenModel", "facts", "[I", true)
  | 49 => ("CliffGardenModel", "comes", "[I", true)
  | 50 => ("CliffGardenModel", "then", "[I", true)
  | 51 => ("CliffGardenModel", "fallCell", "[I", true)
  | 52 => ("CliffGardenModel", "fallKind", "[I", true)
  | 53 => ("CliffGardenModel", "fallWeight", "[I", true)
  | 54 => ("CliffGardenModel", "fallLies", "[I", true)
  | 55 => ("CliffGardenModel", "fallWhose", "[I", true)
  | 56 => ("CliffGardenModel", "fallDay", "[I", true)
  | 57 => ("CliffGardenModel", "fallFood", "[I", true)
  | 58 => ("CliffGardenModel", "fallRipe", "[Z", true)
  | 59 => ("CliffGardenModel", "fallPollinated", "[Z", true)
  | 60 => ("CliffGardenModel", "hung", "[Z", true)
  | 61 => ("CliffGardenModel", "knots", "[I", true)
  | 62 => ("CliffGardenModel", "ages", "[I", true)
  | 63 => ("CliffGardenModel", "chosen", "I", false)
  | 64 => ("CliffGardenModel", "choice", "[I", true)
  | 65 => ("CliffGardenModel", "picked", "[I", true)
  | 66 => ("CliffGardenModel", "bestPicks", "[I", true)
  | 67 => ("CliffGardenModel", "hours", "[I", true)
  | 68 => ("CliffGardenModel", "without", "[J", true)
  | 69 => ("CliffGardenModel", "carrying", "[J", true)
  | 70 => ("CliffGardenModel", "after", "[J", true)
  | 71 => ("CliffGardenModel", "afterWith", "[J", true)
  | 72 => ("CliffGardenModel", "heavy", "[I", true)
  | 73 => ("CliffGardenModel", "keeps", "[I", true)
  | 74 => ("CliffGardenModel", "opened", "[I", true)
  | 75 => ("CliffGardenModel", "bestOpened", "[I", true)
  | 76 => ("CliffGardenModel", "valves", "[I", true)
  | _ => ("CliffGardenModel", "costs", "[I", true)
def tyX12 : Nat → FieldType := fun k => match k with
  | 0 => .int
  | 1 => .int
  | 2 => .int
  | 3 => .int
  | 4 => .array .boolean
  | 5 => .array .boolean
  | 6 => .array .int
  | 7 => .array .int
  | 8 => .array .int
  | 9 => .array .int
  | 10 => .array .int
  | 11 => .array .int
  | 12 => .array .int
  | 13 => .array .int
  | 14 => .array .int
  | 15 => .array .int
  | 16 => .array .int
  | 17 => .array .int
  | 18 => .array .int
  | 19 => .array .int
  | 20 => .array .int
  | 21 => .array .int
  | 22 => .array .int
  | 23 => .array .int
  | 24 => .array .int
  | 25 => .array .byte
  | 26 => .int
  | 27 => .int
  | 28 => .int
  | 29 => .int
  | 30 => .int
  | 31 => .int
  | 32 => .int
  | 33 => .int
  | 34 => .int
  | 35 => .int
  | 36 => .array .int
  | 37 => .array .int
  | 38 => .array .int
  | 39 => .array .int
  | 40 => .array .int
  | 41 => .array .int
  | 42 => .array .int
  | 43 => .array .int
  | 44 => .array .int
  | 45 => .array .int
  | 46 => .array .int
  | 47 => .array .int
  | 48 => .array .int
  | 49 => .array .int
  | 50 => .array .int
  | 51 => .array .int
  | 52 => .array .int
  | 53 => .array .int
  | 54 => .array .int
  | 55 => .array .int
  | 56 => .array .int
  | 57 => .array .int
  | 58 => .array .boolean
  | 59 => .array .boolean
  | 60 => .array .boolean
  | 61 => .array .int
  | 62 => .array .int
  | 63 => .int
  | 64 => .array .int
  | 65 => .array .int
  | 66 => .array .int
  | 67 => .array .int
  | 68 => .array .long
  | 69 => .array .long
  | 70 => .array .long
  | 71 => .array .long
  | 72 => .array .int
  | 73 => .array .int
  | 74 => .array .int
  | 75 => .array .int
  | 76 => .array .int
  | _ => .array .int
abbrev wsX120 : List Cond := u_ws RX12 TX12 78
theorem nmX12 : ∀ a, a < 78 → ∀ b, b < 78 → a ≠ b → (TX12 a).2.1 ≠ (TX12 b).2.1 := by decide +kernel
theorem tyX12_ok : ∀ k, k < 78 → parseFieldDescriptor (TX12 k).2.2.1 = some (tyX12 k) := by decide +kernel
abbrev vwCl : List vw_C := [(RX0, TX0, 9), (RX1, TX1, 5), (RX2, TX2, 11), (RX3, TX3, 14), (RX4, TX4, 8), (RX5, TX5, 5), (RX6, TX6, 8), (RX7, TX7, 10), (RX8, TX8, 4), (RX9, TX9, 2), (RX10, TX10, 11), (RX11, TX11, 12), (RX12, TX12, 78)]
end
section
/-! A PURE MACHINE: the methods' instructions over a list of cells; references are places in that list -/
abbrev pv_H : Type := List va_E
abbrev pv_L : Type := List (Nat × Value)
/-- a row: where it stands, the instruction, its length, what it names (places, targets), where its words stand -/
abbrev pv_R : Type := Nat × Instr × Nat × List Nat × List Nat
abbrev pv_M : Type := MethodName × ByteArray × Nat × Option FieldType × List pv_R
def pv_set1 (ls : pv_L) (i : Nat) (v : Value) : pv_L := (i, v) :: ls.filter (fun q => !(q.1 == i) && !(q.1 + 1 == i && q.2.category == 2))
def pv_set2 (ls : pv_L) (i : Nat) (v : Value) : pv_L := (i, v) :: ls.filter (fun q => !(q.1 == i) && (!(q.1 == i + 1) && !(q.1 + 1 == i && q.2.category == 2)))
def pv_get : pv_L → Nat → Option Value
  | [], _ => none
  | (j, v) :: ls, i => if j = i then some v else pv_get ls i
def pv_cat (st : List Value) : Nat := (st.map fun v => v.category).sum
def pv_pc (rows : List pv_R) (k : Nat) : Nat := match rows[k]? with
  | some r => r.1
  | none => 0
/-- what a new object of a kind holds -/
def pv_dv : FieldType → Value
  | .int => .int 0
  | .long => .long 0
  | _ => .null
def pv_tyX (ci : Nat) : Nat → FieldType := match ci with
  | 0 => tyX0 | 1 => tyX1 | 2 => tyX2 | 3 => tyX3 | 4 => tyX4 | 5 => tyX5 | 6 => tyX6 | 7 => tyX7 | 8 => tyX8 | 9 => tyX9 | 10 => tyX10 | 11 => tyX11 | _ => tyX12
def pv_nX (ci : Nat) : Nat := match vwCl[ci]? with
  | some q => q.2.2
  | none => 0
def pv_fresh (ci : Nat) : List Value := (List.range (pv_nX ci)).map (fun k => pv_dv (pv_tyX ci k))
abbrev pv_C : Type := Nat × pv_L × List Value × pv_H
/-- a load -/
def pv_lod (ls : pv_L) (i k : Nat) (t : Nat) (st : List Value) (h : pv_H) : Option pv_C := match pv_get ls i, t with
  | some (.int x), 0 => some (k + 1, ls, .int x :: st, h)
  | some (.long x), 1 => some (k + 1, ls, .long x :: st, h)
  | some (.ref x), 2 => some (k + 1, ls, .ref x :: st, h)
  | _, _ => none
/-- a store -/
def pv_sto (ls : pv_L) (i k : Nat) (t : Nat) (st : List Value) (h : pv_H) : Option pv_C := match st, t with
  | .int x :: r, 0 => some (k + 1, pv_set1 ls i (.int x), r, h)
  | .long x :: r, 1 => some (k + 1, pv_set2 ls i (.long x), r, h)
  | .ref x :: r, 2 => some (k + 1, pv_set1 ls i (.ref x), r, h)
  | _, _ => none
def pv_i2 (f : Int32 → Int32 → Int32) (k : Nat) (ls : pv_L) (st : List Value) (h : pv_H) : Option pv_C := match st with
  | .int y :: .int x :: r => some (k + 1, ls, .int (f x y) :: r, h)
  | _ => none
def pv_l2 (f : Int64 → Int64 → Int64) (k : Nat) (ls : pv_L) (st : List Value) (h : pv_H) : Option pv_C := match st with
  | .long y :: .long x :: r => some (k + 1, ls, .long (f x y) :: r, h)
  | _ => none
def pv_lsh (f : Int64 → Int32 → Int64) (k : Nat) (ls : pv_L) (st : List Value) (h : pv_H) : Option pv_C := match st with
  | .int y :: .long x :: r => some (k + 1, ls, .long (f x y) :: r, h)
  | _ => none
/-- a branch on one number, on two -/
def pv_b1 (c : Int32 → Bool) (xs : List Nat) (k : Nat) (ls : pv_L) (st : List Value) (h : pv_H) : Option pv_C := match xs, st with
  | [t], .int x :: r => if c x then some (t, ls, r, h) else some (k + 1, ls, r, h)
  | _, _ => none
def pv_b2 (c : Int32 → Int32 → Bool) (xs : List Nat) (k : Nat) (ls : pv_L) (st : List Value) (h : pv_H) : Option pv_C := match xs, st with
  | [t], .int y :: .int x :: r => if c x y then some (t, ls, r, h) else some (k + 1, ls, r, h)
  | _, _ => none
def pv_cond : Jvm.ClassFile.Cond → Int32 → Int32 → Bool
  | .eq, x, y => decide (x = y)
  | .ne, x, y => !decide (x = y)
  | .lt, x, y => decide (x < y)
  | .ge, x, y => decide (y ≤ x)
  | .gt, x, y => decide (y < x)
  | .le, x, y => decide (x ≤ y)
def pv_ald (t : Nat) (k : Nat) (ls : pv_L) (st : List Value) (h : pv_H) : Option pv_C := match st with
  | .int i :: .ref a :: r => match h[a]? with
    | some (.inl (t', n, .inl f)) => if t' = t then (if i < 0 ∨ n ≤ i.toNatClampNeg then none else some (k + 1, ls, .int (f i.toNatClampNeg) :: r, h)) else none
    | _ => none
  | _ => none
def pv_ast (t : Nat) (g : Int32 → Int32) (k : Nat) (ls : pv_L) (st : List Value) (h : pv_H) : Option pv_C := match st with
  | .int x :: .int i :: .ref a :: r => match h[a]? with
    | some (.inl (t', n, .inl f)) => if t' = t then (if i < 0 ∨ n ≤ i.toNatClampNeg then none else some (k + 1, ls, r, h.set a (.inl (t', n, .inl (upd f i.toNatClampNeg (g x)))))) else none
    | _ => none
  | _ => none
/-- an instruction that neither calls nor ends -/
def pv_x (i : Instr) (xs : List Nat) (k : Nat) (ls : pv_L) (st : List Value) (h : pv_H) : Option pv_C := match i with
  | .iconst n => some (k + 1, ls, .int (Int32.ofInt n) :: st, h)
  | .bipush n => some (k + 1, ls, .int (Int8.ofInt n).toInt32 :: st, h)
  | .sipush n => some (k + 1, ls, .int (Int16.ofInt n).toInt32 :: st, h)
  | .lconst n => some (k + 1, ls, .long (Int64.ofNat n) :: st, h)
  | .ldc _ => match xs with
    | [v] => some (k + 1, ls, .int (Int32.ofNat v) :: st, h)
    | _ => none
  | .ldc_w _ => match xs with
    | [v] => some (k + 1, ls, .int (Int32.ofNat v) :: st, h)
    | _ => none
  | .ldc2_w _ => match xs with
    | [v] => some (k + 1, ls, .long (Int64.ofNat v) :: st, h)
    | _ => none
  | .iload i => pv_lod ls i k 0 st h
  | .iload_n i => pv_lod ls i k 0 st h
  | .lload i => pv_lod ls i k 1 st h
  | .lload_n i => pv_lod ls i k 1 st h
  | .aload i => pv_lod ls i k 2 st h
  | .aload_n i => pv_lod ls i k 2 st h
  | .istore i => pv_sto ls i k 0 st h
  | .istore_n i => pv_sto ls i k 0 st h
  | .lstore i => pv_sto ls i k 1 st h
  | .lstore_n i => pv_sto ls i k 1 st h
  | .astore i => pv_sto ls i k 2 st h
  | .astore_n i => pv_sto ls i k 2 st h
  | .iinc i n => match pv_get ls i with
    | some (.int x) => some (k + 1, pv_set1 ls i (.int (x + Int32.ofInt n)), st, h)
    | _ => none
  | .iadd => pv_i2 (fun x y => x + y) k ls st h
  | .isub => pv_i2 (fun x y => x - y) k ls st h
  | .imul => pv_i2 (fun x y => x * y) k ls st h
  | .iand => pv_i2 (fun x y => x &&& y) k ls st h
  | .ior => pv_i2 (fun x y => x ||| y) k ls st h
  | .ixor => pv_i2 (fun x y => x ^^^ y) k ls st h
  | .ishl => pv_i2 (fun x y => x <<< (y &&& 31)) k ls st h
  | .ishr => pv_i2 (fun x y => x >>> (y &&& 31)) k ls st h
  | .iushr => pv_i2 (fun x y => (x.toUInt32 >>> (y.toUInt32 &&& Int32.toUInt32 31)).toInt32) k ls st h
  | .idiv => match st with
    | .int y :: .int x :: r => if y = 0 then none else some (k + 1, ls, .int (x / y) :: r, h)
    | _ => none
  | .irem => match st with
    | .int y :: .int x :: r => if y = 0 then none else some (k + 1, ls, .int (x - x / y * y) :: r, h)
    | _ => none
  | .ineg => match st with
    | .int x :: r => some (k + 1, ls, .int (-x) :: r, h)
    | _ => none
  | .ladd => pv_l2 (fun x y => x + y) k ls st h
  | .lsub => pv_l2 (fun x y => x - y) k ls st h
  | .lmul => pv_l2 (fun x y => x * y) k ls st h
  | .land => pv_l2 (fun x y => x &&& y) k ls st h
  | .lor => pv_l2 (fun x y => x ||| y) k ls st h
  | .lxor => pv_l2 (fun x y => x ^^^ y) k ls st h
  | .ldiv => match st with
    | .long y :: .long x :: r => if y = 0 then none else some (k + 1, ls, .long (x / y) :: r, h)
    | _ => none
  | .lrem => match st with
    | .long y :: .long x :: r => if y = 0 then none else some (k + 1, ls, .long (x - x / y * y) :: r, h)
    | _ => none
  | .lshl => pv_lsh (fun x y => x <<< (y.toInt64 &&& 63)) k ls st h
  | .lshr => pv_lsh (fun x y => x >>> (y.toInt64 &&& 63)) k ls st h
  | .lushr => pv_lsh (fun x y => (x.toUInt64 >>> (y.toInt64.toUInt64 &&& Int64.toUInt64 63)).toInt64) k ls st h
  | .lcmp => match st with
    | .long y :: .long x :: r => some (k + 1, ls, .int (lg_cmp x y) :: r, h)
    | _ => none
  | .i2l => match st with
    | .int x :: r => some (k + 1, ls, .long x.toInt64 :: r, h)
    | _ => none
  | .l2i => match st with
    | .long x :: r => some (k + 1, ls, .int x.toInt32 :: r, h)
    | _ => none
  | .i2b => match st with
    | .int x :: r => some (k + 1, ls, .int x.toInt8.toInt32 :: r, h)
    | _ => none
  | .i2c => match st with
    | .int x :: r => some (k + 1, ls, .int (x.toUInt32 % 65536).toInt32 :: r, h)
    | _ => none
  | .dup => match st with
    | v :: r => if v.category = 1 then some (k + 1, ls, v :: v :: r, h) else none
    | _ => none
  | .pop => match st with
    | v :: r => if v.category = 1 then some (k + 1, ls, r, h) else none
    | _ => none
  | .dup2 => match st with
    | v :: w :: r => if v.category = 1 ∧ w.category = 1 then some (k + 1, ls, v :: w :: v :: w :: r, h) else none
    | _ => none
  | .goto _ => match xs with
    | [t] => some (t, ls, st, h)
    | _ => none
  | .ifCond c _ => pv_b1 (fun x => pv_cond c x 0) xs k ls st h
  | .if_icmp c _ => pv_b2 (fun x y => pv_cond c x y) xs k ls st h
  | .tableswitch _ lo hi _ => match xs, st with
    | d :: ts, .int x :: r => if x.toInt < lo ∨ hi < x.toInt then some (d, ls, r, h) else match ts[(x.toInt - lo).toNat]? with
      | some t => some (t, ls, r, h)
      | none => none
    | _, _ => none
  | .getfield _ => match xs, st with
    | [ci, j], .ref a :: r => match h[a]? with
      | some (.inr (ci', fs)) => if ci' = ci then (match fs[j]? with
        | some v => some (k + 1, ls, v :: r, h)
        | none => none) else none
      | _ => none
    | _, _ => none
  | .putfield _ => match xs, st with
    | [ci, j], v :: .ref a :: r => match h[a]? with
      | some (.inr (ci', fs)) => if ci' = ci ∧ j < fs.length ∧ narrow (pv_tyX ci j) v = v ∧ fits (pv_tyX ci j) v = true then some (k + 1, ls, r, h.set a (.inr (ci', fs.set j v))) else none
      | _ => none
    | _, _ => none
  | .iaload => pv_ald 0 k ls st h
  | .baload => match xs with
    | [t] => if t = 1 ∨ t = 2 then pv_ald t k ls st h else none
    | _ => none
  | .laload => match st with
    | .int i :: .ref a :: r => match h[a]? with
      | some (.inl (t', n, .inr (.inl f))) => if t' = 3 then (if i < 0 ∨ n ≤ i.toNatClampNeg then none else some (k + 1, ls, .long (f i.toNatClampNeg) :: r, h)) else none
      | _ => none
    | _ => none
  | .iastore => pv_ast 0 (fun x => x) k ls st h
  | .bastore => match xs with
    | [1] => pv_ast 1 (vp_nar .boolean) k ls st h
    | [2] => pv_ast 2 (vp_nar .byte) k ls st h
    | _ => none
  | .lastore => match st with
    | .long x :: .int i :: .ref a :: r => match h[a]? with
      | some (.inl (t', n, .inr (.inl f))) => if t' = 3 then (if i < 0 ∨ n ≤ i.toNatClampNeg then none else some (k + 1, ls, r, h.set a (.inl (t', n, .inr (.inl (vp_updL f i.toNatClampNeg x)))))) else none
      | _ => none
    | _ => none
  | .arraylength => match st with
    | .ref a :: r => match h[a]? with
      | some (.inl (t', n, _)) => if t' < 4 then some (k + 1, ls, .int (Int32.ofNat n) :: r, h) else none
      | _ => none
    | _ => none
  | .newarray ty => match ty, st with
    | .int, .int n :: r => if n < 0 ∨ 100000 < n.toNatClampNeg then none else some (k + 1, ls, .ref h.length :: r, h ++ [.inl (0, n.toNatClampNeg, .inl (fun _ => 0))])
    | .boolean, .int n :: r => if n < 0 ∨ 100000 < n.toNatClampNeg then none else some (k + 1, ls, .ref h.length :: r, h ++ [.inl (1, n.toNatClampNeg, .inl (fun _ => 0))])
    | .byte, .int n :: r => if n < 0 ∨ 100000 < n.toNatClampNeg then none else some (k + 1, ls, .ref h.length :: r, h ++ [.inl (2, n.toNatClampNeg, .inl (fun _ => 0))])
    | .long, .int n :: r => if n < 0 ∨ 100000 < n.toNatClampNeg then none else some (k + 1, ls, .ref h.length :: r, h ++ [.inl (3, n.toNatClampNeg, .inr (.inl (fun _ => 0)))])
    | _, _ => none
  | .new _ => match xs with
    | [ci] => some (k + 1, ls, .ref h.length :: st, h ++ [.inr (ci, pv_fresh ci)])
    | _ => none
  | .invokespecial _ => match xs, st with
    | [9], .ref _ :: r => if pv_cat r ≤ 8 then some (k + 1, ls, r, h) else none
    | _, _ => none
  | .invokestatic _ => match xs, st with
    | [0], .int y :: .int x :: r => if pv_cat r ≤ 8 then some (k + 1, ls, .int (if x < y then y else x) :: r, h) else none
    | [1], .int y :: .int x :: r => if pv_cat r ≤ 8 then some (k + 1, ls, .int (if y < x then y else x) :: r, h) else none
    | [2], .int x :: r => if pv_cat r ≤ 8 then some (k + 1, ls, .int (if 0 ≤ x then x else 0 - x) :: r, h) else none
    | [3], .int n :: .int dp :: .ref a :: .int sp :: .ref a0 :: r => match h[a0]?, h[a]? with
      | some (.inl (t0, n0, .inl f)), some (.inl (t1, n1, .inl g)) => if t0 = 0 ∧ t1 = 0 ∧ pv_cat r ≤ 8 ∧ ¬ sp < 0 ∧ ¬ dp < 0 ∧ ¬ n < 0 ∧ sp.toNatClampNeg + n.toNatClampNeg ≤ n0 ∧ dp.toNatClampNeg + n.toNatClampNeg ≤ n1 then
          some (k + 1, ls, r, h.set a (.inl (t1, n1, .inl (va_cpy f g sp.toNatClampNeg dp.toNatClampNeg n.toNatClampNeg)))) else none
      | _, _ => none
    | _, _ => none
  | _ => none
/-- a call: which method, with what, what stays on the stack -/
def pv_inv (i : Instr) (xs : List Nat) (st : List Value) (h : pv_H) : Option (Nat × List Value × List Value) := match i, xs with
  | .invokestatic _, [j, n] => if n ≤ st.length ∧ pv_cat (st.drop n) ≤ 8 then some (j, (st.take n).reverse, st.drop n) else none
  | .invokevirtual _, [j, n, ci] => match st.drop n with
    | .ref b :: r => match h[b]? with
      | some (.inr (ci', _)) => if ci' = ci ∧ pv_cat r ≤ 8 then some (j, .ref b :: (st.take n).reverse, r) else none
      | _ => none
    | _ => none
  | .invokespecial _, [j, n, _] => match st.drop n with
    | .ref b :: r => if pv_cat r ≤ 8 then some (j, .ref b :: (st.take n).reverse, r) else none
    | _ => none
  | _, _ => none
/-- an end -/
def pv_ret (i : Instr) (xs : List Nat) (st : List Value) : Option (Option Value) := match i, st with
  | .ireturn, [.int v] => match xs with
    | [0] => some (some (.int v))
    | [1] => if v = 0 ∨ v = 1 then some (some (.int v)) else none
    | _ => none
  | .lreturn, [.long v] => some (some (.long v))
  | .return_, [] => some none
  | _, _ => none
def pv_go (call : Nat → List Value → pv_H → Option (Option Value × pv_H)) (rows : List pv_R) : Nat → Nat → pv_L → List Value → pv_H → Option (Option Value × pv_H)
  | 0, _, _, _, _ => none
  | f + 1, k, ls, st, h => match rows[k]? with
    | none => none
    | some r => match pv_ret r.2.1 r.2.2.2.1 st with
      | some v => some (v, h)
      | none => match pv_inv r.2.1 r.2.2.2.1 st h with
        | some (j, as, rest) => match call j as h with
          | some (v, h') => pv_go call rows f (k + 1) ls (v.toList ++ rest) h'
          | none => none
        | none => match pv_x r.2.1 r.2.2.2.1 k ls st h with
          | some (k', ls', st', h') => pv_go call rows f k' ls' st' h'
          | none => none
def pv_run (pr : List pv_M) (F : Nat) : Nat → Nat → List Value → pv_H → Option (Option Value × pv_H)
  | 0, _, _, _ => none
  | d + 1, j, as, h => match pr[j]? with
    | some M => if pv_cat as ≤ M.2.2.1 then pv_go (pv_run pr F d) M.2.2.2.2 F 0 (lv_args 0 as) [] h else none
    | none => none
end
section
/-! words, links, what a row must keep: definitions alone, so that the program's tables stand on them -/
def pv_T : List Cond := lw_tbl.filter goodWord
def pv_isN : Cond → Bool
  | .fieldLinkNest .. => true
  | .methodLinkNest .. => true
  | _ => false
def pv_N : List Cond := lw_tbl.filter pv_isN
/-! WHAT A ROW MUST KEEP, as a program tells -/
def pv_nx (rows : List pv_R) (k pc len L : Nat) : Bool := len == L && pv_pc rows (k + 1) == pc + L
/-- the owners of code, by their numbers -/
def pv_cn : List String := ["CliffGarden$Brow", "CliffGarden$Court", "CliffGarden$Falls", "CliffGarden$Nets", "CliffGarden$Planting", "CliffGarden$Reader", "CliffGarden$Rounds", "CliffGarden$Statute", "CliffGarden$Swallow", "CliffGarden$Tape", "CliffGarden$Water", "CliffGarden", "CliffGardenModel", "java/util/Arrays", "java/lang/Integer", "java/lang/Long"]
def pv_my (y : MethodName) (n : Nat) : Bool := decide (y.cls ≠ "java/lang/invoke/MethodHandle" ∧ y.cls ≠ "java/lang/invoke/VarHandle" ∧ (parseMethodDescriptor y.desc).map (fun d => d.parameters.length) = some n)
/-- what a link's number says -/
def pv_sem (pr : List pv_M) (c : List Nat) : Prop := match c with
  | [0, o, idx, ci, j] => ∀ own q, pv_cn[o]? = some own → vwCl[ci]? = some q → (Cond.fieldLink own idx (q.2.1 j).1 (q.2.1 j).2.1 (q.2.1 j).2.2.1 ∈ pv_T ∨ ∃ hst, Cond.fieldLinkNest own idx (q.2.1 j).1 (q.2.1 j).2.1 (q.2.1 j).2.2.1 hst ∈ pv_N)
  | [1, o, idx, ci, j] => ∀ own q, pv_cn[o]? = some own → vwCl[ci]? = some q → Cond.fieldLink own idx (q.2.1 j).1 (q.2.1 j).2.1 (q.2.1 j).2.2.1 ∈ pv_T ∧ (q.2.1 j).1 = own
  | [2, o, idx, v] => ∀ own, pv_cn[o]? = some own → Cond.constant own idx (Int32.ofNat v) ∈ pv_T
  | [3, o, idx, v] => ∀ own, pv_cn[o]? = some own → Cond.constantLong own idx (Int64.ofNat v) ∈ pv_T
  | [4, o, idx, ci] => ∀ own q, pv_cn[o]? = some own → vwCl[ci]? = some q → Cond.classLink own idx q.1 ∈ pv_T ∧ Cond.instantiable q.1 q.2.2 ∈ pv_T ∧ Cond.initialized q.1 ∈ pv_T
  | [5, o, idx] => ∀ own, pv_cn[o]? = some own → Cond.methodLink own idx Lib.objectInit ∈ pv_T ∧ Cond.instanceMethod Lib.objectInit ∈ pv_T ∧ Cond.code Lib.objectInit ⟨#[0xb1]⟩ 1 none ∈ pv_T
  | [6, o, idx, 0] => ∀ own, pv_cn[o]? = some own → Cond.methodLink own idx Lib.Math.max.name ∈ pv_T ∧ Cond.static Lib.Math.max.name ∈ pv_T ∧ Cond.initialized "java/lang/Math" ∈ pv_T ∧ Cond.code Lib.Math.max.name Lib.Math.max.code 2 (some .int) ∈ pv_T
  | [6, o, idx, 1] => ∀ own, pv_cn[o]? = some own → Cond.methodLink own idx Lib.Math.min.name ∈ pv_T ∧ Cond.static Lib.Math.min.name ∈ pv_T ∧ Cond.initialized "java/lang/Math" ∈ pv_T ∧ Cond.code Lib.Math.min.name Lib.Math.min.code 2 (some .int) ∈ pv_T
  | [6, o, idx, 2] => ∀ own, pv_cn[o]? = some own → Cond.methodLink own idx Lib.Math.abs.name ∈ pv_T ∧ Cond.static Lib.Math.abs.name ∈ pv_T ∧ Cond.initialized "java/lang/Math" ∈ pv_T ∧ Cond.code Lib.Math.abs.name Lib.Math.abs.code 1 (some .int) ∈ pv_T
  | [6, o, idx, 3] => ∀ own, pv_cn[o]? = some own → Cond.methodLink own idx arraycopyName ∈ pv_T ∧ Cond.static arraycopyName ∈ pv_T ∧ Cond.initialized "java/lang/System" ∈ pv_T ∧ Cond.native arraycopyName ∈ pv_T
  | [7, o, idx, j, n] => ∀ own M, pv_cn[o]? = some own → pr[j]? = some M → (Cond.methodLink own idx M.1 ∈ pv_T ∨ ∃ hst, Cond.methodLinkNest own idx M.1 hst ∈ pv_N) ∧ Cond.static M.1 ∈ pv_T ∧ pv_my M.1 n = true
  | [8, o, idx, j, n, ci] => ∀ own M q, pv_cn[o]? = some own → pr[j]? = some M → vwCl[ci]? = some q → (Cond.methodLink own idx M.1 ∈ pv_T ∨ ∃ hst, Cond.methodLinkNest own idx M.1 hst ∈ pv_N) ∧ Cond.instanceMethod M.1 ∈ pv_T ∧ Cond.selects M.1.cls M.1 M.1 ∈ pv_T ∧ pv_my M.1 n = true ∧ q.1 = M.1.cls
  | [9, o, idx, j, n] => ∀ own M, pv_cn[o]? = some own → pr[j]? = some M → (Cond.methodLink own idx M.1 ∈ pv_T ∨ ∃ hst, Cond.methodLinkNest own idx M.1 hst ∈ pv_N) ∧ Cond.instanceMethod M.1 ∈ pv_T ∧ pv_my M.1 n = true ∧ M.1.name = "<init>" ∧ M.2.2.2.1 = none
  | _ => True
def pv_lk (LK : List (List Nat)) (p : Nat) (c : List Nat) : Bool := decide (LK[p]? = some c)
theorem pv_lk_inv {LK : List (List Nat)} {p : Nat} {c : List Nat} (h : pv_lk LK p c = true) : c ∈ LK := List.mem_of_getElem? (of_decide_eq_true h)
/-- what holds of every method: its code's word, its class's -/
def pv_mf (M : pv_M) : Prop := Cond.code M.1 M.2.1 M.2.2.1 M.2.2.2.1 ∈ pv_T ∧ Cond.initialized M.1.cls ∈ pv_T
def pv_LKs (pr : List pv_M) (LK : List (List Nat)) : Prop := (∀ c ∈ LK, pv_sem pr c) ∧ ∀ (j : Nat) (M : pv_M), pr[j]? = some M → pv_mf M
def pv_jp (rows : List pv_R) (pc : Nat) (off : Int) (t : Nat) : Bool := decide ((pc : Int) + off = (pv_pc rows t : Int))
def pv_okx (LK : List (List Nat)) (rows : List pv_R) (o : Nat) (mn : String) (nL k pc len : Nat) (i : Instr) (xs ps : List Nat) : Bool := match i with
  | .iconst _ => pv_nx rows k pc len 1
  | .bipush _ => pv_nx rows k pc len 2
  | .sipush _ => pv_nx rows k pc len 3
  | .lconst _ => pv_nx rows k pc len 1
  | .ldc idx => match xs, ps with
    | [v], [p] => pv_nx rows k pc len 2 && pv_lk LK p [2, o, idx, v]
    | _, _ => false
  | .ldc_w idx => match xs, ps with
    | [v], [p] => pv_nx rows k pc len 3 && pv_lk LK p [2, o, idx, v]
    | _, _ => false
  | .ldc2_w idx => match xs, ps with
    | [v], [p] => pv_nx rows k pc len 3 && pv_lk LK p [3, o, idx, v]
    | _, _ => false
  | .iload _ => pv_nx rows k pc len 2
  | .lload _ => pv_nx rows k pc len 2
  | .aload _ => pv_nx rows k pc len 2
  | .iload_n _ => pv_nx rows k pc len 1
  | .lload_n _ => pv_nx rows k pc len 1
  | .aload_n _ => pv_nx rows k pc len 1
  | .istore i => pv_nx rows k pc len 2 && decide (i < nL)
  | .lstore i => pv_nx rows k pc len 2 && decide (i + 1 < nL)
  | .astore i => pv_nx rows k pc len 2 && decide (i < nL)
  | .istore_n i => pv_nx rows k pc len 1 && decide (i.val < nL)
  | .lstore_n i => pv_nx rows k pc len 1 && decide (i.val + 1 < nL)
  | .astore_n i => pv_nx rows k pc len 1 && decide (i.val < nL)
  | .iinc i _ => pv_nx rows k pc len 3 && decide (i < nL)
  | .iadd => pv_nx rows k pc len 1
  | .isub => pv_nx rows k pc len 1
  | .imul => pv_nx rows k pc len 1
  | .iand => pv_nx rows k pc len 1
  | .ior => pv_nx rows k pc len 1
  | .ixor => pv_nx rows k pc len 1
  | .ishl => pv_nx rows k pc len 1
  | .ishr => pv_nx rows k pc len 1
  | .iushr => pv_nx rows k pc len 1
  | .idiv => pv_nx rows k pc len 1
  | .irem => pv_nx rows k pc len 1
  | .ineg => pv_nx rows k pc len 1
  | .ladd => pv_nx rows k pc len 1
  | .lsub => pv_nx rows k pc len 1
  | .lmul => pv_nx rows k pc len 1
  | .land => pv_nx rows k pc len 1
  | .lor => pv_nx rows k pc len 1
  | .lxor => pv_nx rows k pc len 1
  | .ldiv => pv_nx rows k pc len 1
  | .lrem => pv_nx rows k pc len 1
  | .lshl => pv_nx rows k pc len 1
  | .lshr => pv_nx rows k pc len 1
  | .lushr => pv_nx rows k pc len 1
  | .lcmp => pv_nx rows k pc len 1
  | .i2l => pv_nx rows k pc len 1
  | .l2i => pv_nx rows k pc len 1
  | .i2b => pv_nx rows k pc len 1
  | .i2c => pv_nx rows k pc len 1
  | .dup => pv_nx rows k pc len 1
  | .pop => pv_nx rows k pc len 1
  | .dup2 => pv_nx rows k pc len 1
  | .goto off => match xs with
    | [t] => len == 3 && pv_jp rows pc off t
    | _ => false
  | .ifCond _ off => match xs with
    | [t] => pv_nx rows k pc len 3 && pv_jp rows pc off t
    | _ => false
  | .if_icmp _ off => match xs with
    | [t] => pv_nx rows k pc len 3 && pv_jp rows pc off t
    | _ => false
  | .tableswitch d lo hi offs => match xs with
    | t :: ts => pv_jp rows pc d t && decide (ts.length = offs.size) && (offs.toList.zip ts).all (fun q => pv_jp rows pc q.1 q.2)
    | _ => false
  | .getfield idx => match xs, ps with
    | [ci, j], [p] => pv_nx rows k pc len 3 && (match vwCl[ci]? with
      | some q => decide (j < q.2.2) && pv_lk LK p [0, o, idx, ci, j]
      | none => false)
    | _, _ => false
  | .putfield idx => match xs, ps with
    | [ci, j], [p] => pv_nx rows k pc len 3 && (match vwCl[ci]? with
      | some q => decide (j < q.2.2) && (if (q.2.1 j).2.2.2 then pv_lk LK p [1, o, idx, ci, j] && decide (mn = "<init>") else pv_lk LK p [0, o, idx, ci, j])
      | none => false)
    | _, _ => false
  | .iaload => pv_nx rows k pc len 1
  | .baload => pv_nx rows k pc len 1
  | .laload => pv_nx rows k pc len 1
  | .iastore => pv_nx rows k pc len 1
  | .bastore => pv_nx rows k pc len 1
  | .lastore => pv_nx rows k pc len 1
  | .arraylength => pv_nx rows k pc len 1
  | .newarray _ => pv_nx rows k pc len 2
  | .new idx => match xs, ps with
    | [ci], [p] => pv_nx rows k pc len 3 && (match vwCl[ci]? with
      | some _ => pv_lk LK p [4, o, idx, ci]
      | none => false)
    | _, _ => false
  | .invokespecial idx => match xs, ps with
    | [9], [p] => pv_nx rows k pc len 3 && pv_lk LK p [5, o, idx]
    | _, _ => false
  | .invokestatic idx => match xs, ps with
    | [z], [p] => pv_nx rows k pc len 3 && pv_lk LK p [6, o, idx, z]
    | _, _ => false
  | _ => false
/-! CALLS, ENDS, WHOLE METHODS -/
def pv_isR : Instr → Bool
  | .ireturn => true
  | .lreturn => true
  | .return_ => true
  | _ => false
def pv_isC (i : Instr) (xs : List Nat) : Bool := match i with
  | .invokestatic _ => decide (2 ≤ xs.length)
  | .invokevirtual _ => true
  | .invokespecial _ => decide (2 ≤ xs.length)
  | _ => false
def pv_okc (LK : List (List Nat)) (o : Nat) (i : Instr) (xs ps : List Nat) : Bool := match i, xs, ps with
  | .invokestatic idx, [j, n], [p] => pv_lk LK p [7, o, idx, j, n]
  | .invokevirtual idx, [j, n, ci], [p] => pv_lk LK p [8, o, idx, j, n, ci] && decide (ci < 13)
  | .invokespecial idx, [j, n, _], [p] => pv_lk LK p [9, o, idx, j, n]
  | _, _, _ => false
def pv_okr (rt : Option FieldType) (i : Instr) (xs : List Nat) : Bool := match i with
  | .ireturn => match xs with
    | [0] => decide (rt = some .int)
    | [1] => decide (rt = some .boolean)
    | _ => false
  | .lreturn => decide (rt = some .long)
  | .return_ => decide (rt = none)
  | _ => false
def pv_okR (LK : List (List Nat)) (M : pv_M) (o k : Nat) (r : pv_R) : Bool := decide (decode M.2.1 r.1 = .ok (r.2.1, r.2.2.1)) &&
  (if pv_isR r.2.1 then pv_okr M.2.2.2.1 r.2.1 r.2.2.2.1 && r.2.2.1 == 1
   else if pv_isC r.2.1 r.2.2.2.1 then pv_okc LK o r.2.1 r.2.2.2.1 r.2.2.2.2 && pv_nx M.2.2.2.2 k r.1 r.2.2.1 3
   else pv_okx LK M.2.2.2.2 o M.1.name M.2.2.1 k r.1 r.2.2.1 r.2.1 r.2.2.2.1 r.2.2.2.2)
def pv_okM (LK : List (List Nat)) (M : pv_M) : Bool := plainName M.1.cls && pv_pc M.2.2.2.2 0 == 0 && decide (M.2.2.1 ≤ 30) && (List.range pv_cn.length).any (fun o => decide (pv_cn[o]? = some M.1.cls) && (List.range M.2.2.2.2.length).all (fun k => match M.2.2.2.2[k]? with
  | some r => decide (r.2.1 = .nop) || pv_okR LK M o k r
  | none => true))
end
section
def rX0_init : List pv_R := [
  (0, .aload_n 0, 1, [], []),
  (1, .invokespecial 3, 3, [9], [524]),
  (4, .aload_n 0, 1, [], []),
  (5, .bipush 8, 2, [], []),
  (7, .newarray .int, 2, [], []),
  (9, .putfield 9, 3, [0, 0], [366]),
  (12, .aload_n 0, 1, [], []),
  (13, .bipush 8, 2, [], []),
  (15, .newarray .int, 2, [], []),
  (17, .putfield 15, 3, [0, 1], [367]),
  (20, .aload_n 0, 1, [], []),
  (21, .bipush 8, 2, [], []),
  (23, .newarray .int, 2, [], []),
  (25, .putfield 18, 3, [0, 2], [368]),
  (28, .aload_n 0, 1, [], []),
  (29, .bipush 8, 2, [], []),
  (31, .newarray .int, 2, [], []),
  (33, .putfield 21, 3, [0, 3], [369]),
  (36, .aload_n 0, 1, [], []),
  (37, .bipush 8, 2, [], []),
  (39, .newarray .int, 2, [], []),
  (41, .putfield 24, 3, [0, 4], [370]),
  (44, .aload_n 0, 1, [], []),
  (45, .bipush 8, 2, [], []),
  (47, .newarray .int, 2, [], []),
  (49, .putfield 27, 3, [0, 5], [371]),
  (52, .aload_n 0, 1, [], []),
  (53, .bipush 8, 2, [], []),
  (55, .newarray .int, 2, [], []),
  (57, .putfield 30, 3, [0, 6], [372]),
  (60, .aload_n 0, 1, [], []),
  (61, .bipush 8, 2, [], []),
  (63, .newarray .int, 2, [], []),
  (65, .putfield 33, 3, [0, 7], [373]),
  (68, .aload_n 0, 1, [], []),
  (69, .getfield 18, 3, [0, 2], [192]),
  (72, .sipush 9999, 3, [], []),
  (75, .invokestatic 36, 3, [250, 2], [254]),
  (78, .aload_n 0, 1, [], []),
  (79, .getfield 30, 3, [0, 6], [309]),
  (82, .iconst 1, 1, [], []),
  (83, .invokestatic 36, 3, [250, 2], [254]),
  (86, .return_, 1, [], [])]
def mX0_init : pv_M := (⟨"CliffGarden$Brow", "<init>", "()V"⟩, prog_2_method_1_code, 1, none, rX0_init)
def rX0_carries : List pv_R := [
  (0, .iload_n 1, 1, [], []),
  (1, .iconst 5, 1, [], []),
  (2, .iload_n 3, 1, [], []),
  (3, .imul, 1, [], []),
  (4, .iadd, 1, [], []),
  (5, .aload_n 0, 1, [], []),
  (6, .getfield 27, 3, [0, 5], [308]),
  (9, .iload_n 2, 1, [], []),
  (10, .iaload, 1, [], []),
  (11, .if_icmp .gt 7, 3, [12], []),
  (14, .iconst 1, 1, [], []),
  (15, .goto 4, 3, [13], []),
  (18, .iconst 0, 1, [], []),
  (19, .ireturn, 1, [1], [])]
def mX0_carries : pv_M := (⟨"CliffGarden$Brow", "carries", "(III)Z"⟩, prog_2_method_2_code, 4, some .boolean, rX0_carries)
def rX0_factOf : List pv_R := [
  (0, .iload_n 2, 1, [], []),
  (1, .tableswitch 59 0 3 #[31, 38, 45, 52], 31, [22, 2, 7, 12, 17], []),
  (32, .aload_n 0, 1, [], []),
  (33, .getfield 15, 3, [0, 1], [305]),
  (36, .iload_n 1, 1, [], []),
  (37, .iaload, 1, [], []),
  (38, .ireturn, 1, [0], []),
  (39, .aload_n 0, 1, [], []),
  (40, .getfield 18, 3, [0, 2], [192]),
  (43, .iload_n 1, 1, [], []),
  (44, .iaload, 1, [], []),
  (45, .ireturn, 1, [0], []),
  (46, .aload_n 0, 1, [], []),
  (47, .getfield 21, 3, [0, 3], [306]),
  (50, .iload_n 1, 1, [], []),
  (51, .iaload, 1, [], []),
  (52, .ireturn, 1, [0], []),
  (53, .aload_n 0, 1, [], []),
  (54, .getfield 24, 3, [0, 4], [307]),
  (57, .iload_n 1, 1, [], []),
  (58, .iaload, 1, [], []),
  (59, .ireturn, 1, [0], []),
  (60, .iconst (-1), 1, [], []),
  (61, .ireturn, 1, [0], [])]
def mX0_factOf : pv_M := (⟨"CliffGarden$Brow", "factOf", "(II)I"⟩, prog_2_method_3_code, 3, some .int, rX0_factOf)
def rX1_init : List pv_R := [
  (0, .aload_n 0, 1, [], []),
  (1, .invokespecial 3, 3, [9], [525]),
  (4, .aload_n 0, 1, [], []),
  (5, .bipush 14, 2, [], []),
  (7, .newarray .int, 2, [], []),
  (9, .putfield 11, 3, [1, 3], [374]),
  (12, .aload_n 0, 1, [], []),
  (13, .new 9, 3, [7], [512]),
  (16, .dup, 1, [], []),
  (17, .invokespecial 17, 3, [74, 0, 0], [641]),
  (20, .putfield 18, 3, [1, 4], [47]),
  (23, .aload_n 0, 1, [], []),
  (24, .aload_n 1, 1, [], []),
  (25, .putfield 22, 3, [1, 0], [375]),
  (28, .aload_n 0, 1, [], []),
  (29, .aload_n 2, 1, [], []),
  (30, .putfield 26, 3, [1, 1], [376]),
  (33, .aload_n 0, 1, [], []),
  (34, .aload_n 3, 1, [], []),
  (35, .putfield 30, 3, [1, 2], [377]),
  (38, .return_, 1, [], [])]
def mX1_init : pv_M := (⟨"CliffGarden$Court", "<init>", "(LCliffGarden$Nets;LCliffGarden$Brow;LCliffGarden$Falls;)V"⟩, prog_3_method_1_code, 4, none, rX1_init)
def rX1_growth : List pv_R := [
  (0, .aload_n 0, 1, [], []),
  (1, .iload_n 1, 1, [], []),
  (2, .invokevirtual 34, 3, [11, 1, 1], [173]),
  (5, .aload_n 0, 1, [], []),
  (6, .getfield 11, 3, [1, 3], [5]),
  (9, .bipush 7, 2, [], []),
  (11, .iload_n 2, 1, [], []),
  (12, .iastore, 1, [], []),
  (13, .aload_n 0, 1, [], []),
  (14, .getfield 18, 3, [1, 4], [47]),
  (17, .bipush 103, 2, [], []),
  (19, .bipush 50, 2, [], []),
  (21, .aload_n 0, 1, [], []),
  (22, .getfield 11, 3, [1, 3], [5]),
  (25, .invokevirtual 38, 3, [76, 3, 7], [72]),
  (28, .ireturn, 1, [0], [])]
def mX1_growth : pv_M := (⟨"CliffGarden$Court", "growth", "(II)I"⟩, prog_3_method_2_code, 3, some .int, rX1_growth)
def rX1_oddsOfFall : List pv_R := [
  (0, .aload_n 0, 1, [], []),
  (1, .iload_n 1, 1, [], []),
  (2, .invokevirtual 34, 3, [11, 1, 1], [173]),
  (5, .aload_n 0, 1, [], []),
  (6, .getfield 18, 3, [1, 4], [47]),
  (9, .bipush 102, 2, [], []),
  (11, .sipush 1000, 3, [], []),
  (14, .aload_n 0, 1, [], []),
  (15, .getfield 11, 3, [1, 3], [5]),
  (18, .invokevirtual 38, 3, [76, 3, 7], [72]),
  (21, .ireturn, 1, [0], [])]
def mX1_oddsOfFall : pv_M := (⟨"CliffGarden$Court", "oddsOfFall", "(I)I"⟩, prog_3_method_3_code, 2, some .int, rX1_oddsOfFall)
def rX1_ageing : List pv_R := [
  (0, .aload_n 0, 1, [], []),
  (1, .iload_n 1, 1, [], []),
  (2, .invokevirtual 34, 3, [11, 1, 1], [173]),
  (5, .aload_n 0, 1, [], []),
  (6, .getfield 18, 3, [1, 4], [47]),
  (9, .bipush 97, 2, [], []),
  (11, .sipush 999, 3, [], []),
  (14, .aload_n 0, 1, [], []),
  (15, .getfield 11, 3, [1, 3], [5]),
  (18, .invokevirtual 38, 3, [76, 3, 7], [72]),
  (21, .ireturn, 1, [0], [])]
def mX1_ageing : pv_M := (⟨"CliffGarden$Court", "ageing", "(I)I"⟩, prog_3_method_4_code, 2, some .int, rX1_ageing)
def rX1_catchingLevel : List pv_R := [
  (0, .aload_n 0, 1, [], []),
  (1, .getfield 30, 3, [1, 2], [43]),
  (4, .getfield 42, 3, [2, 0], [134]),
  (7, .iload_n 1, 1, [], []),
  (8, .iaload, 1, [], []),
  (9, .istore_n 2, 1, [], []),
  (10, .iload_n 2, 1, [], []),
  (11, .invokestatic 47, 3, [20, 1], [545]),
  (14, .istore_n 3, 1, [], []),
  (15, .iload_n 2, 1, [], []),
  (16, .iconst 1, 1, [], []),
  (17, .iadd, 1, [], []),
  (18, .istore 4, 2, [], []),
  (20, .iload 4, 2, [], []),
  (22, .iload_n 3, 1, [], []),
  (23, .if_icmp .ge 66, 3, [48], []),
  (26, .aload_n 0, 1, [], []),
  (27, .getfield 22, 3, [1, 0], [29]),
  (30, .iload 4, 2, [], []),
  (32, .invokevirtual 53, 3, [21, 1, 3], [565]),
  (35, .ifCond .eq 48, 3, [46], []),
  (38, .aload_n 0, 1, [], []),
  (39, .iload 4, 2, [], []),
  (41, .invokevirtual 57, 3, [10, 1, 1], [174]),
  (44, .aload_n 0, 1, [], []),
  (45, .iload_n 1, 1, [], []),
  (46, .invokevirtual 60, 3, [12, 1, 1], [262]),
  (49, .aload_n 0, 1, [], []),
  (50, .getfield 11, 3, [1, 3], [5]),
  (53, .bipush 12, 2, [], []),
  (55, .iload 4, 2, [], []),
  (57, .iload_n 2, 1, [], []),
  (58, .isub, 1, [], []),
  (59, .iastore, 1, [], []),
  (60, .aload_n 0, 1, [], []),
  (61, .getfield 18, 3, [1, 4], [47]),
  (64, .bipush 99, 2, [], []),
  (66, .iconst 1, 1, [], []),
  (67, .aload_n 0, 1, [], []),
  (68, .getfield 11, 3, [1, 3], [5]),
  (71, .invokevirtual 38, 3, [76, 3, 7], [72]),
  (74, .ifCond .le 9, 3, [46], []),
  (77, .iload 4, 2, [], []),
  (79, .bipush 6, 2, [], []),
  (81, .irem, 1, [], []),
  (82, .ireturn, 1, [0], []),
  (83, .iinc 4 1, 3, [], []),
  (86, .goto (-66), 3, [13], []),
  (89, .bipush 6, 2, [], []),
  (91, .ireturn, 1, [0], [])]
def mX1_catchingLevel : pv_M := (⟨"CliffGarden$Court", "catchingLevel", "(I)I"⟩, prog_3_method_5_code, 5, some .int, rX1_catchingLevel)
def rX1_ownerOf : List pv_R := [
  (0, .aload_n 0, 1, [], []),
  (1, .iload_n 1, 1, [], []),
  (2, .invokevirtual 63, 3, [13, 1, 1], [263]),
  (5, .aload_n 0, 1, [], []),
  (6, .getfield 18, 3, [1, 4], [47]),
  (9, .bipush 111, 2, [], []),
  (11, .bipush 7, 2, [], []),
  (13, .aload_n 0, 1, [], []),
  (14, .getfield 11, 3, [1, 3], [5]),
  (17, .invokevirtual 38, 3, [76, 3, 7], [72]),
  (20, .ireturn, 1, [0], [])]
def mX1_ownerOf : pv_M := (⟨"CliffGarden$Court", "ownerOf", "(I)I"⟩, prog_3_method_6_code, 2, some .int, rX1_ownerOf)
def rX1_pointsOf : List pv_R := [
  (0, .aload_n 0, 1, [], []),
  (1, .iload_n 1, 1, [], []),
  (2, .invokevirtual 63, 3, [13, 1, 1], [263]),
  (5, .aload_n 0, 1, [], []),
  (6, .getfield 11, 3, [1, 3], [5]),
  (9, .bipush 13, 2, [], []),
  (11, .iload_n 2, 1, [], []),
  (12, .iastore, 1, [], []),
  (13, .aload_n 0, 1, [], []),
  (14, .getfield 18, 3, [1, 4], [47]),
  (17, .bipush 113, 2, [], []),
  (19, .sipush 1000, 3, [], []),
  (22, .aload_n 0, 1, [], []),
  (23, .getfield 11, 3, [1, 3], [5]),
  (26, .invokevirtual 38, 3, [76, 3, 7], [72]),
  (29, .ireturn, 1, [0], [])]
def mX1_pointsOf : pv_M := (⟨"CliffGarden$Court", "pointsOf", "(II)I"⟩, prog_3_method_7_code, 3, some .int, rX1_pointsOf)
def rX1_seeCell : List pv_R := [
  (0, .aload_n 0, 1, [], []),
  (1, .getfield 11, 3, [1, 3], [5]),
  (4, .iconst 0, 1, [], []),
  (5, .invokestatic 66, 3, [250, 2], [546]),
  (8, .aload_n 0, 1, [], []),
  (9, .getfield 11, 3, [1, 3], [5]),
  (12, .iconst 2, 1, [], []),
  (13, .iload_n 1, 1, [], []),
  (14, .bipush 6, 2, [], []),
  (16, .idiv, 1, [], []),
  (17, .iastore, 1, [], []),
  (18, .aload_n 0, 1, [], []),
  (19, .getfield 11, 3, [1, 3], [5]),
  (22, .iconst 3, 1, [], []),
  (23, .iload_n 1, 1, [], []),
  (24, .bipush 6, 2, [], []),
  (26, .irem, 1, [], []),
  (27, .iastore, 1, [], []),
  (28, .aload_n 0, 1, [], []),
  (29, .getfield 11, 3, [1, 3], [5]),
  (32, .iconst 4, 1, [], []),
  (33, .aload_n 0, 1, [], []),
  (34, .getfield 22, 3, [1, 0], [29]),
  (37, .getfield 72, 3, [3, 2], [310]),
  (40, .iload_n 1, 1, [], []),
  (41, .iaload, 1, [], []),
  (42, .iastore, 1, [], []),
  (43, .aload_n 0, 1, [], []),
  (44, .getfield 11, 3, [1, 3], [5]),
  (47, .iconst 5, 1, [], []),
  (48, .aload_n 0, 1, [], []),
  (49, .getfield 22, 3, [1, 0], [29]),
  (52, .getfield 75, 3, [3, 1], [311]),
  (55, .iload_n 1, 1, [], []),
  (56, .iaload, 1, [], []),
  (57, .iastore, 1, [], []),
  (58, .aload_n 0, 1, [], []),
  (59, .getfield 11, 3, [1, 3], [5]),
  (62, .bipush 6, 2, [], []),
  (64, .aload_n 0, 1, [], []),
  (65, .getfield 22, 3, [1, 0], [29]),
  (68, .getfield 78, 3, [3, 3], [312]),
  (71, .iload_n 1, 1, [], []),
  (72, .iaload, 1, [], []),
  (73, .iastore, 1, [], []),
  (74, .aload_n 0, 1, [], []),
  (75, .getfield 11, 3, [1, 3], [5]),
  (78, .bipush 7, 2, [], []),
  (80, .aload_n 0, 1, [], []),
  (81, .getfield 22, 3, [1, 0], [29]),
  (84, .getfield 81, 3, [3, 8], [313]),
  (87, .iload_n 1, 1, [], []),
  (88, .iaload, 1, [], []),
  (89, .iastore, 1, [], []),
  (90, .aload_n 0, 1, [], []),
  (91, .getfield 11, 3, [1, 3], [5]),
  (94, .bipush 10, 2, [], []),
  (96, .aload_n 0, 1, [], []),
  (97, .getfield 26, 3, [1, 1], [193]),
  (100, .getfield 84, 3, [0, 8], [314]),
  (103, .iastore, 1, [], []),
  (104, .aload_n 0, 1, [], []),
  (105, .getfield 11, 3, [1, 3], [5]),
  (108, .bipush 11, 2, [], []),
  (110, .aload_n 0, 1, [], []),
  (111, .getfield 26, 3, [1, 1], [193]),
  (114, .getfield 90, 3, [0, 1], [315]),
  (117, .iload_n 1, 1, [], []),
  (118, .bipush 6, 2, [], []),
  (120, .idiv, 1, [], []),
  (121, .iaload, 1, [], []),
  (122, .iastore, 1, [], []),
  (123, .return_, 1, [], [])]
def mX1_seeCell : pv_M := (⟨"CliffGarden$Court", "seeCell", "(I)V"⟩, prog_3_method_8_code, 2, none, rX1_seeCell)
def rX1_seeCellAndCrop : List pv_R := [
  (0, .aload_n 0, 1, [], []),
  (1, .iload_n 1, 1, [], []),
  (2, .invokevirtual 57, 3, [10, 1, 1], [174]),
  (5, .aload_n 0, 1, [], []),
  (6, .getfield 22, 3, [1, 0], [29]),
  (9, .iload_n 1, 1, [], []),
  (10, .invokevirtual 93, 3, [22, 1, 3], [566]),
  (13, .ifCond .eq 80, 3, [51], []),
  (16, .aload_n 0, 1, [], []),
  (17, .getfield 11, 3, [1, 3], [5]),
  (20, .iconst 0, 1, [], []),
  (21, .aload_n 0, 1, [], []),
  (22, .getfield 22, 3, [1, 0], [29]),
  (25, .getfield 96, 3, [3, 5], [316]),
  (28, .iload_n 1, 1, [], []),
  (29, .iaload, 1, [], []),
  (30, .iastore, 1, [], []),
  (31, .aload_n 0, 1, [], []),
  (32, .getfield 11, 3, [1, 3], [5]),
  (35, .iconst 1, 1, [], []),
  (36, .aload_n 0, 1, [], []),
  (37, .getfield 22, 3, [1, 0], [29]),
  (40, .getfield 99, 3, [3, 6], [317]),
  (43, .iload_n 1, 1, [], []),
  (44, .iaload, 1, [], []),
  (45, .iastore, 1, [], []),
  (46, .aload_n 0, 1, [], []),
  (47, .getfield 11, 3, [1, 3], [5]),
  (50, .bipush 8, 2, [], []),
  (52, .aload_n 0, 1, [], []),
  (53, .getfield 22, 3, [1, 0], [29]),
  (56, .iload_n 1, 1, [], []),
  (57, .invokevirtual 102, 3, [23, 1, 3], [567]),
  (60, .ifCond .eq 7, 3, [36], []),
  (63, .iconst 1, 1, [], []),
  (64, .goto 4, 3, [37], []),
  (67, .iconst 0, 1, [], []),
  (68, .iastore, 1, [], []),
  (69, .aload_n 0, 1, [], []),
  (70, .getfield 11, 3, [1, 3], [5]),
  (73, .bipush 9, 2, [], []),
  (75, .aload_n 0, 1, [], []),
  (76, .getfield 22, 3, [1, 0], [29]),
  (79, .getfield 105, 3, [3, 9], [318]),
  (82, .iload_n 1, 1, [], []),
  (83, .baload, 1, [1], []),
  (84, .ifCond .eq 7, 3, [49], []),
  (87, .iconst 1, 1, [], []),
  (88, .goto 4, 3, [50], []),
  (91, .iconst 0, 1, [], []),
  (92, .iastore, 1, [], []),
  (93, .return_, 1, [], [])]
def mX1_seeCellAndCrop : pv_M := (⟨"CliffGarden$Court", "seeCellAndCrop", "(I)V"⟩, prog_3_method_9_code, 2, none, rX1_seeCellAndCrop)
def rX1_seeFallen : List pv_R := [
  (0, .aload_n 0, 1, [], []),
  (1, .getfield 11, 3, [1, 3], [5]),
  (4, .iconst 0, 1, [], []),
  (5, .aload_n 0, 1, [], []),
  (6, .getfield 30, 3, [1, 2], [43]),
  (9, .getfield 109, 3, [2, 1], [319]),
  (12, .iload_n 1, 1, [], []),
  (13, .iaload, 1, [], []),
  (14, .iastore, 1, [], []),
  (15, .aload_n 0, 1, [], []),
  (16, .getfield 11, 3, [1, 3], [5]),
  (19, .iconst 1, 1, [], []),
  (20, .aload_n 0, 1, [], []),
  (21, .getfield 30, 3, [1, 2], [43]),
  (24, .getfield 110, 3, [2, 2], [320]),
  (27, .iload_n 1, 1, [], []),
  (28, .iaload, 1, [], []),
  (29, .iastore, 1, [], []),
  (30, .aload_n 0, 1, [], []),
  (31, .getfield 11, 3, [1, 3], [5]),
  (34, .bipush 8, 2, [], []),
  (36, .aload_n 0, 1, [], []),
  (37, .getfield 30, 3, [1, 2], [43]),
  (40, .getfield 111, 3, [2, 3], [321]),
  (43, .iload_n 1, 1, [], []),
  (44, .baload, 1, [1], []),
  (45, .ifCond .eq 7, 3, [29], []),
  (48, .iconst 1, 1, [], []),
  (49, .goto 4, 3, [30], []),
  (52, .iconst 0, 1, [], []),
  (53, .iastore, 1, [], []),
  (54, .aload_n 0, 1, [], []),
  (55, .getfield 11, 3, [1, 3], [5]),
  (58, .bipush 9, 2, [], []),
  (60, .aload_n 0, 1, [], []),
  (61, .getfield 30, 3, [1, 2], [43]),
  (64, .getfield 114, 3, [2, 4], [322]),
  (67, .iload_n 1, 1, [], []),
  (68, .baload, 1, [1], []),
  (69, .ifCond .eq 7, 3, [42], []),
  (72, .iconst 1, 1, [], []),
  (73, .goto 4, 3, [43], []),
  (76, .iconst 0, 1, [], []),
  (77, .iastore, 1, [], []),
  (78, .return_, 1, [], [])]
def mX1_seeFallen : pv_M := (⟨"CliffGarden$Court", "seeFallen", "(I)V"⟩, prog_3_method_10_code, 2, none, rX1_seeFallen)
def rX1_seeFallFromItsCell : List pv_R := [
  (0, .aload_n 0, 1, [], []),
  (1, .aload_n 0, 1, [], []),
  (2, .getfield 30, 3, [1, 2], [43]),
  (5, .getfield 42, 3, [2, 0], [134]),
  (8, .iload_n 1, 1, [], []),
  (9, .iaload, 1, [], []),
  (10, .invokevirtual 57, 3, [10, 1, 1], [174]),
  (13, .aload_n 0, 1, [], []),
  (14, .iload_n 1, 1, [], []),
  (15, .invokevirtual 60, 3, [12, 1, 1], [262]),
  (18, .aload_n 0, 1, [], []),
  (19, .getfield 11, 3, [1, 3], [5]),
  (22, .bipush 12, 2, [], []),
  (24, .aload_n 0, 1, [], []),
  (25, .getfield 30, 3, [1, 2], [43]),
  (28, .getfield 115, 3, [2, 5], [323]),
  (31, .iload_n 1, 1, [], []),
  (32, .iaload, 1, [], []),
  (33, .aload_n 0, 1, [], []),
  (34, .getfield 30, 3, [1, 2], [43]),
  (37, .getfield 42, 3, [2, 0], [134]),
  (40, .iload_n 1, 1, [], []),
  (41, .iaload, 1, [], []),
  (42, .bipush 6, 2, [], []),
  (44, .irem, 1, [], []),
  (45, .isub, 1, [], []),
  (46, .iastore, 1, [], []),
  (47, .return_, 1, [], [])]
def mX1_seeFallFromItsCell : pv_M := (⟨"CliffGarden$Court", "seeFallFromItsCell", "(I)V"⟩, prog_3_method_11_code, 2, none, rX1_seeFallFromItsCell)
def rX2_init : List pv_R := [
  (0, .aload_n 0, 1, [], []),
  (1, .invokespecial 3, 3, [9], [526]),
  (4, .aload_n 0, 1, [], []),
  (5, .bipush 61, 2, [], []),
  (7, .newarray .int, 2, [], []),
  (9, .putfield 11, 3, [2, 0], [378]),
  (12, .aload_n 0, 1, [], []),
  (13, .bipush 61, 2, [], []),
  (15, .newarray .int, 2, [], []),
  (17, .putfield 15, 3, [2, 1], [379]),
  (20, .aload_n 0, 1, [], []),
  (21, .bipush 61, 2, [], []),
  (23, .newarray .int, 2, [], []),
  (25, .putfield 18, 3, [2, 2], [380]),
  (28, .aload_n 0, 1, [], []),
  (29, .bipush 61, 2, [], []),
  (31, .newarray .boolean, 2, [], []),
  (33, .putfield 21, 3, [2, 3], [381]),
  (36, .aload_n 0, 1, [], []),
  (37, .bipush 61, 2, [], []),
  (39, .newarray .boolean, 2, [], []),
  (41, .putfield 25, 3, [2, 4], [382]),
  (44, .aload_n 0, 1, [], []),
  (45, .bipush 61, 2, [], []),
  (47, .newarray .int, 2, [], []),
  (49, .putfield 28, 3, [2, 5], [383]),
  (52, .aload_n 0, 1, [], []),
  (53, .bipush 61, 2, [], []),
  (55, .newarray .int, 2, [], []),
  (57, .putfield 31, 3, [2, 6], [384]),
  (60, .aload_n 0, 1, [], []),
  (61, .bipush 61, 2, [], []),
  (63, .newarray .int, 2, [], []),
  (65, .putfield 34, 3, [2, 7], [385]),
  (68, .aload_n 0, 1, [], []),
  (69, .bipush 61, 2, [], []),
  (71, .newarray .int, 2, [], []),
  (73, .putfield 37, 3, [2, 8], [386]),
  (76, .return_, 1, [], [])]
def mX2_init : pv_M := (⟨"CliffGarden$Falls", "<init>", "()V"⟩, prog_4_method_1_code, 1, none, rX2_init)
def rX2_open : List pv_R := [
  (0, .aload_n 0, 1, [], []),
  (1, .getfield 11, 3, [2, 0], [135]),
  (4, .aload_n 0, 1, [], []),
  (5, .getfield 40, 3, [2, 9], [25]),
  (8, .iload_n 2, 1, [], []),
  (9, .iastore, 1, [], []),
  (10, .aload_n 0, 1, [], []),
  (11, .getfield 15, 3, [2, 1], [194]),
  (14, .aload_n 0, 1, [], []),
  (15, .getfield 40, 3, [2, 9], [25]),
  (18, .aload_n 1, 1, [], []),
  (19, .getfield 44, 3, [3, 5], [328]),
  (22, .iload_n 2, 1, [], []),
  (23, .iaload, 1, [], []),
  (24, .iastore, 1, [], []),
  (25, .aload_n 0, 1, [], []),
  (26, .getfield 18, 3, [2, 2], [195]),
  (29, .aload_n 0, 1, [], []),
  (30, .getfield 40, 3, [2, 9], [25]),
  (33, .aload_n 1, 1, [], []),
  (34, .getfield 47, 3, [3, 6], [329]),
  (37, .iload_n 2, 1, [], []),
  (38, .iaload, 1, [], []),
  (39, .iastore, 1, [], []),
  (40, .aload_n 0, 1, [], []),
  (41, .getfield 21, 3, [2, 3], [324]),
  (44, .aload_n 0, 1, [], []),
  (45, .getfield 40, 3, [2, 9], [25]),
  (48, .aload_n 1, 1, [], []),
  (49, .iload_n 2, 1, [], []),
  (50, .invokevirtual 48, 3, [23, 1, 3], [568]),
  (53, .bastore, 1, [1], []),
  (54, .aload_n 0, 1, [], []),
  (55, .getfield 25, 3, [2, 4], [325]),
  (58, .aload_n 0, 1, [], []),
  (59, .getfield 40, 3, [2, 9], [25]),
  (62, .aload_n 1, 1, [], []),
  (63, .getfield 52, 3, [3, 9], [330]),
  (66, .iload_n 2, 1, [], []),
  (67, .baload, 1, [1], []),
  (68, .bastore, 1, [1], []),
  (69, .aload_n 0, 1, [], []),
  (70, .getfield 37, 3, [2, 8], [196]),
  (73, .aload_n 0, 1, [], []),
  (74, .getfield 40, 3, [2, 9], [25]),
  (77, .iload_n 3, 1, [], []),
  (78, .iastore, 1, [], []),
  (79, .aload_n 0, 1, [], []),
  (80, .getfield 40, 3, [2, 9], [25]),
  (83, .ireturn, 1, [0], [])]
def mX2_open : pv_M := (⟨"CliffGarden$Falls", "open", "(LCliffGarden$Nets;II)I"⟩, prog_4_method_2_code, 4, some .int, rX2_open)
def rX2_close : List pv_R := [
  (0, .aload_n 0, 1, [], []),
  (1, .dup, 1, [], []),
  (2, .getfield 53, 3, [2, 10], [197]),
  (5, .iconst 1, 1, [], []),
  (6, .iadd, 1, [], []),
  (7, .putfield 53, 3, [2, 10], [197]),
  (10, .aload_n 0, 1, [], []),
  (11, .getfield 40, 3, [2, 9], [25]),
  (14, .bipush 60, 2, [], []),
  (16, .if_icmp .ge 13, 3, [16], []),
  (19, .aload_n 0, 1, [], []),
  (20, .dup, 1, [], []),
  (21, .getfield 40, 3, [2, 9], [25]),
  (24, .iconst 1, 1, [], []),
  (25, .iadd, 1, [], []),
  (26, .putfield 40, 3, [2, 9], [25]),
  (29, .return_, 1, [], [])]
def mX2_close : pv_M := (⟨"CliffGarden$Falls", "close", "()V"⟩, prog_4_method_3_code, 1, none, rX2_close)
def rX2_isWritten : List pv_R := [
  (0, .iload_n 1, 1, [], []),
  (1, .ifCond .lt 15, 3, [8], []),
  (4, .iload_n 1, 1, [], []),
  (5, .aload_n 0, 1, [], []),
  (6, .getfield 40, 3, [2, 9], [25]),
  (9, .if_icmp .ge 7, 3, [8], []),
  (12, .iconst 1, 1, [], []),
  (13, .goto 4, 3, [9], []),
  (16, .iconst 0, 1, [], []),
  (17, .ireturn, 1, [1], [])]
def mX2_isWritten : pv_M := (⟨"CliffGarden$Falls", "isWritten", "(I)Z"⟩, prog_4_method_4_code, 2, some .boolean, rX2_isWritten)
def rX2_factOf : List pv_R := [
  (0, .iload_n 2, 1, [], []),
  (1, .tableswitch 98 0 6 #[43, 53, 63, 70, 77, 84, 91], 43, [41, 2, 9, 16, 21, 26, 31, 36], []),
  (44, .aload_n 0, 1, [], []),
  (45, .getfield 11, 3, [2, 0], [135]),
  (48, .iload_n 1, 1, [], []),
  (49, .iaload, 1, [], []),
  (50, .bipush 6, 2, [], []),
  (52, .idiv, 1, [], []),
  (53, .ireturn, 1, [0], []),
  (54, .aload_n 0, 1, [], []),
  (55, .getfield 11, 3, [2, 0], [135]),
  (58, .iload_n 1, 1, [], []),
  (59, .iaload, 1, [], []),
  (60, .bipush 6, 2, [], []),
  (62, .irem, 1, [], []),
  (63, .ireturn, 1, [0], []),
  (64, .aload_n 0, 1, [], []),
  (65, .getfield 15, 3, [2, 1], [194]),
  (68, .iload_n 1, 1, [], []),
  (69, .iaload, 1, [], []),
  (70, .ireturn, 1, [0], []),
  (71, .aload_n 0, 1, [], []),
  (72, .getfield 18, 3, [2, 2], [195]),
  (75, .iload_n 1, 1, [], []),
  (76, .iaload, 1, [], []),
  (77, .ireturn, 1, [0], []),
  (78, .aload_n 0, 1, [], []),
  (79, .getfield 28, 3, [2, 5], [326]),
  (82, .iload_n 1, 1, [], []),
  (83, .iaload, 1, [], []),
  (84, .ireturn, 1, [0], []),
  (85, .aload_n 0, 1, [], []),
  (86, .getfield 31, 3, [2, 6], [327]),
  (89, .iload_n 1, 1, [], []),
  (90, .iaload, 1, [], []),
  (91, .ireturn, 1, [0], []),
  (92, .aload_n 0, 1, [], []),
  (93, .getfield 37, 3, [2, 8], [196]),
  (96, .iload_n 1, 1, [], []),
  (97, .iaload, 1, [], []),
  (98, .ireturn, 1, [0], []),
  (99, .sipush (-1000), 3, [], []),
  (102, .ireturn, 1, [0], [])]
def mX2_factOf : pv_M := (⟨"CliffGarden$Falls", "factOf", "(II)I"⟩, prog_4_method_5_code, 3, some .int, rX2_factOf)
def rX3_init : List pv_R := [
  (0, .aload_n 0, 1, [], []),
  (1, .invokespecial 3, 3, [9], [527]),
  (4, .aload_n 0, 1, [], []),
  (5, .bipush 48, 2, [], []),
  (7, .newarray .int, 2, [], []),
  (9, .putfield 9, 3, [3, 1], [387]),
  (12, .aload_n 0, 1, [], []),
  (13, .bipush 48, 2, [], []),
  (15, .newarray .int, 2, [], []),
  (17, .putfield 15, 3, [3, 2], [388]),
  (20, .aload_n 0, 1, [], []),
  (21, .bipush 48, 2, [], []),
  (23, .newarray .int, 2, [], []),
  (25, .putfield 18, 3, [3, 3], [389]),
  (28, .aload_n 0, 1, [], []),
  (29, .bipush 48, 2, [], []),
  (31, .newarray .int, 2, [], []),
  (33, .putfield 21, 3, [3, 4], [390]),
  (36, .aload_n 0, 1, [], []),
  (37, .bipush 48, 2, [], []),
  (39, .newarray .int, 2, [], []),
  (41, .putfield 24, 3, [3, 5], [391]),
  (44, .aload_n 0, 1, [], []),
  (45, .bipush 48, 2, [], []),
  (47, .newarray .int, 2, [], []),
  (49, .putfield 27, 3, [3, 6], [392]),
  (52, .aload_n 0, 1, [], []),
  (53, .bipush 48, 2, [], []),
  (55, .newarray .int, 2, [], []),
  (57, .putfield 30, 3, [3, 7], [393]),
  (60, .aload_n 0, 1, [], []),
  (61, .bipush 48, 2, [], []),
  (63, .newarray .int, 2, [], []),
  (65, .putfield 33, 3, [3, 8], [394]),
  (68, .aload_n 0, 1, [], []),
  (69, .bipush 48, 2, [], []),
  (71, .newarray .boolean, 2, [], []),
  (73, .putfield 36, 3, [3, 9], [395]),
  (76, .aload_n 0, 1, [], []),
  (77, .bipush 6, 2, [], []),
  (79, .newarray .int, 2, [], []),
  (81, .putfield 40, 3, [3, 10], [396]),
  (84, .aload_n 0, 1, [], []),
  (85, .bipush 6, 2, [], []),
  (87, .newarray .int, 2, [], []),
  (89, .putfield 43, 3, [3, 11], [397]),
  (92, .aload_n 0, 1, [], []),
  (93, .bipush 6, 2, [], []),
  (95, .newarray .int, 2, [], []),
  (97, .putfield 46, 3, [3, 12], [398]),
  (100, .aload_n 0, 1, [], []),
  (101, .bipush 48, 2, [], []),
  (103, .newarray .int, 2, [], []),
  (105, .putfield 49, 3, [3, 13], [399]),
  (108, .aload_n 0, 1, [], []),
  (109, .getfield 24, 3, [3, 5], [35]),
  (112, .iconst (-1), 1, [], []),
  (113, .invokestatic 52, 3, [250, 2], [124]),
  (116, .aload_n 0, 1, [], []),
  (117, .getfield 40, 3, [3, 10], [202]),
  (120, .iconst 1, 1, [], []),
  (121, .invokestatic 52, 3, [250, 2], [124]),
  (124, .aload_n 0, 1, [], []),
  (125, .getfield 43, 3, [3, 11], [136]),
  (128, .bipush 50, 2, [], []),
  (130, .invokestatic 52, 3, [250, 2], [124]),
  (133, .aload_n 0, 1, [], []),
  (134, .getfield 46, 3, [3, 12], [333]),
  (137, .iconst 1, 1, [], []),
  (138, .invokestatic 52, 3, [250, 2], [124]),
  (141, .return_, 1, [], [])]
def mX3_init : pv_M := (⟨"CliffGarden$Nets", "<init>", "()V"⟩, prog_5_method_1_code, 1, none, rX3_init)
def rX3_endOfColumn : List pv_R := [
  (0, .iload_n 0, 1, [], []),
  (1, .iload_n 0, 1, [], []),
  (2, .bipush 6, 2, [], []),
  (4, .irem, 1, [], []),
  (5, .isub, 1, [], []),
  (6, .bipush 6, 2, [], []),
  (8, .iadd, 1, [], []),
  (9, .ireturn, 1, [0], [])]
def mX3_endOfColumn : pv_M := (⟨"CliffGarden$Nets", "endOfColumn", "(I)I"⟩, prog_5_method_2_code, 1, some .int, rX3_endOfColumn)
def rX3_hangs : List pv_R := [
  (0, .iload_n 1, 1, [], []),
  (1, .ifCond .lt 26, 3, [16], []),
  (4, .iload_n 1, 1, [], []),
  (5, .bipush 48, 2, [], []),
  (7, .if_icmp .ge 20, 3, [16], []),
  (10, .aload_n 0, 1, [], []),
  (11, .getfield 58, 3, [3, 0], [60]),
  (14, .iload_n 1, 1, [], []),
  (15, .lushr, 1, [], []),
  (16, .lconst 1, 1, [], []),
  (17, .land, 1, [], []),
  (18, .lconst 0, 1, [], []),
  (19, .lcmp, 1, [], []),
  (20, .ifCond .eq 7, 3, [16], []),
  (23, .iconst 1, 1, [], []),
  (24, .goto 4, 3, [17], []),
  (27, .iconst 0, 1, [], []),
  (28, .ireturn, 1, [1], [])]
def mX3_hangs : pv_M := (⟨"CliffGarden$Nets", "hangs", "(I)Z"⟩, prog_5_method_3_code, 2, some .boolean, rX3_hangs)
def rX3_hasCrop : List pv_R := [
  (0, .aload_n 0, 1, [], []),
  (1, .iload_n 1, 1, [], []),
  (2, .invokevirtual 62, 3, [21, 1, 3], [92]),
  (5, .ifCond .eq 20, 3, [13], []),
  (8, .aload_n 0, 1, [], []),
  (9, .getfield 24, 3, [3, 5], [35]),
  (12, .iload_n 1, 1, [], []),
  (13, .iaload, 1, [], []),
  (14, .iconst 5, 1, [], []),
  (15, .invokestatic 66, 3, [138, 2], [547]),
  (18, .ifCond .eq 7, 3, [13], []),
  (21, .iconst 1, 1, [], []),
  (22, .goto 4, 3, [14], []),
  (25, .iconst 0, 1, [], []),
  (26, .ireturn, 1, [1], [])]
def mX3_hasCrop : pv_M := (⟨"CliffGarden$Nets", "hasCrop", "(I)Z"⟩, prog_5_method_4_code, 2, some .boolean, rX3_hasCrop)
def rX3_isRipe : List pv_R := [
  (0, .aload_n 0, 1, [], []),
  (1, .iload_n 1, 1, [], []),
  (2, .invokevirtual 70, 3, [22, 1, 3], [73]),
  (5, .ifCond .eq 27, 3, [18], []),
  (8, .aload_n 0, 1, [], []),
  (9, .getfield 27, 3, [3, 6], [76]),
  (12, .iload_n 1, 1, [], []),
  (13, .iaload, 1, [], []),
  (14, .aload_n 0, 1, [], []),
  (15, .getfield 43, 3, [3, 11], [136]),
  (18, .aload_n 0, 1, [], []),
  (19, .getfield 24, 3, [3, 5], [35]),
  (22, .iload_n 1, 1, [], []),
  (23, .iaload, 1, [], []),
  (24, .iaload, 1, [], []),
  (25, .if_icmp .lt 7, 3, [18], []),
  (28, .iconst 1, 1, [], []),
  (29, .goto 4, 3, [19], []),
  (32, .iconst 0, 1, [], []),
  (33, .ireturn, 1, [1], [])]
def mX3_isRipe : pv_M := (⟨"CliffGarden$Nets", "isRipe", "(I)Z"⟩, prog_5_method_5_code, 2, some .boolean, rX3_isRipe)
def rX3_needOf : List pv_R := [
  (0, .aload_n 0, 1, [], []),
  (1, .iload_n 1, 1, [], []),
  (2, .invokevirtual 70, 3, [22, 1, 3], [73]),
  (5, .ifCond .eq 17, 3, [12], []),
  (8, .aload_n 0, 1, [], []),
  (9, .getfield 40, 3, [3, 10], [202]),
  (12, .aload_n 0, 1, [], []),
  (13, .getfield 24, 3, [3, 5], [35]),
  (16, .iload_n 1, 1, [], []),
  (17, .iaload, 1, [], []),
  (18, .iaload, 1, [], []),
  (19, .goto 4, 3, [13], []),
  (22, .iconst 0, 1, [], []),
  (23, .ireturn, 1, [0], [])]
def mX3_needOf : pv_M := (⟨"CliffGarden$Nets", "needOf", "(I)I"⟩, prog_5_method_6_code, 2, some .int, rX3_needOf)
def rX3_setCrop : List pv_R := [
  (0, .aload_n 0, 1, [], []),
  (1, .getfield 24, 3, [3, 5], [35]),
  (4, .iload_n 1, 1, [], []),
  (5, .iload_n 2, 1, [], []),
  (6, .iastore, 1, [], []),
  (7, .aload_n 0, 1, [], []),
  (8, .getfield 27, 3, [3, 6], [76]),
  (11, .iload_n 1, 1, [], []),
  (12, .iload_n 3, 1, [], []),
  (13, .iastore, 1, [], []),
  (14, .aload_n 0, 1, [], []),
  (15, .getfield 36, 3, [3, 9], [201]),
  (18, .iload_n 1, 1, [], []),
  (19, .iconst 0, 1, [], []),
  (20, .bastore, 1, [1], []),
  (21, .return_, 1, [], [])]
def mX3_setCrop : pv_M := (⟨"CliffGarden$Nets", "setCrop", "(III)V"⟩, prog_5_method_7_code, 4, none, rX3_setCrop)
def rX3_clearCrop : List pv_R := [
  (0, .aload_n 0, 1, [], []),
  (1, .iload_n 1, 1, [], []),
  (2, .iconst (-1), 1, [], []),
  (3, .iconst 0, 1, [], []),
  (4, .invokevirtual 73, 3, [25, 3, 3], [569]),
  (7, .return_, 1, [], [])]
def mX3_clearCrop : pv_M := (⟨"CliffGarden$Nets", "clearCrop", "(I)V"⟩, prog_5_method_8_code, 2, none, rX3_clearCrop)
def rX3_crops : List pv_R := [
  (0, .iconst 0, 1, [], []),
  (1, .istore_n 1, 1, [], []),
  (2, .iconst 0, 1, [], []),
  (3, .istore_n 2, 1, [], []),
  (4, .iload_n 2, 1, [], []),
  (5, .bipush 48, 2, [], []),
  (7, .if_icmp .ge 20, 3, [14], []),
  (10, .aload_n 0, 1, [], []),
  (11, .iload_n 2, 1, [], []),
  (12, .invokevirtual 70, 3, [22, 1, 3], [73]),
  (15, .ifCond .eq 6, 3, [12], []),
  (18, .iinc 1 1, 3, [], []),
  (21, .iinc 2 1, 3, [], []),
  (24, .goto (-20), 3, [4], []),
  (27, .iload_n 1, 1, [], []),
  (28, .ireturn, 1, [0], [])]
def mX3_crops : pv_M := (⟨"CliffGarden$Nets", "crops", "()I"⟩, prog_5_method_9_code, 3, some .int, rX3_crops)
def rX3_factOf : List pv_R := [
  (0, .iload_n 2, 1, [], []),
  (1, .tableswitch 132 1 10 #[55, 62, 69, 76, 83, 90, 97, 104, 111, 126], 55, [55, 2, 7, 12, 17, 22, 27, 32, 37, 42, 51], []),
  (56, .aload_n 0, 1, [], []),
  (57, .getfield 9, 3, [3, 1], [59]),
  (60, .iload_n 1, 1, [], []),
  (61, .iaload, 1, [], []),
  (62, .ireturn, 1, [0], []),
  (63, .aload_n 0, 1, [], []),
  (64, .getfield 15, 3, [3, 2], [198]),
  (67, .iload_n 1, 1, [], []),
  (68, .iaload, 1, [], []),
  (69, .ireturn, 1, [0], []),
  (70, .aload_n 0, 1, [], []),
  (71, .getfield 18, 3, [3, 3], [331]),
  (74, .iload_n 1, 1, [], []),
  (75, .iaload, 1, [], []),
  (76, .ireturn, 1, [0], []),
  (77, .aload_n 0, 1, [], []),
  (78, .getfield 21, 3, [3, 4], [332]),
  (81, .iload_n 1, 1, [], []),
  (82, .iaload, 1, [], []),
  (83, .ireturn, 1, [0], []),
  (84, .aload_n 0, 1, [], []),
  (85, .getfield 24, 3, [3, 5], [35]),
  (88, .iload_n 1, 1, [], []),
  (89, .iaload, 1, [], []),
  (90, .ireturn, 1, [0], []),
  (91, .aload_n 0, 1, [], []),
  (92, .getfield 27, 3, [3, 6], [76]),
  (95, .iload_n 1, 1, [], []),
  (96, .iaload, 1, [], []),
  (97, .ireturn, 1, [0], []),
  (98, .aload_n 0, 1, [], []),
  (99, .getfield 30, 3, [3, 7], [199]),
  (102, .iload_n 1, 1, [], []),
  (103, .iaload, 1, [], []),
  (104, .ireturn, 1, [0], []),
  (105, .aload_n 0, 1, [], []),
  (106, .getfield 33, 3, [3, 8], [200]),
  (109, .iload_n 1, 1, [], []),
  (110, .iaload, 1, [], []),
  (111, .ireturn, 1, [0], []),
  (112, .aload_n 0, 1, [], []),
  (113, .getfield 36, 3, [3, 9], [201]),
  (116, .iload_n 1, 1, [], []),
  (117, .baload, 1, [1], []),
  (118, .ifCond .eq 7, 3, [49], []),
  (121, .iconst 1, 1, [], []),
  (122, .goto 4, 3, [50], []),
  (125, .iconst 0, 1, [], []),
  (126, .ireturn, 1, [0], []),
  (127, .aload_n 0, 1, [], []),
  (128, .iload_n 1, 1, [], []),
  (129, .invokevirtual 77, 3, [29, 1, 3], [127]),
  (132, .ireturn, 1, [0], []),
  (133, .sipush (-1000), 3, [], []),
  (136, .ireturn, 1, [0], [])]
def mX3_factOf : pv_M := (⟨"CliffGarden$Nets", "factOf", "(II)I"⟩, prog_5_method_10_code, 3, some .int, rX3_factOf)
def rX3_loadOf : List pv_R := [
  (0, .iconst 0, 1, [], []),
  (1, .istore_n 2, 1, [], []),
  (2, .iload_n 1, 1, [], []),
  (3, .invokestatic 81, 3, [20, 1], [169]),
  (6, .istore_n 3, 1, [], []),
  (7, .iload_n 1, 1, [], []),
  (8, .istore 4, 2, [], []),
  (10, .iload 4, 2, [], []),
  (12, .iload_n 3, 1, [], []),
  (13, .if_icmp .ge 55, 3, [40], []),
  (16, .aload_n 0, 1, [], []),
  (17, .iload 4, 2, [], []),
  (19, .invokevirtual 62, 3, [21, 1, 3], [92]),
  (22, .ifCond .eq 46, 3, [40], []),
  (25, .iload_n 2, 1, [], []),
  (26, .bipush 10, 2, [], []),
  (28, .aload_n 0, 1, [], []),
  (29, .getfield 15, 3, [3, 2], [198]),
  (32, .iload 4, 2, [], []),
  (34, .iaload, 1, [], []),
  (35, .imul, 1, [], []),
  (36, .aload_n 0, 1, [], []),
  (37, .getfield 27, 3, [3, 6], [76]),
  (40, .iload 4, 2, [], []),
  (42, .iaload, 1, [], []),
  (43, .iadd, 1, [], []),
  (44, .aload_n 0, 1, [], []),
  (45, .getfield 30, 3, [3, 7], [199]),
  (48, .iload 4, 2, [], []),
  (50, .iaload, 1, [], []),
  (51, .iadd, 1, [], []),
  (52, .aload_n 0, 1, [], []),
  (53, .getfield 33, 3, [3, 8], [200]),
  (56, .iload 4, 2, [], []),
  (58, .iaload, 1, [], []),
  (59, .iadd, 1, [], []),
  (60, .iadd, 1, [], []),
  (61, .istore_n 2, 1, [], []),
  (62, .iinc 4 1, 3, [], []),
  (65, .goto (-55), 3, [7], []),
  (68, .iload_n 2, 1, [], []),
  (69, .ireturn, 1, [0], [])]
def mX3_loadOf : pv_M := (⟨"CliffGarden$Nets", "loadOf", "(I)I"⟩, prog_5_method_11_code, 5, some .int, rX3_loadOf)
def rX3_ripeLoadOf : List pv_R := [
  (0, .aload_n 0, 1, [], []),
  (1, .iload_n 1, 1, [], []),
  (2, .invokevirtual 77, 3, [29, 1, 3], [127]),
  (5, .istore_n 2, 1, [], []),
  (6, .iload_n 1, 1, [], []),
  (7, .invokestatic 81, 3, [20, 1], [169]),
  (10, .istore_n 3, 1, [], []),
  (11, .iload_n 1, 1, [], []),
  (12, .istore 4, 2, [], []),
  (14, .iload 4, 2, [], []),
  (16, .iload_n 3, 1, [], []),
  (17, .if_icmp .ge 54, 3, [39], []),
  (20, .aload_n 0, 1, [], []),
  (21, .iload 4, 2, [], []),
  (23, .invokevirtual 62, 3, [21, 1, 3], [92]),
  (26, .ifCond .eq 45, 3, [39], []),
  (29, .aload_n 0, 1, [], []),
  (30, .iload 4, 2, [], []),
  (32, .invokevirtual 70, 3, [22, 1, 3], [73]),
  (35, .ifCond .eq 30, 3, [37], []),
  (38, .iload_n 2, 1, [], []),
  (39, .iconst 0, 1, [], []),
  (40, .aload_n 0, 1, [], []),
  (41, .getfield 43, 3, [3, 11], [136]),
  (44, .aload_n 0, 1, [], []),
  (45, .getfield 24, 3, [3, 5], [35]),
  (48, .iload 4, 2, [], []),
  (50, .iaload, 1, [], []),
  (51, .iaload, 1, [], []),
  (52, .aload_n 0, 1, [], []),
  (53, .getfield 27, 3, [3, 6], [76]),
  (56, .iload 4, 2, [], []),
  (58, .iaload, 1, [], []),
  (59, .isub, 1, [], []),
  (60, .invokestatic 84, 3, [0], [247]),
  (63, .iadd, 1, [], []),
  (64, .istore_n 2, 1, [], []),
  (65, .iinc 4 1, 3, [], []),
  (68, .goto (-54), 3, [9], []),
  (71, .iload_n 2, 1, [], []),
  (72, .ireturn, 1, [0], [])]
def mX3_ripeLoadOf : pv_M := (⟨"CliffGarden$Nets", "ripeLoadOf", "(I)I"⟩, prog_5_method_12_code, 5, some .int, rX3_ripeLoadOf)
def rX3_firstOverloaded : List pv_R := [
  (0, .iconst 0, 1, [], []),
  (1, .istore_n 1, 1, [], []),
  (2, .iload_n 1, 1, [], []),
  (3, .bipush 48, 2, [], []),
  (5, .if_icmp .ge 33, 3, [21], []),
  (8, .aload_n 0, 1, [], []),
  (9, .iload_n 1, 1, [], []),
  (10, .invokevirtual 62, 3, [21, 1, 3], [92]),
  (13, .ifCond .eq 19, 3, [19], []),
  (16, .aload_n 0, 1, [], []),
  (17, .iload_n 1, 1, [], []),
  (18, .invokevirtual 77, 3, [29, 1, 3], [127]),
  (21, .aload_n 0, 1, [], []),
  (22, .getfield 9, 3, [3, 1], [59]),
  (25, .iload_n 1, 1, [], []),
  (26, .iaload, 1, [], []),
  (27, .if_icmp .le 5, 3, [19], []),
  (30, .iload_n 1, 1, [], []),
  (31, .ireturn, 1, [0], []),
  (32, .iinc 1 1, 3, [], []),
  (35, .goto (-33), 3, [2], []),
  (38, .iconst (-1), 1, [], []),
  (39, .ireturn, 1, [0], [])]
def mX3_firstOverloaded : pv_M := (⟨"CliffGarden$Nets", "firstOverloaded", "()I"⟩, prog_5_method_13_code, 2, some .int, rX3_firstOverloaded)
def rX3_unhang : List pv_R := [
  (0, .iload_n 1, 1, [], []),
  (1, .invokestatic 81, 3, [20, 1], [169]),
  (4, .istore_n 3, 1, [], []),
  (5, .iload_n 1, 1, [], []),
  (6, .istore 4, 2, [], []),
  (8, .iload 4, 2, [], []),
  (10, .iload_n 3, 1, [], []),
  (11, .if_icmp .ge 26, 3, [20], []),
  (14, .aload_n 0, 1, [], []),
  (15, .dup, 1, [], []),
  (16, .getfield 58, 3, [3, 0], [60]),
  (19, .lconst 1, 1, [], []),
  (20, .iload 4, 2, [], []),
  (22, .lshl, 1, [], []),
  (23, .ldc2_w 90, 3, [18446744073709551615], [242]),
  (26, .lxor, 1, [], []),
  (27, .land, 1, [], []),
  (28, .putfield 58, 3, [3, 0], [60]),
  (31, .iinc 4 1, 3, [], []),
  (34, .goto (-26), 3, [5], []),
  (37, .aload_n 0, 1, [], []),
  (38, .iload_n 1, 1, [], []),
  (39, .bipush 6, 2, [], []),
  (41, .isub, 1, [], []),
  (42, .iload_n 2, 1, [], []),
  (43, .bipush 10, 2, [], []),
  (45, .idiv, 1, [], []),
  (46, .invokevirtual 92, 3, [33, 2, 3], [264]),
  (49, .aload_n 0, 1, [], []),
  (50, .iload_n 1, 1, [], []),
  (51, .bipush 6, 2, [], []),
  (53, .iadd, 1, [], []),
  (54, .iload_n 2, 1, [], []),
  (55, .bipush 10, 2, [], []),
  (57, .idiv, 1, [], []),
  (58, .invokevirtual 92, 3, [33, 2, 3], [264]),
  (61, .return_, 1, [], [])]
def mX3_unhang : pv_M := (⟨"CliffGarden$Nets", "unhang", "(II)V"⟩, prog_5_method_14_code, 5, none, rX3_unhang)
def rX3_loosen : List pv_R := [
  (0, .aload_n 0, 1, [], []),
  (1, .iload_n 1, 1, [], []),
  (2, .invokevirtual 62, 3, [21, 1, 3], [92]),
  (5, .ifCond .eq 21, 3, [16], []),
  (8, .aload_n 0, 1, [], []),
  (9, .getfield 9, 3, [3, 1], [59]),
  (12, .iload_n 1, 1, [], []),
  (13, .iconst 0, 1, [], []),
  (14, .aload_n 0, 1, [], []),
  (15, .getfield 9, 3, [3, 1], [59]),
  (18, .iload_n 1, 1, [], []),
  (19, .iaload, 1, [], []),
  (20, .iload_n 2, 1, [], []),
  (21, .isub, 1, [], []),
  (22, .invokestatic 84, 3, [0], [247]),
  (25, .iastore, 1, [], []),
  (26, .return_, 1, [], [])]
def mX3_loosen : pv_M := (⟨"CliffGarden$Nets", "loosen", "(II)V"⟩, prog_5_method_15_code, 3, none, rX3_loosen)
def rX3_wouldGo : List pv_R := [
  (0, .aload_n 0, 1, [], []),
  (1, .getfield 58, 3, [3, 0], [60]),
  (4, .lstore_n 2, 1, [], []),
  (5, .aload_n 0, 1, [], []),
  (6, .getfield 9, 3, [3, 1], [59]),
  (9, .iconst 0, 1, [], []),
  (10, .aload_n 0, 1, [], []),
  (11, .getfield 49, 3, [3, 13], [203]),
  (14, .iconst 0, 1, [], []),
  (15, .bipush 48, 2, [], []),
  (17, .invokestatic 96, 3, [3], [248]),
  (20, .iload_n 1, 1, [], []),
  (21, .istore 4, 2, [], []),
  (23, .iconst 0, 1, [], []),
  (24, .istore 5, 2, [], []),
  (26, .iload 5, 2, [], []),
  (28, .bipush 48, 2, [], []),
  (30, .if_icmp .gt 33, 3, [32], []),
  (33, .iload 4, 2, [], []),
  (35, .iconst (-1), 1, [], []),
  (36, .if_icmp .eq 27, 3, [32], []),
  (39, .aload_n 0, 1, [], []),
  (40, .iload 4, 2, [], []),
  (42, .aload_n 0, 1, [], []),
  (43, .iload 4, 2, [], []),
  (45, .invokevirtual 77, 3, [29, 1, 3], [127]),
  (48, .invokevirtual 102, 3, [32, 2, 3], [570]),
  (51, .aload_n 0, 1, [], []),
  (52, .invokevirtual 105, 3, [31, 0, 3], [571]),
  (55, .istore 4, 2, [], []),
  (57, .iinc 5 1, 3, [], []),
  (60, .goto (-34), 3, [15], []),
  (63, .lload_n 2, 1, [], []),
  (64, .aload_n 0, 1, [], []),
  (65, .getfield 58, 3, [3, 0], [60]),
  (68, .ldc2_w 90, 3, [18446744073709551615], [242]),
  (71, .lxor, 1, [], []),
  (72, .land, 1, [], []),
  (73, .lstore 5, 2, [], []),
  (75, .aload_n 0, 1, [], []),
  (76, .lload_n 2, 1, [], []),
  (77, .putfield 58, 3, [3, 0], [60]),
  (80, .aload_n 0, 1, [], []),
  (81, .getfield 49, 3, [3, 13], [203]),
  (84, .iconst 0, 1, [], []),
  (85, .aload_n 0, 1, [], []),
  (86, .getfield 9, 3, [3, 1], [59]),
  (89, .iconst 0, 1, [], []),
  (90, .bipush 48, 2, [], []),
  (92, .invokestatic 96, 3, [3], [248]),
  (95, .lload 5, 2, [], []),
  (97, .lreturn, 1, [], [])]
def mX3_wouldGo : pv_M := (⟨"CliffGarden$Nets", "wouldGo", "(I)J"⟩, prog_5_method_16_code, 7, some .long, rX3_wouldGo)
def rX3_columnsOf : List pv_R := [
  (0, .iconst 0, 1, [], []),
  (1, .istore_n 2, 1, [], []),
  (2, .iconst 0, 1, [], []),
  (3, .istore_n 3, 1, [], []),
  (4, .iload_n 3, 1, [], []),
  (5, .bipush 48, 2, [], []),
  (7, .if_icmp .ge 36, 3, [27], []),
  (10, .aload_n 0, 1, [], []),
  (11, .iload_n 3, 1, [], []),
  (12, .invokevirtual 70, 3, [22, 1, 3], [73]),
  (15, .ifCond .eq 22, 3, [25], []),
  (18, .aload_n 0, 1, [], []),
  (19, .getfield 24, 3, [3, 5], [35]),
  (22, .iload_n 3, 1, [], []),
  (23, .iaload, 1, [], []),
  (24, .iload_n 1, 1, [], []),
  (25, .if_icmp .ne 12, 3, [25], []),
  (28, .iload_n 2, 1, [], []),
  (29, .iconst 1, 1, [], []),
  (30, .iload_n 3, 1, [], []),
  (31, .bipush 6, 2, [], []),
  (33, .idiv, 1, [], []),
  (34, .ishl, 1, [], []),
  (35, .ior, 1, [], []),
  (36, .istore_n 2, 1, [], []),
  (37, .iinc 3 1, 3, [], []),
  (40, .goto (-36), 3, [4], []),
  (43, .iload_n 2, 1, [], []),
  (44, .ireturn, 1, [0], [])]
def mX3_columnsOf : pv_M := (⟨"CliffGarden$Nets", "columnsOf", "(I)I"⟩, prog_5_method_17_code, 4, some .int, rX3_columnsOf)
def rX3_highestFall : List pv_R := [
  (0, .iconst 0, 1, [], []),
  (1, .istore_n 3, 1, [], []),
  (2, .iload_n 3, 1, [], []),
  (3, .bipush 6, 2, [], []),
  (5, .if_icmp .ge 45, 3, [30], []),
  (8, .iload_n 1, 1, [], []),
  (9, .bipush 6, 2, [], []),
  (11, .imul, 1, [], []),
  (12, .iload_n 3, 1, [], []),
  (13, .iadd, 1, [], []),
  (14, .istore 4, 2, [], []),
  (16, .aload_n 0, 1, [], []),
  (17, .iload 4, 2, [], []),
  (19, .invokevirtual 70, 3, [22, 1, 3], [73]),
  (22, .ifCond .eq 22, 3, [28], []),
  (25, .iload_n 2, 1, [], []),
  (26, .aload_n 0, 1, [], []),
  (27, .getfield 24, 3, [3, 5], [35]),
  (30, .iload 4, 2, [], []),
  (32, .iaload, 1, [], []),
  (33, .ishr, 1, [], []),
  (34, .iconst 1, 1, [], []),
  (35, .iand, 1, [], []),
  (36, .ifCond .eq 8, 3, [28], []),
  (39, .bipush 6, 2, [], []),
  (41, .iload_n 3, 1, [], []),
  (42, .isub, 1, [], []),
  (43, .ireturn, 1, [0], []),
  (44, .iinc 3 1, 3, [], []),
  (47, .goto (-45), 3, [2], []),
  (50, .iconst (-1), 1, [], []),
  (51, .ireturn, 1, [0], [])]
def mX3_highestFall : pv_M := (⟨"CliffGarden$Nets", "highestFall", "(II)I"⟩, prog_5_method_18_code, 5, some .int, rX3_highestFall)
def rX4_init : List pv_R := [
  (0, .aload_n 0, 1, [], []),
  (1, .invokespecial 3, 3, [9], [528]),
  (4, .aload_n 0, 1, [], []),
  (5, .bipush 48, 2, [], []),
  (7, .newarray .int, 2, [], []),
  (9, .putfield 9, 3, [4, 2], [400]),
  (12, .aload_n 0, 1, [], []),
  (13, .iconst 5, 1, [], []),
  (14, .newarray .int, 2, [], []),
  (16, .putfield 15, 3, [4, 3], [401]),
  (19, .aload_n 0, 1, [], []),
  (20, .iconst 5, 1, [], []),
  (21, .newarray .int, 2, [], []),
  (23, .putfield 18, 3, [4, 4], [402]),
  (26, .aload_n 0, 1, [], []),
  (27, .iconst 5, 1, [], []),
  (28, .newarray .int, 2, [], []),
  (30, .putfield 21, 3, [4, 5], [403]),
  (33, .aload_n 0, 1, [], []),
  (34, .aload_n 1, 1, [], []),
  (35, .putfield 24, 3, [4, 0], [404]),
  (38, .aload_n 0, 1, [], []),
  (39, .aload_n 2, 1, [], []),
  (40, .putfield 28, 3, [4, 1], [405]),
  (43, .return_, 1, [], [])]
def mX4_init : pv_M := (⟨"CliffGarden$Planting", "<init>", "(LCliffGarden$Nets;LCliffGarden$Brow;)V"⟩, prog_6_method_1_code, 3, none, rX4_init)
def rX4_choose : List pv_R := [
  (0, .aload_n 0, 1, [], []),
  (1, .iconst 0, 1, [], []),
  (2, .putfield 32, 3, [4, 6], [48]),
  (5, .aload_n 0, 1, [], []),
  (6, .iconst (-1), 1, [], []),
  (7, .putfield 36, 3, [4, 7], [138]),
  (10, .iconst 0, 1, [], []),
  (11, .istore_n 3, 1, [], []),
  (12, .iload_n 3, 1, [], []),
  (13, .bipush 48, 2, [], []),
  (15, .if_icmp .ge 91, 3, [59], []),
  (18, .aload_n 0, 1, [], []),
  (19, .getfield 24, 3, [4, 0], [61]),
  (22, .iload_n 3, 1, [], []),
  (23, .invokevirtual 39, 3, [21, 1, 3], [572]),
  (26, .ifCond .eq 38, 3, [37], []),
  (29, .aload_n 0, 1, [], []),
  (30, .getfield 9, 3, [4, 2], [96]),
  (33, .iload_n 3, 1, [], []),
  (34, .aload_n 0, 1, [], []),
  (35, .getfield 24, 3, [4, 0], [61]),
  (38, .getfield 45, 3, [3, 1], [335]),
  (41, .iload_n 3, 1, [], []),
  (42, .iaload, 1, [], []),
  (43, .aload_n 0, 1, [], []),
  (44, .getfield 24, 3, [4, 0], [61]),
  (47, .iload_n 3, 1, [], []),
  (48, .invokevirtual 48, 3, [30, 1, 3], [573]),
  (51, .isub, 1, [], []),
  (52, .iastore, 1, [], []),
  (53, .aload_n 0, 1, [], []),
  (54, .getfield 9, 3, [4, 2], [96]),
  (57, .iload_n 3, 1, [], []),
  (58, .iaload, 1, [], []),
  (59, .ifCond .ge 5, 3, [37], []),
  (62, .iconst 0, 1, [], []),
  (63, .ireturn, 1, [1], []),
  (64, .lload_n 1, 1, [], []),
  (65, .iload_n 3, 1, [], []),
  (66, .invokestatic 52, 3, [142, 2], [548]),
  (69, .ifCond .eq 31, 3, [57], []),
  (72, .aload_n 0, 1, [], []),
  (73, .getfield 32, 3, [4, 6], [48]),
  (76, .iconst 5, 1, [], []),
  (77, .if_icmp .ge 23, 3, [57], []),
  (80, .aload_n 0, 1, [], []),
  (81, .getfield 15, 3, [4, 3], [77]),
  (84, .aload_n 0, 1, [], []),
  (85, .getfield 32, 3, [4, 6], [48]),
  (88, .iload_n 3, 1, [], []),
  (89, .iastore, 1, [], []),
  (90, .aload_n 0, 1, [], []),
  (91, .dup, 1, [], []),
  (92, .getfield 32, 3, [4, 6], [48]),
  (95, .iconst 1, 1, [], []),
  (96, .iadd, 1, [], []),
  (97, .putfield 32, 3, [4, 6], [48]),
  (100, .iinc 3 1, 3, [], []),
  (103, .goto (-91), 3, [8], []),
  (106, .aload_n 0, 1, [], []),
  (107, .iconst 0, 1, [], []),
  (108, .iconst 0, 1, [], []),
  (109, .invokevirtual 56, 3, [39, 2, 4], [175]),
  (112, .iconst 1, 1, [], []),
  (113, .ireturn, 1, [1], [])]
def mX4_choose : pv_M := (⟨"CliffGarden$Planting", "choose", "(J)Z"⟩, prog_6_method_2_code, 4, some .boolean, rX4_choose)
def rX4_tryCell : List pv_R := [
  (0, .iload_n 1, 1, [], []),
  (1, .aload_n 0, 1, [], []),
  (2, .getfield 32, 3, [4, 6], [48]),
  (5, .if_icmp .ge 8, 3, [7], []),
  (8, .iload_n 1, 1, [], []),
  (9, .iconst 5, 1, [], []),
  (10, .if_icmp .lt 31, 3, [23], []),
  (13, .iload_n 2, 1, [], []),
  (14, .aload_n 0, 1, [], []),
  (15, .getfield 36, 3, [4, 7], [138]),
  (18, .if_icmp .le 22, 3, [22], []),
  (21, .aload_n 0, 1, [], []),
  (22, .iload_n 2, 1, [], []),
  (23, .putfield 36, 3, [4, 7], [138]),
  (26, .aload_n 0, 1, [], []),
  (27, .getfield 18, 3, [4, 4], [137]),
  (30, .iconst 0, 1, [], []),
  (31, .aload_n 0, 1, [], []),
  (32, .getfield 21, 3, [4, 5], [97]),
  (35, .iconst 0, 1, [], []),
  (36, .iconst 5, 1, [], []),
  (37, .invokestatic 60, 3, [3], [537]),
  (40, .return_, 1, [], []),
  (41, .aload_n 0, 1, [], []),
  (42, .getfield 18, 3, [4, 4], [137]),
  (45, .iload_n 1, 1, [], []),
  (46, .iconst (-1), 1, [], []),
  (47, .iastore, 1, [], []),
  (48, .aload_n 0, 1, [], []),
  (49, .iload_n 1, 1, [], []),
  (50, .iconst 1, 1, [], []),
  (51, .iadd, 1, [], []),
  (52, .iload_n 2, 1, [], []),
  (53, .invokevirtual 56, 3, [39, 2, 4], [175]),
  (56, .iconst 0, 1, [], []),
  (57, .istore_n 3, 1, [], []),
  (58, .iload_n 3, 1, [], []),
  (59, .bipush 6, 2, [], []),
  (61, .if_icmp .ge 88, 3, [89], []),
  (64, .aload_n 0, 1, [], []),
  (65, .getfield 24, 3, [4, 0], [61]),
  (68, .getfield 66, 3, [3, 11], [336]),
  (71, .iload_n 3, 1, [], []),
  (72, .iaload, 1, [], []),
  (73, .istore 4, 2, [], []),
  (75, .aload_n 0, 1, [], []),
  (76, .aload_n 0, 1, [], []),
  (77, .getfield 15, 3, [4, 3], [77]),
  (80, .iload_n 1, 1, [], []),
  (81, .iaload, 1, [], []),
  (82, .iload 4, 2, [], []),
  (84, .invokevirtual 69, 3, [40, 2, 4], [574]),
  (87, .ifCond .eq 56, 3, [87], []),
  (90, .aload_n 0, 1, [], []),
  (91, .getfield 18, 3, [4, 4], [137]),
  (94, .iload_n 1, 1, [], []),
  (95, .iload_n 3, 1, [], []),
  (96, .iastore, 1, [], []),
  (97, .aload_n 0, 1, [], []),
  (98, .aload_n 0, 1, [], []),
  (99, .getfield 15, 3, [4, 3], [77]),
  (102, .iload_n 1, 1, [], []),
  (103, .iaload, 1, [], []),
  (104, .iload 4, 2, [], []),
  (106, .invokevirtual 73, 3, [41, 2, 4], [265]),
  (109, .aload_n 0, 1, [], []),
  (110, .iload_n 1, 1, [], []),
  (111, .iconst 1, 1, [], []),
  (112, .iadd, 1, [], []),
  (113, .iload_n 2, 1, [], []),
  (114, .iload 4, 2, [], []),
  (116, .aload_n 0, 1, [], []),
  (117, .getfield 24, 3, [4, 0], [61]),
  (120, .getfield 76, 3, [3, 12], [337]),
  (123, .iload_n 3, 1, [], []),
  (124, .iaload, 1, [], []),
  (125, .imul, 1, [], []),
  (126, .iadd, 1, [], []),
  (127, .invokevirtual 56, 3, [39, 2, 4], [175]),
  (130, .aload_n 0, 1, [], []),
  (131, .aload_n 0, 1, [], []),
  (132, .getfield 15, 3, [4, 3], [77]),
  (135, .iload_n 1, 1, [], []),
  (136, .iaload, 1, [], []),
  (137, .iload 4, 2, [], []),
  (139, .ineg, 1, [], []),
  (140, .invokevirtual 73, 3, [41, 2, 4], [265]),
  (143, .iinc 3 1, 3, [], []),
  (146, .goto (-88), 3, [36], []),
  (149, .return_, 1, [], [])]
def mX4_tryCell : pv_M := (⟨"CliffGarden$Planting", "tryCell", "(II)V"⟩, prog_6_method_3_code, 5, none, rX4_tryCell)
def rX4_fits : List pv_R := [
  (0, .iload_n 2, 1, [], []),
  (1, .bipush 6, 2, [], []),
  (3, .iload_n 1, 1, [], []),
  (4, .bipush 6, 2, [], []),
  (6, .irem, 1, [], []),
  (7, .isub, 1, [], []),
  (8, .imul, 1, [], []),
  (9, .aload_n 0, 1, [], []),
  (10, .getfield 28, 3, [4, 1], [334]),
  (13, .getfield 79, 3, [0, 2], [338]),
  (16, .iload_n 1, 1, [], []),
  (17, .bipush 6, 2, [], []),
  (19, .idiv, 1, [], []),
  (20, .iaload, 1, [], []),
  (21, .if_icmp .le 5, 3, [17], []),
  (24, .iconst 0, 1, [], []),
  (25, .ireturn, 1, [1], []),
  (26, .iload_n 1, 1, [], []),
  (27, .iload_n 1, 1, [], []),
  (28, .bipush 6, 2, [], []),
  (30, .irem, 1, [], []),
  (31, .isub, 1, [], []),
  (32, .istore_n 3, 1, [], []),
  (33, .iload_n 3, 1, [], []),
  (34, .iload_n 1, 1, [], []),
  (35, .if_icmp .gt 21, 3, [36], []),
  (38, .aload_n 0, 1, [], []),
  (39, .getfield 9, 3, [4, 2], [96]),
  (42, .iload_n 3, 1, [], []),
  (43, .iaload, 1, [], []),
  (44, .iload_n 2, 1, [], []),
  (45, .if_icmp .ge 5, 3, [34], []),
  (48, .iconst 0, 1, [], []),
  (49, .ireturn, 1, [1], []),
  (50, .iinc 3 1, 3, [], []),
  (53, .goto (-20), 3, [23], []),
  (56, .iconst 1, 1, [], []),
  (57, .ireturn, 1, [1], [])]
def mX4_fits : pv_M := (⟨"CliffGarden$Planting", "fits", "(II)Z"⟩, prog_6_method_4_code, 4, some .boolean, rX4_fits)
def rX4_burden : List pv_R := [
  (0, .iload_n 1, 1, [], []),
  (1, .iload_n 1, 1, [], []),
  (2, .bipush 6, 2, [], []),
  (4, .irem, 1, [], []),
  (5, .isub, 1, [], []),
  (6, .istore_n 3, 1, [], []),
  (7, .iload_n 3, 1, [], []),
  (8, .iload_n 1, 1, [], []),
  (9, .if_icmp .gt 19, 3, [19], []),
  (12, .aload_n 0, 1, [], []),
  (13, .getfield 9, 3, [4, 2], [96]),
  (16, .iload_n 3, 1, [], []),
  (17, .dup2, 1, [], []),
  (18, .iaload, 1, [], []),
  (19, .iload_n 2, 1, [], []),
  (20, .isub, 1, [], []),
  (21, .iastore, 1, [], []),
  (22, .iinc 3 1, 3, [], []),
  (25, .goto (-18), 3, [6], []),
  (28, .return_, 1, [], [])]
def mX4_burden : pv_M := (⟨"CliffGarden$Planting", "burden", "(II)V"⟩, prog_6_method_5_code, 4, none, rX4_burden)
def rX4_carryOut : List pv_R := [
  (0, .iconst 0, 1, [], []),
  (1, .istore_n 1, 1, [], []),
  (2, .iload_n 1, 1, [], []),
  (3, .aload_n 0, 1, [], []),
  (4, .getfield 32, 3, [4, 6], [48]),
  (7, .if_icmp .ge 39, 3, [26], []),
  (10, .aload_n 0, 1, [], []),
  (11, .getfield 21, 3, [4, 5], [97]),
  (14, .iload_n 1, 1, [], []),
  (15, .iaload, 1, [], []),
  (16, .iconst (-1), 1, [], []),
  (17, .if_icmp .eq 23, 3, [24], []),
  (20, .aload_n 0, 1, [], []),
  (21, .getfield 24, 3, [4, 0], [61]),
  (24, .aload_n 0, 1, [], []),
  (25, .getfield 15, 3, [4, 3], [77]),
  (28, .iload_n 1, 1, [], []),
  (29, .iaload, 1, [], []),
  (30, .aload_n 0, 1, [], []),
  (31, .getfield 21, 3, [4, 5], [97]),
  (34, .iload_n 1, 1, [], []),
  (35, .iaload, 1, [], []),
  (36, .iconst 0, 1, [], []),
  (37, .invokevirtual 84, 3, [25, 3, 3], [575]),
  (40, .iinc 1 1, 3, [], []),
  (43, .goto (-41), 3, [2], []),
  (46, .return_, 1, [], [])]
def mX4_carryOut : pv_M := (⟨"CliffGarden$Planting", "carryOut", "()V"⟩, prog_6_method_6_code, 2, none, rX4_carryOut)
def rX4_kindAt : List pv_R := [
  (0, .iload_n 1, 1, [], []),
  (1, .iconst 4, 1, [], []),
  (2, .invokestatic 88, 3, [138, 2], [549]),
  (5, .ifCond .eq 12, 3, [9], []),
  (8, .aload_n 0, 1, [], []),
  (9, .getfield 21, 3, [4, 5], [97]),
  (12, .iload_n 1, 1, [], []),
  (13, .iaload, 1, [], []),
  (14, .goto 4, 3, [10], []),
  (17, .iconst (-1), 1, [], []),
  (18, .ireturn, 1, [0], [])]
def mX4_kindAt : pv_M := (⟨"CliffGarden$Planting", "kindAt", "(I)I"⟩, prog_6_method_7_code, 2, some .int, rX4_kindAt)
def rX5_init : List pv_R := [
  (0, .aload_n 0, 1, [], []),
  (1, .invokespecial 1, 3, [9], [529]),
  (4, .return_, 1, [], [])]
def mX5_init : pv_M := (⟨"CliffGarden$Reader", "<init>", "()V"⟩, prog_7_method_1_code, 1, none, rX5_init)
def rX5_read : List pv_R := [
  (0, .aload_n 0, 1, [], []),
  (1, .aload_n 1, 1, [], []),
  (2, .putfield 7, 3, [5, 0], [204]),
  (5, .aload_n 0, 1, [], []),
  (6, .aload_n 3, 1, [], []),
  (7, .putfield 13, 3, [5, 1], [12]),
  (10, .aload_n 0, 1, [], []),
  (11, .iload_n 2, 1, [], []),
  (12, .putfield 17, 3, [5, 2], [205]),
  (15, .aload_n 0, 1, [], []),
  (16, .iconst 0, 1, [], []),
  (17, .putfield 21, 3, [5, 3], [9]),
  (20, .aload_n 0, 1, [], []),
  (21, .iconst 0, 1, [], []),
  (22, .putfield 24, 3, [5, 4], [98]),
  (25, .aload_n 3, 1, [], []),
  (26, .iconst 0, 1, [], []),
  (27, .putfield 27, 3, [7, 7], [78]),
  (30, .aload_n 3, 1, [], []),
  (31, .iconst 0, 1, [], []),
  (32, .putfield 32, 3, [7, 8], [49]),
  (35, .iconst 0, 1, [], []),
  (36, .istore 4, 2, [], []),
  (38, .iload 4, 2, [], []),
  (40, .bipush 14, 2, [], []),
  (42, .if_icmp .gt 43, 3, [45], []),
  (45, .aload_n 0, 1, [], []),
  (46, .invokevirtual 35, 3, [51, 0, 5], [576]),
  (49, .ifCond .eq 36, 3, [45], []),
  (52, .aload_n 0, 1, [], []),
  (53, .invokevirtual 39, 3, [46, 0, 5], [18]),
  (56, .iconst (-1), 1, [], []),
  (57, .if_icmp .ne 8, 3, [36], []),
  (60, .aload_n 3, 1, [], []),
  (61, .getfield 27, 3, [7, 7], [78]),
  (64, .ireturn, 1, [0], []),
  (65, .aload_n 0, 1, [], []),
  (66, .bipush 59, 2, [], []),
  (68, .invokevirtual 43, 3, [48, 1, 5], [93]),
  (71, .ifCond .ne 8, 3, [43], []),
  (74, .aload_n 0, 1, [], []),
  (75, .getfield 24, 3, [5, 4], [98]),
  (78, .ireturn, 1, [0], []),
  (79, .iinc 4 1, 3, [], []),
  (82, .goto (-44), 3, [23], []),
  (85, .aload_n 0, 1, [], []),
  (86, .getfield 24, 3, [5, 4], [98]),
  (89, .ireturn, 1, [0], [])]
def mX5_read : pv_M := (⟨"CliffGarden$Reader", "read", "(LCliffGarden$Tape;ILCliffGarden$Statute;)I"⟩, prog_7_method_2_code, 5, some .int, rX5_read)
def rX5_look : List pv_R := [
  (0, .aload_n 0, 1, [], []),
  (1, .getfield 21, 3, [5, 3], [9]),
  (4, .ifCond .lt 39, 3, [19], []),
  (7, .aload_n 0, 1, [], []),
  (8, .getfield 21, 3, [5, 3], [9]),
  (11, .aload_n 0, 1, [], []),
  (12, .getfield 17, 3, [5, 2], [205]),
  (15, .if_icmp .ge 28, 3, [19], []),
  (18, .aload_n 0, 1, [], []),
  (19, .getfield 21, 3, [5, 3], [9]),
  (22, .sipush 220, 3, [], []),
  (25, .if_icmp .ge 18, 3, [19], []),
  (28, .aload_n 0, 1, [], []),
  (29, .getfield 7, 3, [5, 0], [204]),
  (32, .getfield 49, 3, [9, 0], [339]),
  (35, .aload_n 0, 1, [], []),
  (36, .getfield 21, 3, [5, 3], [9]),
  (39, .iaload, 1, [], []),
  (40, .goto 4, 3, [20], []),
  (43, .iconst (-1), 1, [], []),
  (44, .ireturn, 1, [0], [])]
def mX5_look : pv_M := (⟨"CliffGarden$Reader", "look", "()I"⟩, prog_7_method_3_code, 1, some .int, rX5_look)
def rX5_fail : List pv_R := [
  (0, .aload_n 0, 1, [], []),
  (1, .sipush (-1000), 3, [], []),
  (4, .iload_n 1, 1, [], []),
  (5, .imul, 1, [], []),
  (6, .aload_n 0, 1, [], []),
  (7, .getfield 21, 3, [5, 3], [9]),
  (10, .isub, 1, [], []),
  (11, .putfield 24, 3, [5, 4], [98]),
  (14, .iconst 0, 1, [], []),
  (15, .ireturn, 1, [1], [])]
def mX5_fail : pv_M := (⟨"CliffGarden$Reader", "fail", "(I)Z"⟩, prog_7_method_4_code, 2, some .boolean, rX5_fail)
def rX5_expect : List pv_R := [
  (0, .aload_n 0, 1, [], []),
  (1, .invokevirtual 39, 3, [46, 0, 5], [18]),
  (4, .iload_n 1, 1, [], []),
  (5, .if_icmp .eq 9, 3, [8], []),
  (8, .aload_n 0, 1, [], []),
  (9, .iconst 1, 1, [], []),
  (10, .invokevirtual 53, 3, [47, 1, 5], [56]),
  (13, .ireturn, 1, [1], []),
  (14, .aload_n 0, 1, [], []),
  (15, .dup, 1, [], []),
  (16, .getfield 21, 3, [5, 3], [9]),
  (19, .iconst 1, 1, [], []),
  (20, .iadd, 1, [], []),
  (21, .putfield 21, 3, [5, 3], [9]),
  (24, .iconst 1, 1, [], []),
  (25, .ireturn, 1, [1], [])]
def mX5_expect : pv_M := (⟨"CliffGarden$Reader", "expect", "(I)Z"⟩, prog_7_method_5_code, 2, some .boolean, rX5_expect)
def rX5_enter : List pv_R := [
  (0, .iload_n 1, 1, [], []),
  (1, .bipush 6, 2, [], []),
  (3, .if_icmp .lt 9, 3, [7], []),
  (6, .aload_n 0, 1, [], []),
  (7, .iconst 5, 1, [], []),
  (8, .invokevirtual 53, 3, [47, 1, 5], [56]),
  (11, .ireturn, 1, [1], []),
  (12, .aload_n 0, 1, [], []),
  (13, .dup, 1, [], []),
  (14, .getfield 21, 3, [5, 3], [9]),
  (17, .iconst 1, 1, [], []),
  (18, .iadd, 1, [], []),
  (19, .putfield 21, 3, [5, 3], [9]),
  (22, .iconst 1, 1, [], []),
  (23, .ireturn, 1, [1], [])]
def mX5_enter : pv_M := (⟨"CliffGarden$Reader", "enter", "(I)Z"⟩, prog_7_method_6_code, 2, some .boolean, rX5_enter)
def rX5_isOneOf : List pv_R := [
  (0, .iload_n 0, 1, [], []),
  (1, .ifCond .le 16, 3, [9], []),
  (4, .aload_n 1, 1, [], []),
  (5, .iload_n 0, 1, [], []),
  (6, .i2c, 1, [], []),
  (7, .nop, 0, [], []),
  (10, .ifCond .lt 7, 3, [9], []),
  (13, .iconst 1, 1, [], []),
  (14, .goto 4, 3, [10], []),
  (17, .iconst 0, 1, [], []),
  (18, .ireturn, 1, [1], [])]
def mX5_isOneOf : pv_M := (⟨"CliffGarden$Reader", "isOneOf", "(ILjava/lang/String;)Z"⟩, prog_7_method_7_code, 2, some .boolean, rX5_isOneOf)
def rX5_readClause : List pv_R := [
  (0, .aload_n 0, 1, [], []),
  (1, .invokevirtual 39, 3, [46, 0, 5], [18]),
  (4, .istore_n 1, 1, [], []),
  (5, .iload_n 1, 1, [], []),
  (6, .nop, 0, [], []),
  (8, .invokestatic 64, 3, [50, 2], [89]),
  (11, .ifCond .ne 9, 3, [11], []),
  (14, .aload_n 0, 1, [], []),
  (15, .iconst 1, 1, [], []),
  (16, .invokevirtual 53, 3, [47, 1, 5], [56]),
  (19, .ireturn, 1, [1], []),
  (20, .aload_n 0, 1, [], []),
  (21, .getfield 13, 3, [5, 1], [12]),
  (24, .getfield 27, 3, [7, 7], [78]),
  (27, .istore_n 2, 1, [], []),
  (28, .iload_n 2, 1, [], []),
  (29, .bipush 14, 2, [], []),
  (31, .if_icmp .lt 9, 3, [22], []),
  (34, .aload_n 0, 1, [], []),
  (35, .iconst 4, 1, [], []),
  (36, .invokevirtual 53, 3, [47, 1, 5], [56]),
  (39, .ireturn, 1, [1], []),
  (40, .aload_n 0, 1, [], []),
  (41, .dup, 1, [], []),
  (42, .getfield 21, 3, [5, 3], [9]),
  (45, .iconst 1, 1, [], []),
  (46, .iadd, 1, [], []),
  (47, .putfield 21, 3, [5, 3], [9]),
  (50, .aload_n 0, 1, [], []),
  (51, .getfield 13, 3, [5, 1], [12]),
  (54, .getfield 68, 3, [7, 2], [340]),
  (57, .iload_n 2, 1, [], []),
  (58, .iload_n 1, 1, [], []),
  (59, .iastore, 1, [], []),
  (60, .aload_n 0, 1, [], []),
  (61, .getfield 13, 3, [5, 1], [12]),
  (64, .getfield 71, 3, [7, 3], [341]),
  (67, .iload_n 2, 1, [], []),
  (68, .aload_n 0, 1, [], []),
  (69, .getfield 13, 3, [5, 1], [12]),
  (72, .getfield 32, 3, [7, 8], [49]),
  (75, .iastore, 1, [], []),
  (76, .aload_n 0, 1, [], []),
  (77, .iconst 0, 1, [], []),
  (78, .invokevirtual 74, 3, [57, 1, 5], [128]),
  (81, .ifCond .eq 12, 3, [50], []),
  (84, .aload_n 0, 1, [], []),
  (85, .bipush 40, 2, [], []),
  (87, .invokevirtual 43, 3, [48, 1, 5], [93]),
  (90, .ifCond .ne 5, 3, [52], []),
  (93, .iconst 0, 1, [], []),
  (94, .ireturn, 1, [1], []),
  (95, .aload_n 0, 1, [], []),
  (96, .getfield 13, 3, [5, 1], [12]),
  (99, .getfield 77, 3, [7, 4], [342]),
  (102, .iload_n 2, 1, [], []),
  (103, .aload_n 0, 1, [], []),
  (104, .getfield 13, 3, [5, 1], [12]),
  (107, .getfield 32, 3, [7, 8], [49]),
  (110, .iastore, 1, [], []),
  (111, .aload_n 0, 1, [], []),
  (112, .iconst 1, 1, [], []),
  (113, .invokevirtual 80, 3, [52, 1, 5], [266]),
  (116, .ifCond .eq 12, 3, [68], []),
  (119, .aload_n 0, 1, [], []),
  (120, .bipush 41, 2, [], []),
  (122, .invokevirtual 43, 3, [48, 1, 5], [93]),
  (125, .ifCond .ne 5, 3, [70], []),
  (128, .iconst 0, 1, [], []),
  (129, .ireturn, 1, [1], []),
  (130, .aload_n 0, 1, [], []),
  (131, .getfield 13, 3, [5, 1], [12]),
  (134, .getfield 83, 3, [7, 5], [343]),
  (137, .iload_n 2, 1, [], []),
  (138, .aload_n 0, 1, [], []),
  (139, .getfield 13, 3, [5, 1], [12]),
  (142, .getfield 32, 3, [7, 8], [49]),
  (145, .iastore, 1, [], []),
  (146, .aload_n 0, 1, [], []),
  (147, .getfield 13, 3, [5, 1], [12]),
  (150, .dup, 1, [], []),
  (151, .getfield 27, 3, [7, 7], [78]),
  (154, .iconst 1, 1, [], []),
  (155, .iadd, 1, [], []),
  (156, .putfield 27, 3, [7, 7], [78]),
  (159, .iconst 1, 1, [], []),
  (160, .ireturn, 1, [1], [])]
def mX5_readClause : pv_M := (⟨"CliffGarden$Reader", "readClause", "()Z"⟩, prog_7_method_8_code, 3, some .boolean, rX5_readClause)
def rX5_readCondition : List pv_R := [
  (0, .aload_n 0, 1, [], []),
  (1, .iload_n 1, 1, [], []),
  (2, .invokevirtual 86, 3, [53, 1, 5], [267]),
  (5, .istore_n 2, 1, [], []),
  (6, .iconst 0, 1, [], []),
  (7, .istore_n 3, 1, [], []),
  (8, .iload_n 3, 1, [], []),
  (9, .sipush 200, 3, [], []),
  (12, .if_icmp .ge 51, 3, [32], []),
  (15, .iload_n 2, 1, [], []),
  (16, .ifCond .eq 47, 3, [32], []),
  (19, .aload_n 0, 1, [], []),
  (20, .invokevirtual 39, 3, [46, 0, 5], [18]),
  (23, .bipush 124, 2, [], []),
  (25, .if_icmp .ne 38, 3, [32], []),
  (28, .aload_n 0, 1, [], []),
  (29, .invokevirtual 89, 3, [54, 0, 5], [268]),
  (32, .istore 4, 2, [], []),
  (34, .aload_n 0, 1, [], []),
  (35, .iload_n 1, 1, [], []),
  (36, .invokevirtual 86, 3, [53, 1, 5], [267]),
  (39, .istore_n 2, 1, [], []),
  (40, .aload_n 0, 1, [], []),
  (41, .getfield 13, 3, [5, 1], [12]),
  (44, .getfield 92, 3, [7, 1], [206]),
  (47, .iload 4, 2, [], []),
  (49, .aload_n 0, 1, [], []),
  (50, .getfield 13, 3, [5, 1], [12]),
  (53, .getfield 32, 3, [7, 8], [49]),
  (56, .iastore, 1, [], []),
  (57, .iinc 3 1, 3, [], []),
  (60, .goto (-52), 3, [6], []),
  (63, .iload_n 2, 1, [], []),
  (64, .ireturn, 1, [1], [])]
def mX5_readCondition : pv_M := (⟨"CliffGarden$Reader", "readCondition", "(I)Z"⟩, prog_7_method_9_code, 5, some .boolean, rX5_readCondition)
def rX5_readPart : List pv_R := [
  (0, .aload_n 0, 1, [], []),
  (1, .iload_n 1, 1, [], []),
  (2, .invokevirtual 95, 3, [55, 1, 5], [176]),
  (5, .istore_n 2, 1, [], []),
  (6, .iconst 0, 1, [], []),
  (7, .istore_n 3, 1, [], []),
  (8, .iload_n 3, 1, [], []),
  (9, .sipush 200, 3, [], []),
  (12, .if_icmp .ge 51, 3, [32], []),
  (15, .iload_n 2, 1, [], []),
  (16, .ifCond .eq 47, 3, [32], []),
  (19, .aload_n 0, 1, [], []),
  (20, .invokevirtual 39, 3, [46, 0, 5], [18]),
  (23, .bipush 38, 2, [], []),
  (25, .if_icmp .ne 38, 3, [32], []),
  (28, .aload_n 0, 1, [], []),
  (29, .invokevirtual 89, 3, [54, 0, 5], [268]),
  (32, .istore 4, 2, [], []),
  (34, .aload_n 0, 1, [], []),
  (35, .iload_n 1, 1, [], []),
  (36, .invokevirtual 95, 3, [55, 1, 5], [176]),
  (39, .istore_n 2, 1, [], []),
  (40, .aload_n 0, 1, [], []),
  (41, .getfield 13, 3, [5, 1], [12]),
  (44, .getfield 92, 3, [7, 1], [206]),
  (47, .iload 4, 2, [], []),
  (49, .aload_n 0, 1, [], []),
  (50, .getfield 13, 3, [5, 1], [12]),
  (53, .getfield 32, 3, [7, 8], [49]),
  (56, .iastore, 1, [], []),
  (57, .iinc 3 1, 3, [], []),
  (60, .goto (-52), 3, [6], []),
  (63, .iload_n 2, 1, [], []),
  (64, .ireturn, 1, [1], [])]
def mX5_readPart : pv_M := (⟨"CliffGarden$Reader", "readPart", "(I)Z"⟩, prog_7_method_10_code, 5, some .boolean, rX5_readPart)
def rX5_readJump : List pv_R := [
  (0, .aload_n 0, 1, [], []),
  (1, .getfield 13, 3, [5, 1], [12]),
  (4, .getfield 32, 3, [7, 8], [49]),
  (7, .sipush 199, 3, [], []),
  (10, .invokestatic 98, 3, [1], [538]),
  (13, .istore_n 1, 1, [], []),
  (14, .aload_n 0, 1, [], []),
  (15, .getfield 13, 3, [5, 1], [12]),
  (18, .aload_n 0, 1, [], []),
  (19, .invokevirtual 39, 3, [46, 0, 5], [18]),
  (22, .iconst 0, 1, [], []),
  (23, .invokevirtual 104, 3, [75, 2, 7], [57]),
  (26, .aload_n 0, 1, [], []),
  (27, .dup, 1, [], []),
  (28, .getfield 21, 3, [5, 3], [9]),
  (31, .iconst 1, 1, [], []),
  (32, .iadd, 1, [], []),
  (33, .putfield 21, 3, [5, 3], [9]),
  (36, .iload_n 1, 1, [], []),
  (37, .ireturn, 1, [0], [])]
def mX5_readJump : pv_M := (⟨"CliffGarden$Reader", "readJump", "()I"⟩, prog_7_method_11_code, 2, some .int, rX5_readJump)
def rX5_readPiece : List pv_R := [
  (0, .aload_n 0, 1, [], []),
  (1, .invokevirtual 39, 3, [46, 0, 5], [18]),
  (4, .istore_n 2, 1, [], []),
  (5, .iload_n 2, 1, [], []),
  (6, .bipush 40, 2, [], []),
  (8, .if_icmp .ne 36, 3, [24], []),
  (11, .aload_n 0, 1, [], []),
  (12, .iload_n 1, 1, [], []),
  (13, .invokevirtual 108, 3, [49, 1, 5], [177]),
  (16, .ifCond .eq 26, 3, [22], []),
  (19, .aload_n 0, 1, [], []),
  (20, .iload_n 1, 1, [], []),
  (21, .iconst 1, 1, [], []),
  (22, .iadd, 1, [], []),
  (23, .invokevirtual 80, 3, [52, 1, 5], [266]),
  (26, .ifCond .eq 16, 3, [22], []),
  (29, .aload_n 0, 1, [], []),
  (30, .bipush 41, 2, [], []),
  (32, .invokevirtual 43, 3, [48, 1, 5], [93]),
  (35, .ifCond .eq 7, 3, [22], []),
  (38, .iconst 1, 1, [], []),
  (39, .goto 4, 3, [23], []),
  (42, .iconst 0, 1, [], []),
  (43, .ireturn, 1, [1], []),
  (44, .iload_n 2, 1, [], []),
  (45, .bipush 33, 2, [], []),
  (47, .if_icmp .ne 35, 3, [46], []),
  (50, .aload_n 0, 1, [], []),
  (51, .iload_n 1, 1, [], []),
  (52, .invokevirtual 108, 3, [49, 1, 5], [177]),
  (55, .ifCond .eq 13, 3, [37], []),
  (58, .aload_n 0, 1, [], []),
  (59, .iload_n 1, 1, [], []),
  (60, .iconst 1, 1, [], []),
  (61, .iadd, 1, [], []),
  (62, .invokevirtual 95, 3, [55, 1, 5], [176]),
  (65, .ifCond .ne 5, 3, [39], []),
  (68, .iconst 0, 1, [], []),
  (69, .ireturn, 1, [1], []),
  (70, .aload_n 0, 1, [], []),
  (71, .getfield 13, 3, [5, 1], [12]),
  (74, .bipush 33, 2, [], []),
  (76, .iconst 0, 1, [], []),
  (77, .invokevirtual 104, 3, [75, 2, 7], [57]),
  (80, .iconst 1, 1, [], []),
  (81, .ireturn, 1, [1], []),
  (82, .aload_n 0, 1, [], []),
  (83, .iload_n 1, 1, [], []),
  (84, .invokevirtual 111, 3, [56, 1, 5], [577]),
  (87, .ireturn, 1, [1], [])]
def mX5_readPiece : pv_M := (⟨"CliffGarden$Reader", "readPiece", "(I)Z"⟩, prog_7_method_12_code, 3, some .boolean, rX5_readPiece)
def rX5_readComparison : List pv_R := [
  (0, .aload_n 0, 1, [], []),
  (1, .iload_n 1, 1, [], []),
  (2, .invokevirtual 74, 3, [57, 1, 5], [128]),
  (5, .ifCond .ne 5, 3, [6], []),
  (8, .iconst 0, 1, [], []),
  (9, .ireturn, 1, [1], []),
  (10, .aload_n 0, 1, [], []),
  (11, .invokevirtual 39, 3, [46, 0, 5], [18]),
  (14, .istore_n 2, 1, [], []),
  (15, .iload_n 2, 1, [], []),
  (16, .nop, 0, [], []),
  (18, .invokestatic 64, 3, [50, 2], [89]),
  (21, .ifCond .ne 9, 3, [17], []),
  (24, .aload_n 0, 1, [], []),
  (25, .iconst 1, 1, [], []),
  (26, .invokevirtual 53, 3, [47, 1, 5], [56]),
  (29, .ireturn, 1, [1], []),
  (30, .aload_n 0, 1, [], []),
  (31, .dup, 1, [], []),
  (32, .getfield 21, 3, [5, 3], [9]),
  (35, .iconst 1, 1, [], []),
  (36, .iadd, 1, [], []),
  (37, .putfield 21, 3, [5, 3], [9]),
  (40, .aload_n 0, 1, [], []),
  (41, .iload_n 1, 1, [], []),
  (42, .invokevirtual 74, 3, [57, 1, 5], [128]),
  (45, .ifCond .ne 5, 3, [29], []),
  (48, .iconst 0, 1, [], []),
  (49, .ireturn, 1, [1], []),
  (50, .aload_n 0, 1, [], []),
  (51, .getfield 13, 3, [5, 1], [12]),
  (54, .iload_n 2, 1, [], []),
  (55, .iconst 0, 1, [], []),
  (56, .invokevirtual 104, 3, [75, 2, 7], [57]),
  (59, .iconst 1, 1, [], []),
  (60, .ireturn, 1, [1], [])]
def mX5_readComparison : pv_M := (⟨"CliffGarden$Reader", "readComparison", "(I)Z"⟩, prog_7_method_13_code, 3, some .boolean, rX5_readComparison)
def rX5_readSum : List pv_R := [
  (0, .aload_n 0, 1, [], []),
  (1, .iload_n 1, 1, [], []),
  (2, .invokevirtual 116, 3, [58, 1, 5], [269]),
  (5, .istore_n 2, 1, [], []),
  (6, .iconst 0, 1, [], []),
  (7, .istore_n 3, 1, [], []),
  (8, .iload_n 3, 1, [], []),
  (9, .sipush 200, 3, [], []),
  (12, .if_icmp .ge 57, 3, [36], []),
  (15, .iload_n 2, 1, [], []),
  (16, .ifCond .eq 53, 3, [36], []),
  (19, .aload_n 0, 1, [], []),
  (20, .invokevirtual 39, 3, [46, 0, 5], [18]),
  (23, .nop, 0, [], []),
  (25, .invokestatic 64, 3, [50, 2], [89]),
  (28, .ifCond .eq 41, 3, [36], []),
  (31, .aload_n 0, 1, [], []),
  (32, .invokevirtual 39, 3, [46, 0, 5], [18]),
  (35, .istore 4, 2, [], []),
  (37, .aload_n 0, 1, [], []),
  (38, .dup, 1, [], []),
  (39, .getfield 21, 3, [5, 3], [9]),
  (42, .iconst 1, 1, [], []),
  (43, .iadd, 1, [], []),
  (44, .putfield 21, 3, [5, 3], [9]),
  (47, .aload_n 0, 1, [], []),
  (48, .iload_n 1, 1, [], []),
  (49, .invokevirtual 116, 3, [58, 1, 5], [269]),
  (52, .istore_n 2, 1, [], []),
  (53, .aload_n 0, 1, [], []),
  (54, .getfield 13, 3, [5, 1], [12]),
  (57, .iload 4, 2, [], []),
  (59, .iconst 0, 1, [], []),
  (60, .invokevirtual 104, 3, [75, 2, 7], [57]),
  (63, .iinc 3 1, 3, [], []),
  (66, .goto (-58), 3, [6], []),
  (69, .iload_n 2, 1, [], []),
  (70, .ireturn, 1, [1], [])]
def mX5_readSum : pv_M := (⟨"CliffGarden$Reader", "readSum", "(I)Z"⟩, prog_7_method_14_code, 5, some .boolean, rX5_readSum)
def rX5_readTerm : List pv_R := [
  (0, .aload_n 0, 1, [], []),
  (1, .iload_n 1, 1, [], []),
  (2, .invokevirtual 121, 3, [59, 1, 5], [270]),
  (5, .istore_n 2, 1, [], []),
  (6, .iconst 0, 1, [], []),
  (7, .istore_n 3, 1, [], []),
  (8, .iload_n 3, 1, [], []),
  (9, .sipush 200, 3, [], []),
  (12, .if_icmp .ge 57, 3, [36], []),
  (15, .iload_n 2, 1, [], []),
  (16, .ifCond .eq 53, 3, [36], []),
  (19, .aload_n 0, 1, [], []),
  (20, .invokevirtual 39, 3, [46, 0, 5], [18]),
  (23, .nop, 0, [], []),
  (25, .invokestatic 64, 3, [50, 2], [89]),
  (28, .ifCond .eq 41, 3, [36], []),
  (31, .aload_n 0, 1, [], []),
  (32, .invokevirtual 39, 3, [46, 0, 5], [18]),
  (35, .istore 4, 2, [], []),
  (37, .aload_n 0, 1, [], []),
  (38, .dup, 1, [], []),
  (39, .getfield 21, 3, [5, 3], [9]),
  (42, .iconst 1, 1, [], []),
  (43, .iadd, 1, [], []),
  (44, .putfield 21, 3, [5, 3], [9]),
  (47, .aload_n 0, 1, [], []),
  (48, .iload_n 1, 1, [], []),
  (49, .invokevirtual 121, 3, [59, 1, 5], [270]),
  (52, .istore_n 2, 1, [], []),
  (53, .aload_n 0, 1, [], []),
  (54, .getfield 13, 3, [5, 1], [12]),
  (57, .iload 4, 2, [], []),
  (59, .iconst 0, 1, [], []),
  (60, .invokevirtual 104, 3, [75, 2, 7], [57]),
  (63, .iinc 3 1, 3, [], []),
  (66, .goto (-58), 3, [6], []),
  (69, .iload_n 2, 1, [], []),
  (70, .ireturn, 1, [1], [])]
def mX5_readTerm : pv_M := (⟨"CliffGarden$Reader", "readTerm", "(I)Z"⟩, prog_7_method_15_code, 5, some .boolean, rX5_readTerm)
def rX5_readFactor : List pv_R := [
  (0, .aload_n 0, 1, [], []),
  (1, .invokevirtual 39, 3, [46, 0, 5], [18]),
  (4, .istore_n 2, 1, [], []),
  (5, .iload_n 2, 1, [], []),
  (6, .bipush 91, 2, [], []),
  (8, .if_icmp .ne 36, 3, [24], []),
  (11, .aload_n 0, 1, [], []),
  (12, .iload_n 1, 1, [], []),
  (13, .invokevirtual 108, 3, [49, 1, 5], [177]),
  (16, .ifCond .eq 26, 3, [22], []),
  (19, .aload_n 0, 1, [], []),
  (20, .iload_n 1, 1, [], []),
  (21, .iconst 1, 1, [], []),
  (22, .iadd, 1, [], []),
  (23, .invokevirtual 74, 3, [57, 1, 5], [128]),
  (26, .ifCond .eq 16, 3, [22], []),
  (29, .aload_n 0, 1, [], []),
  (30, .bipush 93, 2, [], []),
  (32, .invokevirtual 43, 3, [48, 1, 5], [93]),
  (35, .ifCond .eq 7, 3, [22], []),
  (38, .iconst 1, 1, [], []),
  (39, .goto 4, 3, [23], []),
  (42, .iconst 0, 1, [], []),
  (43, .ireturn, 1, [1], []),
  (44, .iload_n 2, 1, [], []),
  (45, .invokestatic 126, 3, [60, 1], [170]),
  (48, .ifCond .eq 8, 3, [30], []),
  (51, .aload_n 0, 1, [], []),
  (52, .invokevirtual 129, 3, [61, 0, 5], [578]),
  (55, .ireturn, 1, [1], []),
  (56, .iload_n 2, 1, [], []),
  (57, .nop, 0, [], []),
  (59, .invokestatic 64, 3, [50, 2], [89]),
  (62, .ifCond .ne 9, 3, [38], []),
  (65, .aload_n 0, 1, [], []),
  (66, .iconst 1, 1, [], []),
  (67, .invokevirtual 53, 3, [47, 1, 5], [56]),
  (70, .ireturn, 1, [1], []),
  (71, .aload_n 0, 1, [], []),
  (72, .getfield 13, 3, [5, 1], [12]),
  (75, .bipush 107, 2, [], []),
  (77, .nop, 0, [], []),
  (79, .iload_n 2, 1, [], []),
  (80, .i2c, 1, [], []),
  (81, .nop, 0, [], []),
  (84, .invokevirtual 104, 3, [75, 2, 7], [57]),
  (87, .aload_n 0, 1, [], []),
  (88, .dup, 1, [], []),
  (89, .getfield 21, 3, [5, 3], [9]),
  (92, .iconst 1, 1, [], []),
  (93, .iadd, 1, [], []),
  (94, .putfield 21, 3, [5, 3], [9]),
  (97, .iconst 1, 1, [], []),
  (98, .ireturn, 1, [1], [])]
def mX5_readFactor : pv_M := (⟨"CliffGarden$Reader", "readFactor", "(I)Z"⟩, prog_7_method_16_code, 3, some .boolean, rX5_readFactor)
def rX5_isDigit : List pv_R := [
  (0, .iload_n 0, 1, [], []),
  (1, .bipush 48, 2, [], []),
  (3, .if_icmp .lt 13, 3, [8], []),
  (6, .iload_n 0, 1, [], []),
  (7, .bipush 57, 2, [], []),
  (9, .if_icmp .gt 7, 3, [8], []),
  (12, .iconst 1, 1, [], []),
  (13, .goto 4, 3, [9], []),
  (16, .iconst 0, 1, [], []),
  (17, .ireturn, 1, [1], [])]
def mX5_isDigit : pv_M := (⟨"CliffGarden$Reader", "isDigit", "(I)Z"⟩, prog_7_method_17_code, 1, some .boolean, rX5_isDigit)
def rX5_readNumber : List pv_R := [
  (0, .iconst 0, 1, [], []),
  (1, .istore_n 1, 1, [], []),
  (2, .iconst 0, 1, [], []),
  (3, .istore_n 2, 1, [], []),
  (4, .iload_n 2, 1, [], []),
  (5, .iconst 5, 1, [], []),
  (6, .if_icmp .ge 42, 3, [28], []),
  (9, .aload_n 0, 1, [], []),
  (10, .invokevirtual 39, 3, [46, 0, 5], [18]),
  (13, .invokestatic 126, 3, [60, 1], [170]),
  (16, .ifCond .eq 32, 3, [28], []),
  (19, .bipush 10, 2, [], []),
  (21, .iload_n 1, 1, [], []),
  (22, .imul, 1, [], []),
  (23, .aload_n 0, 1, [], []),
  (24, .invokevirtual 39, 3, [46, 0, 5], [18]),
  (27, .iadd, 1, [], []),
  (28, .bipush 48, 2, [], []),
  (30, .isub, 1, [], []),
  (31, .istore_n 1, 1, [], []),
  (32, .aload_n 0, 1, [], []),
  (33, .dup, 1, [], []),
  (34, .getfield 21, 3, [5, 3], [9]),
  (37, .iconst 1, 1, [], []),
  (38, .iadd, 1, [], []),
  (39, .putfield 21, 3, [5, 3], [9]),
  (42, .iinc 2 1, 3, [], []),
  (45, .goto (-41), 3, [4], []),
  (48, .aload_n 0, 1, [], []),
  (49, .invokevirtual 39, 3, [46, 0, 5], [18]),
  (52, .invokestatic 126, 3, [60, 1], [170]),
  (55, .ifCond .eq 9, 3, [36], []),
  (58, .aload_n 0, 1, [], []),
  (59, .iconst 2, 1, [], []),
  (60, .invokevirtual 53, 3, [47, 1, 5], [56]),
  (63, .ireturn, 1, [1], []),
  (64, .aload_n 0, 1, [], []),
  (65, .getfield 13, 3, [5, 1], [12]),
  (68, .bipush 48, 2, [], []),
  (70, .iload_n 1, 1, [], []),
  (71, .invokevirtual 104, 3, [75, 2, 7], [57]),
  (74, .iconst 1, 1, [], []),
  (75, .ireturn, 1, [1], [])]
def mX5_readNumber : pv_M := (⟨"CliffGarden$Reader", "readNumber", "()Z"⟩, prog_7_method_18_code, 3, some .boolean, rX5_readNumber)
def rX6_init : List pv_R := [
  (0, .aload_n 0, 1, [], []),
  (1, .invokespecial 5, 3, [9], [530]),
  (4, .aload_n 0, 1, [], []),
  (5, .bipush 8, 2, [], []),
  (7, .newarray .int, 2, [], []),
  (9, .putfield 11, 3, [6, 0], [406]),
  (12, .aload_n 0, 1, [], []),
  (13, .bipush 72, 2, [], []),
  (15, .newarray .int, 2, [], []),
  (17, .putfield 15, 3, [6, 1], [407]),
  (20, .aload_n 0, 1, [], []),
  (21, .bipush 8, 2, [], []),
  (23, .newarray .int, 2, [], []),
  (25, .putfield 18, 3, [6, 2], [408]),
  (28, .aload_n 0, 1, [], []),
  (29, .bipush 8, 2, [], []),
  (31, .newarray .int, 2, [], []),
  (33, .putfield 21, 3, [6, 3], [409]),
  (36, .aload_n 0, 1, [], []),
  (37, .bipush 8, 2, [], []),
  (39, .newarray .int, 2, [], []),
  (41, .putfield 24, 3, [6, 4], [410]),
  (44, .aload_n 0, 1, [], []),
  (45, .sipush 2304, 3, [], []),
  (48, .newarray .int, 2, [], []),
  (50, .putfield 27, 3, [6, 5], [411]),
  (53, .aload_n 0, 1, [], []),
  (54, .bipush 8, 2, [], []),
  (56, .newarray .int, 2, [], []),
  (58, .putfield 30, 3, [6, 6], [412]),
  (61, .return_, 1, [], [])]
def mX6_init : pv_M := (⟨"CliffGarden$Rounds", "<init>", "()V"⟩, prog_8_method_1_code, 1, none, rX6_init)
def rX6_tell : List pv_R := [
  (0, .aload_n 0, 1, [], []),
  (1, .iconst 0, 1, [], []),
  (2, .putfield 33, 3, [6, 7], [22]),
  (5, .iconst 0, 1, [], []),
  (6, .istore_n 3, 1, [], []),
  (7, .iload_n 3, 1, [], []),
  (8, .bipush 48, 2, [], []),
  (10, .if_icmp .ge 46, 3, [30], []),
  (13, .lload_n 1, 1, [], []),
  (14, .iload_n 3, 1, [], []),
  (15, .invokestatic 37, 3, [142, 2], [550]),
  (18, .ifCond .eq 32, 3, [28], []),
  (21, .aload_n 0, 1, [], []),
  (22, .getfield 33, 3, [6, 7], [22]),
  (25, .bipush 8, 2, [], []),
  (27, .if_icmp .ge 23, 3, [28], []),
  (30, .aload_n 0, 1, [], []),
  (31, .getfield 11, 3, [6, 0], [36]),
  (34, .aload_n 0, 1, [], []),
  (35, .getfield 33, 3, [6, 7], [22]),
  (38, .iload_n 3, 1, [], []),
  (39, .iastore, 1, [], []),
  (40, .aload_n 0, 1, [], []),
  (41, .dup, 1, [], []),
  (42, .getfield 33, 3, [6, 7], [22]),
  (45, .iconst 1, 1, [], []),
  (46, .iadd, 1, [], []),
  (47, .putfield 33, 3, [6, 7], [22]),
  (50, .iinc 3 1, 3, [], []),
  (53, .goto (-46), 3, [5], []),
  (56, .return_, 1, [], [])]
def mX6_tell : pv_M := (⟨"CliffGarden$Rounds", "tell", "(J)V"⟩, prog_8_method_2_code, 4, none, rX6_tell)
def rX6_asWork : List pv_R := [
  (0, .iconst 0, 1, [], []),
  (1, .istore_n 2, 1, [], []),
  (2, .iload_n 2, 1, [], []),
  (3, .aload_n 0, 1, [], []),
  (4, .getfield 33, 3, [6, 7], [22]),
  (7, .if_icmp .ge 98, 3, [66], []),
  (10, .iconst 0, 1, [], []),
  (11, .istore_n 3, 1, [], []),
  (12, .iload_n 3, 1, [], []),
  (13, .aload_n 0, 1, [], []),
  (14, .getfield 33, 3, [6, 7], [22]),
  (17, .if_icmp .ge 37, 3, [33], []),
  (20, .aload_n 0, 1, [], []),
  (21, .getfield 15, 3, [6, 1], [99]),
  (24, .iload_n 3, 1, [], []),
  (25, .bipush 8, 2, [], []),
  (27, .imul, 1, [], []),
  (28, .iload_n 2, 1, [], []),
  (29, .iadd, 1, [], []),
  (30, .aload_n 0, 1, [], []),
  (31, .getfield 11, 3, [6, 0], [36]),
  (34, .iload_n 3, 1, [], []),
  (35, .iaload, 1, [], []),
  (36, .aload_n 0, 1, [], []),
  (37, .getfield 11, 3, [6, 0], [36]),
  (40, .iload_n 2, 1, [], []),
  (41, .iaload, 1, [], []),
  (42, .invokestatic 41, 3, [65, 2], [255]),
  (45, .iconst 1, 1, [], []),
  (46, .iadd, 1, [], []),
  (47, .iastore, 1, [], []),
  (48, .iinc 3 1, 3, [], []),
  (51, .goto (-39), 3, [8], []),
  (54, .aload_n 0, 1, [], []),
  (55, .getfield 15, 3, [6, 1], [99]),
  (58, .bipush 64, 2, [], []),
  (60, .iload_n 2, 1, [], []),
  (61, .iadd, 1, [], []),
  (62, .iload_n 1, 1, [], []),
  (63, .bipush 6, 2, [], []),
  (65, .imul, 1, [], []),
  (66, .aload_n 0, 1, [], []),
  (67, .getfield 11, 3, [6, 0], [36]),
  (70, .iload_n 2, 1, [], []),
  (71, .iaload, 1, [], []),
  (72, .invokestatic 41, 3, [65, 2], [255]),
  (75, .iconst 1, 1, [], []),
  (76, .iadd, 1, [], []),
  (77, .iastore, 1, [], []),
  (78, .aload_n 0, 1, [], []),
  (79, .getfield 18, 3, [6, 2], [139]),
  (82, .iload_n 2, 1, [], []),
  (83, .iconst 0, 1, [], []),
  (84, .iastore, 1, [], []),
  (85, .aload_n 0, 1, [], []),
  (86, .getfield 21, 3, [6, 3], [100]),
  (89, .iload_n 2, 1, [], []),
  (90, .iconst 0, 1, [], []),
  (91, .iastore, 1, [], []),
  (92, .aload_n 0, 1, [], []),
  (93, .getfield 24, 3, [6, 4], [140]),
  (96, .iload_n 2, 1, [], []),
  (97, .iconst 0, 1, [], []),
  (98, .iastore, 1, [], []),
  (99, .iinc 2 1, 3, [], []),
  (102, .goto (-100), 3, [2], []),
  (105, .return_, 1, [], [])]
def mX6_asWork : pv_M := (⟨"CliffGarden$Rounds", "asWork", "(I)V"⟩, prog_8_method_3_code, 4, none, rX6_asWork)
def rX6_hoursBetween : List pv_R := [
  (0, .iconst 2, 1, [], []),
  (1, .iload_n 0, 1, [], []),
  (2, .bipush 6, 2, [], []),
  (4, .idiv, 1, [], []),
  (5, .iload_n 1, 1, [], []),
  (6, .bipush 6, 2, [], []),
  (8, .idiv, 1, [], []),
  (9, .isub, 1, [], []),
  (10, .invokestatic 45, 3, [2], [249]),
  (13, .imul, 1, [], []),
  (14, .iload_n 0, 1, [], []),
  (15, .bipush 6, 2, [], []),
  (17, .irem, 1, [], []),
  (18, .iload_n 1, 1, [], []),
  (19, .bipush 6, 2, [], []),
  (21, .irem, 1, [], []),
  (22, .isub, 1, [], []),
  (23, .invokestatic 45, 3, [2], [249]),
  (26, .iadd, 1, [], []),
  (27, .ireturn, 1, [0], [])]
def mX6_hoursBetween : pv_M := (⟨"CliffGarden$Rounds", "hoursBetween", "(II)I"⟩, prog_8_method_4_code, 2, some .int, rX6_hoursBetween)
def rX6_asMending : List pv_R := [
  (0, .aload_n 0, 1, [], []),
  (1, .getfield 15, 3, [6, 1], [99]),
  (4, .iconst 0, 1, [], []),
  (5, .invokestatic 51, 3, [250, 2], [551]),
  (8, .iconst 0, 1, [], []),
  (9, .istore_n 2, 1, [], []),
  (10, .iload_n 2, 1, [], []),
  (11, .aload_n 0, 1, [], []),
  (12, .getfield 33, 3, [6, 7], [22]),
  (15, .if_icmp .ge 99, 3, [72], []),
  (18, .aload_n 0, 1, [], []),
  (19, .getfield 11, 3, [6, 0], [36]),
  (22, .iload_n 2, 1, [], []),
  (23, .iaload, 1, [], []),
  (24, .bipush 6, 2, [], []),
  (26, .irem, 1, [], []),
  (27, .istore_n 3, 1, [], []),
  (28, .aload_n 0, 1, [], []),
  (29, .getfield 18, 3, [6, 2], [139]),
  (32, .iload_n 2, 1, [], []),
  (33, .aload_n 1, 1, [], []),
  (34, .aload_n 0, 1, [], []),
  (35, .getfield 11, 3, [6, 0], [36]),
  (38, .iload_n 2, 1, [], []),
  (39, .iaload, 1, [], []),
  (40, .bipush 6, 2, [], []),
  (42, .idiv, 1, [], []),
  (43, .iaload, 1, [], []),
  (44, .iastore, 1, [], []),
  (45, .aload_n 0, 1, [], []),
  (46, .getfield 21, 3, [6, 3], [100]),
  (49, .iload_n 2, 1, [], []),
  (50, .iconst 1, 1, [], []),
  (51, .iload_n 3, 1, [], []),
  (52, .iadd, 1, [], []),
  (53, .iastore, 1, [], []),
  (54, .iload_n 2, 1, [], []),
  (55, .ifCond .le 30, 3, [55], []),
  (58, .iload_n 3, 1, [], []),
  (59, .ifCond .le 26, 3, [55], []),
  (62, .aload_n 0, 1, [], []),
  (63, .getfield 11, 3, [6, 0], [36]),
  (66, .iload_n 2, 1, [], []),
  (67, .iconst 1, 1, [], []),
  (68, .isub, 1, [], []),
  (69, .iaload, 1, [], []),
  (70, .aload_n 0, 1, [], []),
  (71, .getfield 11, 3, [6, 0], [36]),
  (74, .iload_n 2, 1, [], []),
  (75, .iaload, 1, [], []),
  (76, .iconst 1, 1, [], []),
  (77, .isub, 1, [], []),
  (78, .if_icmp .ne 7, 3, [55], []),
  (81, .iconst 1, 1, [], []),
  (82, .goto 4, 3, [56], []),
  (85, .iconst 0, 1, [], []),
  (86, .istore 4, 2, [], []),
  (88, .aload_n 0, 1, [], []),
  (89, .getfield 24, 3, [6, 4], [140]),
  (92, .iload_n 2, 1, [], []),
  (93, .iload 4, 2, [], []),
  (95, .ifCond .eq 11, 3, [68], []),
  (98, .iconst 1, 1, [], []),
  (99, .iload_n 2, 1, [], []),
  (100, .iconst 1, 1, [], []),
  (101, .isub, 1, [], []),
  (102, .ishl, 1, [], []),
  (103, .goto 4, 3, [69], []),
  (106, .iconst 0, 1, [], []),
  (107, .iastore, 1, [], []),
  (108, .iinc 2 1, 3, [], []),
  (111, .goto (-101), 3, [6], []),
  (114, .return_, 1, [], [])]
def mX6_asMending : pv_M := (⟨"CliffGarden$Rounds", "asMending", "([I)V"⟩, prog_8_method_5_code, 5, none, rX6_asMending)
def rX6_solve : List pv_R := [
  (0, .iconst 1, 1, [], []),
  (1, .aload_n 0, 1, [], []),
  (2, .getfield 33, 3, [6, 7], [22]),
  (5, .ishl, 1, [], []),
  (6, .iconst 1, 1, [], []),
  (7, .isub, 1, [], []),
  (8, .istore_n 1, 1, [], []),
  (9, .iload_n 1, 1, [], []),
  (10, .istore_n 2, 1, [], []),
  (11, .iload_n 2, 1, [], []),
  (12, .ifCond .lt 100, 3, [63], []),
  (15, .aload_n 0, 1, [], []),
  (16, .iload_n 2, 1, [], []),
  (17, .invokevirtual 57, 3, [68, 1, 6], [271]),
  (20, .istore_n 3, 1, [], []),
  (21, .iconst 0, 1, [], []),
  (22, .istore 4, 2, [], []),
  (24, .iload 4, 2, [], []),
  (26, .bipush 9, 2, [], []),
  (28, .if_icmp .ge 78, 3, [61], []),
  (31, .iload_n 2, 1, [], []),
  (32, .ifCond .ne 18, 3, [29], []),
  (35, .iload 4, 2, [], []),
  (37, .bipush 8, 2, [], []),
  (39, .if_icmp .ne 7, 3, [27], []),
  (42, .iconst 1, 1, [], []),
  (43, .goto 21, 3, [38], []),
  (46, .iconst 0, 1, [], []),
  (47, .goto 17, 3, [38], []),
  (50, .iload_n 2, 1, [], []),
  (51, .iload 4, 2, [], []),
  (53, .ishr, 1, [], []),
  (54, .iconst 1, 1, [], []),
  (55, .iand, 1, [], []),
  (56, .ifCond .eq 7, 3, [37], []),
  (59, .iconst 1, 1, [], []),
  (60, .goto 4, 3, [38], []),
  (63, .iconst 0, 1, [], []),
  (64, .istore 5, 2, [], []),
  (66, .iload 5, 2, [], []),
  (68, .ifCond .eq 32, 3, [59], []),
  (71, .aload_n 0, 1, [], []),
  (72, .getfield 27, 3, [6, 5], [101]),
  (75, .iload_n 2, 1, [], []),
  (76, .bipush 9, 2, [], []),
  (78, .imul, 1, [], []),
  (79, .iload 4, 2, [], []),
  (81, .iadd, 1, [], []),
  (82, .iload_n 2, 1, [], []),
  (83, .iload_n 1, 1, [], []),
  (84, .if_icmp .ne 7, 3, [53], []),
  (87, .iconst 0, 1, [], []),
  (88, .goto 11, 3, [58], []),
  (91, .aload_n 0, 1, [], []),
  (92, .iload_n 2, 1, [], []),
  (93, .iload 4, 2, [], []),
  (95, .iload_n 3, 1, [], []),
  (96, .invokevirtual 60, 3, [69, 3, 6], [579]),
  (99, .iastore, 1, [], []),
  (100, .iinc 4 1, 3, [], []),
  (103, .goto (-79), 3, [17], []),
  (106, .iinc 2 (-1), 3, [], []),
  (109, .goto (-98), 3, [9], []),
  (112, .aload_n 0, 1, [], []),
  (113, .iload_n 1, 1, [], []),
  (114, .invokevirtual 64, 3, [71, 1, 6], [580]),
  (117, .return_, 1, [], [])]
def mX6_solve : pv_M := (⟨"CliffGarden$Rounds", "solve", "()V"⟩, prog_8_method_6_code, 6, none, rX6_solve)
def rX6_spentOn : List pv_R := [
  (0, .iconst 0, 1, [], []),
  (1, .istore_n 2, 1, [], []),
  (2, .iconst 0, 1, [], []),
  (3, .istore_n 3, 1, [], []),
  (4, .iload_n 3, 1, [], []),
  (5, .aload_n 0, 1, [], []),
  (6, .getfield 33, 3, [6, 7], [22]),
  (9, .if_icmp .ge 26, 3, [23], []),
  (12, .iload_n 1, 1, [], []),
  (13, .iload_n 3, 1, [], []),
  (14, .ishr, 1, [], []),
  (15, .iconst 1, 1, [], []),
  (16, .iand, 1, [], []),
  (17, .ifCond .eq 12, 3, [21], []),
  (20, .iload_n 2, 1, [], []),
  (21, .aload_n 0, 1, [], []),
  (22, .getfield 21, 3, [6, 3], [100]),
  (25, .iload_n 3, 1, [], []),
  (26, .iaload, 1, [], []),
  (27, .iadd, 1, [], []),
  (28, .istore_n 2, 1, [], []),
  (29, .iinc 3 1, 3, [], []),
  (32, .goto (-28), 3, [4], []),
  (35, .iload_n 2, 1, [], []),
  (36, .ireturn, 1, [0], [])]
def mX6_spentOn : pv_M := (⟨"CliffGarden$Rounds", "spentOn", "(I)I"⟩, prog_8_method_7_code, 4, some .int, rX6_spentOn)
def rX6_leastOnward : List pv_R := [
  (0, .ldc 68, 2, [1000000000], [239]),
  (2, .istore 4, 2, [], []),
  (4, .iconst 0, 1, [], []),
  (5, .istore 5, 2, [], []),
  (7, .iload 5, 2, [], []),
  (9, .aload_n 0, 1, [], []),
  (10, .getfield 33, 3, [6, 7], [22]),
  (13, .if_icmp .ge 25, 3, [19], []),
  (16, .iload 4, 2, [], []),
  (18, .aload_n 0, 1, [], []),
  (19, .iload_n 1, 1, [], []),
  (20, .iload_n 2, 1, [], []),
  (21, .iload 5, 2, [], []),
  (23, .iload_n 3, 1, [], []),
  (24, .invokevirtual 69, 3, [70, 4, 6], [272]),
  (27, .invokestatic 73, 3, [1], [539]),
  (30, .istore 4, 2, [], []),
  (32, .iinc 5 1, 3, [], []),
  (35, .goto (-28), 3, [4], []),
  (38, .iload 4, 2, [], []),
  (40, .ireturn, 1, [0], [])]
def mX6_leastOnward : pv_M := (⟨"CliffGarden$Rounds", "leastOnward", "(III)I"⟩, prog_8_method_8_code, 6, some .int, rX6_leastOnward)
def rX6_costVia : List pv_R := [
  (0, .iload_n 1, 1, [], []),
  (1, .iload_n 3, 1, [], []),
  (2, .ishr, 1, [], []),
  (3, .iconst 1, 1, [], []),
  (4, .iand, 1, [], []),
  (5, .ifCond .ne 16, 3, [15], []),
  (8, .aload_n 0, 1, [], []),
  (9, .getfield 24, 3, [6, 4], [140]),
  (12, .iload_n 3, 1, [], []),
  (13, .iaload, 1, [], []),
  (14, .iload_n 1, 1, [], []),
  (15, .iconst (-1), 1, [], []),
  (16, .ixor, 1, [], []),
  (17, .iand, 1, [], []),
  (18, .ifCond .eq 6, 3, [17], []),
  (21, .ldc 68, 2, [1000000000], [239]),
  (23, .ireturn, 1, [0], []),
  (24, .aload_n 0, 1, [], []),
  (25, .getfield 15, 3, [6, 1], [99]),
  (28, .iload_n 2, 1, [], []),
  (29, .bipush 8, 2, [], []),
  (31, .imul, 1, [], []),
  (32, .iload_n 3, 1, [], []),
  (33, .iadd, 1, [], []),
  (34, .iaload, 1, [], []),
  (35, .aload_n 0, 1, [], []),
  (36, .getfield 18, 3, [6, 2], [139]),
  (39, .iload_n 3, 1, [], []),
  (40, .iaload, 1, [], []),
  (41, .iload 4, 2, [], []),
  (43, .aload_n 0, 1, [], []),
  (44, .getfield 21, 3, [6, 3], [100]),
  (47, .iload_n 3, 1, [], []),
  (48, .iaload, 1, [], []),
  (49, .iadd, 1, [], []),
  (50, .imul, 1, [], []),
  (51, .iadd, 1, [], []),
  (52, .istore 5, 2, [], []),
  (54, .iload 5, 2, [], []),
  (56, .aload_n 0, 1, [], []),
  (57, .getfield 27, 3, [6, 5], [101]),
  (60, .iload_n 1, 1, [], []),
  (61, .iconst 1, 1, [], []),
  (62, .iload_n 3, 1, [], []),
  (63, .ishl, 1, [], []),
  (64, .ior, 1, [], []),
  (65, .bipush 9, 2, [], []),
  (67, .imul, 1, [], []),
  (68, .iload_n 3, 1, [], []),
  (69, .iadd, 1, [], []),
  (70, .iaload, 1, [], []),
  (71, .iadd, 1, [], []),
  (72, .ireturn, 1, [0], [])]
def mX6_costVia : pv_M := (⟨"CliffGarden$Rounds", "costVia", "(IIII)I"⟩, prog_8_method_9_code, 6, some .int, rX6_costVia)
def rX6_findRow : List pv_R := [
  (0, .iconst 0, 1, [], []),
  (1, .istore_n 2, 1, [], []),
  (2, .bipush 8, 2, [], []),
  (4, .istore_n 3, 1, [], []),
  (5, .iconst 0, 1, [], []),
  (6, .istore 4, 2, [], []),
  (8, .iload 4, 2, [], []),
  (10, .aload_n 0, 1, [], []),
  (11, .getfield 33, 3, [6, 7], [22]),
  (14, .if_icmp .ge 89, 3, [60], []),
  (17, .iload_n 2, 1, [], []),
  (18, .iload_n 1, 1, [], []),
  (19, .if_icmp .eq 84, 3, [60], []),
  (22, .aload_n 0, 1, [], []),
  (23, .iload_n 2, 1, [], []),
  (24, .invokevirtual 57, 3, [68, 1, 6], [271]),
  (27, .istore 5, 2, [], []),
  (29, .iconst 0, 1, [], []),
  (30, .istore 6, 2, [], []),
  (32, .iload 6, 2, [], []),
  (34, .aload_n 0, 1, [], []),
  (35, .getfield 33, 3, [6, 7], [22]),
  (38, .iconst 1, 1, [], []),
  (39, .isub, 1, [], []),
  (40, .if_icmp .ge 33, 3, [42], []),
  (43, .aload_n 0, 1, [], []),
  (44, .iload_n 2, 1, [], []),
  (45, .iload_n 3, 1, [], []),
  (46, .iload 6, 2, [], []),
  (48, .iload 5, 2, [], []),
  (50, .invokevirtual 69, 3, [70, 4, 6], [272]),
  (53, .aload_n 0, 1, [], []),
  (54, .getfield 27, 3, [6, 5], [101]),
  (57, .iload_n 2, 1, [], []),
  (58, .bipush 9, 2, [], []),
  (60, .imul, 1, [], []),
  (61, .iload_n 3, 1, [], []),
  (62, .iadd, 1, [], []),
  (63, .iaload, 1, [], []),
  (64, .if_icmp .eq 9, 3, [42], []),
  (67, .iinc 6 1, 3, [], []),
  (70, .goto (-38), 3, [19], []),
  (73, .aload_n 0, 1, [], []),
  (74, .getfield 30, 3, [6, 6], [207]),
  (77, .iload 4, 2, [], []),
  (79, .aload_n 0, 1, [], []),
  (80, .getfield 11, 3, [6, 0], [36]),
  (83, .iload 6, 2, [], []),
  (85, .iaload, 1, [], []),
  (86, .iastore, 1, [], []),
  (87, .iload_n 2, 1, [], []),
  (88, .iconst 1, 1, [], []),
  (89, .iload 6, 2, [], []),
  (91, .ishl, 1, [], []),
  (92, .ior, 1, [], []),
  (93, .istore_n 2, 1, [], []),
  (94, .iload 6, 2, [], []),
  (96, .istore_n 3, 1, [], []),
  (97, .iinc 4 1, 3, [], []),
  (100, .goto (-92), 3, [6], []),
  (103, .return_, 1, [], [])]
def mX6_findRow : pv_M := (⟨"CliffGarden$Rounds", "findRow", "(I)V"⟩, prog_8_method_10_code, 7, none, rX6_findRow)
def rX6_least : List pv_R := [
  (0, .aload_n 0, 1, [], []),
  (1, .getfield 27, 3, [6, 5], [101]),
  (4, .bipush 8, 2, [], []),
  (6, .iaload, 1, [], []),
  (7, .ireturn, 1, [0], [])]
def mX6_least : pv_M := (⟨"CliffGarden$Rounds", "least", "()I"⟩, prog_8_method_11_code, 1, some .int, rX6_least)
def rX6_cellAt : List pv_R := [
  (0, .iload_n 1, 1, [], []),
  (1, .bipush 7, 2, [], []),
  (3, .invokestatic 76, 3, [138, 2], [552]),
  (6, .ifCond .eq 12, 3, [9], []),
  (9, .aload_n 0, 1, [], []),
  (10, .getfield 30, 3, [6, 6], [207]),
  (13, .iload_n 1, 1, [], []),
  (14, .iaload, 1, [], []),
  (15, .goto 4, 3, [10], []),
  (18, .iconst (-1), 1, [], []),
  (19, .ireturn, 1, [0], [])]
def mX6_cellAt : pv_M := (⟨"CliffGarden$Rounds", "cellAt", "(I)I"⟩, prog_8_method_12_code, 2, some .int, rX6_cellAt)
def rX7_init : List pv_R := [
  (0, .aload_n 0, 1, [], []),
  (1, .invokespecial 1, 3, [9], [531]),
  (4, .aload_n 0, 1, [], []),
  (5, .sipush 200, 3, [], []),
  (8, .newarray .int, 2, [], []),
  (10, .putfield 9, 3, [7, 0], [413]),
  (13, .aload_n 0, 1, [], []),
  (14, .sipush 200, 3, [], []),
  (17, .newarray .int, 2, [], []),
  (19, .putfield 13, 3, [7, 1], [414]),
  (22, .aload_n 0, 1, [], []),
  (23, .bipush 14, 2, [], []),
  (25, .newarray .int, 2, [], []),
  (27, .putfield 16, 3, [7, 2], [415]),
  (30, .aload_n 0, 1, [], []),
  (31, .bipush 14, 2, [], []),
  (33, .newarray .int, 2, [], []),
  (35, .putfield 19, 3, [7, 3], [416]),
  (38, .aload_n 0, 1, [], []),
  (39, .bipush 14, 2, [], []),
  (41, .newarray .int, 2, [], []),
  (43, .putfield 22, 3, [7, 4], [417]),
  (46, .aload_n 0, 1, [], []),
  (47, .bipush 14, 2, [], []),
  (49, .newarray .int, 2, [], []),
  (51, .putfield 25, 3, [7, 5], [418]),
  (54, .aload_n 0, 1, [], []),
  (55, .bipush 40, 2, [], []),
  (57, .newarray .int, 2, [], []),
  (59, .putfield 28, 3, [7, 6], [419]),
  (62, .return_, 1, [], [])]
def mX7_init : pv_M := (⟨"CliffGarden$Statute", "<init>", "()V"⟩, prog_9_method_1_code, 1, none, rX7_init)
def rX7_put : List pv_R := [
  (0, .aload_n 0, 1, [], []),
  (1, .getfield 31, 3, [7, 8], [79]),
  (4, .sipush 200, 3, [], []),
  (7, .if_icmp .ge 33, 3, [22], []),
  (10, .aload_n 0, 1, [], []),
  (11, .getfield 9, 3, [7, 0], [208]),
  (14, .aload_n 0, 1, [], []),
  (15, .getfield 31, 3, [7, 8], [79]),
  (18, .iload_n 1, 1, [], []),
  (19, .iastore, 1, [], []),
  (20, .aload_n 0, 1, [], []),
  (21, .getfield 13, 3, [7, 1], [102]),
  (24, .aload_n 0, 1, [], []),
  (25, .getfield 31, 3, [7, 8], [79]),
  (28, .iload_n 2, 1, [], []),
  (29, .iastore, 1, [], []),
  (30, .aload_n 0, 1, [], []),
  (31, .dup, 1, [], []),
  (32, .getfield 31, 3, [7, 8], [79]),
  (35, .iconst 1, 1, [], []),
  (36, .iadd, 1, [], []),
  (37, .putfield 31, 3, [7, 8], [79]),
  (40, .return_, 1, [], [])]
def mX7_put : pv_M := (⟨"CliffGarden$Statute", "put", "(II)V"⟩, prog_9_method_2_code, 3, none, rX7_put)
def rX7_answer : List pv_R := [
  (0, .iconst 0, 1, [], []),
  (1, .istore 4, 2, [], []),
  (3, .iload 4, 2, [], []),
  (5, .aload_n 0, 1, [], []),
  (6, .getfield 35, 3, [7, 7], [347]),
  (9, .if_icmp .ge 77, 3, [45], []),
  (12, .iload 4, 2, [], []),
  (14, .bipush 14, 2, [], []),
  (16, .if_icmp .ge 70, 3, [45], []),
  (19, .aload_n 0, 1, [], []),
  (20, .getfield 16, 3, [7, 2], [344]),
  (23, .iload 4, 2, [], []),
  (25, .iaload, 1, [], []),
  (26, .iload_n 1, 1, [], []),
  (27, .if_icmp .ne 53, 3, [43], []),
  (30, .aload_n 0, 1, [], []),
  (31, .aload_n 0, 1, [], []),
  (32, .getfield 22, 3, [7, 4], [209]),
  (35, .iload 4, 2, [], []),
  (37, .iaload, 1, [], []),
  (38, .aload_n 0, 1, [], []),
  (39, .getfield 25, 3, [7, 5], [346]),
  (42, .iload 4, 2, [], []),
  (44, .iaload, 1, [], []),
  (45, .aload_n 3, 1, [], []),
  (46, .invokevirtual 38, 3, [77, 3, 7], [273]),
  (49, .ifCond .eq 31, 3, [43], []),
  (52, .iconst 0, 1, [], []),
  (53, .iload_n 2, 1, [], []),
  (54, .aload_n 0, 1, [], []),
  (55, .aload_n 0, 1, [], []),
  (56, .getfield 19, 3, [7, 3], [345]),
  (59, .iload 4, 2, [], []),
  (61, .iaload, 1, [], []),
  (62, .aload_n 0, 1, [], []),
  (63, .getfield 22, 3, [7, 4], [209]),
  (66, .iload 4, 2, [], []),
  (68, .iaload, 1, [], []),
  (69, .aload_n 3, 1, [], []),
  (70, .invokevirtual 38, 3, [77, 3, 7], [273]),
  (73, .invokestatic 42, 3, [1], [540]),
  (76, .invokestatic 48, 3, [0], [250]),
  (79, .ireturn, 1, [0], []),
  (80, .iinc 4 1, 3, [], []),
  (83, .goto (-80), 3, [2], []),
  (86, .iconst 0, 1, [], []),
  (87, .ireturn, 1, [0], [])]
def mX7_answer : pv_M := (⟨"CliffGarden$Statute", "answer", "(II[I)I"⟩, prog_9_method_3_code, 5, some .int, rX7_answer)
def rX7_reckon : List pv_R := [
  (0, .aload_n 0, 1, [], []),
  (1, .iconst 0, 1, [], []),
  (2, .putfield 51, 3, [7, 9], [15]),
  (5, .iload_n 1, 1, [], []),
  (6, .istore 4, 2, [], []),
  (8, .iload 4, 2, [], []),
  (10, .iload_n 2, 1, [], []),
  (11, .if_icmp .ge 307, 3, [170], []),
  (14, .iload 4, 2, [], []),
  (16, .sipush 200, 3, [], []),
  (19, .if_icmp .ge 299, 3, [170], []),
  (22, .aload_n 0, 1, [], []),
  (23, .getfield 9, 3, [7, 0], [208]),
  (26, .iload 4, 2, [], []),
  (28, .iaload, 1, [], []),
  (29, .istore 5, 2, [], []),
  (31, .iload 5, 2, [], []),
  (33, .bipush 48, 2, [], []),
  (35, .if_icmp .eq 10, 3, [22], []),
  (38, .iload 5, 2, [], []),
  (40, .bipush 107, 2, [], []),
  (42, .if_icmp .ne 62, 3, [54], []),
  (45, .aload_n 0, 1, [], []),
  (46, .getfield 51, 3, [7, 9], [15]),
  (49, .bipush 40, 2, [], []),
  (51, .if_icmp .lt 5, 3, [28], []),
  (54, .iconst 0, 1, [], []),
  (55, .ireturn, 1, [0], []),
  (56, .aload_n 0, 1, [], []),
  (57, .getfield 28, 3, [7, 6], [37]),
  (60, .aload_n 0, 1, [], []),
  (61, .getfield 51, 3, [7, 9], [15]),
  (64, .iload 5, 2, [], []),
  (66, .bipush 48, 2, [], []),
  (68, .if_icmp .ne 13, 3, [40], []),
  (71, .aload_n 0, 1, [], []),
  (72, .getfield 13, 3, [7, 1], [102]),
  (75, .iload 4, 2, [], []),
  (77, .iaload, 1, [], []),
  (78, .goto 12, 3, [46], []),
  (81, .aload_n 3, 1, [], []),
  (82, .aload_n 0, 1, [], []),
  (83, .getfield 13, 3, [7, 1], [102]),
  (86, .iload 4, 2, [], []),
  (88, .iaload, 1, [], []),
  (89, .iaload, 1, [], []),
  (90, .iastore, 1, [], []),
  (91, .aload_n 0, 1, [], []),
  (92, .dup, 1, [], []),
  (93, .getfield 51, 3, [7, 9], [15]),
  (96, .iconst 1, 1, [], []),
  (97, .iadd, 1, [], []),
  (98, .putfield 51, 3, [7, 9], [15]),
  (101, .goto 211, 3, [168], []),
  (104, .aload_n 0, 1, [], []),
  (105, .getfield 51, 3, [7, 9], [15]),
  (108, .iconst 1, 1, [], []),
  (109, .if_icmp .ge 5, 3, [60], []),
  (112, .iconst 0, 1, [], []),
  (113, .ireturn, 1, [0], []),
  (114, .iload 5, 2, [], []),
  (116, .bipush 33, 2, [], []),
  (118, .if_icmp .ne 30, 3, [80], []),
  (121, .aload_n 0, 1, [], []),
  (122, .getfield 28, 3, [7, 6], [37]),
  (125, .aload_n 0, 1, [], []),
  (126, .getfield 51, 3, [7, 9], [15]),
  (129, .iconst 1, 1, [], []),
  (130, .isub, 1, [], []),
  (131, .iconst 1, 1, [], []),
  (132, .aload_n 0, 1, [], []),
  (133, .getfield 28, 3, [7, 6], [37]),
  (136, .aload_n 0, 1, [], []),
  (137, .getfield 51, 3, [7, 9], [15]),
  (140, .iconst 1, 1, [], []),
  (141, .isub, 1, [], []),
  (142, .iaload, 1, [], []),
  (143, .isub, 1, [], []),
  (144, .iastore, 1, [], []),
  (145, .goto 167, 3, [168], []),
  (148, .iload 5, 2, [], []),
  (150, .bipush 38, 2, [], []),
  (152, .if_icmp .eq 10, 3, [86], []),
  (155, .iload 5, 2, [], []),
  (157, .bipush 124, 2, [], []),
  (159, .if_icmp .ne 69, 3, [121], []),
  (162, .aload_n 0, 1, [], []),
  (163, .getfield 28, 3, [7, 6], [37]),
  (166, .aload_n 0, 1, [], []),
  (167, .getfield 51, 3, [7, 9], [15]),
  (170, .iconst 1, 1, [], []),
  (171, .isub, 1, [], []),
  (172, .iaload, 1, [], []),
  (173, .ifCond .eq 7, 3, [96], []),
  (176, .iconst 1, 1, [], []),
  (177, .goto 4, 3, [97], []),
  (180, .iconst 0, 1, [], []),
  (181, .iload 5, 2, [], []),
  (183, .bipush 124, 2, [], []),
  (185, .if_icmp .ne 7, 3, [102], []),
  (188, .iconst 1, 1, [], []),
  (189, .goto 4, 3, [103], []),
  (192, .iconst 0, 1, [], []),
  (193, .if_icmp .ne 22, 3, [114], []),
  (196, .iload 4, 2, [], []),
  (198, .aload_n 0, 1, [], []),
  (199, .getfield 13, 3, [7, 1], [102]),
  (202, .iload 4, 2, [], []),
  (204, .iaload, 1, [], []),
  (205, .iconst 1, 1, [], []),
  (206, .isub, 1, [], []),
  (207, .invokestatic 48, 3, [0], [250]),
  (210, .istore 4, 2, [], []),
  (212, .goto 100, 3, [168], []),
  (215, .aload_n 0, 1, [], []),
  (216, .dup, 1, [], []),
  (217, .getfield 51, 3, [7, 9], [15]),
  (220, .iconst 1, 1, [], []),
  (221, .isub, 1, [], []),
  (222, .putfield 51, 3, [7, 9], [15]),
  (225, .goto 87, 3, [168], []),
  (228, .aload_n 0, 1, [], []),
  (229, .getfield 51, 3, [7, 9], [15]),
  (232, .iconst 2, 1, [], []),
  (233, .if_icmp .lt 31, 3, [139], []),
  (236, .aload_n 0, 1, [], []),
  (237, .getfield 28, 3, [7, 6], [37]),
  (240, .aload_n 0, 1, [], []),
  (241, .getfield 51, 3, [7, 9], [15]),
  (244, .iconst 1, 1, [], []),
  (245, .isub, 1, [], []),
  (246, .iaload, 1, [], []),
  (247, .ifCond .ne 19, 3, [141], []),
  (250, .iload 5, 2, [], []),
  (252, .bipush 47, 2, [], []),
  (254, .if_icmp .eq 10, 3, [139], []),
  (257, .iload 5, 2, [], []),
  (259, .bipush 37, 2, [], []),
  (261, .if_icmp .ne 5, 3, [141], []),
  (264, .iconst 0, 1, [], []),
  (265, .ireturn, 1, [0], []),
  (266, .aload_n 0, 1, [], []),
  (267, .dup, 1, [], []),
  (268, .getfield 51, 3, [7, 9], [15]),
  (271, .iconst 1, 1, [], []),
  (272, .isub, 1, [], []),
  (273, .putfield 51, 3, [7, 9], [15]),
  (276, .aload_n 0, 1, [], []),
  (277, .getfield 28, 3, [7, 6], [37]),
  (280, .aload_n 0, 1, [], []),
  (281, .getfield 51, 3, [7, 9], [15]),
  (284, .iconst 1, 1, [], []),
  (285, .isub, 1, [], []),
  (286, .iload 5, 2, [], []),
  (288, .aload_n 0, 1, [], []),
  (289, .getfield 28, 3, [7, 6], [37]),
  (292, .aload_n 0, 1, [], []),
  (293, .getfield 51, 3, [7, 9], [15]),
  (296, .iconst 1, 1, [], []),
  (297, .isub, 1, [], []),
  (298, .iaload, 1, [], []),
  (299, .aload_n 0, 1, [], []),
  (300, .getfield 28, 3, [7, 6], [37]),
  (303, .aload_n 0, 1, [], []),
  (304, .getfield 51, 3, [7, 9], [15]),
  (307, .iaload, 1, [], []),
  (308, .invokestatic 54, 3, [78, 3], [553]),
  (311, .iastore, 1, [], []),
  (312, .iinc 4 1, 3, [], []),
  (315, .goto (-307), 3, [5], []),
  (318, .aload_n 0, 1, [], []),
  (319, .getfield 51, 3, [7, 9], [15]),
  (322, .ifCond .le 12, 3, [178], []),
  (325, .aload_n 0, 1, [], []),
  (326, .getfield 28, 3, [7, 6], [37]),
  (329, .iconst 0, 1, [], []),
  (330, .iaload, 1, [], []),
  (331, .goto 4, 3, [179], []),
  (334, .iconst 0, 1, [], []),
  (335, .ireturn, 1, [0], [])]
def mX7_reckon : pv_M := (⟨"CliffGarden$Statute", "reckon", "(II[I)I"⟩, prog_9_method_4_code, 6, some .int, rX7_reckon)
def rX7_joined : List pv_R := [
  (0, .iload_n 0, 1, [], []),
  (1, .nop, 0, [], []),
  (68, .iload_n 1, 1, [], []),
  (69, .iload_n 2, 1, [], []),
  (70, .iadd, 1, [], []),
  (71, .ireturn, 1, [0], []),
  (72, .iload_n 1, 1, [], []),
  (73, .iload_n 2, 1, [], []),
  (74, .isub, 1, [], []),
  (75, .ireturn, 1, [0], []),
  (76, .iload_n 1, 1, [], []),
  (77, .iload_n 2, 1, [], []),
  (78, .imul, 1, [], []),
  (79, .ireturn, 1, [0], []),
  (80, .iload_n 2, 1, [], []),
  (81, .ifCond .ne 7, 3, [18], []),
  (84, .iconst 0, 1, [], []),
  (85, .goto 6, 3, [21], []),
  (88, .iload_n 1, 1, [], []),
  (89, .iload_n 2, 1, [], []),
  (90, .idiv, 1, [], []),
  (91, .ireturn, 1, [0], []),
  (92, .iload_n 2, 1, [], []),
  (93, .ifCond .ne 7, 3, [26], []),
  (96, .iconst 0, 1, [], []),
  (97, .goto 6, 3, [29], []),
  (100, .iload_n 1, 1, [], []),
  (101, .iload_n 2, 1, [], []),
  (102, .irem, 1, [], []),
  (103, .ireturn, 1, [0], []),
  (104, .iload_n 1, 1, [], []),
  (105, .iload_n 2, 1, [], []),
  (106, .if_icmp .ge 7, 3, [35], []),
  (109, .iconst 1, 1, [], []),
  (110, .goto 4, 3, [36], []),
  (113, .iconst 0, 1, [], []),
  (114, .ireturn, 1, [0], []),
  (115, .iload_n 1, 1, [], []),
  (116, .iload_n 2, 1, [], []),
  (117, .if_icmp .le 7, 3, [42], []),
  (120, .iconst 1, 1, [], []),
  (121, .goto 4, 3, [43], []),
  (124, .iconst 0, 1, [], []),
  (125, .ireturn, 1, [0], []),
  (126, .iload_n 1, 1, [], []),
  (127, .iload_n 2, 1, [], []),
  (128, .if_icmp .ne 7, 3, [49], []),
  (131, .iconst 1, 1, [], []),
  (132, .goto 4, 3, [50], []),
  (135, .iconst 0, 1, [], []),
  (136, .ireturn, 1, [0], [])]
def mX7_joined : pv_M := (⟨"CliffGarden$Statute", "joined", "(III)I"⟩, prog_9_method_5_code, 3, some .int, rX7_joined)
def rX8_init : List pv_R := [
  (0, .aload_n 0, 1, [], []),
  (1, .invokespecial 3, 3, [9], [532]),
  (4, .aload_n 0, 1, [], []),
  (5, .bipush 24, 2, [], []),
  (7, .newarray .int, 2, [], []),
  (9, .putfield 11, 3, [8, 0], [420]),
  (12, .aload_n 0, 1, [], []),
  (13, .bipush 24, 2, [], []),
  (15, .newarray .int, 2, [], []),
  (17, .putfield 15, 3, [8, 1], [421]),
  (20, .return_, 1, [], [])]
def mX8_init : pv_M := (⟨"CliffGarden$Swallow", "<init>", "()V"⟩, prog_10_method_1_code, 1, none, rX8_init)
def rX8_fly : List pv_R := [
  (0, .aload_n 0, 1, [], []),
  (1, .getfield 11, 3, [8, 0], [80]),
  (4, .iconst 0, 1, [], []),
  (5, .invokestatic 18, 3, [250, 2], [256]),
  (8, .aload_n 0, 1, [], []),
  (9, .iload_n 1, 1, [], []),
  (10, .iconst 0, 1, [], []),
  (11, .iconst 1, 1, [], []),
  (12, .iload_n 2, 1, [], []),
  (13, .iload_n 3, 1, [], []),
  (14, .invokevirtual 24, 3, [81, 5, 8], [129]),
  (17, .aload_n 0, 1, [], []),
  (18, .iconst 1, 1, [], []),
  (19, .putfield 28, 3, [8, 3], [81]),
  (22, .iconst 0, 1, [], []),
  (23, .istore 5, 2, [], []),
  (25, .iload 5, 2, [], []),
  (27, .iload 4, 2, [], []),
  (29, .if_icmp .ge 134, 3, [94], []),
  (32, .aload_n 0, 1, [], []),
  (33, .getfield 11, 3, [8, 0], [80]),
  (36, .iconst 0, 1, [], []),
  (37, .aload_n 0, 1, [], []),
  (38, .getfield 15, 3, [8, 1], [103]),
  (41, .iconst 0, 1, [], []),
  (42, .bipush 24, 2, [], []),
  (44, .invokestatic 32, 3, [3], [541]),
  (47, .aload_n 0, 1, [], []),
  (48, .getfield 11, 3, [8, 0], [80]),
  (51, .iconst 0, 1, [], []),
  (52, .invokestatic 18, 3, [250, 2], [256]),
  (55, .iconst 0, 1, [], []),
  (56, .istore 6, 2, [], []),
  (58, .iload 6, 2, [], []),
  (60, .bipush 24, 2, [], []),
  (62, .if_icmp .ge 85, 3, [86], []),
  (65, .iload 6, 2, [], []),
  (67, .iconst 3, 1, [], []),
  (68, .idiv, 1, [], []),
  (69, .istore 7, 2, [], []),
  (71, .aload_n 0, 1, [], []),
  (72, .iconst 0, 1, [], []),
  (73, .iload 7, 2, [], []),
  (75, .iconst 1, 1, [], []),
  (76, .isub, 1, [], []),
  (77, .invokestatic 38, 3, [0], [542]),
  (80, .iload 6, 2, [], []),
  (82, .iconst 3, 1, [], []),
  (83, .irem, 1, [], []),
  (84, .aload_n 0, 1, [], []),
  (85, .getfield 15, 3, [8, 1], [103]),
  (88, .iload 6, 2, [], []),
  (90, .iaload, 1, [], []),
  (91, .iload_n 2, 1, [], []),
  (92, .iload_n 3, 1, [], []),
  (93, .invokevirtual 24, 3, [81, 5, 8], [129]),
  (96, .aload_n 0, 1, [], []),
  (97, .iload 7, 2, [], []),
  (99, .iload 6, 2, [], []),
  (101, .iconst 3, 1, [], []),
  (102, .irem, 1, [], []),
  (103, .aload_n 0, 1, [], []),
  (104, .getfield 15, 3, [8, 1], [103]),
  (107, .iload 6, 2, [], []),
  (109, .iaload, 1, [], []),
  (110, .iload_n 2, 1, [], []),
  (111, .iload_n 3, 1, [], []),
  (112, .invokevirtual 24, 3, [81, 5, 8], [129]),
  (115, .aload_n 0, 1, [], []),
  (116, .bipush 7, 2, [], []),
  (118, .iload 7, 2, [], []),
  (120, .iconst 1, 1, [], []),
  (121, .iadd, 1, [], []),
  (122, .invokestatic 44, 3, [1], [543]),
  (125, .iload 6, 2, [], []),
  (127, .iconst 3, 1, [], []),
  (128, .irem, 1, [], []),
  (129, .aload_n 0, 1, [], []),
  (130, .getfield 15, 3, [8, 1], [103]),
  (133, .iload 6, 2, [], []),
  (135, .iaload, 1, [], []),
  (136, .iload_n 2, 1, [], []),
  (137, .iload_n 3, 1, [], []),
  (138, .invokevirtual 24, 3, [81, 5, 8], [129]),
  (141, .iinc 6 1, 3, [], []),
  (144, .goto (-86), 3, [33], []),
  (147, .aload_n 0, 1, [], []),
  (148, .dup, 1, [], []),
  (149, .getfield 28, 3, [8, 3], [81]),
  (152, .iconst 3, 1, [], []),
  (153, .imul, 1, [], []),
  (154, .putfield 28, 3, [8, 3], [81]),
  (157, .iinc 5 1, 3, [], []),
  (160, .goto (-135), 3, [16], []),
  (163, .aload_n 0, 1, [], []),
  (164, .iconst 0, 1, [], []),
  (165, .putfield 47, 3, [8, 2], [62]),
  (168, .iconst 0, 1, [], []),
  (169, .istore 5, 2, [], []),
  (171, .iload 5, 2, [], []),
  (173, .bipush 8, 2, [], []),
  (175, .if_icmp .ge 29, 3, [117], []),
  (178, .aload_n 0, 1, [], []),
  (179, .dup, 1, [], []),
  (180, .getfield 47, 3, [8, 2], [62]),
  (183, .aload_n 0, 1, [], []),
  (184, .getfield 11, 3, [8, 0], [80]),
  (187, .iload 5, 2, [], []),
  (189, .iconst 3, 1, [], []),
  (190, .imul, 1, [], []),
  (191, .iconst 2, 1, [], []),
  (192, .iadd, 1, [], []),
  (193, .iaload, 1, [], []),
  (194, .iadd, 1, [], []),
  (195, .putfield 47, 3, [8, 2], [62]),
  (198, .iinc 5 1, 3, [], []),
  (201, .goto (-30), 3, [99], []),
  (204, .aload_n 0, 1, [], []),
  (205, .iload 4, 2, [], []),
  (207, .invokevirtual 50, 3, [82, 1, 8], [581]),
  (210, .return_, 1, [], [])]
def mX8_fly : pv_M := (⟨"CliffGarden$Swallow", "fly", "(IIII)V"⟩, prog_10_method_2_code, 8, none, rX8_fly)
def rX8_arrive : List pv_R := [
  (0, .iload_n 2, 1, [], []),
  (1, .istore 6, 2, [], []),
  (3, .iload 6, 2, [], []),
  (5, .ifCond .ne 15, 3, [12], []),
  (8, .iload 5, 2, [], []),
  (10, .iload_n 1, 1, [], []),
  (11, .ishr, 1, [], []),
  (12, .iconst 1, 1, [], []),
  (13, .iand, 1, [], []),
  (14, .ifCond .eq 6, 3, [12], []),
  (17, .iconst 1, 1, [], []),
  (18, .istore 6, 2, [], []),
  (20, .iload 6, 2, [], []),
  (22, .iconst 1, 1, [], []),
  (23, .if_icmp .ne 12, 3, [20], []),
  (26, .iload_n 1, 1, [], []),
  (27, .iload 4, 2, [], []),
  (29, .if_icmp .ne 6, 3, [20], []),
  (32, .iconst 2, 1, [], []),
  (33, .istore 6, 2, [], []),
  (35, .aload_n 0, 1, [], []),
  (36, .getfield 11, 3, [8, 0], [80]),
  (39, .iload_n 1, 1, [], []),
  (40, .iconst 3, 1, [], []),
  (41, .imul, 1, [], []),
  (42, .iload 6, 2, [], []),
  (44, .iadd, 1, [], []),
  (45, .dup2, 1, [], []),
  (46, .iaload, 1, [], []),
  (47, .iload_n 3, 1, [], []),
  (48, .iadd, 1, [], []),
  (49, .iastore, 1, [], []),
  (50, .return_, 1, [], [])]
def mX8_arrive : pv_M := (⟨"CliffGarden$Swallow", "arrive", "(IIIII)V"⟩, prog_10_method_3_code, 7, none, rX8_arrive)
def rX8_cancel : List pv_R := [
  (0, .iconst 0, 1, [], []),
  (1, .istore_n 2, 1, [], []),
  (2, .iload_n 2, 1, [], []),
  (3, .iload_n 1, 1, [], []),
  (4, .if_icmp .ge 38, 3, [24], []),
  (7, .aload_n 0, 1, [], []),
  (8, .getfield 47, 3, [8, 2], [62]),
  (11, .iconst 3, 1, [], []),
  (12, .irem, 1, [], []),
  (13, .ifCond .ne 29, 3, [24], []),
  (16, .aload_n 0, 1, [], []),
  (17, .dup, 1, [], []),
  (18, .getfield 47, 3, [8, 2], [62]),
  (21, .iconst 3, 1, [], []),
  (22, .idiv, 1, [], []),
  (23, .putfield 47, 3, [8, 2], [62]),
  (26, .aload_n 0, 1, [], []),
  (27, .dup, 1, [], []),
  (28, .getfield 28, 3, [8, 3], [81]),
  (31, .iconst 3, 1, [], []),
  (32, .idiv, 1, [], []),
  (33, .putfield 28, 3, [8, 3], [81]),
  (36, .iinc 2 1, 3, [], []),
  (39, .goto (-37), 3, [2], []),
  (42, .return_, 1, [], [])]
def mX8_cancel : pv_M := (⟨"CliffGarden$Swallow", "cancel", "(I)V"⟩, prog_10_method_4_code, 3, none, rX8_cancel)
def rX9_init : List pv_R := [
  (0, .aload_n 0, 1, [], []),
  (1, .invokespecial 1, 3, [9], [533]),
  (4, .aload_n 0, 1, [], []),
  (5, .sipush 220, 3, [], []),
  (8, .newarray .int, 2, [], []),
  (10, .putfield 9, 3, [9, 0], [422]),
  (13, .return_, 1, [], [])]
def mX9_init : pv_M := (⟨"CliffGarden$Tape", "<init>", "()V"⟩, prog_11_method_1_code, 1, none, rX9_init)
def rX9_append : List pv_R := [
  (0, .bipush 24, 2, [], []),
  (2, .istore_n 2, 1, [], []),
  (3, .iload_n 2, 1, [], []),
  (4, .ifCond .lt 45, 3, [26], []),
  (7, .aload_n 0, 1, [], []),
  (8, .getfield 13, 3, [9, 1], [104]),
  (11, .sipush 220, 3, [], []),
  (14, .if_icmp .ge 35, 3, [26], []),
  (17, .aload_n 0, 1, [], []),
  (18, .getfield 9, 3, [9, 0], [210]),
  (21, .aload_n 0, 1, [], []),
  (22, .getfield 13, 3, [9, 1], [104]),
  (25, .iload_n 1, 1, [], []),
  (26, .iload_n 2, 1, [], []),
  (27, .iushr, 1, [], []),
  (28, .sipush 255, 3, [], []),
  (31, .iand, 1, [], []),
  (32, .iastore, 1, [], []),
  (33, .aload_n 0, 1, [], []),
  (34, .dup, 1, [], []),
  (35, .getfield 13, 3, [9, 1], [104]),
  (38, .iconst 1, 1, [], []),
  (39, .iadd, 1, [], []),
  (40, .putfield 13, 3, [9, 1], [104]),
  (43, .iinc 2 (-8), 3, [], []),
  (46, .goto (-43), 3, [2], []),
  (49, .return_, 1, [], [])]
def mX9_append : pv_M := (⟨"CliffGarden$Tape", "append", "(I)V"⟩, prog_11_method_2_code, 3, none, rX9_append)
def rX9_numberAt : List pv_R := [
  (0, .iconst 0, 1, [], []),
  (1, .istore_n 2, 1, [], []),
  (2, .iconst 4, 1, [], []),
  (3, .iload_n 1, 1, [], []),
  (4, .imul, 1, [], []),
  (5, .istore_n 3, 1, [], []),
  (6, .iload_n 3, 1, [], []),
  (7, .ifCond .lt 37, 3, [29], []),
  (10, .iload_n 3, 1, [], []),
  (11, .iconst 4, 1, [], []),
  (12, .iload_n 1, 1, [], []),
  (13, .imul, 1, [], []),
  (14, .iconst 4, 1, [], []),
  (15, .iadd, 1, [], []),
  (16, .if_icmp .ge 28, 3, [29], []),
  (19, .iload_n 3, 1, [], []),
  (20, .sipush 220, 3, [], []),
  (23, .if_icmp .ge 21, 3, [29], []),
  (26, .iload_n 2, 1, [], []),
  (27, .bipush 8, 2, [], []),
  (29, .ishl, 1, [], []),
  (30, .aload_n 0, 1, [], []),
  (31, .getfield 9, 3, [9, 0], [210]),
  (34, .iload_n 3, 1, [], []),
  (35, .iaload, 1, [], []),
  (36, .ior, 1, [], []),
  (37, .istore_n 2, 1, [], []),
  (38, .iinc 3 1, 3, [], []),
  (41, .goto (-35), 3, [6], []),
  (44, .iload_n 2, 1, [], []),
  (45, .ireturn, 1, [0], [])]
def mX9_numberAt : pv_M := (⟨"CliffGarden$Tape", "numberAt", "(I)I"⟩, prog_11_method_3_code, 4, some .int, rX9_numberAt)
def rX10_init : List pv_R := [
  (0, .aload_n 0, 1, [], []),
  (1, .invokespecial 3, 3, [9], [534]),
  (4, .aload_n 0, 1, [], []),
  (5, .bipush 8, 2, [], []),
  (7, .newarray .int, 2, [], []),
  (9, .putfield 9, 3, [10, 2], [423]),
  (12, .aload_n 0, 1, [], []),
  (13, .bipush 8, 2, [], []),
  (15, .newarray .int, 2, [], []),
  (17, .putfield 15, 3, [10, 3], [424]),
  (20, .aload_n 0, 1, [], []),
  (21, .iconst 4, 1, [], []),
  (22, .newarray .int, 2, [], []),
  (24, .putfield 18, 3, [10, 4], [425]),
  (27, .aload_n 0, 1, [], []),
  (28, .iconst 4, 1, [], []),
  (29, .newarray .int, 2, [], []),
  (31, .putfield 21, 3, [10, 5], [426]),
  (34, .aload_n 0, 1, [], []),
  (35, .bipush 8, 2, [], []),
  (37, .newarray .int, 2, [], []),
  (39, .putfield 24, 3, [10, 6], [427]),
  (42, .aload_n 0, 1, [], []),
  (43, .bipush 48, 2, [], []),
  (45, .newarray .int, 2, [], []),
  (47, .putfield 27, 3, [10, 7], [428]),
  (50, .aload_n 0, 1, [], []),
  (51, .sipush 1008, 3, [], []),
  (54, .newarray .int, 2, [], []),
  (56, .putfield 30, 3, [10, 8], [429]),
  (59, .aload_n 0, 1, [], []),
  (60, .aload_n 1, 1, [], []),
  (61, .putfield 33, 3, [10, 0], [430]),
  (64, .aload_n 0, 1, [], []),
  (65, .aload_n 2, 1, [], []),
  (66, .putfield 37, 3, [10, 1], [431]),
  (69, .return_, 1, [], [])]
def mX10_init : pv_M := (⟨"CliffGarden$Water", "<init>", "(LCliffGarden$Nets;LCliffGarden$Court;)V"⟩, prog_12_method_1_code, 3, none, rX10_init)
def rX10_pour : List pv_R := [
  (0, .aload_n 1, 1, [], []),
  (1, .iconst 0, 1, [], []),
  (2, .aload_n 0, 1, [], []),
  (3, .getfield 9, 3, [10, 2], [44]),
  (6, .iconst 0, 1, [], []),
  (7, .bipush 8, 2, [], []),
  (9, .invokestatic 41, 3, [3], [251]),
  (12, .iconst 0, 1, [], []),
  (13, .istore_n 3, 1, [], []),
  (14, .iload_n 3, 1, [], []),
  (15, .bipush 6, 2, [], []),
  (17, .if_icmp .ge 141, 3, [82], []),
  (20, .aload_n 0, 1, [], []),
  (21, .getfield 9, 3, [10, 2], [44]),
  (24, .iconst 0, 1, [], []),
  (25, .aload_n 0, 1, [], []),
  (26, .getfield 15, 3, [10, 3], [211]),
  (29, .iconst 0, 1, [], []),
  (30, .bipush 8, 2, [], []),
  (32, .invokestatic 41, 3, [3], [251]),
  (35, .aload_n 0, 1, [], []),
  (36, .getfield 9, 3, [10, 2], [44]),
  (39, .iconst 0, 1, [], []),
  (40, .invokestatic 47, 3, [250, 2], [554]),
  (43, .iconst 0, 1, [], []),
  (44, .istore 4, 2, [], []),
  (46, .iload 4, 2, [], []),
  (48, .bipush 8, 2, [], []),
  (50, .if_icmp .ge 102, 3, [80], []),
  (53, .iload 4, 2, [], []),
  (55, .bipush 6, 2, [], []),
  (57, .imul, 1, [], []),
  (58, .iload_n 3, 1, [], []),
  (59, .iadd, 1, [], []),
  (60, .istore 5, 2, [], []),
  (62, .aload_n 0, 1, [], []),
  (63, .getfield 15, 3, [10, 3], [211]),
  (66, .iload 4, 2, [], []),
  (68, .iaload, 1, [], []),
  (69, .istore 6, 2, [], []),
  (71, .aload_n 2, 1, [], []),
  (72, .iload 5, 2, [], []),
  (74, .iload 6, 2, [], []),
  (76, .ifCond .ne 7, 3, [46], []),
  (79, .iconst 0, 1, [], []),
  (80, .goto 17, 3, [52], []),
  (83, .iload 6, 2, [], []),
  (85, .aload_n 0, 1, [], []),
  (86, .getfield 33, 3, [10, 0], [82]),
  (89, .iload 5, 2, [], []),
  (91, .invokevirtual 53, 3, [24, 1, 3], [274]),
  (94, .invokestatic 59, 3, [1], [252]),
  (97, .iastore, 1, [], []),
  (98, .iload 6, 2, [], []),
  (100, .aload_n 2, 1, [], []),
  (101, .iload 5, 2, [], []),
  (103, .iaload, 1, [], []),
  (104, .if_icmp .le 42, 3, [78], []),
  (107, .aload_n 0, 1, [], []),
  (108, .iload 6, 2, [], []),
  (110, .aload_n 2, 1, [], []),
  (111, .iload 5, 2, [], []),
  (113, .iaload, 1, [], []),
  (114, .isub, 1, [], []),
  (115, .iload 4, 2, [], []),
  (117, .aload_n 0, 1, [], []),
  (118, .getfield 33, 3, [10, 0], [82]),
  (121, .iload 5, 2, [], []),
  (123, .invokevirtual 65, 3, [21, 1, 3], [582]),
  (126, .ifCond .eq 16, 3, [76], []),
  (129, .aload_n 0, 1, [], []),
  (130, .getfield 33, 3, [10, 0], [82]),
  (133, .getfield 69, 3, [3, 4], [349]),
  (136, .iload 5, 2, [], []),
  (138, .iaload, 1, [], []),
  (139, .goto 4, 3, [77], []),
  (142, .iconst 0, 1, [], []),
  (143, .invokevirtual 72, 3, [88, 3, 10], [583]),
  (146, .iinc 4 1, 3, [], []),
  (149, .goto (-103), 3, [26], []),
  (152, .iinc 3 1, 3, [], []),
  (155, .goto (-141), 3, [9], []),
  (158, .return_, 1, [], [])]
def mX10_pour : pv_M := (⟨"CliffGarden$Water", "pour", "([I[I)V"⟩, prog_12_method_2_code, 7, none, rX10_pour)
def rX10_passOn : List pv_R := [
  (0, .iload_n 2, 1, [], []),
  (1, .ifCond .le 9, 3, [6], []),
  (4, .iload_n 2, 1, [], []),
  (5, .iconst 1, 1, [], []),
  (6, .isub, 1, [], []),
  (7, .goto 4, 3, [7], []),
  (10, .iload_n 2, 1, [], []),
  (11, .istore 4, 2, [], []),
  (13, .iload_n 2, 1, [], []),
  (14, .bipush 7, 2, [], []),
  (16, .if_icmp .ge 9, 3, [15], []),
  (19, .iload_n 2, 1, [], []),
  (20, .iconst 1, 1, [], []),
  (21, .iadd, 1, [], []),
  (22, .goto 4, 3, [16], []),
  (25, .iload_n 2, 1, [], []),
  (26, .istore 5, 2, [], []),
  (28, .iload_n 3, 1, [], []),
  (29, .tableswitch 86 1 3 #[27, 41, 55], 27, [60, 19, 28, 37], []),
  (56, .aload_n 0, 1, [], []),
  (57, .getfield 9, 3, [10, 2], [44]),
  (60, .iload 4, 2, [], []),
  (62, .dup2, 1, [], []),
  (63, .iaload, 1, [], []),
  (64, .iload_n 1, 1, [], []),
  (65, .iadd, 1, [], []),
  (66, .iastore, 1, [], []),
  (67, .goto 58, 3, [68], []),
  (70, .aload_n 0, 1, [], []),
  (71, .getfield 9, 3, [10, 2], [44]),
  (74, .iload 5, 2, [], []),
  (76, .dup2, 1, [], []),
  (77, .iaload, 1, [], []),
  (78, .iload_n 1, 1, [], []),
  (79, .iadd, 1, [], []),
  (80, .iastore, 1, [], []),
  (81, .goto 44, 3, [68], []),
  (84, .aload_n 0, 1, [], []),
  (85, .getfield 9, 3, [10, 2], [44]),
  (88, .iload 4, 2, [], []),
  (90, .dup2, 1, [], []),
  (91, .iaload, 1, [], []),
  (92, .iload_n 1, 1, [], []),
  (93, .iload_n 1, 1, [], []),
  (94, .iconst 2, 1, [], []),
  (95, .idiv, 1, [], []),
  (96, .isub, 1, [], []),
  (97, .iadd, 1, [], []),
  (98, .iastore, 1, [], []),
  (99, .aload_n 0, 1, [], []),
  (100, .getfield 9, 3, [10, 2], [44]),
  (103, .iload 5, 2, [], []),
  (105, .dup2, 1, [], []),
  (106, .iaload, 1, [], []),
  (107, .iload_n 1, 1, [], []),
  (108, .iconst 2, 1, [], []),
  (109, .idiv, 1, [], []),
  (110, .iadd, 1, [], []),
  (111, .iastore, 1, [], []),
  (112, .goto 13, 3, [68], []),
  (115, .aload_n 0, 1, [], []),
  (116, .getfield 9, 3, [10, 2], [44]),
  (119, .iload_n 2, 1, [], []),
  (120, .dup2, 1, [], []),
  (121, .iaload, 1, [], []),
  (122, .iload_n 1, 1, [], []),
  (123, .iadd, 1, [], []),
  (124, .iastore, 1, [], []),
  (125, .return_, 1, [], [])]
def mX10_passOn : pv_M := (⟨"CliffGarden$Water", "passOn", "(III)V"⟩, prog_12_method_3_code, 6, none, rX10_passOn)
def rX10_share : List pv_R := [
  (0, .aload_n 0, 1, [], []),
  (1, .iconst 0, 1, [], []),
  (2, .putfield 76, 3, [10, 9], [50]),
  (5, .iconst 0, 1, [], []),
  (6, .istore_n 3, 1, [], []),
  (7, .iload_n 3, 1, [], []),
  (8, .bipush 8, 2, [], []),
  (10, .if_icmp .ge 52, 3, [37], []),
  (13, .aload_n 0, 1, [], []),
  (14, .getfield 24, 3, [10, 6], [105]),
  (17, .iload_n 3, 1, [], []),
  (18, .iconst 0, 1, [], []),
  (19, .iastore, 1, [], []),
  (20, .iload_n 2, 1, [], []),
  (21, .iload_n 3, 1, [], []),
  (22, .ishr, 1, [], []),
  (23, .iconst 1, 1, [], []),
  (24, .iand, 1, [], []),
  (25, .ifCond .eq 31, 3, [35], []),
  (28, .aload_n 0, 1, [], []),
  (29, .getfield 76, 3, [10, 9], [50]),
  (32, .iconst 4, 1, [], []),
  (33, .if_icmp .ge 23, 3, [35], []),
  (36, .aload_n 0, 1, [], []),
  (37, .getfield 18, 3, [10, 4], [141]),
  (40, .aload_n 0, 1, [], []),
  (41, .getfield 76, 3, [10, 9], [50]),
  (44, .iload_n 3, 1, [], []),
  (45, .iastore, 1, [], []),
  (46, .aload_n 0, 1, [], []),
  (47, .dup, 1, [], []),
  (48, .getfield 76, 3, [10, 9], [50]),
  (51, .iconst 1, 1, [], []),
  (52, .iadd, 1, [], []),
  (53, .putfield 76, 3, [10, 9], [50]),
  (56, .iinc 3 1, 3, [], []),
  (59, .goto (-52), 3, [5], []),
  (62, .aload_n 0, 1, [], []),
  (63, .iload_n 1, 1, [], []),
  (64, .invokevirtual 80, 3, [90, 1, 10], [584]),
  (67, .aload_n 0, 1, [], []),
  (68, .iconst (-1), 1, [], []),
  (69, .putfield 84, 3, [10, 10], [142]),
  (72, .aload_n 0, 1, [], []),
  (73, .iconst 0, 1, [], []),
  (74, .iload_n 1, 1, [], []),
  (75, .invokevirtual 87, 3, [91, 2, 10], [275]),
  (78, .return_, 1, [], [])]
def mX10_share : pv_M := (⟨"CliffGarden$Water", "share", "(II)V"⟩, prog_12_method_4_code, 4, none, rX10_share)
def rX10_reckonGrowth : List pv_R := [
  (0, .iconst 0, 1, [], []),
  (1, .istore_n 2, 1, [], []),
  (2, .iload_n 2, 1, [], []),
  (3, .bipush 48, 2, [], []),
  (5, .if_icmp .ge 81, 3, [44], []),
  (8, .iload_n 1, 1, [], []),
  (9, .aload_n 0, 1, [], []),
  (10, .getfield 33, 3, [10, 0], [82]),
  (13, .iload_n 2, 1, [], []),
  (14, .invokevirtual 53, 3, [24, 1, 3], [274]),
  (17, .invokestatic 59, 3, [1], [252]),
  (20, .istore_n 3, 1, [], []),
  (21, .iconst 0, 1, [], []),
  (22, .istore 4, 2, [], []),
  (24, .iload 4, 2, [], []),
  (26, .iload_n 3, 1, [], []),
  (27, .if_icmp .gt 53, 3, [42], []),
  (30, .iload 4, 2, [], []),
  (32, .bipush 20, 2, [], []),
  (34, .if_icmp .gt 46, 3, [42], []),
  (37, .aload_n 0, 1, [], []),
  (38, .getfield 30, 3, [10, 8], [214]),
  (41, .iload_n 2, 1, [], []),
  (42, .bipush 21, 2, [], []),
  (44, .imul, 1, [], []),
  (45, .iload 4, 2, [], []),
  (47, .iadd, 1, [], []),
  (48, .aload_n 0, 1, [], []),
  (49, .getfield 33, 3, [10, 0], [82]),
  (52, .iload_n 2, 1, [], []),
  (53, .invokevirtual 91, 3, [22, 1, 3], [585]),
  (56, .ifCond .eq 16, 3, [38], []),
  (59, .aload_n 0, 1, [], []),
  (60, .getfield 37, 3, [10, 1], [348]),
  (63, .iload_n 2, 1, [], []),
  (64, .iload 4, 2, [], []),
  (66, .invokevirtual 94, 3, [4, 2, 1], [586]),
  (69, .goto 4, 3, [39], []),
  (72, .iconst 0, 1, [], []),
  (73, .iastore, 1, [], []),
  (74, .iinc 4 1, 3, [], []),
  (77, .goto (-53), 3, [14], []),
  (80, .iinc 2 1, 3, [], []),
  (83, .goto (-81), 3, [2], []),
  (86, .return_, 1, [], [])]
def mX10_reckonGrowth : pv_M := (⟨"CliffGarden$Water", "reckonGrowth", "(I)V"⟩, prog_12_method_5_code, 5, none, rX10_reckonGrowth)
def rX10_tryValve : List pv_R := [
  (0, .iload_n 1, 1, [], []),
  (1, .aload_n 0, 1, [], []),
  (2, .getfield 76, 3, [10, 9], [50]),
  (5, .if_icmp .ge 8, 3, [7], []),
  (8, .iload_n 1, 1, [], []),
  (9, .iconst 4, 1, [], []),
  (10, .if_icmp .lt 8, 3, [10], []),
  (13, .aload_n 0, 1, [], []),
  (14, .invokevirtual 99, 3, [92, 0, 10], [587]),
  (17, .return_, 1, [], []),
  (18, .iconst 0, 1, [], []),
  (19, .istore_n 3, 1, [], []),
  (20, .iload_n 3, 1, [], []),
  (21, .iload_n 2, 1, [], []),
  (22, .if_icmp .gt 37, 3, [36], []),
  (25, .iload_n 3, 1, [], []),
  (26, .bipush 9, 2, [], []),
  (28, .if_icmp .gt 31, 3, [36], []),
  (31, .aload_n 0, 1, [], []),
  (32, .getfield 24, 3, [10, 6], [105]),
  (35, .aload_n 0, 1, [], []),
  (36, .getfield 18, 3, [10, 4], [141]),
  (39, .iload_n 1, 1, [], []),
  (40, .iaload, 1, [], []),
  (41, .iload_n 3, 1, [], []),
  (42, .iastore, 1, [], []),
  (43, .aload_n 0, 1, [], []),
  (44, .iload_n 1, 1, [], []),
  (45, .iconst 1, 1, [], []),
  (46, .iadd, 1, [], []),
  (47, .iload_n 2, 1, [], []),
  (48, .iload_n 3, 1, [], []),
  (49, .isub, 1, [], []),
  (50, .invokevirtual 87, 3, [91, 2, 10], [275]),
  (53, .iinc 3 1, 3, [], []),
  (56, .goto (-36), 3, [12], []),
  (59, .return_, 1, [], [])]
def mX10_tryValve : pv_M := (⟨"CliffGarden$Water", "tryValve", "(II)V"⟩, prog_12_method_6_code, 4, none, rX10_tryValve)
def rX10_weighTrial : List pv_R := [
  (0, .aload_n 0, 1, [], []),
  (1, .aload_n 0, 1, [], []),
  (2, .getfield 24, 3, [10, 6], [105]),
  (5, .aload_n 0, 1, [], []),
  (6, .getfield 27, 3, [10, 7], [213]),
  (9, .invokevirtual 102, 3, [87, 2, 10], [588]),
  (12, .iconst 0, 1, [], []),
  (13, .istore_n 1, 1, [], []),
  (14, .iconst 0, 1, [], []),
  (15, .istore_n 2, 1, [], []),
  (16, .iload_n 2, 1, [], []),
  (17, .bipush 48, 2, [], []),
  (19, .if_icmp .ge 28, 3, [29], []),
  (22, .iload_n 1, 1, [], []),
  (23, .aload_n 0, 1, [], []),
  (24, .getfield 30, 3, [10, 8], [214]),
  (27, .iload_n 2, 1, [], []),
  (28, .bipush 21, 2, [], []),
  (30, .imul, 1, [], []),
  (31, .aload_n 0, 1, [], []),
  (32, .getfield 27, 3, [10, 7], [213]),
  (35, .iload_n 2, 1, [], []),
  (36, .iaload, 1, [], []),
  (37, .iadd, 1, [], []),
  (38, .iaload, 1, [], []),
  (39, .iadd, 1, [], []),
  (40, .istore_n 1, 1, [], []),
  (41, .iinc 2 1, 3, [], []),
  (44, .goto (-28), 3, [10], []),
  (47, .iload_n 1, 1, [], []),
  (48, .aload_n 0, 1, [], []),
  (49, .getfield 84, 3, [10, 10], [142]),
  (52, .if_icmp .le 41, 3, [55], []),
  (55, .aload_n 0, 1, [], []),
  (56, .iload_n 1, 1, [], []),
  (57, .putfield 84, 3, [10, 10], [142]),
  (60, .iconst 0, 1, [], []),
  (61, .istore_n 2, 1, [], []),
  (62, .iload_n 2, 1, [], []),
  (63, .aload_n 0, 1, [], []),
  (64, .getfield 76, 3, [10, 9], [50]),
  (67, .if_icmp .ge 26, 3, [55], []),
  (70, .aload_n 0, 1, [], []),
  (71, .getfield 21, 3, [10, 5], [212]),
  (74, .iload_n 2, 1, [], []),
  (75, .aload_n 0, 1, [], []),
  (76, .getfield 24, 3, [10, 6], [105]),
  (79, .aload_n 0, 1, [], []),
  (80, .getfield 18, 3, [10, 4], [141]),
  (83, .iload_n 2, 1, [], []),
  (84, .iaload, 1, [], []),
  (85, .iaload, 1, [], []),
  (86, .iastore, 1, [], []),
  (87, .iinc 2 1, 3, [], []),
  (90, .goto (-28), 3, [38], []),
  (93, .return_, 1, [], [])]
def mX10_weighTrial : pv_M := (⟨"CliffGarden$Water", "weighTrial", "()V"⟩, prog_12_method_7_code, 3, none, rX10_weighTrial)
def rX10_dropsAt : List pv_R := [
  (0, .iload_n 1, 1, [], []),
  (1, .iconst 3, 1, [], []),
  (2, .invokestatic 106, 3, [138, 2], [555]),
  (5, .ifCond .eq 12, 3, [9], []),
  (8, .aload_n 0, 1, [], []),
  (9, .getfield 21, 3, [10, 5], [212]),
  (12, .iload_n 1, 1, [], []),
  (13, .iaload, 1, [], []),
  (14, .goto 4, 3, [10], []),
  (17, .iconst (-1), 1, [], []),
  (18, .ireturn, 1, [0], [])]
def mX10_dropsAt : pv_M := (⟨"CliffGarden$Water", "dropsAt", "(I)I"⟩, prog_12_method_8_code, 2, some .int, rX10_dropsAt)
def rX11_init : List pv_R := [
  (0, .aload_n 0, 1, [], []),
  (1, .invokespecial 3, 3, [9], [535]),
  (4, .aload_n 0, 1, [], []),
  (5, .new 9, 3, [3], [513]),
  (8, .dup, 1, [], []),
  (9, .invokespecial 11, 3, [19, 0, 0], [642]),
  (12, .putfield 12, 3, [11, 0], [432]),
  (15, .aload_n 0, 1, [], []),
  (16, .new 16, 3, [0], [514]),
  (19, .dup, 1, [], []),
  (20, .invokespecial 18, 3, [0, 0, 0], [643]),
  (23, .putfield 19, 3, [11, 1], [433]),
  (26, .aload_n 0, 1, [], []),
  (27, .new 23, 3, [2], [515]),
  (30, .dup, 1, [], []),
  (31, .invokespecial 25, 3, [14, 0, 0], [644]),
  (34, .putfield 26, 3, [11, 2], [434]),
  (37, .aload_n 0, 1, [], []),
  (38, .new 30, 3, [1], [516]),
  (41, .dup, 1, [], []),
  (42, .aload_n 0, 1, [], []),
  (43, .getfield 12, 3, [11, 0], [0]),
  (46, .aload_n 0, 1, [], []),
  (47, .getfield 19, 3, [11, 1], [10]),
  (50, .aload_n 0, 1, [], []),
  (51, .getfield 26, 3, [11, 2], [7]),
  (54, .invokespecial 32, 3, [3, 3, 0], [645]),
  (57, .putfield 35, 3, [11, 3], [435]),
  (60, .aload_n 0, 1, [], []),
  (61, .new 39, 3, [10], [517]),
  (64, .dup, 1, [], []),
  (65, .aload_n 0, 1, [], []),
  (66, .getfield 12, 3, [11, 0], [0]),
  (69, .aload_n 0, 1, [], []),
  (70, .getfield 35, 3, [11, 3], [23]),
  (73, .invokespecial 41, 3, [86, 2, 0], [646]),
  (76, .putfield 44, 3, [11, 4], [436]),
  (79, .aload_n 0, 1, [], []),
  (80, .new 48, 3, [9], [518]),
  (83, .dup, 1, [], []),
  (84, .invokespecial 50, 3, [83, 0, 0], [647]),
  (87, .putfield 51, 3, [11, 5], [437]),
  (90, .aload_n 0, 1, [], []),
  (91, .new 55, 3, [5], [519]),
  (94, .dup, 1, [], []),
  (95, .invokespecial 57, 3, [44, 0, 0], [648]),
  (98, .putfield 58, 3, [11, 6], [438]),
  (101, .aload_n 0, 1, [], []),
  (102, .new 62, 3, [6], [520]),
  (105, .dup, 1, [], []),
  (106, .invokespecial 64, 3, [62, 0, 0], [649]),
  (109, .putfield 65, 3, [11, 7], [439]),
  (112, .aload_n 0, 1, [], []),
  (113, .new 69, 3, [4], [521]),
  (116, .dup, 1, [], []),
  (117, .aload_n 0, 1, [], []),
  (118, .getfield 12, 3, [11, 0], [0]),
  (121, .aload_n 0, 1, [], []),
  (122, .getfield 19, 3, [11, 1], [10]),
  (125, .invokespecial 71, 3, [37, 2, 0], [650]),
  (128, .putfield 74, 3, [11, 8], [440]),
  (131, .aload_n 0, 1, [], []),
  (132, .new 78, 3, [8], [522]),
  (135, .dup, 1, [], []),
  (136, .invokespecial 80, 3, [79, 0, 0], [651]),
  (139, .putfield 81, 3, [11, 9], [441]),
  (142, .aload_n 0, 1, [], []),
  (143, .new 85, 3, [7], [523]),
  (146, .dup, 1, [], []),
  (147, .invokespecial 87, 3, [74, 0, 0], [652]),
  (150, .putfield 88, 3, [11, 10], [107]),
  (153, .aload_n 0, 1, [], []),
  (154, .iconst 1, 1, [], []),
  (155, .putfield 92, 3, [11, 11], [64]),
  (158, .return_, 1, [], [])]
def mX11_init : pv_M := (⟨"CliffGarden", "<init>", "()V"⟩, prog_1_method_1_code, 1, none, rX11_init)
def rX11_hang : List pv_R := [
  (0, .iload_n 1, 1, [], []),
  (1, .iload_n 2, 1, [], []),
  (2, .invokestatic 96, 3, [141, 2], [90]),
  (5, .ifCond .eq 42, 3, [20], []),
  (8, .iload_n 3, 1, [], []),
  (9, .bipush 9, 2, [], []),
  (11, .invokestatic 100, 3, [138, 2], [11]),
  (14, .ifCond .eq 33, 3, [20], []),
  (17, .iload 4, 2, [], []),
  (19, .sipush 9999, 3, [], []),
  (22, .invokestatic 100, 3, [138, 2], [11]),
  (25, .ifCond .eq 22, 3, [20], []),
  (28, .iload 5, 2, [], []),
  (30, .bipush 7, 2, [], []),
  (32, .invokestatic 100, 3, [138, 2], [11]),
  (35, .ifCond .eq 12, 3, [20], []),
  (38, .iload 6, 2, [], []),
  (40, .iconst 3, 1, [], []),
  (41, .invokestatic 100, 3, [138, 2], [11]),
  (44, .ifCond .ne 5, 3, [22], []),
  (47, .iconst 0, 1, [], []),
  (48, .ireturn, 1, [1], []),
  (49, .iload_n 1, 1, [], []),
  (50, .bipush 6, 2, [], []),
  (52, .imul, 1, [], []),
  (53, .iload_n 2, 1, [], []),
  (54, .iadd, 1, [], []),
  (55, .istore 7, 2, [], []),
  (57, .aload_n 0, 1, [], []),
  (58, .getfield 12, 3, [11, 0], [0]),
  (61, .iload 7, 2, [], []),
  (63, .invokevirtual 103, 3, [21, 1, 3], [41]),
  (66, .ifCond .ne 21, 3, [42], []),
  (69, .iload_n 2, 1, [], []),
  (70, .ifCond .le 19, 3, [44], []),
  (73, .aload_n 0, 1, [], []),
  (74, .getfield 12, 3, [11, 0], [0]),
  (77, .iload 7, 2, [], []),
  (79, .iconst 1, 1, [], []),
  (80, .isub, 1, [], []),
  (81, .invokevirtual 103, 3, [21, 1, 3], [41]),
  (84, .ifCond .ne 5, 3, [44], []),
  (87, .iconst 0, 1, [], []),
  (88, .ireturn, 1, [1], []),
  (89, .aload_n 0, 1, [], []),
  (90, .getfield 12, 3, [11, 0], [0]),
  (93, .dup, 1, [], []),
  (94, .getfield 107, 3, [3, 0], [108]),
  (97, .lconst 1, 1, [], []),
  (98, .iload 7, 2, [], []),
  (100, .lshl, 1, [], []),
  (101, .lor, 1, [], []),
  (102, .putfield 107, 3, [3, 0], [108]),
  (105, .aload_n 0, 1, [], []),
  (106, .getfield 12, 3, [11, 0], [0]),
  (109, .getfield 111, 3, [3, 2], [215]),
  (112, .iload 7, 2, [], []),
  (114, .iload_n 3, 1, [], []),
  (115, .iastore, 1, [], []),
  (116, .aload_n 0, 1, [], []),
  (117, .getfield 12, 3, [11, 0], [0]),
  (120, .getfield 115, 3, [3, 1], [109]),
  (123, .iload 7, 2, [], []),
  (125, .iload 4, 2, [], []),
  (127, .iastore, 1, [], []),
  (128, .aload_n 0, 1, [], []),
  (129, .getfield 12, 3, [11, 0], [0]),
  (132, .getfield 118, 3, [3, 3], [351]),
  (135, .iload 7, 2, [], []),
  (137, .iload 5, 2, [], []),
  (139, .iastore, 1, [], []),
  (140, .aload_n 0, 1, [], []),
  (141, .getfield 12, 3, [11, 0], [0]),
  (144, .getfield 121, 3, [3, 4], [352]),
  (147, .iload 7, 2, [], []),
  (149, .iload 6, 2, [], []),
  (151, .iastore, 1, [], []),
  (152, .aload_n 0, 1, [], []),
  (153, .getfield 12, 3, [11, 0], [0]),
  (156, .getfield 124, 3, [3, 7], [144]),
  (159, .iload 7, 2, [], []),
  (161, .iconst 0, 1, [], []),
  (162, .iastore, 1, [], []),
  (163, .aload_n 0, 1, [], []),
  (164, .getfield 12, 3, [11, 0], [0]),
  (167, .getfield 127, 3, [3, 8], [110]),
  (170, .iload 7, 2, [], []),
  (172, .iconst 0, 1, [], []),
  (173, .iastore, 1, [], []),
  (174, .aload_n 0, 1, [], []),
  (175, .getfield 12, 3, [11, 0], [0]),
  (178, .iload 7, 2, [], []),
  (180, .invokevirtual 130, 3, [26, 1, 3], [276]),
  (183, .iconst 1, 1, [], []),
  (184, .ireturn, 1, [1], [])]
def mX11_hang : pv_M := (⟨"CliffGarden", "hang", "(IIIIII)Z"⟩, prog_1_method_2_code, 8, some .boolean, rX11_hang)
def rX11_knot : List pv_R := [
  (0, .aload_n 0, 1, [], []),
  (1, .iload_n 1, 1, [], []),
  (2, .iload_n 2, 1, [], []),
  (3, .invokevirtual 134, 3, [137, 2, 11], [130]),
  (6, .istore 4, 2, [], []),
  (8, .iload 4, 2, [], []),
  (10, .ifCond .lt 13, 3, [11], []),
  (13, .iload_n 3, 1, [], []),
  (14, .sipush 9999, 3, [], []),
  (17, .invokestatic 100, 3, [138, 2], [11]),
  (20, .ifCond .ne 5, 3, [13], []),
  (23, .iconst 0, 1, [], []),
  (24, .ireturn, 1, [1], []),
  (25, .aload_n 0, 1, [], []),
  (26, .getfield 12, 3, [11, 0], [0]),
  (29, .getfield 115, 3, [3, 1], [109]),
  (32, .iload 4, 2, [], []),
  (34, .iload_n 3, 1, [], []),
  (35, .iastore, 1, [], []),
  (36, .iconst 1, 1, [], []),
  (37, .ireturn, 1, [1], [])]
def mX11_knot : pv_M := (⟨"CliffGarden", "knot", "(III)Z"⟩, prog_1_method_3_code, 5, some .boolean, rX11_knot)
def rX11_kind : List pv_R := [
  (0, .iload_n 1, 1, [], []),
  (1, .iconst 5, 1, [], []),
  (2, .invokestatic 100, 3, [138, 2], [11]),
  (5, .ifCond .eq 34, 3, [18], []),
  (8, .iload_n 2, 1, [], []),
  (9, .bipush 20, 2, [], []),
  (11, .invokestatic 100, 3, [138, 2], [11]),
  (14, .ifCond .eq 25, 3, [18], []),
  (17, .iload_n 3, 1, [], []),
  (18, .iconst 1, 1, [], []),
  (19, .if_icmp .lt 20, 3, [18], []),
  (22, .iload_n 3, 1, [], []),
  (23, .sipush 200, 3, [], []),
  (26, .if_icmp .gt 13, 3, [18], []),
  (29, .iload 4, 2, [], []),
  (31, .bipush 99, 2, [], []),
  (33, .invokestatic 100, 3, [138, 2], [11]),
  (36, .ifCond .ne 5, 3, [20], []),
  (39, .iconst 0, 1, [], []),
  (40, .ireturn, 1, [1], []),
  (41, .aload_n 0, 1, [], []),
  (42, .getfield 12, 3, [11, 0], [0]),
  (45, .getfield 138, 3, [3, 10], [216]),
  (48, .iload_n 1, 1, [], []),
  (49, .iload_n 2, 1, [], []),
  (50, .iastore, 1, [], []),
  (51, .aload_n 0, 1, [], []),
  (52, .getfield 12, 3, [11, 0], [0]),
  (55, .getfield 141, 3, [3, 11], [217]),
  (58, .iload_n 1, 1, [], []),
  (59, .iload_n 3, 1, [], []),
  (60, .iastore, 1, [], []),
  (61, .aload_n 0, 1, [], []),
  (62, .getfield 12, 3, [11, 0], [0]),
  (65, .getfield 144, 3, [3, 12], [145]),
  (68, .iload_n 1, 1, [], []),
  (69, .iload 4, 2, [], []),
  (71, .iastore, 1, [], []),
  (72, .iconst 1, 1, [], []),
  (73, .ireturn, 1, [1], [])]
def mX11_kind : pv_M := (⟨"CliffGarden", "kind", "(IIII)Z"⟩, prog_1_method_4_code, 5, some .boolean, rX11_kind)
def rX11_plant : List pv_R := [
  (0, .aload_n 0, 1, [], []),
  (1, .iload_n 1, 1, [], []),
  (2, .iload_n 2, 1, [], []),
  (3, .invokevirtual 134, 3, [137, 2, 11], [130]),
  (6, .istore 5, 2, [], []),
  (8, .iload 5, 2, [], []),
  (10, .ifCond .lt 34, 3, [20], []),
  (13, .iload_n 3, 1, [], []),
  (14, .iconst 5, 1, [], []),
  (15, .invokestatic 100, 3, [138, 2], [11]),
  (18, .ifCond .eq 26, 3, [20], []),
  (21, .iload 4, 2, [], []),
  (23, .sipush 200, 3, [], []),
  (26, .invokestatic 100, 3, [138, 2], [11]),
  (29, .ifCond .eq 15, 3, [20], []),
  (32, .aload_n 0, 1, [], []),
  (33, .getfield 12, 3, [11, 0], [0]),
  (36, .iload 5, 2, [], []),
  (38, .invokevirtual 147, 3, [22, 1, 3], [42]),
  (41, .ifCond .eq 5, 3, [22], []),
  (44, .iconst 0, 1, [], []),
  (45, .ireturn, 1, [1], []),
  (46, .aload_n 0, 1, [], []),
  (47, .getfield 12, 3, [11, 0], [0]),
  (50, .iload 5, 2, [], []),
  (52, .iload_n 3, 1, [], []),
  (53, .iload 4, 2, [], []),
  (55, .invokevirtual 150, 3, [25, 3, 3], [589]),
  (58, .iconst 1, 1, [], []),
  (59, .ireturn, 1, [1], [])]
def mX11_plant : pv_M := (⟨"CliffGarden", "plant", "(IIII)Z"⟩, prog_1_method_5_code, 6, some .boolean, rX11_plant)
def rX11_valve : List pv_R := [
  (0, .iload_n 1, 1, [], []),
  (1, .invokestatic 154, 3, [139, 1], [33]),
  (4, .ifCond .eq 12, 3, [7], []),
  (7, .iload_n 2, 1, [], []),
  (8, .bipush 99, 2, [], []),
  (10, .invokestatic 100, 3, [138, 2], [11]),
  (13, .ifCond .ne 5, 3, [9], []),
  (16, .iconst 0, 1, [], []),
  (17, .ireturn, 1, [1], []),
  (18, .aload_n 0, 1, [], []),
  (19, .getfield 19, 3, [11, 1], [10]),
  (22, .getfield 157, 3, [0, 0], [146]),
  (25, .iload_n 1, 1, [], []),
  (26, .iload_n 2, 1, [], []),
  (27, .iastore, 1, [], []),
  (28, .iconst 1, 1, [], []),
  (29, .ireturn, 1, [1], [])]
def mX11_valve : pv_M := (⟨"CliffGarden", "valve", "(II)Z"⟩, prog_1_method_6_code, 3, some .boolean, rX11_valve)
def rX11_kitchen : List pv_R := [
  (0, .iload_n 1, 1, [], []),
  (1, .invokestatic 154, 3, [139, 1], [33]),
  (4, .ifCond .eq 20, 3, [10], []),
  (7, .iload_n 2, 1, [], []),
  (8, .invokestatic 160, 3, [140, 1], [125]),
  (11, .ifCond .eq 13, 3, [10], []),
  (14, .iload_n 3, 1, [], []),
  (15, .sipush 9999, 3, [], []),
  (18, .invokestatic 100, 3, [138, 2], [11]),
  (21, .ifCond .ne 5, 3, [12], []),
  (24, .iconst 0, 1, [], []),
  (25, .ireturn, 1, [1], []),
  (26, .aload_n 0, 1, [], []),
  (27, .getfield 19, 3, [11, 1], [10]),
  (30, .getfield 163, 3, [0, 1], [353]),
  (33, .iload_n 1, 1, [], []),
  (34, .iload_n 2, 1, [], []),
  (35, .iastore, 1, [], []),
  (36, .aload_n 0, 1, [], []),
  (37, .getfield 19, 3, [11, 1], [10]),
  (40, .getfield 166, 3, [0, 2], [147]),
  (43, .iload_n 1, 1, [], []),
  (44, .iload_n 3, 1, [], []),
  (45, .iastore, 1, [], []),
  (46, .iconst 1, 1, [], []),
  (47, .ireturn, 1, [1], [])]
def mX11_kitchen : pv_M := (⟨"CliffGarden", "kitchen", "(III)Z"⟩, prog_1_method_7_code, 4, some .boolean, rX11_kitchen)
def rX11_rope : List pv_R := [
  (0, .iload_n 1, 1, [], []),
  (1, .invokestatic 154, 3, [139, 1], [33]),
  (4, .ifCond .eq 22, 3, [11], []),
  (7, .iload_n 2, 1, [], []),
  (8, .sipush 999, 3, [], []),
  (11, .invokestatic 100, 3, [138, 2], [11]),
  (14, .ifCond .eq 12, 3, [11], []),
  (17, .iload_n 3, 1, [], []),
  (18, .bipush 99, 2, [], []),
  (20, .invokestatic 100, 3, [138, 2], [11]),
  (23, .ifCond .ne 5, 3, [13], []),
  (26, .iconst 0, 1, [], []),
  (27, .ireturn, 1, [1], []),
  (28, .aload_n 0, 1, [], []),
  (29, .getfield 19, 3, [11, 1], [10]),
  (32, .getfield 169, 3, [0, 5], [354]),
  (35, .iload_n 1, 1, [], []),
  (36, .iload_n 2, 1, [], []),
  (37, .iastore, 1, [], []),
  (38, .aload_n 0, 1, [], []),
  (39, .getfield 19, 3, [11, 1], [10]),
  (42, .getfield 172, 3, [0, 6], [218]),
  (45, .iload_n 1, 1, [], []),
  (46, .iload_n 3, 1, [], []),
  (47, .iastore, 1, [], []),
  (48, .iconst 1, 1, [], []),
  (49, .ireturn, 1, [1], [])]
def mX11_rope : pv_M := (⟨"CliffGarden", "rope", "(III)Z"⟩, prog_1_method_8_code, 4, some .boolean, rX11_rope)
def rX11_seed : List pv_R := [
  (0, .iload_n 1, 1, [], []),
  (1, .ldc 175, 2, [65535], [240]),
  (3, .invokestatic 100, 3, [138, 2], [11]),
  (6, .ifCond .ne 5, 3, [6], []),
  (9, .iconst 0, 1, [], []),
  (10, .ireturn, 1, [1], []),
  (11, .aload_n 0, 1, [], []),
  (12, .iload_n 1, 1, [], []),
  (13, .putfield 92, 3, [11, 11], [64]),
  (16, .iconst 1, 1, [], []),
  (17, .ireturn, 1, [1], [])]
def mX11_seed : pv_M := (⟨"CliffGarden", "seed", "(I)Z"⟩, prog_1_method_9_code, 2, some .boolean, rX11_seed)
def rX11_feed : List pv_R := [
  (0, .aload_n 0, 1, [], []),
  (1, .getfield 51, 3, [11, 5], [20]),
  (4, .getfield 176, 3, [9, 1], [51]),
  (7, .bipush 20, 2, [], []),
  (9, .iadd, 1, [], []),
  (10, .sipush 220, 3, [], []),
  (13, .if_icmp .le 5, 3, [9], []),
  (16, .iconst (-1), 1, [], []),
  (17, .ireturn, 1, [0], []),
  (18, .aload_n 0, 1, [], []),
  (19, .getfield 51, 3, [11, 5], [20]),
  (22, .iload_n 1, 1, [], []),
  (23, .invokevirtual 179, 3, [84, 1, 9], [94]),
  (26, .aload_n 0, 1, [], []),
  (27, .getfield 51, 3, [11, 5], [20]),
  (30, .iload_n 2, 1, [], []),
  (31, .invokevirtual 179, 3, [84, 1, 9], [94]),
  (34, .aload_n 0, 1, [], []),
  (35, .getfield 51, 3, [11, 5], [20]),
  (38, .iload_n 3, 1, [], []),
  (39, .invokevirtual 179, 3, [84, 1, 9], [94]),
  (42, .aload_n 0, 1, [], []),
  (43, .getfield 51, 3, [11, 5], [20]),
  (46, .iload 4, 2, [], []),
  (48, .invokevirtual 179, 3, [84, 1, 9], [94]),
  (51, .aload_n 0, 1, [], []),
  (52, .getfield 51, 3, [11, 5], [20]),
  (55, .iload 5, 2, [], []),
  (57, .invokevirtual 179, 3, [84, 1, 9], [94]),
  (60, .aload_n 0, 1, [], []),
  (61, .getfield 51, 3, [11, 5], [20]),
  (64, .getfield 176, 3, [9, 1], [51]),
  (67, .ireturn, 1, [0], [])]
def mX11_feed : pv_M := (⟨"CliffGarden", "feed", "(IIIII)I"⟩, prog_1_method_10_code, 6, some .int, rX11_feed)
def rX11_law : List pv_R := [
  (0, .iload_n 1, 1, [], []),
  (1, .iconst 1, 1, [], []),
  (2, .if_icmp .lt 21, 3, [11], []),
  (5, .iload_n 1, 1, [], []),
  (6, .sipush 200, 3, [], []),
  (9, .if_icmp .gt 14, 3, [11], []),
  (12, .iload_n 1, 1, [], []),
  (13, .aload_n 0, 1, [], []),
  (14, .getfield 51, 3, [11, 5], [20]),
  (17, .getfield 176, 3, [9, 1], [51]),
  (20, .if_icmp .le 5, 3, [13], []),
  (23, .iconst (-1), 1, [], []),
  (24, .ireturn, 1, [0], []),
  (25, .aload_n 0, 1, [], []),
  (26, .getfield 58, 3, [11, 6], [350]),
  (29, .aload_n 0, 1, [], []),
  (30, .getfield 51, 3, [11, 5], [20]),
  (33, .iload_n 1, 1, [], []),
  (34, .aload_n 0, 1, [], []),
  (35, .getfield 88, 3, [11, 10], [107]),
  (38, .invokevirtual 182, 3, [45, 3, 5], [590]),
  (41, .istore_n 2, 1, [], []),
  (42, .aload_n 0, 1, [], []),
  (43, .getfield 51, 3, [11, 5], [20]),
  (46, .iconst 0, 1, [], []),
  (47, .putfield 176, 3, [9, 1], [51]),
  (50, .iload_n 2, 1, [], []),
  (51, .ifCond .lt 27, 3, [40], []),
  (54, .aload_n 0, 1, [], []),
  (55, .getfield 35, 3, [11, 3], [23]),
  (58, .getfield 186, 3, [1, 4], [148]),
  (61, .astore_n 3, 1, [], []),
  (62, .aload_n 0, 1, [], []),
  (63, .getfield 35, 3, [11, 3], [23]),
  (66, .aload_n 0, 1, [], []),
  (67, .getfield 88, 3, [11, 10], [107]),
  (70, .putfield 186, 3, [1, 4], [148]),
  (73, .aload_n 0, 1, [], []),
  (74, .aload_n 3, 1, [], []),
  (75, .putfield 88, 3, [11, 10], [107]),
  (78, .iload_n 2, 1, [], []),
  (79, .ireturn, 1, [0], [])]
def mX11_law : pv_M := (⟨"CliffGarden", "law", "(I)I"⟩, prog_1_method_11_code, 4, some .int, rX11_law)
def rX11_cell : List pv_R := [
  (0, .iload_n 1, 1, [], []),
  (1, .iload_n 2, 1, [], []),
  (2, .invokestatic 96, 3, [141, 2], [90]),
  (5, .ifCond .ne 7, 3, [6], []),
  (8, .sipush (-1000), 3, [], []),
  (11, .ireturn, 1, [0], []),
  (12, .iload_n 1, 1, [], []),
  (13, .bipush 6, 2, [], []),
  (15, .imul, 1, [], []),
  (16, .iload_n 2, 1, [], []),
  (17, .iadd, 1, [], []),
  (18, .istore 4, 2, [], []),
  (20, .iload_n 3, 1, [], []),
  (21, .ifCond .ne 21, 3, [23], []),
  (24, .aload_n 0, 1, [], []),
  (25, .getfield 12, 3, [11, 0], [0]),
  (28, .iload 4, 2, [], []),
  (30, .invokevirtual 103, 3, [21, 1, 3], [41]),
  (33, .ifCond .eq 7, 3, [21], []),
  (36, .iconst 1, 1, [], []),
  (37, .goto 4, 3, [22], []),
  (40, .iconst 0, 1, [], []),
  (41, .ireturn, 1, [0], []),
  (42, .aload_n 0, 1, [], []),
  (43, .getfield 12, 3, [11, 0], [0]),
  (46, .iload 4, 2, [], []),
  (48, .invokevirtual 103, 3, [21, 1, 3], [41]),
  (51, .ifCond .eq 16, 3, [34], []),
  (54, .aload_n 0, 1, [], []),
  (55, .getfield 12, 3, [11, 0], [0]),
  (58, .iload 4, 2, [], []),
  (60, .iload_n 3, 1, [], []),
  (61, .invokevirtual 189, 3, [28, 2, 3], [591]),
  (64, .goto 6, 3, [35], []),
  (67, .sipush (-1000), 3, [], []),
  (70, .ireturn, 1, [0], [])]
def mX11_cell : pv_M := (⟨"CliffGarden", "cell", "(III)I"⟩, prog_1_method_12_code, 5, some .int, rX11_cell)
def rX11_byLaw : List pv_R := [
  (0, .iload_n 1, 1, [], []),
  (1, .iload_n 2, 1, [], []),
  (2, .invokestatic 96, 3, [141, 2], [90]),
  (5, .ifCond .eq 11, 3, [8], []),
  (8, .iload_n 3, 1, [], []),
  (9, .iconst 2, 1, [], []),
  (10, .invokestatic 100, 3, [138, 2], [11]),
  (13, .ifCond .ne 5, 3, [10], []),
  (16, .iconst (-1), 1, [], []),
  (17, .ireturn, 1, [0], []),
  (18, .iload_n 1, 1, [], []),
  (19, .bipush 6, 2, [], []),
  (21, .imul, 1, [], []),
  (22, .iload_n 2, 1, [], []),
  (23, .iadd, 1, [], []),
  (24, .istore 4, 2, [], []),
  (26, .aload_n 0, 1, [], []),
  (27, .getfield 12, 3, [11, 0], [0]),
  (30, .iload 4, 2, [], []),
  (32, .invokevirtual 103, 3, [21, 1, 3], [41]),
  (35, .ifCond .ne 6, 3, [23], []),
  (38, .bipush (-2), 2, [], []),
  (40, .ireturn, 1, [0], []),
  (41, .iload_n 3, 1, [], []),
  (42, .iconst 2, 1, [], []),
  (43, .if_icmp .ne 13, 3, [31], []),
  (46, .aload_n 0, 1, [], []),
  (47, .getfield 35, 3, [11, 3], [23]),
  (50, .iload 4, 2, [], []),
  (52, .invokevirtual 192, 3, [6, 1, 1], [277]),
  (55, .ireturn, 1, [0], []),
  (56, .aload_n 0, 1, [], []),
  (57, .getfield 12, 3, [11, 0], [0]),
  (60, .iload 4, 2, [], []),
  (62, .invokevirtual 147, 3, [22, 1, 3], [42]),
  (65, .ifCond .ne 5, 3, [38], []),
  (68, .iconst (-1), 1, [], []),
  (69, .ireturn, 1, [0], []),
  (70, .iload_n 3, 1, [], []),
  (71, .ifCond .ne 25, 3, [50], []),
  (74, .aload_n 0, 1, [], []),
  (75, .getfield 35, 3, [11, 3], [23]),
  (78, .iload 4, 2, [], []),
  (80, .aload_n 0, 1, [], []),
  (81, .getfield 12, 3, [11, 0], [0]),
  (84, .getfield 127, 3, [3, 8], [110]),
  (87, .iload 4, 2, [], []),
  (89, .iaload, 1, [], []),
  (90, .invokevirtual 196, 3, [4, 2, 1], [278]),
  (93, .goto 12, 3, [54], []),
  (96, .aload_n 0, 1, [], []),
  (97, .getfield 35, 3, [11, 3], [23]),
  (100, .iload 4, 2, [], []),
  (102, .invokevirtual 199, 3, [5, 1, 1], [279]),
  (105, .ireturn, 1, [0], [])]
def mX11_byLaw : pv_M := (⟨"CliffGarden", "byLaw", "(III)I"⟩, prog_1_method_13_code, 5, some .int, rX11_byLaw)
def rX11_water : List pv_R := [
  (0, .aload_n 0, 1, [], []),
  (1, .invokevirtual 202, 3, [128, 0, 11], [280]),
  (4, .ireturn, 1, [0], [])]
def mX11_water : pv_M := (⟨"CliffGarden", "water", "()I"⟩, prog_1_method_14_code, 1, some .int, rX11_water)
def rX11_fall : List pv_R := [
  (0, .aload_n 0, 1, [], []),
  (1, .iload_n 1, 1, [], []),
  (2, .iload_n 2, 1, [], []),
  (3, .invokevirtual 134, 3, [137, 2, 11], [130]),
  (6, .istore_n 3, 1, [], []),
  (7, .iload_n 3, 1, [], []),
  (8, .ifCond .lt 14, 3, [12], []),
  (11, .aload_n 0, 1, [], []),
  (12, .getfield 12, 3, [11, 0], [0]),
  (15, .iload_n 3, 1, [], []),
  (16, .invokevirtual 147, 3, [22, 1, 3], [42]),
  (19, .ifCond .ne 5, 3, [14], []),
  (22, .iconst (-1), 1, [], []),
  (23, .ireturn, 1, [0], []),
  (24, .aload_n 0, 1, [], []),
  (25, .iload_n 3, 1, [], []),
  (26, .iconst 1, 1, [], []),
  (27, .invokevirtual 206, 3, [134, 2, 11], [178]),
  (30, .ireturn, 1, [0], [])]
def mX11_fall : pv_M := (⟨"CliffGarden", "fall", "(II)I"⟩, prog_1_method_15_code, 4, some .int, rX11_fall)
def rX11_go : List pv_R := [
  (0, .aload_n 0, 1, [], []),
  (1, .invokevirtual 210, 3, [132, 0, 11], [281]),
  (4, .ireturn, 1, [0], [])]
def mX11_go : pv_M := (⟨"CliffGarden", "go", "()I"⟩, prog_1_method_16_code, 1, some .int, rX11_go)
def rX11_day : List pv_R := [
  (0, .aload_n 0, 1, [], []),
  (1, .getfield 26, 3, [11, 2], [7]),
  (4, .getfield 213, 3, [2, 10], [219]),
  (7, .istore_n 1, 1, [], []),
  (8, .aload_n 0, 1, [], []),
  (9, .invokevirtual 202, 3, [128, 0, 11], [280]),
  (12, .pop, 1, [], []),
  (13, .aload_n 0, 1, [], []),
  (14, .invokevirtual 216, 3, [129, 0, 11], [592]),
  (17, .aload_n 0, 1, [], []),
  (18, .invokevirtual 219, 3, [130, 0, 11], [593]),
  (21, .aload_n 0, 1, [], []),
  (22, .invokevirtual 222, 3, [131, 0, 11], [594]),
  (25, .aload_n 0, 1, [], []),
  (26, .invokevirtual 210, 3, [132, 0, 11], [281]),
  (29, .pop, 1, [], []),
  (30, .aload_n 0, 1, [], []),
  (31, .getfield 19, 3, [11, 1], [10]),
  (34, .dup, 1, [], []),
  (35, .getfield 225, 3, [0, 8], [111]),
  (38, .iconst 1, 1, [], []),
  (39, .iadd, 1, [], []),
  (40, .putfield 225, 3, [0, 8], [111]),
  (43, .aload_n 0, 1, [], []),
  (44, .getfield 26, 3, [11, 2], [7]),
  (47, .getfield 213, 3, [2, 10], [219]),
  (50, .iload_n 1, 1, [], []),
  (51, .isub, 1, [], []),
  (52, .ireturn, 1, [0], [])]
def mX11_day : pv_M := (⟨"CliffGarden", "day", "()I"⟩, prog_1_method_17_code, 2, some .int, rX11_day)
def rX11_torn : List pv_R := [
  (0, .aload_n 0, 1, [], []),
  (1, .iload_n 1, 1, [], []),
  (2, .iload_n 2, 1, [], []),
  (3, .invokevirtual 134, 3, [137, 2, 11], [130]),
  (6, .istore_n 3, 1, [], []),
  (7, .iload_n 3, 1, [], []),
  (8, .ifCond .ge 9, 3, [9], []),
  (11, .ldc2_w 228, 3, [18446744073709551615], [243]),
  (14, .goto 11, 3, [13], []),
  (17, .aload_n 0, 1, [], []),
  (18, .getfield 12, 3, [11, 0], [0]),
  (21, .iload_n 3, 1, [], []),
  (22, .invokevirtual 230, 3, [34, 1, 3], [595]),
  (25, .lreturn, 1, [], [])]
def mX11_torn : pv_M := (⟨"CliffGarden", "torn", "(II)J"⟩, prog_1_method_18_code, 4, some .long, rX11_torn)
def rX11_fallIs : List pv_R := [
  (0, .aload_n 0, 1, [], []),
  (1, .getfield 26, 3, [11, 2], [7]),
  (4, .iload_n 1, 1, [], []),
  (5, .invokevirtual 234, 3, [17, 1, 2], [179]),
  (8, .ifCond .eq 15, 3, [11], []),
  (11, .aload_n 0, 1, [], []),
  (12, .getfield 26, 3, [11, 2], [7]),
  (15, .iload_n 1, 1, [], []),
  (16, .iload_n 2, 1, [], []),
  (17, .invokevirtual 237, 3, [18, 2, 2], [596]),
  (20, .goto 6, 3, [12], []),
  (23, .sipush (-1000), 3, [], []),
  (26, .ireturn, 1, [0], [])]
def mX11_fallIs : pv_M := (⟨"CliffGarden", "fallIs", "(II)I"⟩, prog_1_method_19_code, 3, some .int, rX11_fallIs)
def rX11_claimed : List pv_R := [
  (0, .aload_n 0, 1, [], []),
  (1, .getfield 26, 3, [11, 2], [7]),
  (4, .iload_n 1, 1, [], []),
  (5, .invokevirtual 234, 3, [17, 1, 2], [179]),
  (8, .ifCond .eq 15, 3, [11], []),
  (11, .iload_n 2, 1, [], []),
  (12, .iconst 1, 1, [], []),
  (13, .if_icmp .lt 10, 3, [11], []),
  (16, .iload_n 2, 1, [], []),
  (17, .sipush 256, 3, [], []),
  (20, .if_icmp .lt 5, 3, [13], []),
  (23, .iconst (-1), 1, [], []),
  (24, .ireturn, 1, [0], []),
  (25, .aload_n 0, 1, [], []),
  (26, .iload_n 1, 1, [], []),
  (27, .iload_n 2, 1, [], []),
  (28, .invokevirtual 238, 3, [136, 2, 11], [282]),
  (31, .ireturn, 1, [0], [])]
def mX11_claimed : pv_M := (⟨"CliffGarden", "claimed", "(II)I"⟩, prog_1_method_20_code, 3, some .int, rX11_claimed)
def rX11_right : List pv_R := [
  (0, .aload_n 0, 1, [], []),
  (1, .getfield 26, 3, [11, 2], [7]),
  (4, .iload_n 1, 1, [], []),
  (5, .invokevirtual 234, 3, [17, 1, 2], [179]),
  (8, .ifCond .eq 15, 3, [11], []),
  (11, .iload_n 2, 1, [], []),
  (12, .iconst 1, 1, [], []),
  (13, .if_icmp .lt 10, 3, [11], []),
  (16, .iload_n 2, 1, [], []),
  (17, .sipush 256, 3, [], []),
  (20, .if_icmp .lt 5, 3, [13], []),
  (23, .iconst (-1), 1, [], []),
  (24, .ireturn, 1, [0], []),
  (25, .aload_n 0, 1, [], []),
  (26, .getfield 26, 3, [11, 2], [7]),
  (29, .getfield 241, 3, [2, 6], [83]),
  (32, .iload_n 1, 1, [], []),
  (33, .iaload, 1, [], []),
  (34, .istore_n 3, 1, [], []),
  (35, .aload_n 0, 1, [], []),
  (36, .iload_n 1, 1, [], []),
  (37, .iload_n 2, 1, [], []),
  (38, .invokevirtual 238, 3, [136, 2, 11], [282]),
  (41, .istore 4, 2, [], []),
  (43, .iload_n 3, 1, [], []),
  (44, .invokestatic 160, 3, [140, 1], [125]),
  (47, .ifCond .eq 17, 3, [33], []),
  (50, .iload 4, 2, [], []),
  (52, .invokestatic 160, 3, [140, 1], [125]),
  (55, .ifCond .eq 9, 3, [33], []),
  (58, .iload_n 3, 1, [], []),
  (59, .iload 4, 2, [], []),
  (61, .if_icmp .ne 5, 3, [35], []),
  (64, .iconst (-1), 1, [], []),
  (65, .ireturn, 1, [0], []),
  (66, .aload_n 0, 1, [], []),
  (67, .getfield 19, 3, [11, 1], [10]),
  (70, .getfield 244, 3, [0, 7], [112]),
  (73, .iload_n 3, 1, [], []),
  (74, .dup2, 1, [], []),
  (75, .iaload, 1, [], []),
  (76, .aload_n 0, 1, [], []),
  (77, .getfield 26, 3, [11, 2], [7]),
  (80, .getfield 247, 3, [2, 7], [65]),
  (83, .iload_n 1, 1, [], []),
  (84, .iaload, 1, [], []),
  (85, .isub, 1, [], []),
  (86, .iastore, 1, [], []),
  (87, .aload_n 0, 1, [], []),
  (88, .getfield 19, 3, [11, 1], [10]),
  (91, .getfield 244, 3, [0, 7], [112]),
  (94, .iload 4, 2, [], []),
  (96, .dup2, 1, [], []),
  (97, .iaload, 1, [], []),
  (98, .aload_n 0, 1, [], []),
  (99, .getfield 26, 3, [11, 2], [7]),
  (102, .getfield 247, 3, [2, 7], [65]),
  (105, .iload_n 1, 1, [], []),
  (106, .iaload, 1, [], []),
  (107, .iadd, 1, [], []),
  (108, .iastore, 1, [], []),
  (109, .aload_n 0, 1, [], []),
  (110, .getfield 26, 3, [11, 2], [7]),
  (113, .getfield 241, 3, [2, 6], [83]),
  (116, .iload_n 1, 1, [], []),
  (117, .iload 4, 2, [], []),
  (119, .iastore, 1, [], []),
  (120, .aload_n 0, 1, [], []),
  (121, .getfield 26, 3, [11, 2], [7]),
  (124, .getfield 247, 3, [2, 7], [65]),
  (127, .iload_n 1, 1, [], []),
  (128, .iaload, 1, [], []),
  (129, .ireturn, 1, [0], [])]
def mX11_right : pv_M := (⟨"CliffGarden", "right", "(II)I"⟩, prog_1_method_21_code, 5, some .int, rX11_right)
def rX11_food : List pv_R := [
  (0, .iload_n 1, 1, [], []),
  (1, .invokestatic 160, 3, [140, 1], [125]),
  (4, .ifCond .eq 15, 3, [9], []),
  (7, .aload_n 0, 1, [], []),
  (8, .getfield 19, 3, [11, 1], [10]),
  (11, .getfield 244, 3, [0, 7], [112]),
  (14, .iload_n 1, 1, [], []),
  (15, .iaload, 1, [], []),
  (16, .goto 4, 3, [10], []),
  (19, .iconst (-1), 1, [], []),
  (20, .ireturn, 1, [0], [])]
def mX11_food : pv_M := (⟨"CliffGarden", "food", "(I)I"⟩, prog_1_method_22_code, 2, some .int, rX11_food)
def rX11_kitchenIs : List pv_R := [
  (0, .iload_n 1, 1, [], []),
  (1, .invokestatic 154, 3, [139, 1], [33]),
  (4, .ifCond .eq 15, 3, [9], []),
  (7, .aload_n 0, 1, [], []),
  (8, .getfield 19, 3, [11, 1], [10]),
  (11, .iload_n 1, 1, [], []),
  (12, .iload_n 2, 1, [], []),
  (13, .invokevirtual 248, 3, [2, 2, 0], [597]),
  (16, .goto 4, 3, [10], []),
  (19, .iconst (-1), 1, [], []),
  (20, .ireturn, 1, [0], [])]
def mX11_kitchenIs : pv_M := (⟨"CliffGarden", "kitchenIs", "(II)I"⟩, prog_1_method_23_code, 3, some .int, rX11_kitchenIs)
def rX11_mayWork : List pv_R := [
  (0, .iload_n 1, 1, [], []),
  (1, .iconst 1, 1, [], []),
  (2, .if_icmp .lt 17, 3, [10], []),
  (5, .iload_n 1, 1, [], []),
  (6, .bipush 99, 2, [], []),
  (8, .if_icmp .gt 11, 3, [10], []),
  (11, .iload_n 2, 1, [], []),
  (12, .iload_n 3, 1, [], []),
  (13, .invokestatic 96, 3, [141, 2], [90]),
  (16, .ifCond .ne 5, 3, [12], []),
  (19, .iconst (-1), 1, [], []),
  (20, .ireturn, 1, [0], []),
  (21, .aload_n 0, 1, [], []),
  (22, .getfield 19, 3, [11, 1], [10]),
  (25, .iload_n 1, 1, [], []),
  (26, .iload_n 2, 1, [], []),
  (27, .iload_n 3, 1, [], []),
  (28, .invokevirtual 249, 3, [1, 3, 0], [283]),
  (31, .ifCond .eq 7, 3, [21], []),
  (34, .iconst 1, 1, [], []),
  (35, .goto 4, 3, [22], []),
  (38, .iconst 0, 1, [], []),
  (39, .ireturn, 1, [0], [])]
def mX11_mayWork : pv_M := (⟨"CliffGarden", "mayWork", "(III)I"⟩, prog_1_method_24_code, 4, some .int, rX11_mayWork)
def rX11_work : List pv_R := [
  (0, .lload_n 3, 1, [], []),
  (1, .bipush 8, 2, [], []),
  (3, .invokestatic 253, 3, [143, 2], [171]),
  (6, .istore 6, 2, [], []),
  (8, .iload_n 1, 1, [], []),
  (9, .iconst 1, 1, [], []),
  (10, .if_icmp .lt 35, 3, [22], []),
  (13, .iload_n 1, 1, [], []),
  (14, .bipush 99, 2, [], []),
  (16, .if_icmp .gt 29, 3, [22], []),
  (19, .iload_n 2, 1, [], []),
  (20, .invokestatic 154, 3, [139, 1], [33]),
  (23, .ifCond .eq 22, 3, [22], []),
  (26, .iload 6, 2, [], []),
  (28, .iconst 1, 1, [], []),
  (29, .if_icmp .lt 16, 3, [22], []),
  (32, .iload 5, 2, [], []),
  (34, .iconst (-1), 1, [], []),
  (35, .if_icmp .lt 10, 3, [22], []),
  (38, .iload 5, 2, [], []),
  (40, .iload 6, 2, [], []),
  (42, .if_icmp .lt 6, 3, [24], []),
  (45, .bipush (-3), 2, [], []),
  (47, .ireturn, 1, [0], []),
  (48, .iconst 0, 1, [], []),
  (49, .istore 7, 2, [], []),
  (51, .iload 7, 2, [], []),
  (53, .bipush 48, 2, [], []),
  (55, .if_icmp .ge 42, 3, [48], []),
  (58, .lload_n 3, 1, [], []),
  (59, .iload 7, 2, [], []),
  (61, .invokestatic 257, 3, [142, 2], [257]),
  (64, .ifCond .eq 27, 3, [46], []),
  (67, .aload_n 0, 1, [], []),
  (68, .getfield 19, 3, [11, 1], [10]),
  (71, .iload_n 1, 1, [], []),
  (72, .iload 7, 2, [], []),
  (74, .bipush 6, 2, [], []),
  (76, .idiv, 1, [], []),
  (77, .iload 7, 2, [], []),
  (79, .bipush 6, 2, [], []),
  (81, .irem, 1, [], []),
  (82, .invokevirtual 249, 3, [1, 3, 0], [283]),
  (85, .ifCond .ne 6, 3, [46], []),
  (88, .bipush (-2), 2, [], []),
  (90, .ireturn, 1, [0], []),
  (91, .iinc 7 1, 3, [], []),
  (94, .goto (-43), 3, [26], []),
  (97, .aload_n 0, 1, [], []),
  (98, .getfield 65, 3, [11, 7], [30]),
  (101, .lload_n 3, 1, [], []),
  (102, .invokevirtual 261, 3, [63, 1, 6], [284]),
  (105, .aload_n 0, 1, [], []),
  (106, .getfield 65, 3, [11, 7], [30]),
  (109, .iload_n 2, 1, [], []),
  (110, .invokevirtual 265, 3, [64, 1, 6], [598]),
  (113, .aload_n 0, 1, [], []),
  (114, .getfield 65, 3, [11, 7], [30]),
  (117, .invokevirtual 268, 3, [67, 0, 6], [285]),
  (120, .iload 5, 2, [], []),
  (122, .iconst (-1), 1, [], []),
  (123, .if_icmp .ne 13, 3, [66], []),
  (126, .aload_n 0, 1, [], []),
  (127, .getfield 65, 3, [11, 7], [30]),
  (130, .invokevirtual 271, 3, [72, 0, 6], [286]),
  (133, .goto 12, 3, [70], []),
  (136, .aload_n 0, 1, [], []),
  (137, .getfield 65, 3, [11, 7], [30]),
  (140, .iload 5, 2, [], []),
  (142, .invokevirtual 274, 3, [73, 1, 6], [287]),
  (145, .ireturn, 1, [0], [])]
def mX11_work : pv_M := (⟨"CliffGarden", "work", "(IIJI)I"⟩, prog_1_method_25_code, 8, some .int, rX11_work)
def rX11_pollen : List pv_R := [
  (0, .iload_n 1, 1, [], []),
  (1, .invokestatic 154, 3, [139, 1], [33]),
  (4, .ifCond .eq 40, 3, [20], []),
  (7, .iload_n 2, 1, [], []),
  (8, .invokestatic 154, 3, [139, 1], [33]),
  (11, .ifCond .eq 33, 3, [20], []),
  (14, .iload_n 3, 1, [], []),
  (15, .iconst 5, 1, [], []),
  (16, .invokestatic 100, 3, [138, 2], [11]),
  (19, .ifCond .eq 25, 3, [20], []),
  (22, .iload 4, 2, [], []),
  (24, .iconst 1, 1, [], []),
  (25, .if_icmp .lt 19, 3, [20], []),
  (28, .iload 4, 2, [], []),
  (30, .bipush 12, 2, [], []),
  (32, .if_icmp .gt 12, 3, [20], []),
  (35, .iload 5, 2, [], []),
  (37, .iconst 1, 1, [], []),
  (38, .invokestatic 100, 3, [138, 2], [11]),
  (41, .ifCond .ne 7, 3, [22], []),
  (44, .ldc2_w 228, 3, [18446744073709551615], [243]),
  (47, .lreturn, 1, [], []),
  (48, .aload_n 0, 1, [], []),
  (49, .getfield 81, 3, [11, 9], [143]),
  (52, .iload_n 1, 1, [], []),
  (53, .iload_n 2, 1, [], []),
  (54, .aload_n 0, 1, [], []),
  (55, .getfield 12, 3, [11, 0], [0]),
  (58, .iload_n 3, 1, [], []),
  (59, .invokevirtual 277, 3, [35, 1, 3], [599]),
  (62, .iload 4, 2, [], []),
  (64, .invokevirtual 280, 3, [80, 4, 8], [600]),
  (67, .iload 5, 2, [], []),
  (69, .ifCond .ne 14, 3, [39], []),
  (72, .aload_n 0, 1, [], []),
  (73, .getfield 81, 3, [11, 9], [143]),
  (76, .getfield 284, 3, [8, 2], [355]),
  (79, .i2l, 1, [], []),
  (80, .goto 11, 3, [43], []),
  (83, .aload_n 0, 1, [], []),
  (84, .getfield 81, 3, [11, 9], [143]),
  (87, .getfield 287, 3, [8, 3], [356]),
  (90, .i2l, 1, [], []),
  (91, .lreturn, 1, [], [])]
def mX11_pollen : pv_M := (⟨"CliffGarden", "pollen", "(IIIII)J"⟩, prog_1_method_26_code, 6, some .long, rX11_pollen)
def rX11_pollinate : List pv_R := [
  (0, .iload_n 1, 1, [], []),
  (1, .invokestatic 154, 3, [139, 1], [33]),
  (4, .ifCond .eq 11, 3, [7], []),
  (7, .iload_n 2, 1, [], []),
  (8, .iconst 5, 1, [], []),
  (9, .invokestatic 100, 3, [138, 2], [11]),
  (12, .ifCond .ne 5, 3, [9], []),
  (15, .iconst (-1), 1, [], []),
  (16, .ireturn, 1, [0], []),
  (17, .iconst 0, 1, [], []),
  (18, .istore_n 3, 1, [], []),
  (19, .iconst 0, 1, [], []),
  (20, .istore 4, 2, [], []),
  (22, .iload 4, 2, [], []),
  (24, .bipush 6, 2, [], []),
  (26, .if_icmp .ge 71, 3, [49], []),
  (29, .iload_n 1, 1, [], []),
  (30, .bipush 6, 2, [], []),
  (32, .imul, 1, [], []),
  (33, .iload 4, 2, [], []),
  (35, .iadd, 1, [], []),
  (36, .istore 5, 2, [], []),
  (38, .aload_n 0, 1, [], []),
  (39, .getfield 12, 3, [11, 0], [0]),
  (42, .iload 5, 2, [], []),
  (44, .invokevirtual 147, 3, [22, 1, 3], [42]),
  (47, .ifCond .eq 44, 3, [47], []),
  (50, .aload_n 0, 1, [], []),
  (51, .getfield 12, 3, [11, 0], [0]),
  (54, .getfield 290, 3, [3, 5], [357]),
  (57, .iload 5, 2, [], []),
  (59, .iaload, 1, [], []),
  (60, .iload_n 2, 1, [], []),
  (61, .if_icmp .ne 30, 3, [47], []),
  (64, .aload_n 0, 1, [], []),
  (65, .getfield 12, 3, [11, 0], [0]),
  (68, .getfield 293, 3, [3, 9], [220]),
  (71, .iload 5, 2, [], []),
  (73, .baload, 1, [1], []),
  (74, .ifCond .ne 17, 3, [47], []),
  (77, .aload_n 0, 1, [], []),
  (78, .getfield 12, 3, [11, 0], [0]),
  (81, .getfield 293, 3, [3, 9], [220]),
  (84, .iload 5, 2, [], []),
  (86, .iconst 1, 1, [], []),
  (87, .bastore, 1, [1], []),
  (88, .iinc 3 1, 3, [], []),
  (91, .iinc 4 1, 3, [], []),
  (94, .goto (-72), 3, [13], []),
  (97, .iload_n 3, 1, [], []),
  (98, .ireturn, 1, [0], [])]
def mX11_pollinate : pv_M := (⟨"CliffGarden", "pollinate", "(II)I"⟩, prog_1_method_27_code, 6, some .int, rX11_pollinate)
def rX11_planted : List pv_R := [
  (0, .lload_n 1, 1, [], []),
  (1, .iconst 5, 1, [], []),
  (2, .invokestatic 253, 3, [143, 2], [171]),
  (5, .istore 4, 2, [], []),
  (7, .iload 4, 2, [], []),
  (9, .iconst 1, 1, [], []),
  (10, .if_icmp .lt 20, 3, [16], []),
  (13, .iload_n 3, 1, [], []),
  (14, .iconst (-1), 1, [], []),
  (15, .if_icmp .lt 15, 3, [16], []),
  (18, .iload_n 3, 1, [], []),
  (19, .iload 4, 2, [], []),
  (21, .if_icmp .lt 12, 3, [18], []),
  (24, .iload_n 3, 1, [], []),
  (25, .bipush 10, 2, [], []),
  (27, .if_icmp .eq 6, 3, [18], []),
  (30, .bipush (-3), 2, [], []),
  (32, .ireturn, 1, [0], []),
  (33, .iconst 0, 1, [], []),
  (34, .istore 5, 2, [], []),
  (36, .iload 5, 2, [], []),
  (38, .bipush 48, 2, [], []),
  (40, .if_icmp .ge 45, 3, [41], []),
  (43, .lload_n 1, 1, [], []),
  (44, .iload 5, 2, [], []),
  (46, .invokestatic 257, 3, [142, 2], [257]),
  (49, .ifCond .eq 30, 3, [39], []),
  (52, .aload_n 0, 1, [], []),
  (53, .getfield 12, 3, [11, 0], [0]),
  (56, .iload 5, 2, [], []),
  (58, .invokevirtual 103, 3, [21, 1, 3], [41]),
  (61, .ifCond .eq 15, 3, [37], []),
  (64, .aload_n 0, 1, [], []),
  (65, .getfield 12, 3, [11, 0], [0]),
  (68, .iload 5, 2, [], []),
  (70, .invokevirtual 147, 3, [22, 1, 3], [42]),
  (73, .ifCond .eq 6, 3, [39], []),
  (76, .bipush (-3), 2, [], []),
  (78, .ireturn, 1, [0], []),
  (79, .iinc 5 1, 3, [], []),
  (82, .goto (-46), 3, [20], []),
  (85, .aload_n 0, 1, [], []),
  (86, .getfield 74, 3, [11, 8], [106]),
  (89, .lload_n 1, 1, [], []),
  (90, .invokevirtual 297, 3, [38, 1, 4], [601]),
  (93, .ifCond .ne 6, 3, [48], []),
  (96, .bipush (-2), 2, [], []),
  (98, .ireturn, 1, [0], []),
  (99, .iload_n 3, 1, [], []),
  (100, .bipush 10, 2, [], []),
  (102, .if_icmp .ne 10, 3, [54], []),
  (105, .aload_n 0, 1, [], []),
  (106, .getfield 74, 3, [11, 8], [106]),
  (109, .invokevirtual 301, 3, [42, 0, 4], [602]),
  (112, .iload_n 3, 1, [], []),
  (113, .iconst (-1), 1, [], []),
  (114, .if_icmp .eq 9, 3, [60], []),
  (117, .iload_n 3, 1, [], []),
  (118, .bipush 10, 2, [], []),
  (120, .if_icmp .ne 13, 3, [64], []),
  (123, .aload_n 0, 1, [], []),
  (124, .getfield 74, 3, [11, 8], [106]),
  (127, .getfield 304, 3, [4, 7], [358]),
  (130, .goto 11, 3, [68], []),
  (133, .aload_n 0, 1, [], []),
  (134, .getfield 74, 3, [11, 8], [106]),
  (137, .iload_n 3, 1, [], []),
  (138, .invokevirtual 307, 3, [43, 1, 4], [603]),
  (141, .ireturn, 1, [0], [])]
def mX11_planted : pv_M := (⟨"CliffGarden", "planted", "(JI)I"⟩, prog_1_method_28_code, 6, some .int, rX11_planted)
def rX11_drought : List pv_R := [
  (0, .iload_n 1, 1, [], []),
  (1, .bipush 36, 2, [], []),
  (3, .invokestatic 100, 3, [138, 2], [11]),
  (6, .ifCond .eq 15, 3, [10], []),
  (9, .iload_n 2, 1, [], []),
  (10, .iconst 1, 1, [], []),
  (11, .if_icmp .lt 10, 3, [10], []),
  (14, .iload_n 2, 1, [], []),
  (15, .sipush 256, 3, [], []),
  (18, .if_icmp .lt 6, 3, [12], []),
  (21, .bipush (-2), 2, [], []),
  (23, .ireturn, 1, [0], []),
  (24, .iload_n 2, 1, [], []),
  (25, .invokestatic 310, 3, [248, 1], [556]),
  (28, .istore 4, 2, [], []),
  (30, .iload 4, 2, [], []),
  (32, .iconst 4, 1, [], []),
  (33, .if_icmp .gt 14, 3, [24], []),
  (36, .iload_n 3, 1, [], []),
  (37, .iconst (-1), 1, [], []),
  (38, .if_icmp .lt 9, 3, [24], []),
  (41, .iload_n 3, 1, [], []),
  (42, .iload 4, 2, [], []),
  (44, .if_icmp .lt 6, 3, [26], []),
  (47, .bipush (-2), 2, [], []),
  (49, .ireturn, 1, [0], []),
  (50, .aload_n 0, 1, [], []),
  (51, .getfield 44, 3, [11, 4], [63]),
  (54, .iload_n 1, 1, [], []),
  (55, .iload_n 2, 1, [], []),
  (56, .invokevirtual 315, 3, [89, 2, 10], [604]),
  (59, .iload_n 3, 1, [], []),
  (60, .iconst (-1), 1, [], []),
  (61, .if_icmp .ne 13, 3, [38], []),
  (64, .aload_n 0, 1, [], []),
  (65, .getfield 44, 3, [11, 4], [63]),
  (68, .getfield 319, 3, [10, 10], [359]),
  (71, .goto 11, 3, [42], []),
  (74, .aload_n 0, 1, [], []),
  (75, .getfield 44, 3, [11, 4], [63]),
  (78, .iload_n 3, 1, [], []),
  (79, .invokevirtual 322, 3, [93, 1, 10], [605]),
  (82, .ireturn, 1, [0], [])]
def mX11_drought : pv_M := (⟨"CliffGarden", "drought", "(III)I"⟩, prog_1_method_29_code, 5, some .int, rX11_drought)
def rX11_mended : List pv_R := [
  (0, .lload_n 1, 1, [], []),
  (1, .bipush 8, 2, [], []),
  (3, .invokestatic 253, 3, [143, 2], [171]),
  (6, .istore 4, 2, [], []),
  (8, .iload 4, 2, [], []),
  (10, .iconst 1, 1, [], []),
  (11, .if_icmp .lt 28, 3, [21], []),
  (14, .lload_n 1, 1, [], []),
  (15, .aload_n 0, 1, [], []),
  (16, .getfield 12, 3, [11, 0], [0]),
  (19, .getfield 107, 3, [3, 0], [108]),
  (22, .land, 1, [], []),
  (23, .lconst 0, 1, [], []),
  (24, .lcmp, 1, [], []),
  (25, .ifCond .ne 14, 3, [21], []),
  (28, .iload_n 3, 1, [], []),
  (29, .iconst (-1), 1, [], []),
  (30, .if_icmp .lt 9, 3, [21], []),
  (33, .iload_n 3, 1, [], []),
  (34, .iload 4, 2, [], []),
  (36, .if_icmp .lt 6, 3, [23], []),
  (39, .bipush (-3), 2, [], []),
  (41, .ireturn, 1, [0], []),
  (42, .aload_n 0, 1, [], []),
  (43, .getfield 65, 3, [11, 7], [30]),
  (46, .lload_n 1, 1, [], []),
  (47, .invokevirtual 261, 3, [63, 1, 6], [284]),
  (50, .aload_n 0, 1, [], []),
  (51, .getfield 65, 3, [11, 7], [30]),
  (54, .aload_n 0, 1, [], []),
  (55, .getfield 19, 3, [11, 1], [10]),
  (58, .getfield 172, 3, [0, 6], [218]),
  (61, .invokevirtual 325, 3, [66, 1, 6], [606]),
  (64, .aload_n 0, 1, [], []),
  (65, .getfield 65, 3, [11, 7], [30]),
  (68, .invokevirtual 268, 3, [67, 0, 6], [285]),
  (71, .iload_n 3, 1, [], []),
  (72, .iconst (-1), 1, [], []),
  (73, .if_icmp .ne 13, 3, [43], []),
  (76, .aload_n 0, 1, [], []),
  (77, .getfield 65, 3, [11, 7], [30]),
  (80, .invokevirtual 271, 3, [72, 0, 6], [286]),
  (83, .goto 11, 3, [47], []),
  (86, .aload_n 0, 1, [], []),
  (87, .getfield 65, 3, [11, 7], [30]),
  (90, .iload_n 3, 1, [], []),
  (91, .invokevirtual 274, 3, [73, 1, 6], [287]),
  (94, .ireturn, 1, [0], [])]
def mX11_mended : pv_M := (⟨"CliffGarden", "mended", "(JI)I"⟩, prog_1_method_30_code, 5, some .int, rX11_mended)
def rX11_hail : List pv_R := [
  (0, .iload_n 1, 1, [], []),
  (1, .bipush 63, 2, [], []),
  (3, .invokestatic 100, 3, [138, 2], [11]),
  (6, .ifCond .ne 5, 3, [6], []),
  (9, .iconst (-1), 1, [], []),
  (10, .ireturn, 1, [0], []),
  (11, .iconst 0, 1, [], []),
  (12, .istore_n 2, 1, [], []),
  (13, .iconst 0, 1, [], []),
  (14, .istore_n 3, 1, [], []),
  (15, .iload_n 3, 1, [], []),
  (16, .bipush 8, 2, [], []),
  (18, .if_icmp .ge 33, 3, [27], []),
  (21, .aload_n 0, 1, [], []),
  (22, .getfield 12, 3, [11, 0], [0]),
  (25, .iload_n 3, 1, [], []),
  (26, .iload_n 1, 1, [], []),
  (27, .invokevirtual 329, 3, [36, 2, 3], [607]),
  (30, .aload_n 0, 1, [], []),
  (31, .getfield 19, 3, [11, 1], [10]),
  (34, .getfield 166, 3, [0, 2], [147]),
  (37, .iload_n 3, 1, [], []),
  (38, .iaload, 1, [], []),
  (39, .if_icmp .le 6, 3, [25], []),
  (42, .iinc 2 1, 3, [], []),
  (45, .iinc 3 1, 3, [], []),
  (48, .goto (-33), 3, [10], []),
  (51, .iload_n 2, 1, [], []),
  (52, .ireturn, 1, [0], [])]
def mX11_hail : pv_M := (⟨"CliffGarden", "hail", "(I)I"⟩, prog_1_method_31_code, 4, some .int, rX11_hail)
def rX11_check : List pv_R := [
  (0, .iload_n 1, 1, [], []),
  (1, .invokestatic 154, 3, [139, 1], [33]),
  (4, .ifCond .eq 20, 3, [12], []),
  (7, .iload_n 2, 1, [], []),
  (8, .ifCond .lt 16, 3, [12], []),
  (11, .iload_n 2, 1, [], []),
  (12, .aload_n 0, 1, [], []),
  (13, .getfield 51, 3, [11, 5], [20]),
  (16, .getfield 176, 3, [9, 1], [51]),
  (19, .iconst 4, 1, [], []),
  (20, .idiv, 1, [], []),
  (21, .if_icmp .le 6, 3, [14], []),
  (24, .bipush (-2), 2, [], []),
  (26, .ireturn, 1, [0], []),
  (27, .aload_n 0, 1, [], []),
  (28, .getfield 51, 3, [11, 5], [20]),
  (31, .iconst 0, 1, [], []),
  (32, .putfield 176, 3, [9, 1], [51]),
  (35, .iconst 0, 1, [], []),
  (36, .istore_n 3, 1, [], []),
  (37, .iload_n 3, 1, [], []),
  (38, .iload_n 2, 1, [], []),
  (39, .if_icmp .ge 66, 3, [55], []),
  (42, .iload_n 3, 1, [], []),
  (43, .bipush 6, 2, [], []),
  (45, .if_icmp .ge 60, 3, [55], []),
  (48, .iload_n 1, 1, [], []),
  (49, .bipush 6, 2, [], []),
  (51, .imul, 1, [], []),
  (52, .iload_n 3, 1, [], []),
  (53, .iadd, 1, [], []),
  (54, .istore 4, 2, [], []),
  (56, .aload_n 0, 1, [], []),
  (57, .getfield 12, 3, [11, 0], [0]),
  (60, .iload 4, 2, [], []),
  (62, .invokevirtual 147, 3, [22, 1, 3], [42]),
  (65, .ifCond .eq 16, 3, [43], []),
  (68, .aload_n 0, 1, [], []),
  (69, .getfield 12, 3, [11, 0], [0]),
  (72, .getfield 332, 3, [3, 6], [149]),
  (75, .iload 4, 2, [], []),
  (77, .iaload, 1, [], []),
  (78, .goto 4, 3, [44], []),
  (81, .iconst (-1), 1, [], []),
  (82, .istore 5, 2, [], []),
  (84, .aload_n 0, 1, [], []),
  (85, .getfield 51, 3, [11, 5], [20]),
  (88, .iload_n 3, 1, [], []),
  (89, .invokevirtual 335, 3, [85, 1, 9], [608]),
  (92, .iload 5, 2, [], []),
  (94, .if_icmp .eq 5, 3, [53], []),
  (97, .iload_n 3, 1, [], []),
  (98, .ireturn, 1, [0], []),
  (99, .iinc 3 1, 3, [], []),
  (102, .goto (-65), 3, [20], []),
  (105, .iload_n 2, 1, [], []),
  (106, .bipush 6, 2, [], []),
  (108, .if_icmp .ne 7, 3, [60], []),
  (111, .iconst (-1), 1, [], []),
  (112, .goto 9, 3, [63], []),
  (115, .iload_n 2, 1, [], []),
  (116, .bipush 6, 2, [], []),
  (118, .invokestatic 338, 3, [1], [253]),
  (121, .ireturn, 1, [0], [])]
def mX11_check : pv_M := (⟨"CliffGarden", "check", "(II)I"⟩, prog_1_method_32_code, 6, some .int, rX11_check)
def rX11_count : List pv_R := [
  (0, .iload_n 1, 1, [], []),
  (1, .tableswitch 102 0 6 #[43, 54, 62, 70, 81, 89, 94], 43, [31, 2, 7, 11, 15, 20, 24, 27], []),
  (44, .aload_n 0, 1, [], []),
  (45, .getfield 12, 3, [11, 0], [0]),
  (48, .getfield 107, 3, [3, 0], [108]),
  (51, .invokestatic 343, 3, [249, 1], [258]),
  (54, .ireturn, 1, [0], []),
  (55, .aload_n 0, 1, [], []),
  (56, .getfield 19, 3, [11, 1], [10]),
  (59, .getfield 225, 3, [0, 8], [111]),
  (62, .ireturn, 1, [0], []),
  (63, .aload_n 0, 1, [], []),
  (64, .getfield 26, 3, [11, 2], [7]),
  (67, .getfield 348, 3, [2, 9], [360]),
  (70, .ireturn, 1, [0], []),
  (71, .aload_n 0, 1, [], []),
  (72, .getfield 35, 3, [11, 3], [23]),
  (75, .getfield 186, 3, [1, 4], [148]),
  (78, .getfield 351, 3, [7, 7], [361]),
  (81, .ireturn, 1, [0], []),
  (82, .aload_n 0, 1, [], []),
  (83, .getfield 51, 3, [11, 5], [20]),
  (86, .getfield 176, 3, [9, 1], [51]),
  (89, .ireturn, 1, [0], []),
  (90, .aload_n 0, 1, [], []),
  (91, .getfield 92, 3, [11, 11], [64]),
  (94, .ireturn, 1, [0], []),
  (95, .aload_n 0, 1, [], []),
  (96, .getfield 12, 3, [11, 0], [0]),
  (99, .invokevirtual 354, 3, [27, 0, 3], [609]),
  (102, .ireturn, 1, [0], []),
  (103, .aload_n 0, 1, [], []),
  (104, .iload_n 1, 1, [], []),
  (105, .invokevirtual 357, 3, [127, 1, 11], [610]),
  (108, .ireturn, 1, [0], [])]
def mX11_count : pv_M := (⟨"CliffGarden", "count", "(I)I"⟩, prog_1_method_33_code, 2, some .int, rX11_count)
def rX11_countOfRow : List pv_R := [
  (0, .iload_n 1, 1, [], []),
  (1, .bipush 10, 2, [], []),
  (3, .if_icmp .lt 22, 3, [14], []),
  (6, .iload_n 1, 1, [], []),
  (7, .bipush 18, 2, [], []),
  (9, .if_icmp .ge 16, 3, [14], []),
  (12, .aload_n 0, 1, [], []),
  (13, .getfield 19, 3, [11, 1], [10]),
  (16, .getfield 157, 3, [0, 0], [146]),
  (19, .iload_n 1, 1, [], []),
  (20, .bipush 10, 2, [], []),
  (22, .isub, 1, [], []),
  (23, .iaload, 1, [], []),
  (24, .ireturn, 1, [0], []),
  (25, .iload_n 1, 1, [], []),
  (26, .bipush 20, 2, [], []),
  (28, .if_icmp .lt 9, 3, [20], []),
  (31, .iload_n 1, 1, [], []),
  (32, .bipush 38, 2, [], []),
  (34, .if_icmp .lt 5, 3, [22], []),
  (37, .iconst (-1), 1, [], []),
  (38, .ireturn, 1, [0], []),
  (39, .iload_n 1, 1, [], []),
  (40, .bipush 20, 2, [], []),
  (42, .isub, 1, [], []),
  (43, .iconst 3, 1, [], []),
  (44, .idiv, 1, [], []),
  (45, .istore_n 2, 1, [], []),
  (46, .iload_n 1, 1, [], []),
  (47, .bipush 20, 2, [], []),
  (49, .isub, 1, [], []),
  (50, .iconst 3, 1, [], []),
  (51, .irem, 1, [], []),
  (52, .istore_n 3, 1, [], []),
  (53, .iload_n 3, 1, [], []),
  (54, .ifCond .ne 13, 3, [42], []),
  (57, .aload_n 0, 1, [], []),
  (58, .getfield 12, 3, [11, 0], [0]),
  (61, .getfield 138, 3, [3, 10], [216]),
  (64, .iload_n 2, 1, [], []),
  (65, .iaload, 1, [], []),
  (66, .ireturn, 1, [0], []),
  (67, .iload_n 3, 1, [], []),
  (68, .iconst 1, 1, [], []),
  (69, .if_icmp .ne 15, 3, [51], []),
  (72, .aload_n 0, 1, [], []),
  (73, .getfield 12, 3, [11, 0], [0]),
  (76, .getfield 141, 3, [3, 11], [217]),
  (79, .iload_n 2, 1, [], []),
  (80, .iaload, 1, [], []),
  (81, .goto 12, 3, [56], []),
  (84, .aload_n 0, 1, [], []),
  (85, .getfield 12, 3, [11, 0], [0]),
  (88, .getfield 144, 3, [3, 12], [145]),
  (91, .iload_n 2, 1, [], []),
  (92, .iaload, 1, [], []),
  (93, .ireturn, 1, [0], [])]
def mX11_countOfRow : pv_M := (⟨"CliffGarden", "countOfRow", "(I)I"⟩, prog_1_method_34_code, 4, some .int, rX11_countOfRow)
def rX11_letWaterFlow : List pv_R := [
  (0, .aload_n 0, 1, [], []),
  (1, .getfield 44, 3, [11, 4], [63]),
  (4, .aload_n 0, 1, [], []),
  (5, .getfield 19, 3, [11, 1], [10]),
  (8, .getfield 157, 3, [0, 0], [146]),
  (11, .aload_n 0, 1, [], []),
  (12, .getfield 12, 3, [11, 0], [0]),
  (15, .getfield 127, 3, [3, 8], [110]),
  (18, .invokevirtual 360, 3, [87, 2, 10], [611]),
  (21, .iconst 0, 1, [], []),
  (22, .istore_n 1, 1, [], []),
  (23, .iconst 0, 1, [], []),
  (24, .istore_n 2, 1, [], []),
  (25, .iload_n 2, 1, [], []),
  (26, .bipush 8, 2, [], []),
  (28, .if_icmp .ge 42, 3, [39], []),
  (31, .aload_n 0, 1, [], []),
  (32, .getfield 19, 3, [11, 1], [10]),
  (35, .getfield 364, 3, [0, 3], [362]),
  (38, .iload_n 2, 1, [], []),
  (39, .dup2, 1, [], []),
  (40, .iaload, 1, [], []),
  (41, .aload_n 0, 1, [], []),
  (42, .getfield 44, 3, [11, 4], [63]),
  (45, .getfield 367, 3, [10, 2], [221]),
  (48, .iload_n 2, 1, [], []),
  (49, .iaload, 1, [], []),
  (50, .iadd, 1, [], []),
  (51, .iastore, 1, [], []),
  (52, .iload_n 1, 1, [], []),
  (53, .aload_n 0, 1, [], []),
  (54, .getfield 44, 3, [11, 4], [63]),
  (57, .getfield 367, 3, [10, 2], [221]),
  (60, .iload_n 2, 1, [], []),
  (61, .iaload, 1, [], []),
  (62, .iadd, 1, [], []),
  (63, .istore_n 1, 1, [], []),
  (64, .iinc 2 1, 3, [], []),
  (67, .goto (-42), 3, [13], []),
  (70, .iload_n 1, 1, [], []),
  (71, .ireturn, 1, [0], [])]
def mX11_letWaterFlow : pv_M := (⟨"CliffGarden", "letWaterFlow", "()I"⟩, prog_1_method_35_code, 3, some .int, rX11_letWaterFlow)
def rX11_letCropsGrow : List pv_R := [
  (0, .iconst 0, 1, [], []),
  (1, .istore_n 1, 1, [], []),
  (2, .iload_n 1, 1, [], []),
  (3, .bipush 48, 2, [], []),
  (5, .if_icmp .ge 62, 3, [34], []),
  (8, .aload_n 0, 1, [], []),
  (9, .getfield 12, 3, [11, 0], [0]),
  (12, .iload_n 1, 1, [], []),
  (13, .invokevirtual 147, 3, [22, 1, 3], [42]),
  (16, .ifCond .eq 45, 3, [32], []),
  (19, .aload_n 0, 1, [], []),
  (20, .getfield 12, 3, [11, 0], [0]),
  (23, .getfield 332, 3, [3, 6], [149]),
  (26, .iload_n 1, 1, [], []),
  (27, .sipush 200, 3, [], []),
  (30, .aload_n 0, 1, [], []),
  (31, .getfield 12, 3, [11, 0], [0]),
  (34, .getfield 332, 3, [3, 6], [149]),
  (37, .iload_n 1, 1, [], []),
  (38, .iaload, 1, [], []),
  (39, .aload_n 0, 1, [], []),
  (40, .getfield 35, 3, [11, 3], [23]),
  (43, .iload_n 1, 1, [], []),
  (44, .aload_n 0, 1, [], []),
  (45, .getfield 12, 3, [11, 0], [0]),
  (48, .getfield 127, 3, [3, 8], [110]),
  (51, .iload_n 1, 1, [], []),
  (52, .iaload, 1, [], []),
  (53, .invokevirtual 196, 3, [4, 2, 1], [278]),
  (56, .iadd, 1, [], []),
  (57, .invokestatic 338, 3, [1], [253]),
  (60, .iastore, 1, [], []),
  (61, .iinc 1 1, 3, [], []),
  (64, .goto (-62), 3, [2], []),
  (67, .return_, 1, [], [])]
def mX11_letCropsGrow : pv_M := (⟨"CliffGarden", "letCropsGrow", "()V"⟩, prog_1_method_36_code, 2, none, rX11_letCropsGrow)
def rX11_letCropsFall : List pv_R := [
  (0, .iconst 0, 1, [], []),
  (1, .istore_n 1, 1, [], []),
  (2, .iload_n 1, 1, [], []),
  (3, .bipush 48, 2, [], []),
  (5, .if_icmp .ge 65, 3, [36], []),
  (8, .aload_n 0, 1, [], []),
  (9, .getfield 12, 3, [11, 0], [0]),
  (12, .iload_n 1, 1, [], []),
  (13, .invokevirtual 147, 3, [22, 1, 3], [42]),
  (16, .ifCond .eq 48, 3, [34], []),
  (19, .aload_n 0, 1, [], []),
  (20, .sipush 25173, 3, [], []),
  (23, .aload_n 0, 1, [], []),
  (24, .getfield 92, 3, [11, 11], [64]),
  (27, .imul, 1, [], []),
  (28, .sipush 13849, 3, [], []),
  (31, .iadd, 1, [], []),
  (32, .ldc 175, 2, [65535], [240]),
  (34, .iand, 1, [], []),
  (35, .putfield 92, 3, [11, 11], [64]),
  (38, .aload_n 0, 1, [], []),
  (39, .getfield 92, 3, [11, 11], [64]),
  (42, .sipush 1000, 3, [], []),
  (45, .irem, 1, [], []),
  (46, .aload_n 0, 1, [], []),
  (47, .getfield 35, 3, [11, 3], [23]),
  (50, .iload_n 1, 1, [], []),
  (51, .invokevirtual 199, 3, [5, 1, 1], [279]),
  (54, .if_icmp .ge 10, 3, [34], []),
  (57, .aload_n 0, 1, [], []),
  (58, .iload_n 1, 1, [], []),
  (59, .iconst 1, 1, [], []),
  (60, .invokevirtual 206, 3, [134, 2, 11], [178]),
  (63, .pop, 1, [], []),
  (64, .iinc 1 1, 3, [], []),
  (67, .goto (-65), 3, [2], []),
  (70, .return_, 1, [], [])]
def mX11_letCropsFall : pv_M := (⟨"CliffGarden", "letCropsFall", "()V"⟩, prog_1_method_37_code, 2, none, rX11_letCropsFall)
def rX11_letKnotsAge : List pv_R := [
  (0, .iconst 0, 1, [], []),
  (1, .istore_n 1, 1, [], []),
  (2, .iload_n 1, 1, [], []),
  (3, .bipush 48, 2, [], []),
  (5, .if_icmp .ge 51, 3, [29], []),
  (8, .aload_n 0, 1, [], []),
  (9, .getfield 12, 3, [11, 0], [0]),
  (12, .iload_n 1, 1, [], []),
  (13, .invokevirtual 103, 3, [21, 1, 3], [41]),
  (16, .ifCond .eq 34, 3, [27], []),
  (19, .aload_n 0, 1, [], []),
  (20, .getfield 12, 3, [11, 0], [0]),
  (23, .getfield 115, 3, [3, 1], [109]),
  (26, .iload_n 1, 1, [], []),
  (27, .iconst 0, 1, [], []),
  (28, .aload_n 0, 1, [], []),
  (29, .getfield 12, 3, [11, 0], [0]),
  (32, .getfield 115, 3, [3, 1], [109]),
  (35, .iload_n 1, 1, [], []),
  (36, .iaload, 1, [], []),
  (37, .aload_n 0, 1, [], []),
  (38, .getfield 35, 3, [11, 3], [23]),
  (41, .iload_n 1, 1, [], []),
  (42, .invokevirtual 192, 3, [6, 1, 1], [277]),
  (45, .isub, 1, [], []),
  (46, .invokestatic 370, 3, [0], [544]),
  (49, .iastore, 1, [], []),
  (50, .iinc 1 1, 3, [], []),
  (53, .goto (-51), 3, [2], []),
  (56, .return_, 1, [], [])]
def mX11_letKnotsAge : pv_M := (⟨"CliffGarden", "letKnotsAge", "()V"⟩, prog_1_method_38_code, 2, none, rX11_letKnotsAge)
def rX11_letKnotsGo : List pv_R := [
  (0, .iconst 0, 1, [], []),
  (1, .istore_n 1, 1, [], []),
  (2, .iconst 0, 1, [], []),
  (3, .istore_n 2, 1, [], []),
  (4, .iload_n 2, 1, [], []),
  (5, .bipush 48, 2, [], []),
  (7, .if_icmp .ge 32, 3, [24], []),
  (10, .aload_n 0, 1, [], []),
  (11, .getfield 12, 3, [11, 0], [0]),
  (14, .invokevirtual 373, 3, [31, 0, 3], [612]),
  (17, .istore_n 3, 1, [], []),
  (18, .iload_n 3, 1, [], []),
  (19, .iconst (-1), 1, [], []),
  (20, .if_icmp .ne 5, 3, [16], []),
  (23, .iload_n 1, 1, [], []),
  (24, .ireturn, 1, [0], []),
  (25, .iload_n 1, 1, [], []),
  (26, .aload_n 0, 1, [], []),
  (27, .iload_n 3, 1, [], []),
  (28, .invokevirtual 376, 3, [133, 1, 11], [613]),
  (31, .iadd, 1, [], []),
  (32, .istore_n 1, 1, [], []),
  (33, .iinc 2 1, 3, [], []),
  (36, .goto (-32), 3, [4], []),
  (39, .iload_n 1, 1, [], []),
  (40, .ireturn, 1, [0], [])]
def mX11_letKnotsGo : pv_M := (⟨"CliffGarden", "letKnotsGo", "()I"⟩, prog_1_method_39_code, 4, some .int, rX11_letKnotsGo)
def rX11_tearDown : List pv_R := [
  (0, .aload_n 0, 1, [], []),
  (1, .getfield 12, 3, [11, 0], [0]),
  (4, .iload_n 1, 1, [], []),
  (5, .invokevirtual 379, 3, [29, 1, 3], [614]),
  (8, .istore_n 2, 1, [], []),
  (9, .iconst 0, 1, [], []),
  (10, .istore_n 3, 1, [], []),
  (11, .iload_n 1, 1, [], []),
  (12, .invokestatic 382, 3, [20, 1], [557]),
  (15, .iconst 1, 1, [], []),
  (16, .isub, 1, [], []),
  (17, .istore 4, 2, [], []),
  (19, .iload 4, 2, [], []),
  (21, .iload_n 1, 1, [], []),
  (22, .if_icmp .lt 66, 3, [45], []),
  (25, .aload_n 0, 1, [], []),
  (26, .getfield 12, 3, [11, 0], [0]),
  (29, .iload 4, 2, [], []),
  (31, .invokevirtual 103, 3, [21, 1, 3], [41]),
  (34, .ifCond .eq 48, 3, [43], []),
  (37, .aload_n 0, 1, [], []),
  (38, .getfield 12, 3, [11, 0], [0]),
  (41, .iload 4, 2, [], []),
  (43, .invokevirtual 147, 3, [22, 1, 3], [42]),
  (46, .ifCond .eq 11, 3, [30], []),
  (49, .aload_n 0, 1, [], []),
  (50, .iload 4, 2, [], []),
  (52, .iconst 0, 1, [], []),
  (53, .invokevirtual 206, 3, [134, 2, 11], [178]),
  (56, .pop, 1, [], []),
  (57, .aload_n 0, 1, [], []),
  (58, .getfield 12, 3, [11, 0], [0]),
  (61, .getfield 111, 3, [3, 2], [215]),
  (64, .iload 4, 2, [], []),
  (66, .iconst 0, 1, [], []),
  (67, .iastore, 1, [], []),
  (68, .aload_n 0, 1, [], []),
  (69, .getfield 12, 3, [11, 0], [0]),
  (72, .getfield 124, 3, [3, 7], [144]),
  (75, .iload 4, 2, [], []),
  (77, .iconst 0, 1, [], []),
  (78, .iastore, 1, [], []),
  (79, .iinc 3 1, 3, [], []),
  (82, .iinc 4 (-1), 3, [], []),
  (85, .goto (-66), 3, [12], []),
  (88, .aload_n 0, 1, [], []),
  (89, .getfield 12, 3, [11, 0], [0]),
  (92, .iload_n 1, 1, [], []),
  (93, .iload_n 2, 1, [], []),
  (94, .invokevirtual 385, 3, [32, 2, 3], [615]),
  (97, .iload_n 3, 1, [], []),
  (98, .ireturn, 1, [0], [])]
def mX11_tearDown : pv_M := (⟨"CliffGarden", "tearDown", "(I)I"⟩, prog_1_method_40_code, 5, some .int, rX11_tearDown)
def rX11_dropCrop : List pv_R := [
  (0, .aload_n 0, 1, [], []),
  (1, .getfield 26, 3, [11, 2], [7]),
  (4, .aload_n 0, 1, [], []),
  (5, .getfield 12, 3, [11, 0], [0]),
  (8, .iload_n 1, 1, [], []),
  (9, .aload_n 0, 1, [], []),
  (10, .getfield 19, 3, [11, 1], [10]),
  (13, .getfield 225, 3, [0, 8], [111]),
  (16, .invokevirtual 388, 3, [15, 3, 2], [616]),
  (19, .istore_n 3, 1, [], []),
  (20, .aload_n 0, 1, [], []),
  (21, .getfield 12, 3, [11, 0], [0]),
  (24, .iload_n 1, 1, [], []),
  (25, .invokevirtual 130, 3, [26, 1, 3], [276]),
  (28, .iload_n 2, 1, [], []),
  (29, .ifCond .eq 14, 3, [21], []),
  (32, .aload_n 0, 1, [], []),
  (33, .getfield 35, 3, [11, 3], [23]),
  (36, .iload_n 3, 1, [], []),
  (37, .invokevirtual 392, 3, [7, 1, 1], [617]),
  (40, .goto 5, 3, [22], []),
  (43, .bipush 6, 2, [], []),
  (45, .istore 4, 2, [], []),
  (47, .aload_n 0, 1, [], []),
  (48, .getfield 26, 3, [11, 2], [7]),
  (51, .getfield 395, 3, [2, 5], [363]),
  (54, .iload_n 3, 1, [], []),
  (55, .iload 4, 2, [], []),
  (57, .iastore, 1, [], []),
  (58, .iload 4, 2, [], []),
  (60, .bipush 6, 2, [], []),
  (62, .if_icmp .ge 55, 3, [64], []),
  (65, .aload_n 0, 1, [], []),
  (66, .getfield 12, 3, [11, 0], [0]),
  (69, .getfield 124, 3, [3, 7], [144]),
  (72, .iload_n 1, 1, [], []),
  (73, .iload_n 1, 1, [], []),
  (74, .bipush 6, 2, [], []),
  (76, .irem, 1, [], []),
  (77, .isub, 1, [], []),
  (78, .iload 4, 2, [], []),
  (80, .iadd, 1, [], []),
  (81, .dup2, 1, [], []),
  (82, .iaload, 1, [], []),
  (83, .aload_n 0, 1, [], []),
  (84, .getfield 26, 3, [11, 2], [7]),
  (87, .getfield 398, 3, [2, 2], [150]),
  (90, .iload_n 3, 1, [], []),
  (91, .iaload, 1, [], []),
  (92, .iadd, 1, [], []),
  (93, .iastore, 1, [], []),
  (94, .aload_n 0, 1, [], []),
  (95, .getfield 26, 3, [11, 2], [7]),
  (98, .getfield 241, 3, [2, 6], [83]),
  (101, .iload_n 3, 1, [], []),
  (102, .iconst (-1), 1, [], []),
  (103, .iastore, 1, [], []),
  (104, .aload_n 0, 1, [], []),
  (105, .getfield 26, 3, [11, 2], [7]),
  (108, .getfield 247, 3, [2, 7], [65]),
  (111, .iload_n 3, 1, [], []),
  (112, .iconst 0, 1, [], []),
  (113, .iastore, 1, [], []),
  (114, .goto 26, 3, [77], []),
  (117, .aload_n 0, 1, [], []),
  (118, .getfield 26, 3, [11, 2], [7]),
  (121, .getfield 241, 3, [2, 6], [83]),
  (124, .iload_n 3, 1, [], []),
  (125, .aload_n 0, 1, [], []),
  (126, .getfield 35, 3, [11, 3], [23]),
  (129, .iload_n 3, 1, [], []),
  (130, .invokevirtual 399, 3, [8, 1, 1], [618]),
  (133, .iastore, 1, [], []),
  (134, .aload_n 0, 1, [], []),
  (135, .iload_n 3, 1, [], []),
  (136, .iload_n 1, 1, [], []),
  (137, .invokevirtual 402, 3, [135, 2, 11], [619]),
  (140, .aload_n 0, 1, [], []),
  (141, .getfield 26, 3, [11, 2], [7]),
  (144, .invokevirtual 405, 3, [16, 0, 2], [620]),
  (147, .iload 4, 2, [], []),
  (149, .ireturn, 1, [0], [])]
def mX11_dropCrop : pv_M := (⟨"CliffGarden", "dropCrop", "(IZ)I"⟩, prog_1_method_41_code, 5, some .int, rX11_dropCrop)
def rX11_landInKitchen : List pv_R := [
  (0, .aload_n 0, 1, [], []),
  (1, .getfield 26, 3, [11, 2], [7]),
  (4, .getfield 241, 3, [2, 6], [83]),
  (7, .iload_n 1, 1, [], []),
  (8, .iaload, 1, [], []),
  (9, .istore_n 3, 1, [], []),
  (10, .iload_n 2, 1, [], []),
  (11, .bipush 6, 2, [], []),
  (13, .idiv, 1, [], []),
  (14, .istore 4, 2, [], []),
  (16, .aload_n 0, 1, [], []),
  (17, .getfield 26, 3, [11, 2], [7]),
  (20, .getfield 247, 3, [2, 7], [65]),
  (23, .iload_n 1, 1, [], []),
  (24, .aload_n 0, 1, [], []),
  (25, .getfield 26, 3, [11, 2], [7]),
  (28, .getfield 398, 3, [2, 2], [150]),
  (31, .iload_n 1, 1, [], []),
  (32, .iaload, 1, [], []),
  (33, .aload_n 0, 1, [], []),
  (34, .getfield 12, 3, [11, 0], [0]),
  (37, .getfield 144, 3, [3, 12], [145]),
  (40, .aload_n 0, 1, [], []),
  (41, .getfield 26, 3, [11, 2], [7]),
  (44, .getfield 408, 3, [2, 1], [364]),
  (47, .iload_n 1, 1, [], []),
  (48, .iaload, 1, [], []),
  (49, .iaload, 1, [], []),
  (50, .imul, 1, [], []),
  (51, .iastore, 1, [], []),
  (52, .aload_n 0, 1, [], []),
  (53, .getfield 19, 3, [11, 1], [10]),
  (56, .getfield 244, 3, [0, 7], [112]),
  (59, .iload_n 3, 1, [], []),
  (60, .dup2, 1, [], []),
  (61, .iaload, 1, [], []),
  (62, .aload_n 0, 1, [], []),
  (63, .getfield 26, 3, [11, 2], [7]),
  (66, .getfield 247, 3, [2, 7], [65]),
  (69, .iload_n 1, 1, [], []),
  (70, .iaload, 1, [], []),
  (71, .iadd, 1, [], []),
  (72, .iastore, 1, [], []),
  (73, .aload_n 0, 1, [], []),
  (74, .getfield 26, 3, [11, 2], [7]),
  (77, .getfield 398, 3, [2, 2], [150]),
  (80, .iload_n 1, 1, [], []),
  (81, .iaload, 1, [], []),
  (82, .bipush 6, 2, [], []),
  (84, .iload_n 2, 1, [], []),
  (85, .bipush 6, 2, [], []),
  (87, .irem, 1, [], []),
  (88, .isub, 1, [], []),
  (89, .imul, 1, [], []),
  (90, .aload_n 0, 1, [], []),
  (91, .getfield 19, 3, [11, 1], [10]),
  (94, .getfield 166, 3, [0, 2], [147]),
  (97, .iload 4, 2, [], []),
  (99, .iaload, 1, [], []),
  (100, .if_icmp .le 17, 3, [69], []),
  (103, .aload_n 0, 1, [], []),
  (104, .getfield 19, 3, [11, 1], [10]),
  (107, .getfield 409, 3, [0, 4], [365]),
  (110, .iload 4, 2, [], []),
  (112, .dup2, 1, [], []),
  (113, .iaload, 1, [], []),
  (114, .iconst 1, 1, [], []),
  (115, .iadd, 1, [], []),
  (116, .iastore, 1, [], []),
  (117, .return_, 1, [], [])]
def mX11_landInKitchen : pv_M := (⟨"CliffGarden", "landInKitchen", "(II)V"⟩, prog_1_method_42_code, 5, none, rX11_landInKitchen)
def rX11_claimantOf : List pv_R := [
  (0, .iconst 0, 1, [], []),
  (1, .istore_n 3, 1, [], []),
  (2, .bipush (-2), 2, [], []),
  (4, .istore 4, 2, [], []),
  (6, .iconst 0, 1, [], []),
  (7, .istore 5, 2, [], []),
  (9, .iload 5, 2, [], []),
  (11, .bipush 8, 2, [], []),
  (13, .if_icmp .ge 43, 3, [30], []),
  (16, .iload_n 2, 1, [], []),
  (17, .iload 5, 2, [], []),
  (19, .ishr, 1, [], []),
  (20, .iconst 1, 1, [], []),
  (21, .iand, 1, [], []),
  (22, .ifCond .eq 28, 3, [28], []),
  (25, .aload_n 0, 1, [], []),
  (26, .getfield 35, 3, [11, 3], [23]),
  (29, .iload_n 1, 1, [], []),
  (30, .iload 5, 2, [], []),
  (32, .invokevirtual 412, 3, [9, 2, 1], [621]),
  (35, .istore 6, 2, [], []),
  (37, .iload 6, 2, [], []),
  (39, .iload_n 3, 1, [], []),
  (40, .if_icmp .le 10, 3, [28], []),
  (43, .iload 6, 2, [], []),
  (45, .istore_n 3, 1, [], []),
  (46, .iload 5, 2, [], []),
  (48, .istore 4, 2, [], []),
  (50, .iinc 5 1, 3, [], []),
  (53, .goto (-44), 3, [6], []),
  (56, .iload 4, 2, [], []),
  (58, .ireturn, 1, [0], [])]
def mX11_claimantOf : pv_M := (⟨"CliffGarden", "claimantOf", "(II)I"⟩, prog_1_method_43_code, 7, some .int, rX11_claimantOf)
def rX11_hungCell : List pv_R := [
  (0, .iload_n 1, 1, [], []),
  (1, .iload_n 2, 1, [], []),
  (2, .invokestatic 96, 3, [141, 2], [90]),
  (5, .ifCond .eq 19, 3, [13], []),
  (8, .aload_n 0, 1, [], []),
  (9, .getfield 12, 3, [11, 0], [0]),
  (12, .iload_n 1, 1, [], []),
  (13, .bipush 6, 2, [], []),
  (15, .imul, 1, [], []),
  (16, .iload_n 2, 1, [], []),
  (17, .iadd, 1, [], []),
  (18, .invokevirtual 103, 3, [21, 1, 3], [41]),
  (21, .ifCond .ne 5, 3, [15], []),
  (24, .iconst (-1), 1, [], []),
  (25, .ireturn, 1, [0], []),
  (26, .iload_n 1, 1, [], []),
  (27, .bipush 6, 2, [], []),
  (29, .imul, 1, [], []),
  (30, .iload_n 2, 1, [], []),
  (31, .iadd, 1, [], []),
  (32, .ireturn, 1, [0], [])]
def mX11_hungCell : pv_M := (⟨"CliffGarden", "hungCell", "(II)I"⟩, prog_1_method_44_code, 3, some .int, rX11_hungCell)
def rX11_within : List pv_R := [
  (0, .iload_n 0, 1, [], []),
  (1, .ifCond .lt 12, 3, [7], []),
  (4, .iload_n 0, 1, [], []),
  (5, .iload_n 1, 1, [], []),
  (6, .if_icmp .gt 7, 3, [7], []),
  (9, .iconst 1, 1, [], []),
  (10, .goto 4, 3, [8], []),
  (13, .iconst 0, 1, [], []),
  (14, .ireturn, 1, [1], [])]
def mX11_within : pv_M := (⟨"CliffGarden", "within", "(II)Z"⟩, prog_1_method_45_code, 2, some .boolean, rX11_within)
def rX11_isColumn : List pv_R := [
  (0, .iload_n 0, 1, [], []),
  (1, .bipush 7, 2, [], []),
  (3, .invokestatic 100, 3, [138, 2], [11]),
  (6, .ireturn, 1, [1], [])]
def mX11_isColumn : pv_M := (⟨"CliffGarden", "isColumn", "(I)Z"⟩, prog_1_method_46_code, 1, some .boolean, rX11_isColumn)
def rX11_isPerson : List pv_R := [
  (0, .iload_n 0, 1, [], []),
  (1, .bipush 7, 2, [], []),
  (3, .invokestatic 100, 3, [138, 2], [11]),
  (6, .ireturn, 1, [1], [])]
def mX11_isPerson : pv_M := (⟨"CliffGarden", "isPerson", "(I)Z"⟩, prog_1_method_47_code, 1, some .boolean, rX11_isPerson)
def rX11_isCell : List pv_R := [
  (0, .iload_n 0, 1, [], []),
  (1, .invokestatic 154, 3, [139, 1], [33]),
  (4, .ifCond .eq 15, 3, [9], []),
  (7, .iload_n 1, 1, [], []),
  (8, .iconst 5, 1, [], []),
  (9, .invokestatic 100, 3, [138, 2], [11]),
  (12, .ifCond .eq 7, 3, [9], []),
  (15, .iconst 1, 1, [], []),
  (16, .goto 4, 3, [10], []),
  (19, .iconst 0, 1, [], []),
  (20, .ireturn, 1, [1], [])]
def mX11_isCell : pv_M := (⟨"CliffGarden", "isCell", "(II)Z"⟩, prog_1_method_48_code, 2, some .boolean, rX11_isCell)
def rX11_isTold : List pv_R := [
  (0, .lload_n 0, 1, [], []),
  (1, .iload_n 2, 1, [], []),
  (2, .lushr, 1, [], []),
  (3, .lconst 1, 1, [], []),
  (4, .land, 1, [], []),
  (5, .lconst 0, 1, [], []),
  (6, .lcmp, 1, [], []),
  (7, .ifCond .eq 7, 3, [10], []),
  (10, .iconst 1, 1, [], []),
  (11, .goto 4, 3, [11], []),
  (14, .iconst 0, 1, [], []),
  (15, .ireturn, 1, [1], [])]
def mX11_isTold : pv_M := (⟨"CliffGarden", "isTold", "(JI)Z"⟩, prog_1_method_49_code, 3, some .boolean, rX11_isTold)
def rX11_toldCells : List pv_R := [
  (0, .lload_n 0, 1, [], []),
  (1, .invokestatic 343, 3, [249, 1], [258]),
  (4, .istore_n 3, 1, [], []),
  (5, .lload_n 0, 1, [], []),
  (6, .bipush 48, 2, [], []),
  (8, .lushr, 1, [], []),
  (9, .lconst 0, 1, [], []),
  (10, .lcmp, 1, [], []),
  (11, .ifCond .ne 8, 3, [12], []),
  (14, .iload_n 3, 1, [], []),
  (15, .iload_n 2, 1, [], []),
  (16, .if_icmp .le 7, 3, [14], []),
  (19, .iconst 0, 1, [], []),
  (20, .goto 4, 3, [15], []),
  (23, .iload_n 3, 1, [], []),
  (24, .ireturn, 1, [0], [])]
def mX11_toldCells : pv_M := (⟨"CliffGarden", "toldCells", "(JI)I"⟩, prog_1_method_50_code, 4, some .int, rX11_toldCells)
def rX12_init : List pv_R := [
  (0, .aload_n 0, 1, [], []),
  (1, .invokespecial 1, 3, [9], [536]),
  (4, .aload_n 0, 1, [], []),
  (5, .bipush 48, 2, [], []),
  (7, .newarray .boolean, 2, [], []),
  (9, .putfield 7, 3, [12, 4], [442]),
  (12, .aload_n 0, 1, [], []),
  (13, .bipush 48, 2, [], []),
  (15, .newarray .boolean, 2, [], []),
  (17, .putfield 13, 3, [12, 5], [443]),
  (20, .aload_n 0, 1, [], []),
  (21, .bipush 48, 2, [], []),
  (23, .newarray .int, 2, [], []),
  (25, .putfield 16, 3, [12, 6], [444]),
  (28, .aload_n 0, 1, [], []),
  (29, .bipush 48, 2, [], []),
  (31, .newarray .int, 2, [], []),
  (33, .putfield 20, 3, [12, 7], [445]),
  (36, .aload_n 0, 1, [], []),
  (37, .bipush 48, 2, [], []),
  (39, .newarray .int, 2, [], []),
  (41, .putfield 23, 3, [12, 8], [446]),
  (44, .aload_n 0, 1, [], []),
  (45, .bipush 48, 2, [], []),
  (47, .newarray .int, 2, [], []),
  (49, .putfield 26, 3, [12, 9], [447]),
  (52, .aload_n 0, 1, [], []),
  (53, .bipush 48, 2, [], []),
  (55, .newarray .int, 2, [], []),
  (57, .putfield 29, 3, [12, 10], [448]),
  (60, .aload_n 0, 1, [], []),
  (61, .bipush 48, 2, [], []),
  (63, .newarray .int, 2, [], []),
  (65, .putfield 32, 3, [12, 11], [449]),
  (68, .aload_n 0, 1, [], []),
  (69, .bipush 48, 2, [], []),
  (71, .newarray .int, 2, [], []),
  (73, .putfield 35, 3, [12, 12], [450]),
  (76, .aload_n 0, 1, [], []),
  (77, .bipush 48, 2, [], []),
  (79, .newarray .int, 2, [], []),
  (81, .putfield 38, 3, [12, 13], [451]),
  (84, .aload_n 0, 1, [], []),
  (85, .bipush 6, 2, [], []),
  (87, .newarray .int, 2, [], []),
  (89, .putfield 41, 3, [12, 14], [452]),
  (92, .aload_n 0, 1, [], []),
  (93, .bipush 6, 2, [], []),
  (95, .newarray .int, 2, [], []),
  (97, .putfield 44, 3, [12, 15], [453]),
  (100, .aload_n 0, 1, [], []),
  (101, .bipush 6, 2, [], []),
  (103, .newarray .int, 2, [], []),
  (105, .putfield 47, 3, [12, 16], [454]),
  (108, .aload_n 0, 1, [], []),
  (109, .bipush 8, 2, [], []),
  (111, .newarray .int, 2, [], []),
  (113, .putfield 50, 3, [12, 17], [455]),
  (116, .aload_n 0, 1, [], []),
  (117, .bipush 8, 2, [], []),
  (119, .newarray .int, 2, [], []),
  (121, .putfield 53, 3, [12, 18], [456]),
  (124, .aload_n 0, 1, [], []),
  (125, .bipush 8, 2, [], []),
  (127, .newarray .int, 2, [], []),
  (129, .putfield 56, 3, [12, 19], [457]),
  (132, .aload_n 0, 1, [], []),
  (133, .bipush 8, 2, [], []),
  (135, .newarray .int, 2, [], []),
  (137, .putfield 59, 3, [12, 20], [458]),
  (140, .aload_n 0, 1, [], []),
  (141, .bipush 8, 2, [], []),
  (143, .newarray .int, 2, [], []),
  (145, .putfield 62, 3, [12, 21], [459]),
  (148, .aload_n 0, 1, [], []),
  (149, .bipush 8, 2, [], []),
  (151, .newarray .int, 2, [], []),
  (153, .putfield 65, 3, [12, 22], [460]),
  (156, .aload_n 0, 1, [], []),
  (157, .bipush 8, 2, [], []),
  (159, .newarray .int, 2, [], []),
  (161, .putfield 68, 3, [12, 23], [461]),
  (164, .aload_n 0, 1, [], []),
  (165, .bipush 8, 2, [], []),
  (167, .newarray .int, 2, [], []),
  (169, .putfield 71, 3, [12, 24], [462]),
  (172, .aload_n 0, 1, [], []),
  (173, .sipush 220, 3, [], []),
  (176, .newarray .byte, 2, [], []),
  (178, .putfield 74, 3, [12, 25], [463]),
  (181, .aload_n 0, 1, [], []),
  (182, .sipush 220, 3, [], []),
  (185, .newarray .int, 2, [], []),
  (187, .putfield 78, 3, [12, 36], [464]),
  (190, .aload_n 0, 1, [], []),
  (191, .sipush 220, 3, [], []),
  (194, .newarray .int, 2, [], []),
  (196, .putfield 81, 3, [12, 37], [465]),
  (199, .aload_n 0, 1, [], []),
  (200, .bipush 14, 2, [], []),
  (202, .newarray .int, 2, [], []),
  (204, .putfield 84, 3, [12, 38], [466]),
  (207, .aload_n 0, 1, [], []),
  (208, .bipush 14, 2, [], []),
  (210, .newarray .int, 2, [], []),
  (212, .putfield 87, 3, [12, 39], [467]),
  (215, .aload_n 0, 1, [], []),
  (216, .bipush 14, 2, [], []),
  (218, .newarray .int, 2, [], []),
  (220, .putfield 90, 3, [12, 40], [468]),
  (223, .aload_n 0, 1, [], []),
  (224, .bipush 14, 2, [], []),
  (226, .newarray .int, 2, [], []),
  (228, .putfield 93, 3, [12, 41], [469]),
  (231, .aload_n 0, 1, [], []),
  (232, .sipush 220, 3, [], []),
  (235, .newarray .int, 2, [], []),
  (237, .putfield 96, 3, [12, 42], [470]),
  (240, .aload_n 0, 1, [], []),
  (241, .bipush 14, 2, [], []),
  (243, .newarray .int, 2, [], []),
  (245, .putfield 99, 3, [12, 43], [471]),
  (248, .aload_n 0, 1, [], []),
  (249, .bipush 14, 2, [], []),
  (251, .newarray .int, 2, [], []),
  (253, .putfield 102, 3, [12, 44], [472]),
  (256, .aload_n 0, 1, [], []),
  (257, .bipush 14, 2, [], []),
  (259, .newarray .int, 2, [], []),
  (261, .putfield 105, 3, [12, 45], [473]),
  (264, .aload_n 0, 1, [], []),
  (265, .bipush 14, 2, [], []),
  (267, .newarray .int, 2, [], []),
  (269, .putfield 108, 3, [12, 46], [474]),
  (272, .aload_n 0, 1, [], []),
  (273, .sipush 220, 3, [], []),
  (276, .newarray .int, 2, [], []),
  (278, .putfield 111, 3, [12, 47], [475]),
  (281, .aload_n 0, 1, [], []),
  (282, .bipush 14, 2, [], []),
  (284, .newarray .int, 2, [], []),
  (286, .putfield 114, 3, [12, 48], [476]),
  (289, .aload_n 0, 1, [], []),
  (290, .bipush 8, 2, [], []),
  (292, .newarray .int, 2, [], []),
  (294, .putfield 117, 3, [12, 49], [477]),
  (297, .aload_n 0, 1, [], []),
  (298, .bipush 8, 2, [], []),
  (300, .newarray .int, 2, [], []),
  (302, .putfield 120, 3, [12, 50], [478]),
  (305, .aload_n 0, 1, [], []),
  (306, .bipush 60, 2, [], []),
  (308, .newarray .int, 2, [], []),
  (310, .putfield 123, 3, [12, 51], [479]),
  (313, .aload_n 0, 1, [], []),
  (314, .bipush 60, 2, [], []),
  (316, .newarray .int, 2, [], []),
  (318, .putfield 126, 3, [12, 52], [480]),
  (321, .aload_n 0, 1, [], []),
  (322, .bipush 60, 2, [], []),
  (324, .newarray .int, 2, [], []),
  (326, .putfield 129, 3, [12, 53], [481]),
  (329, .aload_n 0, 1, [], []),
  (330, .bipush 60, 2, [], []),
  (332, .newarray .int, 2, [], []),
  (334, .putfield 132, 3, [12, 54], [482]),
  (337, .aload_n 0, 1, [], []),
  (338, .bipush 60, 2, [], []),
  (340, .newarray .int, 2, [], []),
  (342, .putfield 135, 3, [12, 55], [483]),
  (345, .aload_n 0, 1, [], []),
  (346, .bipush 60, 2, [], []),
  (348, .newarray .int, 2, [], []),
  (350, .putfield 138, 3, [12, 56], [484]),
  (353, .aload_n 0, 1, [], []),
  (354, .bipush 60, 2, [], []),
  (356, .newarray .int, 2, [], []),
  (358, .putfield 141, 3, [12, 57], [485]),
  (361, .aload_n 0, 1, [], []),
  (362, .bipush 60, 2, [], []),
  (364, .newarray .boolean, 2, [], []),
  (366, .putfield 144, 3, [12, 58], [486]),
  (369, .aload_n 0, 1, [], []),
  (370, .bipush 60, 2, [], []),
  (372, .newarray .boolean, 2, [], []),
  (374, .putfield 147, 3, [12, 59], [487]),
  (377, .aload_n 0, 1, [], []),
  (378, .bipush 48, 2, [], []),
  (380, .newarray .boolean, 2, [], []),
  (382, .putfield 150, 3, [12, 60], [488]),
  (385, .aload_n 0, 1, [], []),
  (386, .bipush 48, 2, [], []),
  (388, .newarray .int, 2, [], []),
  (390, .putfield 153, 3, [12, 61], [489]),
  (393, .aload_n 0, 1, [], []),
  (394, .bipush 48, 2, [], []),
  (396, .newarray .int, 2, [], []),
  (398, .putfield 156, 3, [12, 62], [490]),
  (401, .aload_n 0, 1, [], []),
  (402, .bipush 8, 2, [], []),
  (404, .newarray .int, 2, [], []),
  (406, .putfield 159, 3, [12, 64], [491]),
  (409, .aload_n 0, 1, [], []),
  (410, .bipush 8, 2, [], []),
  (412, .newarray .int, 2, [], []),
  (414, .putfield 162, 3, [12, 65], [492]),
  (417, .aload_n 0, 1, [], []),
  (418, .bipush 8, 2, [], []),
  (420, .newarray .int, 2, [], []),
  (422, .putfield 165, 3, [12, 66], [493]),
  (425, .aload_n 0, 1, [], []),
  (426, .sipush 2048, 3, [], []),
  (429, .newarray .int, 2, [], []),
  (431, .putfield 168, 3, [12, 67], [494]),
  (434, .aload_n 0, 1, [], []),
  (435, .bipush 8, 2, [], []),
  (437, .newarray .long, 2, [], []),
  (439, .putfield 171, 3, [12, 68], [495]),
  (442, .aload_n 0, 1, [], []),
  (443, .bipush 8, 2, [], []),
  (445, .newarray .long, 2, [], []),
  (447, .putfield 175, 3, [12, 69], [496]),
  (450, .aload_n 0, 1, [], []),
  (451, .bipush 8, 2, [], []),
  (453, .newarray .long, 2, [], []),
  (455, .putfield 178, 3, [12, 70], [497]),
  (458, .aload_n 0, 1, [], []),
  (459, .bipush 8, 2, [], []),
  (461, .newarray .long, 2, [], []),
  (463, .putfield 181, 3, [12, 71], [498]),
  (466, .aload_n 0, 1, [], []),
  (467, .bipush 48, 2, [], []),
  (469, .newarray .int, 2, [], []),
  (471, .putfield 184, 3, [12, 72], [499]),
  (474, .aload_n 0, 1, [], []),
  (475, .bipush 48, 2, [], []),
  (477, .newarray .int, 2, [], []),
  (479, .putfield 187, 3, [12, 73], [500]),
  (482, .aload_n 0, 1, [], []),
  (483, .iconst 4, 1, [], []),
  (484, .newarray .int, 2, [], []),
  (486, .putfield 190, 3, [12, 74], [501]),
  (489, .aload_n 0, 1, [], []),
  (490, .iconst 4, 1, [], []),
  (491, .newarray .int, 2, [], []),
  (493, .putfield 193, 3, [12, 75], [502]),
  (496, .aload_n 0, 1, [], []),
  (497, .iconst 4, 1, [], []),
  (498, .newarray .int, 2, [], []),
  (500, .putfield 196, 3, [12, 76], [503]),
  (503, .aload_n 0, 1, [], []),
  (504, .sipush 256, 3, [], []),
  (507, .newarray .int, 2, [], []),
  (509, .putfield 199, 3, [12, 77], [504]),
  (512, .iconst 0, 1, [], []),
  (513, .istore_n 1, 1, [], []),
  (514, .iload_n 1, 1, [], []),
  (515, .bipush 6, 2, [], []),
  (517, .if_icmp .ge 31, 3, [276], []),
  (520, .aload_n 0, 1, [], []),
  (521, .getfield 41, 3, [12, 14], [113]),
  (524, .iload_n 1, 1, [], []),
  (525, .iconst 1, 1, [], []),
  (526, .iastore, 1, [], []),
  (527, .aload_n 0, 1, [], []),
  (528, .getfield 44, 3, [12, 15], [45]),
  (531, .iload_n 1, 1, [], []),
  (532, .bipush 50, 2, [], []),
  (534, .iastore, 1, [], []),
  (535, .aload_n 0, 1, [], []),
  (536, .getfield 47, 3, [12, 16], [85]),
  (539, .iload_n 1, 1, [], []),
  (540, .iconst 1, 1, [], []),
  (541, .iastore, 1, [], []),
  (542, .iinc 1 1, 3, [], []),
  (545, .goto (-31), 3, [256], []),
  (548, .iconst 0, 1, [], []),
  (549, .istore_n 1, 1, [], []),
  (550, .iload_n 1, 1, [], []),
  (551, .bipush 8, 2, [], []),
  (553, .if_icmp .ge 25, 3, [293], []),
  (556, .aload_n 0, 1, [], []),
  (557, .getfield 56, 3, [12, 19], [67]),
  (560, .iload_n 1, 1, [], []),
  (561, .sipush 9999, 3, [], []),
  (564, .iastore, 1, [], []),
  (565, .aload_n 0, 1, [], []),
  (566, .getfield 71, 3, [12, 24], [157]),
  (569, .iload_n 1, 1, [], []),
  (570, .iconst 1, 1, [], []),
  (571, .iastore, 1, [], []),
  (572, .iinc 1 1, 3, [], []),
  (575, .goto (-25), 3, [278], []),
  (578, .iconst 0, 1, [], []),
  (579, .istore_n 1, 1, [], []),
  (580, .iload_n 1, 1, [], []),
  (581, .bipush 48, 2, [], []),
  (583, .if_icmp .ge 16, 3, [305], []),
  (586, .aload_n 0, 1, [], []),
  (587, .getfield 29, 3, [12, 10], [4]),
  (590, .iload_n 1, 1, [], []),
  (591, .iconst (-1), 1, [], []),
  (592, .iastore, 1, [], []),
  (593, .iinc 1 1, 3, [], []),
  (596, .goto (-16), 3, [295], []),
  (599, .aload_n 0, 1, [], []),
  (600, .iconst 1, 1, [], []),
  (601, .putfield 202, 3, [12, 1], [71]),
  (604, .return_, 1, [], [])]
def mX12_init : pv_M := (⟨"CliffGardenModel", "<init>", "()V"⟩, prog_14_method_1_code, 2, none, rX12_init)
def rX12_in : List pv_R := [
  (0, .iload_n 0, 1, [], []),
  (1, .iload_n 1, 1, [], []),
  (2, .if_icmp .lt 12, 3, [8], []),
  (5, .iload_n 0, 1, [], []),
  (6, .iload_n 2, 1, [], []),
  (7, .if_icmp .gt 7, 3, [8], []),
  (10, .iconst 1, 1, [], []),
  (11, .goto 4, 3, [9], []),
  (14, .iconst 0, 1, [], []),
  (15, .ireturn, 1, [1], [])]
def mX12_in : pv_M := (⟨"CliffGardenModel", "in", "(III)Z"⟩, prog_14_method_2_code, 3, some .boolean, rX12_in)
def rX12_less : List pv_R := [
  (0, .iload_n 0, 1, [], []),
  (1, .iload_n 1, 1, [], []),
  (2, .if_icmp .ge 7, 3, [5], []),
  (5, .iload_n 0, 1, [], []),
  (6, .goto 4, 3, [6], []),
  (9, .iload_n 1, 1, [], []),
  (10, .ireturn, 1, [0], [])]
def mX12_less : pv_M := (⟨"CliffGardenModel", "less", "(II)I"⟩, prog_14_method_3_code, 2, some .int, rX12_less)
def rX12_more : List pv_R := [
  (0, .iload_n 0, 1, [], []),
  (1, .iload_n 1, 1, [], []),
  (2, .if_icmp .le 7, 3, [5], []),
  (5, .iload_n 0, 1, [], []),
  (6, .goto 4, 3, [6], []),
  (9, .iload_n 1, 1, [], []),
  (10, .ireturn, 1, [0], [])]
def mX12_more : pv_M := (⟨"CliffGardenModel", "more", "(II)I"⟩, prog_14_method_4_code, 2, some .int, rX12_more)
def rX12_isCell : List pv_R := [
  (0, .iload_n 0, 1, [], []),
  (1, .iconst 0, 1, [], []),
  (2, .bipush 7, 2, [], []),
  (4, .invokestatic 206, 3, [145, 3], [1]),
  (7, .ifCond .eq 16, 3, [12], []),
  (10, .iload_n 1, 1, [], []),
  (11, .iconst 0, 1, [], []),
  (12, .iconst 5, 1, [], []),
  (13, .invokestatic 206, 3, [145, 3], [1]),
  (16, .ifCond .eq 7, 3, [12], []),
  (19, .iconst 1, 1, [], []),
  (20, .goto 4, 3, [13], []),
  (23, .iconst 0, 1, [], []),
  (24, .ireturn, 1, [1], [])]
def mX12_isCell : pv_M := (⟨"CliffGardenModel", "isCell", "(II)Z"⟩, prog_14_method_5_code, 2, some .boolean, rX12_isCell)
def rX12_at : List pv_R := [
  (0, .bipush 6, 2, [], []),
  (2, .iload_n 0, 1, [], []),
  (3, .imul, 1, [], []),
  (4, .iload_n 1, 1, [], []),
  (5, .iadd, 1, [], []),
  (6, .ireturn, 1, [0], [])]
def mX12_at : pv_M := (⟨"CliffGardenModel", "at", "(II)I"⟩, prog_14_method_6_code, 2, some .int, rX12_at)
def rX12_isHung : List pv_R := [
  (0, .iload_n 1, 1, [], []),
  (1, .iload_n 2, 1, [], []),
  (2, .invokestatic 210, 3, [148, 2], [91]),
  (5, .ifCond .eq 20, 3, [13], []),
  (8, .aload_n 0, 1, [], []),
  (9, .getfield 7, 3, [12, 4], [3]),
  (12, .iload_n 1, 1, [], []),
  (13, .iload_n 2, 1, [], []),
  (14, .invokestatic 214, 3, [149, 2], [16]),
  (17, .baload, 1, [1], []),
  (18, .ifCond .eq 7, 3, [13], []),
  (21, .iconst 1, 1, [], []),
  (22, .goto 4, 3, [14], []),
  (25, .iconst 0, 1, [], []),
  (26, .ireturn, 1, [1], [])]
def mX12_isHung : pv_M := (⟨"CliffGardenModel", "isHung", "(II)Z"⟩, prog_14_method_7_code, 3, some .boolean, rX12_isHung)
def rX12_hang : List pv_R := [
  (0, .iload_n 1, 1, [], []),
  (1, .iload_n 2, 1, [], []),
  (2, .invokestatic 210, 3, [148, 2], [91]),
  (5, .ifCond .eq 78, 3, [42], []),
  (8, .iload_n 3, 1, [], []),
  (9, .iconst 0, 1, [], []),
  (10, .bipush 9, 2, [], []),
  (12, .invokestatic 206, 3, [145, 3], [1]),
  (15, .ifCond .eq 68, 3, [42], []),
  (18, .iload 4, 2, [], []),
  (20, .iconst 0, 1, [], []),
  (21, .sipush 9999, 3, [], []),
  (24, .invokestatic 206, 3, [145, 3], [1]),
  (27, .ifCond .eq 56, 3, [42], []),
  (30, .iload 5, 2, [], []),
  (32, .iconst 0, 1, [], []),
  (33, .bipush 7, 2, [], []),
  (35, .invokestatic 206, 3, [145, 3], [1]),
  (38, .ifCond .eq 45, 3, [42], []),
  (41, .iload 6, 2, [], []),
  (43, .iconst 0, 1, [], []),
  (44, .iconst 3, 1, [], []),
  (45, .invokestatic 206, 3, [145, 3], [1]),
  (48, .ifCond .eq 35, 3, [42], []),
  (51, .aload_n 0, 1, [], []),
  (52, .getfield 7, 3, [12, 4], [3]),
  (55, .iload_n 1, 1, [], []),
  (56, .iload_n 2, 1, [], []),
  (57, .invokestatic 214, 3, [149, 2], [16]),
  (60, .baload, 1, [1], []),
  (61, .ifCond .ne 22, 3, [42], []),
  (64, .iload_n 2, 1, [], []),
  (65, .ifCond .le 20, 3, [44], []),
  (68, .aload_n 0, 1, [], []),
  (69, .getfield 7, 3, [12, 4], [3]),
  (72, .iload_n 1, 1, [], []),
  (73, .iload_n 2, 1, [], []),
  (74, .iconst 1, 1, [], []),
  (75, .isub, 1, [], []),
  (76, .invokestatic 214, 3, [149, 2], [16]),
  (79, .baload, 1, [1], []),
  (80, .ifCond .ne 5, 3, [44], []),
  (83, .iconst 0, 1, [], []),
  (84, .ireturn, 1, [1], []),
  (85, .iload_n 1, 1, [], []),
  (86, .iload_n 2, 1, [], []),
  (87, .invokestatic 214, 3, [149, 2], [16]),
  (90, .istore 7, 2, [], []),
  (92, .aload_n 0, 1, [], []),
  (93, .getfield 7, 3, [12, 4], [3]),
  (96, .iload 7, 2, [], []),
  (98, .iconst 1, 1, [], []),
  (99, .bastore, 1, [1], []),
  (100, .aload_n 0, 1, [], []),
  (101, .getfield 20, 3, [12, 7], [84]),
  (104, .iload 7, 2, [], []),
  (106, .iload_n 3, 1, [], []),
  (107, .iastore, 1, [], []),
  (108, .aload_n 0, 1, [], []),
  (109, .getfield 16, 3, [12, 6], [24]),
  (112, .iload 7, 2, [], []),
  (114, .iload 4, 2, [], []),
  (116, .iastore, 1, [], []),
  (117, .aload_n 0, 1, [], []),
  (118, .getfield 23, 3, [12, 8], [151]),
  (121, .iload 7, 2, [], []),
  (123, .iload 5, 2, [], []),
  (125, .iastore, 1, [], []),
  (126, .aload_n 0, 1, [], []),
  (127, .getfield 26, 3, [12, 9], [152]),
  (130, .iload 7, 2, [], []),
  (132, .iload 6, 2, [], []),
  (134, .iastore, 1, [], []),
  (135, .aload_n 0, 1, [], []),
  (136, .iload 7, 2, [], []),
  (138, .invokevirtual 218, 3, [152, 1, 12], [180]),
  (141, .aload_n 0, 1, [], []),
  (142, .getfield 35, 3, [12, 12], [66]),
  (145, .iload 7, 2, [], []),
  (147, .iconst 0, 1, [], []),
  (148, .iastore, 1, [], []),
  (149, .aload_n 0, 1, [], []),
  (150, .getfield 38, 3, [12, 13], [38]),
  (153, .iload 7, 2, [], []),
  (155, .iconst 0, 1, [], []),
  (156, .iastore, 1, [], []),
  (157, .iconst 1, 1, [], []),
  (158, .ireturn, 1, [1], [])]
def mX12_hang : pv_M := (⟨"CliffGardenModel", "hang", "(IIIIII)Z"⟩, prog_14_method_8_code, 8, some .boolean, rX12_hang)
def rX12_empties : List pv_R := [
  (0, .aload_n 0, 1, [], []),
  (1, .getfield 29, 3, [12, 10], [4]),
  (4, .iload_n 1, 1, [], []),
  (5, .iconst (-1), 1, [], []),
  (6, .iastore, 1, [], []),
  (7, .aload_n 0, 1, [], []),
  (8, .getfield 32, 3, [12, 11], [19]),
  (11, .iload_n 1, 1, [], []),
  (12, .iconst 0, 1, [], []),
  (13, .iastore, 1, [], []),
  (14, .aload_n 0, 1, [], []),
  (15, .getfield 13, 3, [12, 5], [52]),
  (18, .iload_n 1, 1, [], []),
  (19, .iconst 0, 1, [], []),
  (20, .bastore, 1, [1], []),
  (21, .return_, 1, [], [])]
def mX12_empties : pv_M := (⟨"CliffGardenModel", "empties", "(I)V"⟩, prog_14_method_9_code, 2, none, rX12_empties)
def rX12_knot : List pv_R := [
  (0, .aload_n 0, 1, [], []),
  (1, .iload_n 1, 1, [], []),
  (2, .iload_n 2, 1, [], []),
  (3, .invokevirtual 222, 3, [150, 2, 12], [131]),
  (6, .ifCond .eq 14, 3, [10], []),
  (9, .iload_n 3, 1, [], []),
  (10, .iconst 0, 1, [], []),
  (11, .sipush 9999, 3, [], []),
  (14, .invokestatic 206, 3, [145, 3], [1]),
  (17, .ifCond .ne 5, 3, [12], []),
  (20, .iconst 0, 1, [], []),
  (21, .ireturn, 1, [1], []),
  (22, .aload_n 0, 1, [], []),
  (23, .getfield 16, 3, [12, 6], [24]),
  (26, .iload_n 1, 1, [], []),
  (27, .iload_n 2, 1, [], []),
  (28, .invokestatic 214, 3, [149, 2], [16]),
  (31, .iload_n 3, 1, [], []),
  (32, .iastore, 1, [], []),
  (33, .iconst 1, 1, [], []),
  (34, .ireturn, 1, [1], [])]
def mX12_knot : pv_M := (⟨"CliffGardenModel", "knot", "(III)Z"⟩, prog_14_method_10_code, 4, some .boolean, rX12_knot)
def rX12_kind : List pv_R := [
  (0, .iload_n 1, 1, [], []),
  (1, .iconst 0, 1, [], []),
  (2, .iconst 5, 1, [], []),
  (3, .invokestatic 206, 3, [145, 3], [1]),
  (6, .ifCond .eq 35, 3, [20], []),
  (9, .iload_n 2, 1, [], []),
  (10, .iconst 0, 1, [], []),
  (11, .bipush 20, 2, [], []),
  (13, .invokestatic 206, 3, [145, 3], [1]),
  (16, .ifCond .eq 25, 3, [20], []),
  (19, .iload_n 3, 1, [], []),
  (20, .iconst 1, 1, [], []),
  (21, .sipush 200, 3, [], []),
  (24, .invokestatic 206, 3, [145, 3], [1]),
  (27, .ifCond .eq 14, 3, [20], []),
  (30, .iload 4, 2, [], []),
  (32, .iconst 0, 1, [], []),
  (33, .bipush 99, 2, [], []),
  (35, .invokestatic 206, 3, [145, 3], [1]),
  (38, .ifCond .ne 5, 3, [22], []),
  (41, .iconst 0, 1, [], []),
  (42, .ireturn, 1, [1], []),
  (43, .aload_n 0, 1, [], []),
  (44, .getfield 41, 3, [12, 14], [113]),
  (47, .iload_n 1, 1, [], []),
  (48, .iload_n 2, 1, [], []),
  (49, .iastore, 1, [], []),
  (50, .aload_n 0, 1, [], []),
  (51, .getfield 44, 3, [12, 15], [45]),
  (54, .iload_n 1, 1, [], []),
  (55, .iload_n 3, 1, [], []),
  (56, .iastore, 1, [], []),
  (57, .aload_n 0, 1, [], []),
  (58, .getfield 47, 3, [12, 16], [85]),
  (61, .iload_n 1, 1, [], []),
  (62, .iload 4, 2, [], []),
  (64, .iastore, 1, [], []),
  (65, .iconst 1, 1, [], []),
  (66, .ireturn, 1, [1], [])]
def mX12_kind : pv_M := (⟨"CliffGardenModel", "kind", "(IIII)Z"⟩, prog_14_method_11_code, 5, some .boolean, rX12_kind)
def rX12_plant : List pv_R := [
  (0, .aload_n 0, 1, [], []),
  (1, .iload_n 1, 1, [], []),
  (2, .iload_n 2, 1, [], []),
  (3, .invokevirtual 222, 3, [150, 2, 12], [131]),
  (6, .ifCond .eq 38, 3, [23], []),
  (9, .aload_n 0, 1, [], []),
  (10, .getfield 29, 3, [12, 10], [4]),
  (13, .iload_n 1, 1, [], []),
  (14, .iload_n 2, 1, [], []),
  (15, .invokestatic 214, 3, [149, 2], [16]),
  (18, .iaload, 1, [], []),
  (19, .iconst (-1), 1, [], []),
  (20, .if_icmp .ne 24, 3, [23], []),
  (23, .iload_n 3, 1, [], []),
  (24, .iconst 0, 1, [], []),
  (25, .iconst 5, 1, [], []),
  (26, .invokestatic 206, 3, [145, 3], [1]),
  (29, .ifCond .eq 15, 3, [23], []),
  (32, .iload 4, 2, [], []),
  (34, .iconst 0, 1, [], []),
  (35, .sipush 200, 3, [], []),
  (38, .invokestatic 206, 3, [145, 3], [1]),
  (41, .ifCond .ne 5, 3, [25], []),
  (44, .iconst 0, 1, [], []),
  (45, .ireturn, 1, [1], []),
  (46, .aload_n 0, 1, [], []),
  (47, .getfield 29, 3, [12, 10], [4]),
  (50, .iload_n 1, 1, [], []),
  (51, .iload_n 2, 1, [], []),
  (52, .invokestatic 214, 3, [149, 2], [16]),
  (55, .iload_n 3, 1, [], []),
  (56, .iastore, 1, [], []),
  (57, .aload_n 0, 1, [], []),
  (58, .getfield 32, 3, [12, 11], [19]),
  (61, .iload_n 1, 1, [], []),
  (62, .iload_n 2, 1, [], []),
  (63, .invokestatic 214, 3, [149, 2], [16]),
  (66, .iload 4, 2, [], []),
  (68, .iastore, 1, [], []),
  (69, .iconst 1, 1, [], []),
  (70, .ireturn, 1, [1], [])]
def mX12_plant : pv_M := (⟨"CliffGardenModel", "plant", "(IIII)Z"⟩, prog_14_method_12_code, 5, some .boolean, rX12_plant)
def rX12_valve : List pv_R := [
  (0, .iload_n 1, 1, [], []),
  (1, .iconst 0, 1, [], []),
  (2, .bipush 7, 2, [], []),
  (4, .invokestatic 206, 3, [145, 3], [1]),
  (7, .ifCond .eq 13, 3, [10], []),
  (10, .iload_n 2, 1, [], []),
  (11, .iconst 0, 1, [], []),
  (12, .bipush 99, 2, [], []),
  (14, .invokestatic 206, 3, [145, 3], [1]),
  (17, .ifCond .ne 5, 3, [12], []),
  (20, .iconst 0, 1, [], []),
  (21, .ireturn, 1, [1], []),
  (22, .aload_n 0, 1, [], []),
  (23, .getfield 50, 3, [12, 17], [153]),
  (26, .iload_n 1, 1, [], []),
  (27, .iload_n 2, 1, [], []),
  (28, .iastore, 1, [], []),
  (29, .iconst 1, 1, [], []),
  (30, .ireturn, 1, [1], [])]
def mX12_valve : pv_M := (⟨"CliffGardenModel", "valve", "(II)Z"⟩, prog_14_method_13_code, 3, some .boolean, rX12_valve)
def rX12_kitchen : List pv_R := [
  (0, .iload_n 1, 1, [], []),
  (1, .iconst 0, 1, [], []),
  (2, .bipush 7, 2, [], []),
  (4, .invokestatic 206, 3, [145, 3], [1]),
  (7, .ifCond .eq 24, 3, [15], []),
  (10, .iload_n 2, 1, [], []),
  (11, .iconst 0, 1, [], []),
  (12, .bipush 7, 2, [], []),
  (14, .invokestatic 206, 3, [145, 3], [1]),
  (17, .ifCond .eq 14, 3, [15], []),
  (20, .iload_n 3, 1, [], []),
  (21, .iconst 0, 1, [], []),
  (22, .sipush 9999, 3, [], []),
  (25, .invokestatic 206, 3, [145, 3], [1]),
  (28, .ifCond .ne 5, 3, [17], []),
  (31, .iconst 0, 1, [], []),
  (32, .ireturn, 1, [1], []),
  (33, .aload_n 0, 1, [], []),
  (34, .getfield 53, 3, [12, 18], [154]),
  (37, .iload_n 1, 1, [], []),
  (38, .iload_n 2, 1, [], []),
  (39, .iastore, 1, [], []),
  (40, .aload_n 0, 1, [], []),
  (41, .getfield 56, 3, [12, 19], [67]),
  (44, .iload_n 1, 1, [], []),
  (45, .iload_n 3, 1, [], []),
  (46, .iastore, 1, [], []),
  (47, .iconst 1, 1, [], []),
  (48, .ireturn, 1, [1], [])]
def mX12_kitchen : pv_M := (⟨"CliffGardenModel", "kitchen", "(III)Z"⟩, prog_14_method_14_code, 4, some .boolean, rX12_kitchen)
def rX12_rope : List pv_R := [
  (0, .iload_n 1, 1, [], []),
  (1, .iconst 0, 1, [], []),
  (2, .bipush 7, 2, [], []),
  (4, .invokestatic 206, 3, [145, 3], [1]),
  (7, .ifCond .eq 24, 3, [15], []),
  (10, .iload_n 2, 1, [], []),
  (11, .iconst 0, 1, [], []),
  (12, .sipush 999, 3, [], []),
  (15, .invokestatic 206, 3, [145, 3], [1]),
  (18, .ifCond .eq 13, 3, [15], []),
  (21, .iload_n 3, 1, [], []),
  (22, .iconst 0, 1, [], []),
  (23, .bipush 99, 2, [], []),
  (25, .invokestatic 206, 3, [145, 3], [1]),
  (28, .ifCond .ne 5, 3, [17], []),
  (31, .iconst 0, 1, [], []),
  (32, .ireturn, 1, [1], []),
  (33, .aload_n 0, 1, [], []),
  (34, .getfield 68, 3, [12, 23], [222]),
  (37, .iload_n 1, 1, [], []),
  (38, .iload_n 2, 1, [], []),
  (39, .iastore, 1, [], []),
  (40, .aload_n 0, 1, [], []),
  (41, .getfield 71, 3, [12, 24], [157]),
  (44, .iload_n 1, 1, [], []),
  (45, .iload_n 3, 1, [], []),
  (46, .iastore, 1, [], []),
  (47, .iconst 1, 1, [], []),
  (48, .ireturn, 1, [1], [])]
def mX12_rope : pv_M := (⟨"CliffGardenModel", "rope", "(III)Z"⟩, prog_14_method_15_code, 4, some .boolean, rX12_rope)
def rX12_seed : List pv_R := [
  (0, .iload_n 1, 1, [], []),
  (1, .iconst 0, 1, [], []),
  (2, .ldc 225, 2, [65535], [505]),
  (4, .invokestatic 206, 3, [145, 3], [1]),
  (7, .ifCond .ne 5, 3, [7], []),
  (10, .iconst 0, 1, [], []),
  (11, .ireturn, 1, [1], []),
  (12, .aload_n 0, 1, [], []),
  (13, .iload_n 1, 1, [], []),
  (14, .putfield 202, 3, [12, 1], [71]),
  (17, .iconst 1, 1, [], []),
  (18, .ireturn, 1, [1], [])]
def mX12_seed : pv_M := (⟨"CliffGardenModel", "seed", "(I)Z"⟩, prog_14_method_16_code, 2, some .boolean, rX12_seed)
def rX12_types : List pv_R := [
  (0, .iconst 3, 1, [], []),
  (1, .istore_n 2, 1, [], []),
  (2, .iload_n 2, 1, [], []),
  (3, .ifCond .lt 35, 3, [23], []),
  (6, .aload_n 0, 1, [], []),
  (7, .getfield 74, 3, [12, 25], [158]),
  (10, .aload_n 0, 1, [], []),
  (11, .getfield 226, 3, [12, 26], [31]),
  (14, .iload_n 1, 1, [], []),
  (15, .bipush 8, 2, [], []),
  (17, .iload_n 2, 1, [], []),
  (18, .imul, 1, [], []),
  (19, .ishr, 1, [], []),
  (20, .i2b, 1, [], []),
  (21, .bastore, 1, [2], []),
  (22, .aload_n 0, 1, [], []),
  (23, .aload_n 0, 1, [], []),
  (24, .getfield 226, 3, [12, 26], [31]),
  (27, .iconst 1, 1, [], []),
  (28, .iadd, 1, [], []),
  (29, .putfield 226, 3, [12, 26], [31]),
  (32, .iinc 2 (-1), 3, [], []),
  (35, .goto (-33), 3, [2], []),
  (38, .return_, 1, [], [])]
def mX12_types : pv_M := (⟨"CliffGardenModel", "types", "(I)V"⟩, prog_14_method_17_code, 3, none, rX12_types)
def rX12_feed : List pv_R := [
  (0, .aload_n 0, 1, [], []),
  (1, .getfield 226, 3, [12, 26], [31]),
  (4, .bipush 20, 2, [], []),
  (6, .iadd, 1, [], []),
  (7, .sipush 220, 3, [], []),
  (10, .if_icmp .le 5, 3, [8], []),
  (13, .iconst (-1), 1, [], []),
  (14, .ireturn, 1, [0], []),
  (15, .aload_n 0, 1, [], []),
  (16, .iload_n 1, 1, [], []),
  (17, .invokevirtual 229, 3, [160, 1, 12], [95]),
  (20, .aload_n 0, 1, [], []),
  (21, .iload_n 2, 1, [], []),
  (22, .invokevirtual 229, 3, [160, 1, 12], [95]),
  (25, .aload_n 0, 1, [], []),
  (26, .iload_n 3, 1, [], []),
  (27, .invokevirtual 229, 3, [160, 1, 12], [95]),
  (30, .aload_n 0, 1, [], []),
  (31, .iload 4, 2, [], []),
  (33, .invokevirtual 229, 3, [160, 1, 12], [95]),
  (36, .aload_n 0, 1, [], []),
  (37, .iload 5, 2, [], []),
  (39, .invokevirtual 229, 3, [160, 1, 12], [95]),
  (42, .aload_n 0, 1, [], []),
  (43, .getfield 226, 3, [12, 26], [31]),
  (46, .ireturn, 1, [0], [])]
def mX12_feed : pv_M := (⟨"CliffGardenModel", "feed", "(IIIII)I"⟩, prog_14_method_18_code, 6, some .int, rX12_feed)
def rX12_here : List pv_R := [
  (0, .aload_n 0, 1, [], []),
  (1, .getfield 232, 3, [12, 27], [2]),
  (4, .aload_n 0, 1, [], []),
  (5, .getfield 235, 3, [12, 28], [166]),
  (8, .if_icmp .ge 19, 3, [13], []),
  (11, .aload_n 0, 1, [], []),
  (12, .getfield 74, 3, [12, 25], [158]),
  (15, .aload_n 0, 1, [], []),
  (16, .getfield 232, 3, [12, 27], [2]),
  (19, .baload, 1, [2], []),
  (20, .sipush 255, 3, [], []),
  (23, .iand, 1, [], []),
  (24, .goto 4, 3, [14], []),
  (27, .iconst (-1), 1, [], []),
  (28, .ireturn, 1, [0], [])]
def mX12_here : pv_M := (⟨"CliffGardenModel", "here", "()I"⟩, prog_14_method_19_code, 1, some .int, rX12_here)
def rX12_isDigit : List pv_R := [
  (0, .aload_n 0, 1, [], []),
  (1, .invokevirtual 238, 3, [162, 0, 12], [14]),
  (4, .bipush 48, 2, [], []),
  (6, .if_icmp .lt 16, 3, [10], []),
  (9, .aload_n 0, 1, [], []),
  (10, .invokevirtual 238, 3, [162, 0, 12], [14]),
  (13, .bipush 57, 2, [], []),
  (15, .if_icmp .gt 7, 3, [10], []),
  (18, .iconst 1, 1, [], []),
  (19, .goto 4, 3, [11], []),
  (22, .iconst 0, 1, [], []),
  (23, .ireturn, 1, [1], [])]
def mX12_isDigit : pv_M := (⟨"CliffGardenModel", "isDigit", "()Z"⟩, prog_14_method_20_code, 1, some .boolean, rX12_isDigit)
def rX12_wrongAt : List pv_R := [
  (0, .aload_n 0, 1, [], []),
  (1, .sipush (-1000), 3, [], []),
  (4, .iload_n 1, 1, [], []),
  (5, .imul, 1, [], []),
  (6, .iload_n 2, 1, [], []),
  (7, .isub, 1, [], []),
  (8, .putfield 242, 3, [12, 29], [238]),
  (11, .iconst 0, 1, [], []),
  (12, .ireturn, 1, [1], [])]
def mX12_wrongAt : pv_M := (⟨"CliffGardenModel", "wrongAt", "(II)Z"⟩, prog_14_method_21_code, 3, some .boolean, rX12_wrongAt)
def rX12_takes : List pv_R := [
  (0, .aload_n 0, 1, [], []),
  (1, .invokevirtual 238, 3, [162, 0, 12], [14]),
  (4, .iload_n 1, 1, [], []),
  (5, .if_icmp .eq 13, 3, [10], []),
  (8, .aload_n 0, 1, [], []),
  (9, .iconst 1, 1, [], []),
  (10, .aload_n 0, 1, [], []),
  (11, .getfield 232, 3, [12, 27], [2]),
  (14, .invokevirtual 245, 3, [164, 2, 12], [34]),
  (17, .ireturn, 1, [1], []),
  (18, .aload_n 0, 1, [], []),
  (19, .aload_n 0, 1, [], []),
  (20, .getfield 232, 3, [12, 27], [2]),
  (23, .iconst 1, 1, [], []),
  (24, .iadd, 1, [], []),
  (25, .putfield 232, 3, [12, 27], [2]),
  (28, .iconst 1, 1, [], []),
  (29, .ireturn, 1, [1], [])]
def mX12_takes : pv_M := (⟨"CliffGardenModel", "takes", "(I)Z"⟩, prog_14_method_22_code, 2, some .boolean, rX12_takes)
def rX12_readsNumber : List pv_R := [
  (0, .aload_n 0, 1, [], []),
  (1, .getfield 232, 3, [12, 27], [2]),
  (4, .istore_n 1, 1, [], []),
  (5, .aload_n 0, 1, [], []),
  (6, .iconst 0, 1, [], []),
  (7, .putfield 248, 3, [12, 34], [122]),
  (10, .aload_n 0, 1, [], []),
  (11, .invokevirtual 251, 3, [163, 0, 12], [288]),
  (14, .ifCond .eq 55, 3, [39], []),
  (17, .aload_n 0, 1, [], []),
  (18, .getfield 232, 3, [12, 27], [2]),
  (21, .iload_n 1, 1, [], []),
  (22, .iconst 5, 1, [], []),
  (23, .iadd, 1, [], []),
  (24, .if_icmp .ne 13, 3, [21], []),
  (27, .aload_n 0, 1, [], []),
  (28, .iconst 2, 1, [], []),
  (29, .aload_n 0, 1, [], []),
  (30, .getfield 232, 3, [12, 27], [2]),
  (33, .invokevirtual 245, 3, [164, 2, 12], [34]),
  (36, .ireturn, 1, [1], []),
  (37, .aload_n 0, 1, [], []),
  (38, .bipush 10, 2, [], []),
  (40, .aload_n 0, 1, [], []),
  (41, .getfield 248, 3, [12, 34], [122]),
  (44, .imul, 1, [], []),
  (45, .aload_n 0, 1, [], []),
  (46, .invokevirtual 238, 3, [162, 0, 12], [14]),
  (49, .iadd, 1, [], []),
  (50, .bipush 48, 2, [], []),
  (52, .isub, 1, [], []),
  (53, .putfield 248, 3, [12, 34], [122]),
  (56, .aload_n 0, 1, [], []),
  (57, .aload_n 0, 1, [], []),
  (58, .getfield 232, 3, [12, 27], [2]),
  (61, .iconst 1, 1, [], []),
  (62, .iadd, 1, [], []),
  (63, .putfield 232, 3, [12, 27], [2]),
  (66, .goto (-56), 3, [6], []),
  (69, .iconst 1, 1, [], []),
  (70, .ireturn, 1, [1], [])]
def mX12_readsNumber : pv_M := (⟨"CliffGardenModel", "readsNumber", "()Z"⟩, prog_14_method_23_code, 2, some .boolean, rX12_readsNumber)
def rX12_notes : List pv_R := [
  (0, .aload_n 0, 1, [], []),
  (1, .getfield 78, 3, [12, 36], [114]),
  (4, .aload_n 0, 1, [], []),
  (5, .getfield 255, 3, [12, 31], [32]),
  (8, .ldc_w 258, 3, [1048576], [28]),
  (11, .iload_n 1, 1, [], []),
  (12, .imul, 1, [], []),
  (13, .iload_n 2, 1, [], []),
  (14, .iadd, 1, [], []),
  (15, .iastore, 1, [], []),
  (16, .aload_n 0, 1, [], []),
  (17, .aload_n 0, 1, [], []),
  (18, .getfield 255, 3, [12, 31], [32]),
  (21, .iconst 1, 1, [], []),
  (22, .iadd, 1, [], []),
  (23, .putfield 255, 3, [12, 31], [32]),
  (26, .return_, 1, [], [])]
def mX12_notes : pv_M := (⟨"CliffGardenModel", "notes", "(II)V"⟩, prog_14_method_24_code, 3, none, rX12_notes)
def rX12_opens : List pv_R := [
  (0, .aload_n 0, 1, [], []),
  (1, .getfield 259, 3, [12, 30], [26]),
  (4, .bipush 6, 2, [], []),
  (6, .if_icmp .ne 13, 3, [10], []),
  (9, .aload_n 0, 1, [], []),
  (10, .iconst 5, 1, [], []),
  (11, .aload_n 0, 1, [], []),
  (12, .getfield 232, 3, [12, 27], [2]),
  (15, .invokevirtual 245, 3, [164, 2, 12], [34]),
  (18, .ireturn, 1, [1], []),
  (19, .aload_n 0, 1, [], []),
  (20, .aload_n 0, 1, [], []),
  (21, .getfield 259, 3, [12, 30], [26]),
  (24, .iconst 1, 1, [], []),
  (25, .iadd, 1, [], []),
  (26, .putfield 259, 3, [12, 30], [26]),
  (29, .aload_n 0, 1, [], []),
  (30, .getfield 81, 3, [12, 37], [68]),
  (33, .aload_n 0, 1, [], []),
  (34, .getfield 262, 3, [12, 32], [6]),
  (37, .ldc_w 258, 3, [1048576], [28]),
  (40, .iload_n 1, 1, [], []),
  (41, .imul, 1, [], []),
  (42, .iastore, 1, [], []),
  (43, .aload_n 0, 1, [], []),
  (44, .aload_n 0, 1, [], []),
  (45, .getfield 262, 3, [12, 32], [6]),
  (48, .iconst 1, 1, [], []),
  (49, .iadd, 1, [], []),
  (50, .putfield 262, 3, [12, 32], [6]),
  (53, .aload_n 0, 1, [], []),
  (54, .aload_n 0, 1, [], []),
  (55, .getfield 232, 3, [12, 27], [2]),
  (58, .iconst 1, 1, [], []),
  (59, .iadd, 1, [], []),
  (60, .putfield 232, 3, [12, 27], [2]),
  (63, .iconst 1, 1, [], []),
  (64, .ireturn, 1, [1], [])]
def mX12_opens : pv_M := (⟨"CliffGardenModel", "opens", "(I)Z"⟩, prog_14_method_25_code, 2, some .boolean, rX12_opens)
def rX12_top : List pv_R := [
  (0, .aload_n 0, 1, [], []),
  (1, .getfield 262, 3, [12, 32], [6]),
  (4, .ifCond .ne 7, 3, [5], []),
  (7, .iconst (-1), 1, [], []),
  (8, .goto 18, 3, [14], []),
  (11, .aload_n 0, 1, [], []),
  (12, .getfield 81, 3, [12, 37], [68]),
  (15, .aload_n 0, 1, [], []),
  (16, .getfield 262, 3, [12, 32], [6]),
  (19, .iconst 1, 1, [], []),
  (20, .isub, 1, [], []),
  (21, .iaload, 1, [], []),
  (22, .ldc_w 258, 3, [1048576], [28]),
  (25, .idiv, 1, [], []),
  (26, .ireturn, 1, [0], [])]
def mX12_top : pv_M := (⟨"CliffGardenModel", "top", "()I"⟩, prog_14_method_26_code, 1, some .int, rX12_top)
def rX12_factOf : List pv_R := [
  (0, .iload_n 0, 1, [], []),
  (1, .tableswitch 147 98 121 #[144, 147, 135, 147, 147, 147, 147, 147, 123, 111, 117, 141, 121, 147, 132, 147, 129, 119, 138, 147, 147, 126, 115, 113], 111, [30, 28, 30, 22, 30, 30, 30, 30, 30, 14, 2, 8, 26, 12, 30, 20, 30, 18, 10, 24, 30, 30, 16, 6, 4], []),
  (112, .iconst 0, 1, [], []),
  (113, .ireturn, 1, [0], []),
  (114, .iconst 1, 1, [], []),
  (115, .ireturn, 1, [0], []),
  (116, .iconst 2, 1, [], []),
  (117, .ireturn, 1, [0], []),
  (118, .iconst 3, 1, [], []),
  (119, .ireturn, 1, [0], []),
  (120, .iconst 4, 1, [], []),
  (121, .ireturn, 1, [0], []),
  (122, .iconst 5, 1, [], []),
  (123, .ireturn, 1, [0], []),
  (124, .bipush 6, 2, [], []),
  (126, .ireturn, 1, [0], []),
  (127, .bipush 7, 2, [], []),
  (129, .ireturn, 1, [0], []),
  (130, .bipush 8, 2, [], []),
  (132, .ireturn, 1, [0], []),
  (133, .bipush 9, 2, [], []),
  (135, .ireturn, 1, [0], []),
  (136, .bipush 10, 2, [], []),
  (138, .ireturn, 1, [0], []),
  (139, .bipush 11, 2, [], []),
  (141, .ireturn, 1, [0], []),
  (142, .bipush 12, 2, [], []),
  (144, .ireturn, 1, [0], []),
  (145, .bipush 13, 2, [], []),
  (147, .ireturn, 1, [0], []),
  (148, .iconst (-1), 1, [], []),
  (149, .ireturn, 1, [0], [])]
def mX12_factOf : pv_M := (⟨"CliffGardenModel", "factOf", "(I)I"⟩, prog_14_method_27_code, 1, some .int, rX12_factOf)
def rX12_sumSign : List pv_R := [
  (0, .iload_n 0, 1, [], []),
  (1, .bipush 43, 2, [], []),
  (3, .if_icmp .ne 7, 3, [5], []),
  (6, .iconst 2, 1, [], []),
  (7, .goto 45, 3, [26], []),
  (10, .iload_n 0, 1, [], []),
  (11, .bipush 45, 2, [], []),
  (13, .if_icmp .ne 7, 3, [10], []),
  (16, .iconst 3, 1, [], []),
  (17, .goto 35, 3, [26], []),
  (20, .iload_n 0, 1, [], []),
  (21, .bipush 42, 2, [], []),
  (23, .if_icmp .ne 7, 3, [15], []),
  (26, .iconst 4, 1, [], []),
  (27, .goto 25, 3, [26], []),
  (30, .iload_n 0, 1, [], []),
  (31, .bipush 47, 2, [], []),
  (33, .if_icmp .ne 7, 3, [20], []),
  (36, .iconst 5, 1, [], []),
  (37, .goto 15, 3, [26], []),
  (40, .iload_n 0, 1, [], []),
  (41, .bipush 37, 2, [], []),
  (43, .if_icmp .ne 8, 3, [25], []),
  (46, .bipush 6, 2, [], []),
  (48, .goto 4, 3, [26], []),
  (51, .iconst (-1), 1, [], []),
  (52, .ireturn, 1, [0], [])]
def mX12_sumSign : pv_M := (⟨"CliffGardenModel", "sumSign", "(I)I"⟩, prog_14_method_28_code, 1, some .int, rX12_sumSign)
def rX12_closesSums : List pv_R := [
  (0, .aload_n 0, 1, [], []),
  (1, .invokevirtual 265, 3, [169, 0, 12], [46]),
  (4, .iconst 4, 1, [], []),
  (5, .if_icmp .lt 12, 3, [8], []),
  (8, .aload_n 0, 1, [], []),
  (9, .invokevirtual 265, 3, [169, 0, 12], [46]),
  (12, .bipush 6, 2, [], []),
  (14, .if_icmp .le 23, 3, [18], []),
  (17, .iload_n 1, 1, [], []),
  (18, .ifCond .eq 41, 3, [30], []),
  (21, .aload_n 0, 1, [], []),
  (22, .invokevirtual 265, 3, [169, 0, 12], [46]),
  (25, .iconst 2, 1, [], []),
  (26, .if_icmp .eq 11, 3, [18], []),
  (29, .aload_n 0, 1, [], []),
  (30, .invokevirtual 265, 3, [169, 0, 12], [46]),
  (33, .iconst 3, 1, [], []),
  (34, .if_icmp .ne 25, 3, [30], []),
  (37, .aload_n 0, 1, [], []),
  (38, .aload_n 0, 1, [], []),
  (39, .invokevirtual 265, 3, [169, 0, 12], [46]),
  (42, .iconst 0, 1, [], []),
  (43, .invokevirtual 268, 3, [167, 2, 12], [74]),
  (46, .aload_n 0, 1, [], []),
  (47, .aload_n 0, 1, [], []),
  (48, .getfield 262, 3, [12, 32], [6]),
  (51, .iconst 1, 1, [], []),
  (52, .isub, 1, [], []),
  (53, .putfield 262, 3, [12, 32], [6]),
  (56, .goto (-56), 3, [0], []),
  (59, .return_, 1, [], [])]
def mX12_closesSums : pv_M := (⟨"CliffGardenModel", "closesSums", "(Z)V"⟩, prog_14_method_29_code, 2, none, rX12_closesSums)
def rX12_readsFactor : List pv_R := [
  (0, .aload_n 0, 1, [], []),
  (1, .invokevirtual 238, 3, [162, 0, 12], [14]),
  (4, .bipush 91, 2, [], []),
  (6, .if_icmp .ne 14, 3, [10], []),
  (9, .aload_n 0, 1, [], []),
  (10, .bipush 14, 2, [], []),
  (12, .invokevirtual 272, 3, [168, 1, 12], [181]),
  (15, .ifCond .ne (-15), 3, [0], []),
  (18, .iconst 0, 1, [], []),
  (19, .ireturn, 1, [1], []),
  (20, .aload_n 0, 1, [], []),
  (21, .invokevirtual 251, 3, [163, 0, 12], [288]),
  (24, .ifCond .eq 23, 3, [25], []),
  (27, .aload_n 0, 1, [], []),
  (28, .invokevirtual 276, 3, [166, 0, 12], [622]),
  (31, .ifCond .ne 5, 3, [18], []),
  (34, .iconst 0, 1, [], []),
  (35, .ireturn, 1, [1], []),
  (36, .aload_n 0, 1, [], []),
  (37, .iconst 0, 1, [], []),
  (38, .aload_n 0, 1, [], []),
  (39, .getfield 248, 3, [12, 34], [122]),
  (42, .invokevirtual 268, 3, [167, 2, 12], [74]),
  (45, .iconst 1, 1, [], []),
  (46, .ireturn, 1, [1], []),
  (47, .aload_n 0, 1, [], []),
  (48, .invokevirtual 238, 3, [162, 0, 12], [14]),
  (51, .invokestatic 279, 3, [170, 1], [558]),
  (54, .istore_n 1, 1, [], []),
  (55, .iload_n 1, 1, [], []),
  (56, .iconst (-1), 1, [], []),
  (57, .if_icmp .ne 13, 3, [38], []),
  (60, .aload_n 0, 1, [], []),
  (61, .iconst 1, 1, [], []),
  (62, .aload_n 0, 1, [], []),
  (63, .getfield 232, 3, [12, 27], [2]),
  (66, .invokevirtual 245, 3, [164, 2, 12], [34]),
  (69, .ireturn, 1, [1], []),
  (70, .aload_n 0, 1, [], []),
  (71, .iconst 1, 1, [], []),
  (72, .iload_n 1, 1, [], []),
  (73, .invokevirtual 268, 3, [167, 2, 12], [74]),
  (76, .aload_n 0, 1, [], []),
  (77, .aload_n 0, 1, [], []),
  (78, .getfield 232, 3, [12, 27], [2]),
  (81, .iconst 1, 1, [], []),
  (82, .iadd, 1, [], []),
  (83, .putfield 232, 3, [12, 27], [2]),
  (86, .iconst 1, 1, [], []),
  (87, .ireturn, 1, [1], [])]
def mX12_readsFactor : pv_M := (⟨"CliffGardenModel", "readsFactor", "()Z"⟩, prog_14_method_30_code, 2, some .boolean, rX12_readsFactor)
def rX12_hasOpenSum : List pv_R := [
  (0, .iload_n 1, 1, [], []),
  (1, .istore_n 2, 1, [], []),
  (2, .iload_n 2, 1, [], []),
  (3, .aload_n 0, 1, [], []),
  (4, .getfield 262, 3, [12, 32], [6]),
  (7, .if_icmp .ge 26, 3, [18], []),
  (10, .aload_n 0, 1, [], []),
  (11, .getfield 81, 3, [12, 37], [68]),
  (14, .iload_n 2, 1, [], []),
  (15, .iaload, 1, [], []),
  (16, .ldc_w 258, 3, [1048576], [28]),
  (19, .idiv, 1, [], []),
  (20, .bipush 14, 2, [], []),
  (22, .if_icmp .ne 5, 3, [16], []),
  (25, .iconst 1, 1, [], []),
  (26, .ireturn, 1, [1], []),
  (27, .iinc 2 1, 3, [], []),
  (30, .goto (-28), 3, [2], []),
  (33, .iconst 0, 1, [], []),
  (34, .ireturn, 1, [1], [])]
def mX12_hasOpenSum : pv_M := (⟨"CliffGardenModel", "hasOpenSum", "(I)Z"⟩, prog_14_method_31_code, 3, some .boolean, rX12_hasOpenSum)
def rX12_readsSum : List pv_R := [
  (0, .aload_n 0, 1, [], []),
  (1, .getfield 262, 3, [12, 32], [6]),
  (4, .istore_n 1, 1, [], []),
  (5, .aload_n 0, 1, [], []),
  (6, .invokevirtual 283, 3, [173, 0, 12], [289]),
  (9, .ifCond .ne 5, 3, [8], []),
  (12, .iconst 0, 1, [], []),
  (13, .ireturn, 1, [1], []),
  (14, .aload_n 0, 1, [], []),
  (15, .invokevirtual 238, 3, [162, 0, 12], [14]),
  (18, .invokestatic 286, 3, [171, 1], [559]),
  (21, .istore_n 2, 1, [], []),
  (22, .iload_n 2, 1, [], []),
  (23, .iconst (-1), 1, [], []),
  (24, .if_icmp .eq 60, 3, [48], []),
  (27, .aload_n 0, 1, [], []),
  (28, .iload_n 2, 1, [], []),
  (29, .iconst 4, 1, [], []),
  (30, .if_icmp .ge 7, 3, [21], []),
  (33, .iconst 1, 1, [], []),
  (34, .goto 4, 3, [22], []),
  (37, .iconst 0, 1, [], []),
  (38, .invokevirtual 289, 3, [172, 1, 12], [182]),
  (41, .aload_n 0, 1, [], []),
  (42, .getfield 81, 3, [12, 37], [68]),
  (45, .aload_n 0, 1, [], []),
  (46, .getfield 262, 3, [12, 32], [6]),
  (49, .ldc_w 258, 3, [1048576], [28]),
  (52, .iload_n 2, 1, [], []),
  (53, .imul, 1, [], []),
  (54, .iastore, 1, [], []),
  (55, .aload_n 0, 1, [], []),
  (56, .aload_n 0, 1, [], []),
  (57, .getfield 262, 3, [12, 32], [6]),
  (60, .iconst 1, 1, [], []),
  (61, .iadd, 1, [], []),
  (62, .putfield 262, 3, [12, 32], [6]),
  (65, .aload_n 0, 1, [], []),
  (66, .aload_n 0, 1, [], []),
  (67, .getfield 232, 3, [12, 27], [2]),
  (70, .iconst 1, 1, [], []),
  (71, .iadd, 1, [], []),
  (72, .putfield 232, 3, [12, 27], [2]),
  (75, .aload_n 0, 1, [], []),
  (76, .invokevirtual 283, 3, [173, 0, 12], [289]),
  (79, .ifCond .ne 85, 3, [93], []),
  (82, .iconst 0, 1, [], []),
  (83, .ireturn, 1, [1], []),
  (84, .aload_n 0, 1, [], []),
  (85, .invokevirtual 238, 3, [162, 0, 12], [14]),
  (88, .bipush 93, 2, [], []),
  (90, .if_icmp .ne 49, 3, [78], []),
  (93, .aload_n 0, 1, [], []),
  (94, .iload_n 1, 1, [], []),
  (95, .invokevirtual 293, 3, [174, 1, 12], [290]),
  (98, .ifCond .eq 41, 3, [78], []),
  (101, .aload_n 0, 1, [], []),
  (102, .iconst 1, 1, [], []),
  (103, .invokevirtual 289, 3, [172, 1, 12], [182]),
  (106, .aload_n 0, 1, [], []),
  (107, .aload_n 0, 1, [], []),
  (108, .getfield 262, 3, [12, 32], [6]),
  (111, .iconst 1, 1, [], []),
  (112, .isub, 1, [], []),
  (113, .putfield 262, 3, [12, 32], [6]),
  (116, .aload_n 0, 1, [], []),
  (117, .aload_n 0, 1, [], []),
  (118, .getfield 259, 3, [12, 30], [26]),
  (121, .iconst 1, 1, [], []),
  (122, .isub, 1, [], []),
  (123, .putfield 259, 3, [12, 30], [26]),
  (126, .aload_n 0, 1, [], []),
  (127, .aload_n 0, 1, [], []),
  (128, .getfield 232, 3, [12, 27], [2]),
  (131, .iconst 1, 1, [], []),
  (132, .iadd, 1, [], []),
  (133, .putfield 232, 3, [12, 27], [2]),
  (136, .goto 28, 3, [93], []),
  (139, .aload_n 0, 1, [], []),
  (140, .iload_n 1, 1, [], []),
  (141, .invokevirtual 293, 3, [174, 1, 12], [290]),
  (144, .ifCond .eq 13, 3, [88], []),
  (147, .aload_n 0, 1, [], []),
  (148, .iconst 1, 1, [], []),
  (149, .aload_n 0, 1, [], []),
  (150, .getfield 232, 3, [12, 27], [2]),
  (153, .invokevirtual 245, 3, [164, 2, 12], [34]),
  (156, .ireturn, 1, [1], []),
  (157, .aload_n 0, 1, [], []),
  (158, .iconst 1, 1, [], []),
  (159, .invokevirtual 289, 3, [172, 1, 12], [182]),
  (162, .iconst 1, 1, [], []),
  (163, .ireturn, 1, [1], []),
  (164, .goto (-150), 3, [8], [])]
def mX12_readsSum : pv_M := (⟨"CliffGardenModel", "readsSum", "()Z"⟩, prog_14_method_32_code, 3, some .boolean, rX12_readsSum)
def rX12_endsPiece : List pv_R := [
  (0, .aload_n 0, 1, [], []),
  (1, .invokevirtual 265, 3, [169, 0, 12], [46]),
  (4, .bipush 10, 2, [], []),
  (6, .if_icmp .ne 33, 3, [21], []),
  (9, .aload_n 0, 1, [], []),
  (10, .bipush 10, 2, [], []),
  (12, .iconst 0, 1, [], []),
  (13, .invokevirtual 268, 3, [167, 2, 12], [74]),
  (16, .aload_n 0, 1, [], []),
  (17, .aload_n 0, 1, [], []),
  (18, .getfield 262, 3, [12, 32], [6]),
  (21, .iconst 1, 1, [], []),
  (22, .isub, 1, [], []),
  (23, .putfield 262, 3, [12, 32], [6]),
  (26, .aload_n 0, 1, [], []),
  (27, .aload_n 0, 1, [], []),
  (28, .getfield 259, 3, [12, 30], [26]),
  (31, .iconst 1, 1, [], []),
  (32, .isub, 1, [], []),
  (33, .putfield 259, 3, [12, 30], [26]),
  (36, .goto (-36), 3, [0], []),
  (39, .return_, 1, [], [])]
def mX12_endsPiece : pv_M := (⟨"CliffGardenModel", "endsPiece", "()V"⟩, prog_14_method_33_code, 1, none, rX12_endsPiece)
def rX12_lands : List pv_R := [
  (0, .aload_n 0, 1, [], []),
  (1, .invokevirtual 265, 3, [169, 0, 12], [46]),
  (4, .bipush 11, 2, [], []),
  (6, .if_icmp .eq 16, 3, [10], []),
  (9, .iload_n 1, 1, [], []),
  (10, .ifCond .eq 66, 3, [42], []),
  (13, .aload_n 0, 1, [], []),
  (14, .invokevirtual 265, 3, [169, 0, 12], [46]),
  (17, .bipush 12, 2, [], []),
  (19, .if_icmp .ne 57, 3, [42], []),
  (22, .aload_n 0, 1, [], []),
  (23, .getfield 81, 3, [12, 37], [68]),
  (26, .aload_n 0, 1, [], []),
  (27, .getfield 262, 3, [12, 32], [6]),
  (30, .iconst 1, 1, [], []),
  (31, .isub, 1, [], []),
  (32, .iaload, 1, [], []),
  (33, .ldc_w 258, 3, [1048576], [28]),
  (36, .irem, 1, [], []),
  (37, .istore_n 2, 1, [], []),
  (38, .aload_n 0, 1, [], []),
  (39, .getfield 78, 3, [12, 36], [114]),
  (42, .iload_n 2, 1, [], []),
  (43, .ldc_w 258, 3, [1048576], [28]),
  (46, .aload_n 0, 1, [], []),
  (47, .getfield 78, 3, [12, 36], [114]),
  (50, .iload_n 2, 1, [], []),
  (51, .iaload, 1, [], []),
  (52, .ldc_w 258, 3, [1048576], [28]),
  (55, .idiv, 1, [], []),
  (56, .imul, 1, [], []),
  (57, .aload_n 0, 1, [], []),
  (58, .getfield 255, 3, [12, 31], [32]),
  (61, .iadd, 1, [], []),
  (62, .iastore, 1, [], []),
  (63, .aload_n 0, 1, [], []),
  (64, .aload_n 0, 1, [], []),
  (65, .getfield 262, 3, [12, 32], [6]),
  (68, .iconst 1, 1, [], []),
  (69, .isub, 1, [], []),
  (70, .putfield 262, 3, [12, 32], [6]),
  (73, .goto (-73), 3, [0], []),
  (76, .return_, 1, [], [])]
def mX12_lands : pv_M := (⟨"CliffGardenModel", "lands", "(Z)V"⟩, prog_14_method_34_code, 3, none, rX12_lands)
def rX12_jumps : List pv_R := [
  (0, .aload_n 0, 1, [], []),
  (1, .getfield 81, 3, [12, 37], [68]),
  (4, .aload_n 0, 1, [], []),
  (5, .getfield 262, 3, [12, 32], [6]),
  (8, .ldc_w 258, 3, [1048576], [28]),
  (11, .iload_n 1, 1, [], []),
  (12, .imul, 1, [], []),
  (13, .aload_n 0, 1, [], []),
  (14, .getfield 255, 3, [12, 31], [32]),
  (17, .iadd, 1, [], []),
  (18, .iastore, 1, [], []),
  (19, .aload_n 0, 1, [], []),
  (20, .aload_n 0, 1, [], []),
  (21, .getfield 262, 3, [12, 32], [6]),
  (24, .iconst 1, 1, [], []),
  (25, .iadd, 1, [], []),
  (26, .putfield 262, 3, [12, 32], [6]),
  (29, .aload_n 0, 1, [], []),
  (30, .iload_n 1, 1, [], []),
  (31, .iconst 0, 1, [], []),
  (32, .invokevirtual 268, 3, [167, 2, 12], [74]),
  (35, .aload_n 0, 1, [], []),
  (36, .aload_n 0, 1, [], []),
  (37, .getfield 232, 3, [12, 27], [2]),
  (40, .iconst 1, 1, [], []),
  (41, .iadd, 1, [], []),
  (42, .putfield 232, 3, [12, 27], [2]),
  (45, .return_, 1, [], [])]
def mX12_jumps : pv_M := (⟨"CliffGardenModel", "jumps", "(I)V"⟩, prog_14_method_35_code, 2, none, rX12_jumps)
def rX12_readsCompared : List pv_R := [
  (0, .aload_n 0, 1, [], []),
  (1, .invokevirtual 296, 3, [175, 0, 12], [183]),
  (4, .ifCond .ne 5, 3, [5], []),
  (7, .iconst 0, 1, [], []),
  (8, .ireturn, 1, [1], []),
  (9, .aload_n 0, 1, [], []),
  (10, .invokevirtual 238, 3, [162, 0, 12], [14]),
  (13, .bipush 60, 2, [], []),
  (15, .if_icmp .ne 8, 3, [11], []),
  (18, .bipush 7, 2, [], []),
  (20, .goto 32, 3, [24], []),
  (23, .aload_n 0, 1, [], []),
  (24, .invokevirtual 238, 3, [162, 0, 12], [14]),
  (27, .bipush 62, 2, [], []),
  (29, .if_icmp .ne 8, 3, [17], []),
  (32, .bipush 8, 2, [], []),
  (34, .goto 18, 3, [24], []),
  (37, .aload_n 0, 1, [], []),
  (38, .invokevirtual 238, 3, [162, 0, 12], [14]),
  (41, .bipush 61, 2, [], []),
  (43, .if_icmp .ne 8, 3, [23], []),
  (46, .bipush 9, 2, [], []),
  (48, .goto 4, 3, [24], []),
  (51, .iconst (-1), 1, [], []),
  (52, .istore_n 1, 1, [], []),
  (53, .iload_n 1, 1, [], []),
  (54, .iconst (-1), 1, [], []),
  (55, .if_icmp .ne 13, 3, [34], []),
  (58, .aload_n 0, 1, [], []),
  (59, .iconst 1, 1, [], []),
  (60, .aload_n 0, 1, [], []),
  (61, .getfield 232, 3, [12, 27], [2]),
  (64, .invokevirtual 245, 3, [164, 2, 12], [34]),
  (67, .ireturn, 1, [1], []),
  (68, .aload_n 0, 1, [], []),
  (69, .aload_n 0, 1, [], []),
  (70, .getfield 232, 3, [12, 27], [2]),
  (73, .iconst 1, 1, [], []),
  (74, .iadd, 1, [], []),
  (75, .putfield 232, 3, [12, 27], [2]),
  (78, .aload_n 0, 1, [], []),
  (79, .invokevirtual 296, 3, [175, 0, 12], [183]),
  (82, .ifCond .ne 5, 3, [45], []),
  (85, .iconst 0, 1, [], []),
  (86, .ireturn, 1, [1], []),
  (87, .aload_n 0, 1, [], []),
  (88, .iload_n 1, 1, [], []),
  (89, .iconst 0, 1, [], []),
  (90, .invokevirtual 268, 3, [167, 2, 12], [74]),
  (93, .aload_n 0, 1, [], []),
  (94, .invokevirtual 299, 3, [176, 0, 12], [291]),
  (97, .iconst 1, 1, [], []),
  (98, .ireturn, 1, [1], [])]
def mX12_readsCompared : pv_M := (⟨"CliffGardenModel", "readsCompared", "()Z"⟩, prog_14_method_36_code, 2, some .boolean, rX12_readsCompared)
def rX12_readsCondition : List pv_R := [
  (0, .aload_n 0, 1, [], []),
  (1, .invokevirtual 238, 3, [162, 0, 12], [14]),
  (4, .bipush 40, 2, [], []),
  (6, .if_icmp .eq 13, 3, [10], []),
  (9, .aload_n 0, 1, [], []),
  (10, .iconst 1, 1, [], []),
  (11, .aload_n 0, 1, [], []),
  (12, .getfield 232, 3, [12, 27], [2]),
  (15, .invokevirtual 245, 3, [164, 2, 12], [34]),
  (18, .ireturn, 1, [1], []),
  (19, .aload_n 0, 1, [], []),
  (20, .iconst 0, 1, [], []),
  (21, .putfield 259, 3, [12, 30], [26]),
  (24, .aload_n 0, 1, [], []),
  (25, .iconst 0, 1, [], []),
  (26, .putfield 262, 3, [12, 32], [6]),
  (29, .aload_n 0, 1, [], []),
  (30, .bipush 13, 2, [], []),
  (32, .invokevirtual 272, 3, [168, 1, 12], [181]),
  (35, .ifCond .ne 5, 3, [22], []),
  (38, .iconst 0, 1, [], []),
  (39, .ireturn, 1, [1], []),
  (40, .aload_n 0, 1, [], []),
  (41, .invokevirtual 238, 3, [162, 0, 12], [14]),
  (44, .bipush 33, 2, [], []),
  (46, .if_icmp .eq 12, 3, [30], []),
  (49, .aload_n 0, 1, [], []),
  (50, .invokevirtual 238, 3, [162, 0, 12], [14]),
  (53, .bipush 40, 2, [], []),
  (55, .if_icmp .ne 28, 3, [42], []),
  (58, .aload_n 0, 1, [], []),
  (59, .aload_n 0, 1, [], []),
  (60, .invokevirtual 238, 3, [162, 0, 12], [14]),
  (63, .bipush 33, 2, [], []),
  (65, .if_icmp .ne 8, 3, [37], []),
  (68, .bipush 10, 2, [], []),
  (70, .goto 5, 3, [38], []),
  (73, .bipush 13, 2, [], []),
  (75, .invokevirtual 272, 3, [168, 1, 12], [181]),
  (78, .ifCond .ne (-38), 3, [22], []),
  (81, .iconst 0, 1, [], []),
  (82, .ireturn, 1, [1], []),
  (83, .aload_n 0, 1, [], []),
  (84, .invokevirtual 302, 3, [179, 0, 12], [623]),
  (87, .ifCond .ne 5, 3, [47], []),
  (90, .iconst 0, 1, [], []),
  (91, .ireturn, 1, [1], []),
  (92, .aload_n 0, 1, [], []),
  (93, .invokevirtual 238, 3, [162, 0, 12], [14]),
  (96, .bipush 41, 2, [], []),
  (98, .if_icmp .ne 54, 3, [80], []),
  (101, .aload_n 0, 1, [], []),
  (102, .iconst 1, 1, [], []),
  (103, .invokevirtual 305, 3, [177, 1, 12], [292]),
  (106, .aload_n 0, 1, [], []),
  (107, .aload_n 0, 1, [], []),
  (108, .getfield 262, 3, [12, 32], [6]),
  (111, .iconst 1, 1, [], []),
  (112, .isub, 1, [], []),
  (113, .putfield 262, 3, [12, 32], [6]),
  (116, .aload_n 0, 1, [], []),
  (117, .aload_n 0, 1, [], []),
  (118, .getfield 259, 3, [12, 30], [26]),
  (121, .iconst 1, 1, [], []),
  (122, .isub, 1, [], []),
  (123, .putfield 259, 3, [12, 30], [26]),
  (126, .aload_n 0, 1, [], []),
  (127, .aload_n 0, 1, [], []),
  (128, .getfield 232, 3, [12, 27], [2]),
  (131, .iconst 1, 1, [], []),
  (132, .iadd, 1, [], []),
  (133, .putfield 232, 3, [12, 27], [2]),
  (136, .aload_n 0, 1, [], []),
  (137, .getfield 262, 3, [12, 32], [6]),
  (140, .ifCond .ne 5, 3, [77], []),
  (143, .iconst 1, 1, [], []),
  (144, .ireturn, 1, [1], []),
  (145, .aload_n 0, 1, [], []),
  (146, .invokevirtual 299, 3, [176, 0, 12], [291]),
  (149, .goto (-57), 3, [47], []),
  (152, .aload_n 0, 1, [], []),
  (153, .invokevirtual 238, 3, [162, 0, 12], [14]),
  (156, .bipush 38, 2, [], []),
  (158, .if_icmp .eq 22, 3, [94], []),
  (161, .aload_n 0, 1, [], []),
  (162, .invokevirtual 238, 3, [162, 0, 12], [14]),
  (165, .bipush 124, 2, [], []),
  (167, .if_icmp .eq 13, 3, [94], []),
  (170, .aload_n 0, 1, [], []),
  (171, .iconst 1, 1, [], []),
  (172, .aload_n 0, 1, [], []),
  (173, .getfield 232, 3, [12, 27], [2]),
  (176, .invokevirtual 245, 3, [164, 2, 12], [34]),
  (179, .ireturn, 1, [1], []),
  (180, .aload_n 0, 1, [], []),
  (181, .aload_n 0, 1, [], []),
  (182, .invokevirtual 238, 3, [162, 0, 12], [14]),
  (185, .bipush 124, 2, [], []),
  (187, .if_icmp .ne 7, 3, [101], []),
  (190, .iconst 1, 1, [], []),
  (191, .goto 4, 3, [102], []),
  (194, .iconst 0, 1, [], []),
  (195, .invokevirtual 305, 3, [177, 1, 12], [292]),
  (198, .aload_n 0, 1, [], []),
  (199, .aload_n 0, 1, [], []),
  (200, .invokevirtual 238, 3, [162, 0, 12], [14]),
  (203, .bipush 38, 2, [], []),
  (205, .if_icmp .ne 8, 3, [110], []),
  (208, .bipush 11, 2, [], []),
  (210, .goto 5, 3, [111], []),
  (213, .bipush 12, 2, [], []),
  (215, .invokevirtual 308, 3, [178, 1, 12], [624]),
  (218, .goto (-178), 3, [22], [])]
def mX12_readsCondition : pv_M := (⟨"CliffGardenModel", "readsCondition", "()Z"⟩, prog_14_method_37_code, 1, some .boolean, rX12_readsCondition)
def rX12_canBegin : List pv_R := [
  (0, .iload_n 0, 1, [], []),
  (1, .bipush 103, 2, [], []),
  (3, .if_icmp .eq 33, 3, [18], []),
  (6, .iload_n 0, 1, [], []),
  (7, .bipush 102, 2, [], []),
  (9, .if_icmp .eq 27, 3, [18], []),
  (12, .iload_n 0, 1, [], []),
  (13, .bipush 97, 2, [], []),
  (15, .if_icmp .eq 21, 3, [18], []),
  (18, .iload_n 0, 1, [], []),
  (19, .bipush 99, 2, [], []),
  (21, .if_icmp .eq 15, 3, [18], []),
  (24, .iload_n 0, 1, [], []),
  (25, .bipush 111, 2, [], []),
  (27, .if_icmp .eq 9, 3, [18], []),
  (30, .iload_n 0, 1, [], []),
  (31, .bipush 113, 2, [], []),
  (33, .if_icmp .ne 7, 3, [20], []),
  (36, .iconst 1, 1, [], []),
  (37, .goto 4, 3, [21], []),
  (40, .iconst 0, 1, [], []),
  (41, .ireturn, 1, [1], [])]
def mX12_canBegin : pv_M := (⟨"CliffGardenModel", "canBegin", "(I)Z"⟩, prog_14_method_38_code, 1, some .boolean, rX12_canBegin)
def rX12_readsClause : List pv_R := [
  (0, .aload_n 0, 1, [], []),
  (1, .invokevirtual 238, 3, [162, 0, 12], [14]),
  (4, .istore_n 1, 1, [], []),
  (5, .iload_n 1, 1, [], []),
  (6, .invokestatic 311, 3, [181, 1], [560]),
  (9, .ifCond .ne 13, 3, [12], []),
  (12, .aload_n 0, 1, [], []),
  (13, .iconst 1, 1, [], []),
  (14, .aload_n 0, 1, [], []),
  (15, .getfield 232, 3, [12, 27], [2]),
  (18, .invokevirtual 245, 3, [164, 2, 12], [34]),
  (21, .ireturn, 1, [1], []),
  (22, .aload_n 0, 1, [], []),
  (23, .getfield 314, 3, [12, 33], [27]),
  (26, .bipush 14, 2, [], []),
  (28, .if_icmp .ne 13, 3, [22], []),
  (31, .aload_n 0, 1, [], []),
  (32, .iconst 4, 1, [], []),
  (33, .aload_n 0, 1, [], []),
  (34, .getfield 232, 3, [12, 27], [2]),
  (37, .invokevirtual 245, 3, [164, 2, 12], [34]),
  (40, .ireturn, 1, [1], []),
  (41, .aload_n 0, 1, [], []),
  (42, .getfield 84, 3, [12, 38], [223]),
  (45, .aload_n 0, 1, [], []),
  (46, .getfield 314, 3, [12, 33], [27]),
  (49, .iload_n 1, 1, [], []),
  (50, .iastore, 1, [], []),
  (51, .aload_n 0, 1, [], []),
  (52, .aload_n 0, 1, [], []),
  (53, .getfield 232, 3, [12, 27], [2]),
  (56, .iconst 1, 1, [], []),
  (57, .iadd, 1, [], []),
  (58, .putfield 232, 3, [12, 27], [2]),
  (61, .aload_n 0, 1, [], []),
  (62, .getfield 87, 3, [12, 39], [224]),
  (65, .aload_n 0, 1, [], []),
  (66, .getfield 314, 3, [12, 33], [27]),
  (69, .aload_n 0, 1, [], []),
  (70, .getfield 255, 3, [12, 31], [32]),
  (73, .iastore, 1, [], []),
  (74, .aload_n 0, 1, [], []),
  (75, .iconst 0, 1, [], []),
  (76, .putfield 259, 3, [12, 30], [26]),
  (79, .aload_n 0, 1, [], []),
  (80, .iconst 0, 1, [], []),
  (81, .putfield 262, 3, [12, 32], [6]),
  (84, .aload_n 0, 1, [], []),
  (85, .invokevirtual 296, 3, [175, 0, 12], [183]),
  (88, .ifCond .ne 5, 3, [52], []),
  (91, .iconst 0, 1, [], []),
  (92, .ireturn, 1, [1], []),
  (93, .aload_n 0, 1, [], []),
  (94, .getfield 90, 3, [12, 40], [225]),
  (97, .aload_n 0, 1, [], []),
  (98, .getfield 314, 3, [12, 33], [27]),
  (101, .aload_n 0, 1, [], []),
  (102, .getfield 255, 3, [12, 31], [32]),
  (105, .iastore, 1, [], []),
  (106, .aload_n 0, 1, [], []),
  (107, .invokevirtual 317, 3, [180, 0, 12], [625]),
  (110, .ifCond .ne 5, 3, [64], []),
  (113, .iconst 0, 1, [], []),
  (114, .ireturn, 1, [1], []),
  (115, .aload_n 0, 1, [], []),
  (116, .getfield 93, 3, [12, 41], [226]),
  (119, .aload_n 0, 1, [], []),
  (120, .getfield 314, 3, [12, 33], [27]),
  (123, .aload_n 0, 1, [], []),
  (124, .getfield 255, 3, [12, 31], [32]),
  (127, .iastore, 1, [], []),
  (128, .aload_n 0, 1, [], []),
  (129, .aload_n 0, 1, [], []),
  (130, .getfield 314, 3, [12, 33], [27]),
  (133, .iconst 1, 1, [], []),
  (134, .iadd, 1, [], []),
  (135, .putfield 314, 3, [12, 33], [27]),
  (138, .iconst 1, 1, [], []),
  (139, .ireturn, 1, [1], [])]
def mX12_readsClause : pv_M := (⟨"CliffGardenModel", "readsClause", "()Z"⟩, prog_14_method_39_code, 2, some .boolean, rX12_readsClause)
def rX12_law : List pv_R := [
  (0, .iload_n 1, 1, [], []),
  (1, .iconst 1, 1, [], []),
  (2, .sipush 200, 3, [], []),
  (5, .invokestatic 206, 3, [145, 3], [1]),
  (8, .ifCond .eq 11, 3, [9], []),
  (11, .iload_n 1, 1, [], []),
  (12, .aload_n 0, 1, [], []),
  (13, .getfield 226, 3, [12, 26], [31]),
  (16, .if_icmp .le 5, 3, [11], []),
  (19, .iconst (-1), 1, [], []),
  (20, .ireturn, 1, [0], []),
  (21, .aload_n 0, 1, [], []),
  (22, .iconst 0, 1, [], []),
  (23, .putfield 232, 3, [12, 27], [2]),
  (26, .aload_n 0, 1, [], []),
  (27, .iload_n 1, 1, [], []),
  (28, .putfield 235, 3, [12, 28], [166]),
  (31, .aload_n 0, 1, [], []),
  (32, .iconst 0, 1, [], []),
  (33, .putfield 255, 3, [12, 31], [32]),
  (36, .aload_n 0, 1, [], []),
  (37, .iconst 0, 1, [], []),
  (38, .putfield 314, 3, [12, 33], [27]),
  (41, .aload_n 0, 1, [], []),
  (42, .invokevirtual 320, 3, [182, 0, 12], [293]),
  (45, .istore_n 2, 1, [], []),
  (46, .iload_n 2, 1, [], []),
  (47, .ifCond .eq 39, 3, [45], []),
  (50, .aload_n 0, 1, [], []),
  (51, .getfield 232, 3, [12, 27], [2]),
  (54, .aload_n 0, 1, [], []),
  (55, .getfield 235, 3, [12, 28], [166]),
  (58, .if_icmp .ge 28, 3, [45], []),
  (61, .aload_n 0, 1, [], []),
  (62, .bipush 59, 2, [], []),
  (64, .invokevirtual 323, 3, [165, 1, 12], [626]),
  (67, .ifCond .eq 14, 3, [42], []),
  (70, .aload_n 0, 1, [], []),
  (71, .invokevirtual 320, 3, [182, 0, 12], [293]),
  (74, .ifCond .eq 7, 3, [42], []),
  (77, .iconst 1, 1, [], []),
  (78, .goto 4, 3, [43], []),
  (81, .iconst 0, 1, [], []),
  (82, .istore_n 2, 1, [], []),
  (83, .goto (-37), 3, [26], []),
  (86, .aload_n 0, 1, [], []),
  (87, .iconst 0, 1, [], []),
  (88, .putfield 226, 3, [12, 26], [31]),
  (91, .iload_n 2, 1, [], []),
  (92, .ifCond .ne 8, 3, [53], []),
  (95, .aload_n 0, 1, [], []),
  (96, .getfield 242, 3, [12, 29], [238]),
  (99, .ireturn, 1, [0], []),
  (100, .aload_n 0, 1, [], []),
  (101, .aload_n 0, 1, [], []),
  (102, .getfield 314, 3, [12, 33], [27]),
  (105, .putfield 326, 3, [12, 35], [167]),
  (108, .iconst 0, 1, [], []),
  (109, .istore_n 3, 1, [], []),
  (110, .iload_n 3, 1, [], []),
  (111, .aload_n 0, 1, [], []),
  (112, .getfield 255, 3, [12, 31], [32]),
  (115, .if_icmp .ge 21, 3, [73], []),
  (118, .aload_n 0, 1, [], []),
  (119, .getfield 96, 3, [12, 42], [159]),
  (122, .iload_n 3, 1, [], []),
  (123, .aload_n 0, 1, [], []),
  (124, .getfield 78, 3, [12, 36], [114]),
  (127, .iload_n 3, 1, [], []),
  (128, .iaload, 1, [], []),
  (129, .iastore, 1, [], []),
  (130, .iinc 3 1, 3, [], []),
  (133, .goto (-23), 3, [59], []),
  (136, .iconst 0, 1, [], []),
  (137, .istore_n 3, 1, [], []),
  (138, .iload_n 3, 1, [], []),
  (139, .aload_n 0, 1, [], []),
  (140, .getfield 314, 3, [12, 33], [27]),
  (143, .if_icmp .ge 57, 3, [113], []),
  (146, .aload_n 0, 1, [], []),
  (147, .getfield 99, 3, [12, 43], [227]),
  (150, .iload_n 3, 1, [], []),
  (151, .aload_n 0, 1, [], []),
  (152, .getfield 84, 3, [12, 38], [223]),
  (155, .iload_n 3, 1, [], []),
  (156, .iaload, 1, [], []),
  (157, .iastore, 1, [], []),
  (158, .aload_n 0, 1, [], []),
  (159, .getfield 102, 3, [12, 44], [228]),
  (162, .iload_n 3, 1, [], []),
  (163, .aload_n 0, 1, [], []),
  (164, .getfield 87, 3, [12, 39], [224]),
  (167, .iload_n 3, 1, [], []),
  (168, .iaload, 1, [], []),
  (169, .iastore, 1, [], []),
  (170, .aload_n 0, 1, [], []),
  (171, .getfield 105, 3, [12, 45], [160]),
  (174, .iload_n 3, 1, [], []),
  (175, .aload_n 0, 1, [], []),
  (176, .getfield 90, 3, [12, 40], [225]),
  (179, .iload_n 3, 1, [], []),
  (180, .iaload, 1, [], []),
  (181, .iastore, 1, [], []),
  (182, .aload_n 0, 1, [], []),
  (183, .getfield 108, 3, [12, 46], [229]),
  (186, .iload_n 3, 1, [], []),
  (187, .aload_n 0, 1, [], []),
  (188, .getfield 93, 3, [12, 41], [226]),
  (191, .iload_n 3, 1, [], []),
  (192, .iaload, 1, [], []),
  (193, .iastore, 1, [], []),
  (194, .iinc 3 1, 3, [], []),
  (197, .goto (-59), 3, [75], []),
  (200, .aload_n 0, 1, [], []),
  (201, .getfield 314, 3, [12, 33], [27]),
  (204, .ireturn, 1, [0], [])]
def mX12_law : pv_M := (⟨"CliffGardenModel", "law", "(I)I"⟩, prog_14_method_40_code, 4, some .int, rX12_law)
def rX12_reckon : List pv_R := [
  (0, .iload_n 0, 1, [], []),
  (1, .tableswitch 85 2 8 #[43, 47, 51, 55, 59, 63, 74], 43, [36, 2, 6, 10, 14, 18, 22, 29], []),
  (44, .iload_n 1, 1, [], []),
  (45, .iload_n 2, 1, [], []),
  (46, .iadd, 1, [], []),
  (47, .ireturn, 1, [0], []),
  (48, .iload_n 1, 1, [], []),
  (49, .iload_n 2, 1, [], []),
  (50, .isub, 1, [], []),
  (51, .ireturn, 1, [0], []),
  (52, .iload_n 1, 1, [], []),
  (53, .iload_n 2, 1, [], []),
  (54, .imul, 1, [], []),
  (55, .ireturn, 1, [0], []),
  (56, .iload_n 1, 1, [], []),
  (57, .iload_n 2, 1, [], []),
  (58, .idiv, 1, [], []),
  (59, .ireturn, 1, [0], []),
  (60, .iload_n 1, 1, [], []),
  (61, .iload_n 2, 1, [], []),
  (62, .irem, 1, [], []),
  (63, .ireturn, 1, [0], []),
  (64, .iload_n 1, 1, [], []),
  (65, .iload_n 2, 1, [], []),
  (66, .if_icmp .ge 7, 3, [27], []),
  (69, .iconst 1, 1, [], []),
  (70, .goto 4, 3, [28], []),
  (73, .iconst 0, 1, [], []),
  (74, .ireturn, 1, [0], []),
  (75, .iload_n 1, 1, [], []),
  (76, .iload_n 2, 1, [], []),
  (77, .if_icmp .le 7, 3, [34], []),
  (80, .iconst 1, 1, [], []),
  (81, .goto 4, 3, [35], []),
  (84, .iconst 0, 1, [], []),
  (85, .ireturn, 1, [0], []),
  (86, .iload_n 1, 1, [], []),
  (87, .iload_n 2, 1, [], []),
  (88, .if_icmp .ne 7, 3, [41], []),
  (91, .iconst 1, 1, [], []),
  (92, .goto 4, 3, [42], []),
  (95, .iconst 0, 1, [], []),
  (96, .ireturn, 1, [0], [])]
def mX12_reckon : pv_M := (⟨"CliffGardenModel", "reckon", "(III)I"⟩, prog_14_method_41_code, 3, some .int, rX12_reckon)
def rX12_comesTo : List pv_R := [
  (0, .iconst 0, 1, [], []),
  (1, .istore_n 3, 1, [], []),
  (2, .sipush 220, 3, [], []),
  (5, .iload_n 1, 1, [], []),
  (6, .sipush 220, 3, [], []),
  (9, .idiv, 1, [], []),
  (10, .imul, 1, [], []),
  (11, .istore 4, 2, [], []),
  (13, .iload_n 1, 1, [], []),
  (14, .istore 5, 2, [], []),
  (16, .iload 5, 2, [], []),
  (18, .iload_n 2, 1, [], []),
  (19, .if_icmp .ge 216, 3, [136], []),
  (22, .aload_n 0, 1, [], []),
  (23, .getfield 96, 3, [12, 42], [159]),
  (26, .iload 5, 2, [], []),
  (28, .iaload, 1, [], []),
  (29, .ldc_w 258, 3, [1048576], [28]),
  (32, .idiv, 1, [], []),
  (33, .istore 6, 2, [], []),
  (35, .aload_n 0, 1, [], []),
  (36, .getfield 96, 3, [12, 42], [159]),
  (39, .iload 5, 2, [], []),
  (41, .iaload, 1, [], []),
  (42, .ldc_w 258, 3, [1048576], [28]),
  (45, .irem, 1, [], []),
  (46, .istore 7, 2, [], []),
  (48, .iload 5, 2, [], []),
  (50, .iconst 1, 1, [], []),
  (51, .iadd, 1, [], []),
  (52, .istore 5, 2, [], []),
  (54, .iload 6, 2, [], []),
  (56, .ifCond .eq 9, 3, [36], []),
  (59, .iload 6, 2, [], []),
  (61, .iconst 1, 1, [], []),
  (62, .if_icmp .ne 33, 3, [53], []),
  (65, .aload_n 0, 1, [], []),
  (66, .getfield 111, 3, [12, 47], [39]),
  (69, .iload_n 3, 1, [], []),
  (70, .iload 6, 2, [], []),
  (72, .ifCond .ne 8, 3, [43], []),
  (75, .iload 7, 2, [], []),
  (77, .goto 10, 3, [47], []),
  (80, .aload_n 0, 1, [], []),
  (81, .getfield 114, 3, [12, 48], [17]),
  (84, .iload 7, 2, [], []),
  (86, .iaload, 1, [], []),
  (87, .iastore, 1, [], []),
  (88, .iload_n 3, 1, [], []),
  (89, .iconst 1, 1, [], []),
  (90, .iadd, 1, [], []),
  (91, .istore_n 3, 1, [], []),
  (92, .goto 140, 3, [135], []),
  (95, .iload 6, 2, [], []),
  (97, .bipush 10, 2, [], []),
  (99, .if_icmp .ne 24, 3, [71], []),
  (102, .aload_n 0, 1, [], []),
  (103, .getfield 111, 3, [12, 47], [39]),
  (106, .iload_n 3, 1, [], []),
  (107, .iconst 1, 1, [], []),
  (108, .isub, 1, [], []),
  (109, .iconst 1, 1, [], []),
  (110, .aload_n 0, 1, [], []),
  (111, .getfield 111, 3, [12, 47], [39]),
  (114, .iload_n 3, 1, [], []),
  (115, .iconst 1, 1, [], []),
  (116, .isub, 1, [], []),
  (117, .iaload, 1, [], []),
  (118, .isub, 1, [], []),
  (119, .iastore, 1, [], []),
  (120, .goto 112, 3, [135], []),
  (123, .iload 6, 2, [], []),
  (125, .bipush 11, 2, [], []),
  (127, .if_icmp .eq 10, 3, [77], []),
  (130, .iload 6, 2, [], []),
  (132, .bipush 12, 2, [], []),
  (134, .if_icmp .ne 43, 3, [100], []),
  (137, .aload_n 0, 1, [], []),
  (138, .getfield 111, 3, [12, 47], [39]),
  (141, .iload_n 3, 1, [], []),
  (142, .iconst 1, 1, [], []),
  (143, .isub, 1, [], []),
  (144, .iaload, 1, [], []),
  (145, .iload 6, 2, [], []),
  (147, .bipush 12, 2, [], []),
  (149, .if_icmp .ne 7, 3, [88], []),
  (152, .iconst 1, 1, [], []),
  (153, .goto 4, 3, [89], []),
  (156, .iconst 0, 1, [], []),
  (157, .if_icmp .ne 13, 3, [95], []),
  (160, .iload 4, 2, [], []),
  (162, .iload 7, 2, [], []),
  (164, .iadd, 1, [], []),
  (165, .istore 5, 2, [], []),
  (167, .goto 65, 3, [135], []),
  (170, .iload_n 3, 1, [], []),
  (171, .iconst 1, 1, [], []),
  (172, .isub, 1, [], []),
  (173, .istore_n 3, 1, [], []),
  (174, .goto 58, 3, [135], []),
  (177, .iload_n 3, 1, [], []),
  (178, .iconst 1, 1, [], []),
  (179, .isub, 1, [], []),
  (180, .istore_n 3, 1, [], []),
  (181, .iload 6, 2, [], []),
  (183, .iconst 5, 1, [], []),
  (184, .if_icmp .eq 10, 3, [110], []),
  (187, .iload 6, 2, [], []),
  (189, .bipush 6, 2, [], []),
  (191, .if_icmp .ne 14, 3, [117], []),
  (194, .aload_n 0, 1, [], []),
  (195, .getfield 111, 3, [12, 47], [39]),
  (198, .iload_n 3, 1, [], []),
  (199, .iaload, 1, [], []),
  (200, .ifCond .ne 5, 3, [117], []),
  (203, .iconst 0, 1, [], []),
  (204, .ireturn, 1, [0], []),
  (205, .aload_n 0, 1, [], []),
  (206, .getfield 111, 3, [12, 47], [39]),
  (209, .iload_n 3, 1, [], []),
  (210, .iconst 1, 1, [], []),
  (211, .isub, 1, [], []),
  (212, .iload 6, 2, [], []),
  (214, .aload_n 0, 1, [], []),
  (215, .getfield 111, 3, [12, 47], [39]),
  (218, .iload_n 3, 1, [], []),
  (219, .iconst 1, 1, [], []),
  (220, .isub, 1, [], []),
  (221, .iaload, 1, [], []),
  (222, .aload_n 0, 1, [], []),
  (223, .getfield 111, 3, [12, 47], [39]),
  (226, .iload_n 3, 1, [], []),
  (227, .iaload, 1, [], []),
  (228, .invokestatic 329, 3, [184, 3], [561]),
  (231, .iastore, 1, [], []),
  (232, .goto (-216), 3, [10], []),
  (235, .aload_n 0, 1, [], []),
  (236, .getfield 111, 3, [12, 47], [39]),
  (239, .iconst 0, 1, [], []),
  (240, .iaload, 1, [], []),
  (241, .ireturn, 1, [0], [])]
def mX12_comesTo : pv_M := (⟨"CliffGardenModel", "comesTo", "(II)I"⟩, prog_14_method_42_code, 8, some .int, rX12_comesTo)
def rX12_told : List pv_R := [
  (0, .iconst 0, 1, [], []),
  (1, .istore_n 3, 1, [], []),
  (2, .iload_n 3, 1, [], []),
  (3, .aload_n 0, 1, [], []),
  (4, .getfield 326, 3, [12, 35], [167]),
  (7, .if_icmp .ge 82, 3, [49], []),
  (10, .aload_n 0, 1, [], []),
  (11, .getfield 99, 3, [12, 43], [227]),
  (14, .iload_n 3, 1, [], []),
  (15, .iaload, 1, [], []),
  (16, .iload_n 1, 1, [], []),
  (17, .if_icmp .ne 66, 3, [47], []),
  (20, .aload_n 0, 1, [], []),
  (21, .aload_n 0, 1, [], []),
  (22, .getfield 105, 3, [12, 45], [160]),
  (25, .iload_n 3, 1, [], []),
  (26, .iaload, 1, [], []),
  (27, .aload_n 0, 1, [], []),
  (28, .getfield 108, 3, [12, 46], [229]),
  (31, .iload_n 3, 1, [], []),
  (32, .iaload, 1, [], []),
  (33, .invokevirtual 333, 3, [185, 2, 12], [294]),
  (36, .iconst 1, 1, [], []),
  (37, .if_icmp .eq 6, 3, [25], []),
  (40, .goto 43, 3, [47], []),
  (43, .aload_n 0, 1, [], []),
  (44, .aload_n 0, 1, [], []),
  (45, .getfield 102, 3, [12, 44], [228]),
  (48, .iload_n 3, 1, [], []),
  (49, .iaload, 1, [], []),
  (50, .aload_n 0, 1, [], []),
  (51, .getfield 105, 3, [12, 45], [160]),
  (54, .iload_n 3, 1, [], []),
  (55, .iaload, 1, [], []),
  (56, .invokevirtual 333, 3, [185, 2, 12], [294]),
  (59, .istore 4, 2, [], []),
  (61, .iload 4, 2, [], []),
  (63, .ifCond .ge 7, 3, [40], []),
  (66, .iconst 0, 1, [], []),
  (67, .goto 15, 3, [46], []),
  (70, .iload 4, 2, [], []),
  (72, .iload_n 2, 1, [], []),
  (73, .if_icmp .le 7, 3, [45], []),
  (76, .iload_n 2, 1, [], []),
  (77, .goto 5, 3, [46], []),
  (80, .iload 4, 2, [], []),
  (82, .ireturn, 1, [0], []),
  (83, .iinc 3 1, 3, [], []),
  (86, .goto (-84), 3, [2], []),
  (89, .iconst 0, 1, [], []),
  (90, .ireturn, 1, [0], [])]
def mX12_told : pv_M := (⟨"CliffGardenModel", "told", "(II)I"⟩, prog_14_method_43_code, 5, some .int, rX12_told)
def rX12_feelsCell : List pv_R := [
  (0, .aload_n 0, 1, [], []),
  (1, .getfield 114, 3, [12, 48], [17]),
  (4, .iconst 2, 1, [], []),
  (5, .iload_n 1, 1, [], []),
  (6, .bipush 6, 2, [], []),
  (8, .idiv, 1, [], []),
  (9, .iastore, 1, [], []),
  (10, .aload_n 0, 1, [], []),
  (11, .getfield 114, 3, [12, 48], [17]),
  (14, .iconst 3, 1, [], []),
  (15, .iload_n 1, 1, [], []),
  (16, .bipush 6, 2, [], []),
  (18, .irem, 1, [], []),
  (19, .iastore, 1, [], []),
  (20, .aload_n 0, 1, [], []),
  (21, .getfield 114, 3, [12, 48], [17]),
  (24, .iconst 4, 1, [], []),
  (25, .aload_n 0, 1, [], []),
  (26, .getfield 7, 3, [12, 4], [3]),
  (29, .iload_n 1, 1, [], []),
  (30, .baload, 1, [1], []),
  (31, .ifCond .eq 12, 3, [27], []),
  (34, .aload_n 0, 1, [], []),
  (35, .getfield 20, 3, [12, 7], [84]),
  (38, .iload_n 1, 1, [], []),
  (39, .iaload, 1, [], []),
  (40, .goto 4, 3, [28], []),
  (43, .iconst 0, 1, [], []),
  (44, .iastore, 1, [], []),
  (45, .aload_n 0, 1, [], []),
  (46, .getfield 114, 3, [12, 48], [17]),
  (49, .iconst 5, 1, [], []),
  (50, .aload_n 0, 1, [], []),
  (51, .getfield 7, 3, [12, 4], [3]),
  (54, .iload_n 1, 1, [], []),
  (55, .baload, 1, [1], []),
  (56, .ifCond .eq 12, 3, [42], []),
  (59, .aload_n 0, 1, [], []),
  (60, .getfield 16, 3, [12, 6], [24]),
  (63, .iload_n 1, 1, [], []),
  (64, .iaload, 1, [], []),
  (65, .goto 4, 3, [43], []),
  (68, .iconst 0, 1, [], []),
  (69, .iastore, 1, [], []),
  (70, .aload_n 0, 1, [], []),
  (71, .getfield 114, 3, [12, 48], [17]),
  (74, .bipush 6, 2, [], []),
  (76, .aload_n 0, 1, [], []),
  (77, .getfield 7, 3, [12, 4], [3]),
  (80, .iload_n 1, 1, [], []),
  (81, .baload, 1, [1], []),
  (82, .ifCond .eq 12, 3, [57], []),
  (85, .aload_n 0, 1, [], []),
  (86, .getfield 23, 3, [12, 8], [151]),
  (89, .iload_n 1, 1, [], []),
  (90, .iaload, 1, [], []),
  (91, .goto 4, 3, [58], []),
  (94, .iconst 0, 1, [], []),
  (95, .iastore, 1, [], []),
  (96, .aload_n 0, 1, [], []),
  (97, .getfield 114, 3, [12, 48], [17]),
  (100, .bipush 7, 2, [], []),
  (102, .aload_n 0, 1, [], []),
  (103, .getfield 7, 3, [12, 4], [3]),
  (106, .iload_n 1, 1, [], []),
  (107, .baload, 1, [1], []),
  (108, .ifCond .eq 12, 3, [72], []),
  (111, .aload_n 0, 1, [], []),
  (112, .getfield 38, 3, [12, 13], [38]),
  (115, .iload_n 1, 1, [], []),
  (116, .iaload, 1, [], []),
  (117, .goto 4, 3, [73], []),
  (120, .iconst 0, 1, [], []),
  (121, .iastore, 1, [], []),
  (122, .aload_n 0, 1, [], []),
  (123, .getfield 114, 3, [12, 48], [17]),
  (126, .bipush 10, 2, [], []),
  (128, .aload_n 0, 1, [], []),
  (129, .getfield 336, 3, [12, 0], [88]),
  (132, .iastore, 1, [], []),
  (133, .aload_n 0, 1, [], []),
  (134, .getfield 114, 3, [12, 48], [17]),
  (137, .bipush 11, 2, [], []),
  (139, .aload_n 0, 1, [], []),
  (140, .getfield 53, 3, [12, 18], [154]),
  (143, .iload_n 1, 1, [], []),
  (144, .bipush 6, 2, [], []),
  (146, .idiv, 1, [], []),
  (147, .iaload, 1, [], []),
  (148, .iastore, 1, [], []),
  (149, .aload_n 0, 1, [], []),
  (150, .getfield 114, 3, [12, 48], [17]),
  (153, .bipush 12, 2, [], []),
  (155, .iload_n 2, 1, [], []),
  (156, .iastore, 1, [], []),
  (157, .aload_n 0, 1, [], []),
  (158, .getfield 114, 3, [12, 48], [17]),
  (161, .bipush 13, 2, [], []),
  (163, .iload_n 3, 1, [], []),
  (164, .iastore, 1, [], []),
  (165, .return_, 1, [], [])]
def mX12_feelsCell : pv_M := (⟨"CliffGardenModel", "feelsCell", "(III)V"⟩, prog_14_method_44_code, 4, none, rX12_feelsCell)
def rX12_feelsCrop : List pv_R := [
  (0, .aload_n 0, 1, [], []),
  (1, .getfield 114, 3, [12, 48], [17]),
  (4, .iconst 0, 1, [], []),
  (5, .iload_n 1, 1, [], []),
  (6, .iastore, 1, [], []),
  (7, .aload_n 0, 1, [], []),
  (8, .getfield 114, 3, [12, 48], [17]),
  (11, .iconst 1, 1, [], []),
  (12, .iload_n 2, 1, [], []),
  (13, .iastore, 1, [], []),
  (14, .aload_n 0, 1, [], []),
  (15, .getfield 114, 3, [12, 48], [17]),
  (18, .bipush 8, 2, [], []),
  (20, .iload_n 3, 1, [], []),
  (21, .ifCond .eq 7, 3, [17], []),
  (24, .iconst 1, 1, [], []),
  (25, .goto 4, 3, [18], []),
  (28, .iconst 0, 1, [], []),
  (29, .iastore, 1, [], []),
  (30, .aload_n 0, 1, [], []),
  (31, .getfield 114, 3, [12, 48], [17]),
  (34, .bipush 9, 2, [], []),
  (36, .iload 4, 2, [], []),
  (38, .ifCond .eq 7, 3, [26], []),
  (41, .iconst 1, 1, [], []),
  (42, .goto 4, 3, [27], []),
  (45, .iconst 0, 1, [], []),
  (46, .iastore, 1, [], []),
  (47, .return_, 1, [], [])]
def mX12_feelsCrop : pv_M := (⟨"CliffGardenModel", "feelsCrop", "(IIZZ)V"⟩, prog_14_method_45_code, 5, none, rX12_feelsCrop)
def rX12_isRipe : List pv_R := [
  (0, .aload_n 0, 1, [], []),
  (1, .getfield 29, 3, [12, 10], [4]),
  (4, .iload_n 1, 1, [], []),
  (5, .iaload, 1, [], []),
  (6, .iconst (-1), 1, [], []),
  (7, .if_icmp .eq 27, 3, [20], []),
  (10, .aload_n 0, 1, [], []),
  (11, .getfield 32, 3, [12, 11], [19]),
  (14, .iload_n 1, 1, [], []),
  (15, .iaload, 1, [], []),
  (16, .aload_n 0, 1, [], []),
  (17, .getfield 44, 3, [12, 15], [45]),
  (20, .aload_n 0, 1, [], []),
  (21, .getfield 29, 3, [12, 10], [4]),
  (24, .iload_n 1, 1, [], []),
  (25, .iaload, 1, [], []),
  (26, .iaload, 1, [], []),
  (27, .if_icmp .lt 7, 3, [20], []),
  (30, .iconst 1, 1, [], []),
  (31, .goto 4, 3, [21], []),
  (34, .iconst 0, 1, [], []),
  (35, .ireturn, 1, [1], [])]
def mX12_isRipe : pv_M := (⟨"CliffGardenModel", "isRipe", "(I)Z"⟩, prog_14_method_46_code, 2, some .boolean, rX12_isRipe)
def rX12_feels : List pv_R := [
  (0, .aload_n 0, 1, [], []),
  (1, .iload_n 1, 1, [], []),
  (2, .iconst 0, 1, [], []),
  (3, .iconst 0, 1, [], []),
  (4, .invokevirtual 339, 3, [187, 3, 12], [184]),
  (7, .aload_n 0, 1, [], []),
  (8, .aload_n 0, 1, [], []),
  (9, .getfield 29, 3, [12, 10], [4]),
  (12, .iload_n 1, 1, [], []),
  (13, .iaload, 1, [], []),
  (14, .iconst (-1), 1, [], []),
  (15, .if_icmp .ne 7, 3, [14], []),
  (18, .iconst 0, 1, [], []),
  (19, .goto 9, 3, [18], []),
  (22, .aload_n 0, 1, [], []),
  (23, .getfield 29, 3, [12, 10], [4]),
  (26, .iload_n 1, 1, [], []),
  (27, .iaload, 1, [], []),
  (28, .aload_n 0, 1, [], []),
  (29, .getfield 32, 3, [12, 11], [19]),
  (32, .iload_n 1, 1, [], []),
  (33, .iaload, 1, [], []),
  (34, .aload_n 0, 1, [], []),
  (35, .iload_n 1, 1, [], []),
  (36, .invokevirtual 343, 3, [189, 1, 12], [185]),
  (39, .aload_n 0, 1, [], []),
  (40, .getfield 13, 3, [12, 5], [52]),
  (43, .iload_n 1, 1, [], []),
  (44, .baload, 1, [1], []),
  (45, .invokevirtual 346, 3, [188, 4, 12], [186]),
  (48, .return_, 1, [], [])]
def mX12_feels : pv_M := (⟨"CliffGardenModel", "feels", "(I)V"⟩, prog_14_method_47_code, 2, none, rX12_feels)
def rX12_asked : List pv_R := [
  (0, .aload_n 0, 1, [], []),
  (1, .iload_n 1, 1, [], []),
  (2, .invokevirtual 350, 3, [190, 1, 12], [295]),
  (5, .aload_n 0, 1, [], []),
  (6, .iload_n 2, 1, [], []),
  (7, .iload_n 3, 1, [], []),
  (8, .invokevirtual 353, 3, [186, 2, 12], [132]),
  (11, .ireturn, 1, [0], [])]
def mX12_asked : pv_M := (⟨"CliffGardenModel", "asked", "(III)I"⟩, prog_14_method_48_code, 4, some .int, rX12_asked)
def rX12_byLaw : List pv_R := [
  (0, .iload_n 1, 1, [], []),
  (1, .iload_n 2, 1, [], []),
  (2, .invokestatic 210, 3, [148, 2], [91]),
  (5, .ifCond .eq 12, 3, [9], []),
  (8, .iload_n 3, 1, [], []),
  (9, .iconst 0, 1, [], []),
  (10, .iconst 2, 1, [], []),
  (11, .invokestatic 206, 3, [145, 3], [1]),
  (14, .ifCond .ne 5, 3, [11], []),
  (17, .iconst (-1), 1, [], []),
  (18, .ireturn, 1, [0], []),
  (19, .iload_n 1, 1, [], []),
  (20, .iload_n 2, 1, [], []),
  (21, .invokestatic 214, 3, [149, 2], [16]),
  (24, .istore 4, 2, [], []),
  (26, .aload_n 0, 1, [], []),
  (27, .getfield 7, 3, [12, 4], [3]),
  (30, .iload 4, 2, [], []),
  (32, .baload, 1, [1], []),
  (33, .ifCond .ne 6, 3, [22], []),
  (36, .bipush (-2), 2, [], []),
  (38, .ireturn, 1, [0], []),
  (39, .iload_n 3, 1, [], []),
  (40, .iconst 2, 1, [], []),
  (41, .if_icmp .ge 16, 3, [33], []),
  (44, .aload_n 0, 1, [], []),
  (45, .getfield 29, 3, [12, 10], [4]),
  (48, .iload 4, 2, [], []),
  (50, .iaload, 1, [], []),
  (51, .iconst (-1), 1, [], []),
  (52, .if_icmp .ne 5, 3, [33], []),
  (55, .iconst (-1), 1, [], []),
  (56, .ireturn, 1, [0], []),
  (57, .iload_n 3, 1, [], []),
  (58, .ifCond .ne 16, 3, [41], []),
  (61, .aload_n 0, 1, [], []),
  (62, .iload 4, 2, [], []),
  (64, .bipush 103, 2, [], []),
  (66, .bipush 50, 2, [], []),
  (68, .invokevirtual 356, 3, [191, 3, 12], [58]),
  (71, .goto 33, 3, [55], []),
  (74, .iload_n 3, 1, [], []),
  (75, .iconst 1, 1, [], []),
  (76, .if_icmp .ne 17, 3, [50], []),
  (79, .aload_n 0, 1, [], []),
  (80, .iload 4, 2, [], []),
  (82, .bipush 102, 2, [], []),
  (84, .sipush 1000, 3, [], []),
  (87, .invokevirtual 356, 3, [191, 3, 12], [58]),
  (90, .goto 14, 3, [55], []),
  (93, .aload_n 0, 1, [], []),
  (94, .iload 4, 2, [], []),
  (96, .bipush 97, 2, [], []),
  (98, .sipush 999, 3, [], []),
  (101, .invokevirtual 356, 3, [191, 3, 12], [58]),
  (104, .ireturn, 1, [0], [])]
def mX12_byLaw : pv_M := (⟨"CliffGardenModel", "byLaw", "(III)I"⟩, prog_14_method_49_code, 5, some .int, rX12_byLaw)
def rX12_sends : List pv_R := [
  (0, .iload_n 2, 1, [], []),
  (1, .ifCond .lt 9, 3, [5], []),
  (4, .iload_n 2, 1, [], []),
  (5, .bipush 7, 2, [], []),
  (7, .if_icmp .le 7, 3, [7], []),
  (10, .iload_n 1, 1, [], []),
  (11, .goto 4, 3, [8], []),
  (14, .iload_n 2, 1, [], []),
  (15, .istore 4, 2, [], []),
  (17, .aload_n 0, 1, [], []),
  (18, .getfield 120, 3, [12, 50], [115]),
  (21, .iload 4, 2, [], []),
  (23, .aload_n 0, 1, [], []),
  (24, .getfield 120, 3, [12, 50], [115]),
  (27, .iload 4, 2, [], []),
  (29, .iaload, 1, [], []),
  (30, .iload_n 3, 1, [], []),
  (31, .iadd, 1, [], []),
  (32, .iastore, 1, [], []),
  (33, .return_, 1, [], [])]
def mX12_sends : pv_M := (⟨"CliffGardenModel", "sends", "(III)V"⟩, prog_14_method_50_code, 5, none, rX12_sends)
def rX12_drips : List pv_R := [
  (0, .iload_n 1, 1, [], []),
  (1, .bipush 6, 2, [], []),
  (3, .idiv, 1, [], []),
  (4, .istore_n 3, 1, [], []),
  (5, .aload_n 0, 1, [], []),
  (6, .getfield 7, 3, [12, 4], [3]),
  (9, .iload_n 1, 1, [], []),
  (10, .baload, 1, [1], []),
  (11, .ifCond .ne 11, 3, [15], []),
  (14, .aload_n 0, 1, [], []),
  (15, .iload_n 3, 1, [], []),
  (16, .iload_n 3, 1, [], []),
  (17, .iload_n 2, 1, [], []),
  (18, .invokevirtual 359, 3, [193, 3, 12], [75]),
  (21, .return_, 1, [], []),
  (22, .aload_n 0, 1, [], []),
  (23, .getfield 38, 3, [12, 13], [38]),
  (26, .iload_n 1, 1, [], []),
  (27, .aload_n 0, 1, [], []),
  (28, .getfield 29, 3, [12, 10], [4]),
  (31, .iload_n 1, 1, [], []),
  (32, .iaload, 1, [], []),
  (33, .iconst (-1), 1, [], []),
  (34, .if_icmp .ne 7, 3, [26], []),
  (37, .iconst 0, 1, [], []),
  (38, .goto 18, 3, [35], []),
  (41, .iload_n 2, 1, [], []),
  (42, .aload_n 0, 1, [], []),
  (43, .getfield 41, 3, [12, 14], [113]),
  (46, .aload_n 0, 1, [], []),
  (47, .getfield 29, 3, [12, 10], [4]),
  (50, .iload_n 1, 1, [], []),
  (51, .iaload, 1, [], []),
  (52, .iaload, 1, [], []),
  (53, .invokestatic 362, 3, [146, 2], [126]),
  (56, .iastore, 1, [], []),
  (57, .iload_n 2, 1, [], []),
  (58, .aload_n 0, 1, [], []),
  (59, .getfield 38, 3, [12, 13], [38]),
  (62, .iload_n 1, 1, [], []),
  (63, .iaload, 1, [], []),
  (64, .isub, 1, [], []),
  (65, .istore 4, 2, [], []),
  (67, .aload_n 0, 1, [], []),
  (68, .getfield 26, 3, [12, 9], [152]),
  (71, .iload_n 1, 1, [], []),
  (72, .iaload, 1, [], []),
  (73, .tableswitch 64 0 2 #[27, 38, 51], 27, [70, 48, 54, 62], []),
  (100, .aload_n 0, 1, [], []),
  (101, .iload_n 3, 1, [], []),
  (102, .iload_n 3, 1, [], []),
  (103, .iload 4, 2, [], []),
  (105, .invokevirtual 359, 3, [193, 3, 12], [75]),
  (108, .goto 56, 3, [90], []),
  (111, .aload_n 0, 1, [], []),
  (112, .iload_n 3, 1, [], []),
  (113, .iload_n 3, 1, [], []),
  (114, .iconst 1, 1, [], []),
  (115, .isub, 1, [], []),
  (116, .iload 4, 2, [], []),
  (118, .invokevirtual 359, 3, [193, 3, 12], [75]),
  (121, .goto 43, 3, [90], []),
  (124, .aload_n 0, 1, [], []),
  (125, .iload_n 3, 1, [], []),
  (126, .iload_n 3, 1, [], []),
  (127, .iconst 1, 1, [], []),
  (128, .iadd, 1, [], []),
  (129, .iload 4, 2, [], []),
  (131, .invokevirtual 359, 3, [193, 3, 12], [75]),
  (134, .goto 30, 3, [90], []),
  (137, .aload_n 0, 1, [], []),
  (138, .iload_n 3, 1, [], []),
  (139, .iload_n 3, 1, [], []),
  (140, .iconst 1, 1, [], []),
  (141, .isub, 1, [], []),
  (142, .iload 4, 2, [], []),
  (144, .iload 4, 2, [], []),
  (146, .iconst 2, 1, [], []),
  (147, .idiv, 1, [], []),
  (148, .isub, 1, [], []),
  (149, .invokevirtual 359, 3, [193, 3, 12], [75]),
  (152, .aload_n 0, 1, [], []),
  (153, .iload_n 3, 1, [], []),
  (154, .iload_n 3, 1, [], []),
  (155, .iconst 1, 1, [], []),
  (156, .iadd, 1, [], []),
  (157, .iload 4, 2, [], []),
  (159, .iconst 2, 1, [], []),
  (160, .idiv, 1, [], []),
  (161, .invokevirtual 359, 3, [193, 3, 12], [75]),
  (164, .return_, 1, [], [])]
def mX12_drips : pv_M := (⟨"CliffGardenModel", "drips", "(II)V"⟩, prog_14_method_51_code, 5, none, rX12_drips)
def rX12_flows : List pv_R := [
  (0, .iconst 0, 1, [], []),
  (1, .istore_n 1, 1, [], []),
  (2, .iload_n 1, 1, [], []),
  (3, .bipush 6, 2, [], []),
  (5, .if_icmp .ge 85, 3, [50], []),
  (8, .iconst 0, 1, [], []),
  (9, .istore_n 2, 1, [], []),
  (10, .iload_n 2, 1, [], []),
  (11, .bipush 8, 2, [], []),
  (13, .if_icmp .ge 16, 3, [17], []),
  (16, .aload_n 0, 1, [], []),
  (17, .getfield 120, 3, [12, 50], [115]),
  (20, .iload_n 2, 1, [], []),
  (21, .iconst 0, 1, [], []),
  (22, .iastore, 1, [], []),
  (23, .iinc 2 1, 3, [], []),
  (26, .goto (-16), 3, [7], []),
  (29, .iconst 0, 1, [], []),
  (30, .istore_n 2, 1, [], []),
  (31, .iload_n 2, 1, [], []),
  (32, .bipush 8, 2, [], []),
  (34, .if_icmp .ge 24, 3, [33], []),
  (37, .aload_n 0, 1, [], []),
  (38, .iload_n 2, 1, [], []),
  (39, .iload_n 1, 1, [], []),
  (40, .invokestatic 214, 3, [149, 2], [16]),
  (43, .aload_n 0, 1, [], []),
  (44, .getfield 117, 3, [12, 49], [54]),
  (47, .iload_n 2, 1, [], []),
  (48, .iaload, 1, [], []),
  (49, .invokevirtual 365, 3, [194, 2, 12], [627]),
  (52, .iinc 2 1, 3, [], []),
  (55, .goto (-24), 3, [19], []),
  (58, .iconst 0, 1, [], []),
  (59, .istore_n 2, 1, [], []),
  (60, .iload_n 2, 1, [], []),
  (61, .bipush 8, 2, [], []),
  (63, .if_icmp .ge 21, 3, [48], []),
  (66, .aload_n 0, 1, [], []),
  (67, .getfield 117, 3, [12, 49], [54]),
  (70, .iload_n 2, 1, [], []),
  (71, .aload_n 0, 1, [], []),
  (72, .getfield 120, 3, [12, 50], [115]),
  (75, .iload_n 2, 1, [], []),
  (76, .iaload, 1, [], []),
  (77, .iastore, 1, [], []),
  (78, .iinc 2 1, 3, [], []),
  (81, .goto (-21), 3, [35], []),
  (84, .iinc 1 1, 3, [], []),
  (87, .goto (-85), 3, [2], []),
  (90, .return_, 1, [], [])]
def mX12_flows : pv_M := (⟨"CliffGardenModel", "flows", "()V"⟩, prog_14_method_52_code, 3, none, rX12_flows)
def rX12_water : List pv_R := [
  (0, .iconst 0, 1, [], []),
  (1, .istore_n 1, 1, [], []),
  (2, .iload_n 1, 1, [], []),
  (3, .bipush 8, 2, [], []),
  (5, .if_icmp .ge 21, 3, [15], []),
  (8, .aload_n 0, 1, [], []),
  (9, .getfield 117, 3, [12, 49], [54]),
  (12, .iload_n 1, 1, [], []),
  (13, .aload_n 0, 1, [], []),
  (14, .getfield 50, 3, [12, 17], [153]),
  (17, .iload_n 1, 1, [], []),
  (18, .iaload, 1, [], []),
  (19, .iastore, 1, [], []),
  (20, .iinc 1 1, 3, [], []),
  (23, .goto (-21), 3, [2], []),
  (26, .aload_n 0, 1, [], []),
  (27, .invokevirtual 368, 3, [195, 0, 12], [296]),
  (30, .iconst 0, 1, [], []),
  (31, .istore_n 1, 1, [], []),
  (32, .iconst 0, 1, [], []),
  (33, .istore_n 2, 1, [], []),
  (34, .iload_n 2, 1, [], []),
  (35, .bipush 8, 2, [], []),
  (37, .if_icmp .ge 37, 3, [46], []),
  (40, .aload_n 0, 1, [], []),
  (41, .getfield 59, 3, [12, 20], [155]),
  (44, .iload_n 2, 1, [], []),
  (45, .aload_n 0, 1, [], []),
  (46, .getfield 59, 3, [12, 20], [155]),
  (49, .iload_n 2, 1, [], []),
  (50, .iaload, 1, [], []),
  (51, .aload_n 0, 1, [], []),
  (52, .getfield 117, 3, [12, 49], [54]),
  (55, .iload_n 2, 1, [], []),
  (56, .iaload, 1, [], []),
  (57, .iadd, 1, [], []),
  (58, .iastore, 1, [], []),
  (59, .iload_n 1, 1, [], []),
  (60, .aload_n 0, 1, [], []),
  (61, .getfield 117, 3, [12, 49], [54]),
  (64, .iload_n 2, 1, [], []),
  (65, .iaload, 1, [], []),
  (66, .iadd, 1, [], []),
  (67, .istore_n 1, 1, [], []),
  (68, .iinc 2 1, 3, [], []),
  (71, .goto (-37), 3, [21], []),
  (74, .iload_n 1, 1, [], []),
  (75, .ireturn, 1, [0], [])]
def mX12_water : pv_M := (⟨"CliffGardenModel", "water", "()I"⟩, prog_14_method_53_code, 3, some .int, rX12_water)
def rX12_ownLoad : List pv_R := [
  (0, .bipush 10, 2, [], []),
  (2, .aload_n 0, 1, [], []),
  (3, .getfield 20, 3, [12, 7], [84]),
  (6, .iload_n 1, 1, [], []),
  (7, .iaload, 1, [], []),
  (8, .imul, 1, [], []),
  (9, .aload_n 0, 1, [], []),
  (10, .getfield 32, 3, [12, 11], [19]),
  (13, .iload_n 1, 1, [], []),
  (14, .iaload, 1, [], []),
  (15, .iadd, 1, [], []),
  (16, .aload_n 0, 1, [], []),
  (17, .getfield 35, 3, [12, 12], [66]),
  (20, .iload_n 1, 1, [], []),
  (21, .iaload, 1, [], []),
  (22, .iadd, 1, [], []),
  (23, .aload_n 0, 1, [], []),
  (24, .getfield 38, 3, [12, 13], [38]),
  (27, .iload_n 1, 1, [], []),
  (28, .iaload, 1, [], []),
  (29, .iadd, 1, [], []),
  (30, .ireturn, 1, [0], [])]
def mX12_ownLoad : pv_M := (⟨"CliffGardenModel", "ownLoad", "(I)I"⟩, prog_14_method_54_code, 2, some .int, rX12_ownLoad)
def rX12_loadOf : List pv_R := [
  (0, .iconst 0, 1, [], []),
  (1, .istore_n 2, 1, [], []),
  (2, .iload_n 1, 1, [], []),
  (3, .istore_n 3, 1, [], []),
  (4, .iload_n 3, 1, [], []),
  (5, .bipush 6, 2, [], []),
  (7, .iload_n 1, 1, [], []),
  (8, .bipush 6, 2, [], []),
  (10, .idiv, 1, [], []),
  (11, .iconst 1, 1, [], []),
  (12, .iadd, 1, [], []),
  (13, .imul, 1, [], []),
  (14, .if_icmp .ge 30, 3, [28], []),
  (17, .iload_n 2, 1, [], []),
  (18, .aload_n 0, 1, [], []),
  (19, .getfield 7, 3, [12, 4], [3]),
  (22, .iload_n 3, 1, [], []),
  (23, .baload, 1, [1], []),
  (24, .ifCond .eq 11, 3, [23], []),
  (27, .aload_n 0, 1, [], []),
  (28, .iload_n 3, 1, [], []),
  (29, .invokevirtual 371, 3, [197, 1, 12], [628]),
  (32, .goto 4, 3, [24], []),
  (35, .iconst 0, 1, [], []),
  (36, .iadd, 1, [], []),
  (37, .istore_n 2, 1, [], []),
  (38, .iinc 3 1, 3, [], []),
  (41, .goto (-37), 3, [4], []),
  (44, .iload_n 2, 1, [], []),
  (45, .ireturn, 1, [0], [])]
def mX12_loadOf : pv_M := (⟨"CliffGardenModel", "loadOf", "(I)I"⟩, prog_14_method_55_code, 4, some .int, rX12_loadOf)
def rX12_cell : List pv_R := [
  (0, .iload_n 1, 1, [], []),
  (1, .iload_n 2, 1, [], []),
  (2, .invokestatic 210, 3, [148, 2], [91]),
  (5, .ifCond .eq 13, 3, [9], []),
  (8, .iload_n 3, 1, [], []),
  (9, .iconst 0, 1, [], []),
  (10, .bipush 10, 2, [], []),
  (12, .invokestatic 206, 3, [145, 3], [1]),
  (15, .ifCond .ne 7, 3, [11], []),
  (18, .sipush (-1000), 3, [], []),
  (21, .ireturn, 1, [0], []),
  (22, .iload_n 1, 1, [], []),
  (23, .iload_n 2, 1, [], []),
  (24, .invokestatic 214, 3, [149, 2], [16]),
  (27, .istore 4, 2, [], []),
  (29, .iload_n 3, 1, [], []),
  (30, .ifCond .ne 19, 3, [26], []),
  (33, .aload_n 0, 1, [], []),
  (34, .getfield 7, 3, [12, 4], [3]),
  (37, .iload 4, 2, [], []),
  (39, .baload, 1, [1], []),
  (40, .ifCond .eq 7, 3, [24], []),
  (43, .iconst 1, 1, [], []),
  (44, .goto 4, 3, [25], []),
  (47, .iconst 0, 1, [], []),
  (48, .ireturn, 1, [0], []),
  (49, .aload_n 0, 1, [], []),
  (50, .getfield 7, 3, [12, 4], [3]),
  (53, .iload 4, 2, [], []),
  (55, .baload, 1, [1], []),
  (56, .ifCond .ne 7, 3, [33], []),
  (59, .sipush (-1000), 3, [], []),
  (62, .ireturn, 1, [0], []),
  (63, .iload_n 3, 1, [], []),
  (64, .tableswitch 132 1 9 #[52, 60, 68, 76, 84, 92, 100, 108, 116], 52, [84, 35, 40, 45, 50, 55, 60, 65, 70, 75], []),
  (116, .aload_n 0, 1, [], []),
  (117, .getfield 16, 3, [12, 6], [24]),
  (120, .iload 4, 2, [], []),
  (122, .iaload, 1, [], []),
  (123, .ireturn, 1, [0], []),
  (124, .aload_n 0, 1, [], []),
  (125, .getfield 20, 3, [12, 7], [84]),
  (128, .iload 4, 2, [], []),
  (130, .iaload, 1, [], []),
  (131, .ireturn, 1, [0], []),
  (132, .aload_n 0, 1, [], []),
  (133, .getfield 23, 3, [12, 8], [151]),
  (136, .iload 4, 2, [], []),
  (138, .iaload, 1, [], []),
  (139, .ireturn, 1, [0], []),
  (140, .aload_n 0, 1, [], []),
  (141, .getfield 26, 3, [12, 9], [152]),
  (144, .iload 4, 2, [], []),
  (146, .iaload, 1, [], []),
  (147, .ireturn, 1, [0], []),
  (148, .aload_n 0, 1, [], []),
  (149, .getfield 29, 3, [12, 10], [4]),
  (152, .iload 4, 2, [], []),
  (154, .iaload, 1, [], []),
  (155, .ireturn, 1, [0], []),
  (156, .aload_n 0, 1, [], []),
  (157, .getfield 32, 3, [12, 11], [19]),
  (160, .iload 4, 2, [], []),
  (162, .iaload, 1, [], []),
  (163, .ireturn, 1, [0], []),
  (164, .aload_n 0, 1, [], []),
  (165, .getfield 35, 3, [12, 12], [66]),
  (168, .iload 4, 2, [], []),
  (170, .iaload, 1, [], []),
  (171, .ireturn, 1, [0], []),
  (172, .aload_n 0, 1, [], []),
  (173, .getfield 38, 3, [12, 13], [38]),
  (176, .iload 4, 2, [], []),
  (178, .iaload, 1, [], []),
  (179, .ireturn, 1, [0], []),
  (180, .aload_n 0, 1, [], []),
  (181, .getfield 13, 3, [12, 5], [52]),
  (184, .iload 4, 2, [], []),
  (186, .baload, 1, [1], []),
  (187, .ifCond .eq 7, 3, [82], []),
  (190, .iconst 1, 1, [], []),
  (191, .goto 4, 3, [83], []),
  (194, .iconst 0, 1, [], []),
  (195, .ireturn, 1, [0], []),
  (196, .aload_n 0, 1, [], []),
  (197, .iload 4, 2, [], []),
  (199, .invokevirtual 374, 3, [198, 1, 12], [187]),
  (202, .ireturn, 1, [0], [])]
def mX12_cell : pv_M := (⟨"CliffGardenModel", "cell", "(III)I"⟩, prog_14_method_56_code, 5, some .int, rX12_cell)
def rX12_catcher : List pv_R := [
  (0, .iload_n 1, 1, [], []),
  (1, .iconst 1, 1, [], []),
  (2, .iadd, 1, [], []),
  (3, .istore_n 2, 1, [], []),
  (4, .iload_n 2, 1, [], []),
  (5, .bipush 6, 2, [], []),
  (7, .iload_n 1, 1, [], []),
  (8, .bipush 6, 2, [], []),
  (10, .idiv, 1, [], []),
  (11, .iconst 1, 1, [], []),
  (12, .iadd, 1, [], []),
  (13, .imul, 1, [], []),
  (14, .if_icmp .ge 69, 3, [52], []),
  (17, .aload_n 0, 1, [], []),
  (18, .getfield 7, 3, [12, 4], [3]),
  (21, .iload_n 2, 1, [], []),
  (22, .baload, 1, [1], []),
  (23, .ifCond .ne 6, 3, [19], []),
  (26, .goto 51, 3, [50], []),
  (29, .aload_n 0, 1, [], []),
  (30, .iload_n 2, 1, [], []),
  (31, .iload_n 2, 1, [], []),
  (32, .iload_n 1, 1, [], []),
  (33, .isub, 1, [], []),
  (34, .iconst 0, 1, [], []),
  (35, .invokevirtual 339, 3, [187, 3, 12], [184]),
  (38, .aload_n 0, 1, [], []),
  (39, .aload_n 0, 1, [], []),
  (40, .getfield 29, 3, [12, 10], [4]),
  (43, .iload_n 1, 1, [], []),
  (44, .iaload, 1, [], []),
  (45, .aload_n 0, 1, [], []),
  (46, .getfield 32, 3, [12, 11], [19]),
  (49, .iload_n 1, 1, [], []),
  (50, .iaload, 1, [], []),
  (51, .aload_n 0, 1, [], []),
  (52, .iload_n 1, 1, [], []),
  (53, .invokevirtual 343, 3, [189, 1, 12], [185]),
  (56, .aload_n 0, 1, [], []),
  (57, .getfield 13, 3, [12, 5], [52]),
  (60, .iload_n 1, 1, [], []),
  (61, .baload, 1, [1], []),
  (62, .invokevirtual 346, 3, [188, 4, 12], [186]),
  (65, .aload_n 0, 1, [], []),
  (66, .bipush 99, 2, [], []),
  (68, .iconst 1, 1, [], []),
  (69, .invokevirtual 353, 3, [186, 2, 12], [132]),
  (72, .ifCond .le 5, 3, [50], []),
  (75, .iload_n 2, 1, [], []),
  (76, .ireturn, 1, [0], []),
  (77, .iinc 2 1, 3, [], []),
  (80, .goto (-76), 3, [4], []),
  (83, .iconst (-1), 1, [], []),
  (84, .ireturn, 1, [0], [])]
def mX12_catcher : pv_M := (⟨"CliffGardenModel", "catcher", "(I)I"⟩, prog_14_method_57_code, 3, some .int, rX12_catcher)
def rX12_writes : List pv_R := [
  (0, .aload_n 0, 1, [], []),
  (1, .getfield 377, 3, [12, 2], [21]),
  (4, .bipush 60, 2, [], []),
  (6, .if_icmp .ne 4, 3, [5], []),
  (9, .return_, 1, [], []),
  (10, .aload_n 0, 1, [], []),
  (11, .getfield 123, 3, [12, 51], [86]),
  (14, .aload_n 0, 1, [], []),
  (15, .getfield 377, 3, [12, 2], [21]),
  (18, .iload_n 1, 1, [], []),
  (19, .iastore, 1, [], []),
  (20, .aload_n 0, 1, [], []),
  (21, .getfield 126, 3, [12, 52], [161]),
  (24, .aload_n 0, 1, [], []),
  (25, .getfield 377, 3, [12, 2], [21]),
  (28, .aload_n 0, 1, [], []),
  (29, .getfield 29, 3, [12, 10], [4]),
  (32, .iload_n 1, 1, [], []),
  (33, .iaload, 1, [], []),
  (34, .iastore, 1, [], []),
  (35, .aload_n 0, 1, [], []),
  (36, .getfield 129, 3, [12, 53], [162]),
  (39, .aload_n 0, 1, [], []),
  (40, .getfield 377, 3, [12, 2], [21]),
  (43, .aload_n 0, 1, [], []),
  (44, .getfield 32, 3, [12, 11], [19]),
  (47, .iload_n 1, 1, [], []),
  (48, .iaload, 1, [], []),
  (49, .iastore, 1, [], []),
  (50, .aload_n 0, 1, [], []),
  (51, .getfield 132, 3, [12, 54], [116]),
  (54, .aload_n 0, 1, [], []),
  (55, .getfield 377, 3, [12, 2], [21]),
  (58, .iload_n 2, 1, [], []),
  (59, .iastore, 1, [], []),
  (60, .aload_n 0, 1, [], []),
  (61, .getfield 135, 3, [12, 55], [69]),
  (64, .aload_n 0, 1, [], []),
  (65, .getfield 377, 3, [12, 2], [21]),
  (68, .iload_n 3, 1, [], []),
  (69, .iastore, 1, [], []),
  (70, .aload_n 0, 1, [], []),
  (71, .getfield 138, 3, [12, 56], [230]),
  (74, .aload_n 0, 1, [], []),
  (75, .getfield 377, 3, [12, 2], [21]),
  (78, .aload_n 0, 1, [], []),
  (79, .getfield 336, 3, [12, 0], [88]),
  (82, .iastore, 1, [], []),
  (83, .aload_n 0, 1, [], []),
  (84, .getfield 141, 3, [12, 57], [117]),
  (87, .aload_n 0, 1, [], []),
  (88, .getfield 377, 3, [12, 2], [21]),
  (91, .iload 4, 2, [], []),
  (93, .iastore, 1, [], []),
  (94, .aload_n 0, 1, [], []),
  (95, .getfield 144, 3, [12, 58], [231]),
  (98, .aload_n 0, 1, [], []),
  (99, .getfield 377, 3, [12, 2], [21]),
  (102, .aload_n 0, 1, [], []),
  (103, .iload_n 1, 1, [], []),
  (104, .invokevirtual 343, 3, [189, 1, 12], [185]),
  (107, .bastore, 1, [1], []),
  (108, .aload_n 0, 1, [], []),
  (109, .getfield 147, 3, [12, 59], [232]),
  (112, .aload_n 0, 1, [], []),
  (113, .getfield 377, 3, [12, 2], [21]),
  (116, .aload_n 0, 1, [], []),
  (117, .getfield 13, 3, [12, 5], [52]),
  (120, .iload_n 1, 1, [], []),
  (121, .baload, 1, [1], []),
  (122, .bastore, 1, [1], []),
  (123, .aload_n 0, 1, [], []),
  (124, .aload_n 0, 1, [], []),
  (125, .getfield 377, 3, [12, 2], [21]),
  (128, .iconst 1, 1, [], []),
  (129, .iadd, 1, [], []),
  (130, .putfield 377, 3, [12, 2], [21]),
  (133, .return_, 1, [], [])]
def mX12_writes : pv_M := (⟨"CliffGardenModel", "writes", "(IIII)V"⟩, prog_14_method_58_code, 5, none, rX12_writes)
def rX12_falls : List pv_R := [
  (0, .aload_n 0, 1, [], []),
  (1, .aload_n 0, 1, [], []),
  (2, .getfield 380, 3, [12, 3], [123]),
  (5, .iconst 1, 1, [], []),
  (6, .iadd, 1, [], []),
  (7, .putfield 380, 3, [12, 3], [123]),
  (10, .iload_n 2, 1, [], []),
  (11, .ifCond .eq 11, 3, [12], []),
  (14, .aload_n 0, 1, [], []),
  (15, .iload_n 1, 1, [], []),
  (16, .invokevirtual 383, 3, [200, 1, 12], [629]),
  (19, .goto 4, 3, [13], []),
  (22, .iconst (-1), 1, [], []),
  (23, .istore_n 3, 1, [], []),
  (24, .iload_n 3, 1, [], []),
  (25, .iconst (-1), 1, [], []),
  (26, .if_icmp .eq 43, 3, [45], []),
  (29, .aload_n 0, 1, [], []),
  (30, .iload_n 1, 1, [], []),
  (31, .iload_n 3, 1, [], []),
  (32, .bipush 6, 2, [], []),
  (34, .irem, 1, [], []),
  (35, .iconst (-1), 1, [], []),
  (36, .iconst 0, 1, [], []),
  (37, .invokevirtual 386, 3, [201, 4, 12], [297]),
  (40, .aload_n 0, 1, [], []),
  (41, .getfield 35, 3, [12, 12], [66]),
  (44, .iload_n 3, 1, [], []),
  (45, .aload_n 0, 1, [], []),
  (46, .getfield 35, 3, [12, 12], [66]),
  (49, .iload_n 3, 1, [], []),
  (50, .iaload, 1, [], []),
  (51, .aload_n 0, 1, [], []),
  (52, .getfield 32, 3, [12, 11], [19]),
  (55, .iload_n 1, 1, [], []),
  (56, .iaload, 1, [], []),
  (57, .iadd, 1, [], []),
  (58, .iastore, 1, [], []),
  (59, .aload_n 0, 1, [], []),
  (60, .iload_n 1, 1, [], []),
  (61, .invokevirtual 218, 3, [152, 1, 12], [180]),
  (64, .iload_n 3, 1, [], []),
  (65, .bipush 6, 2, [], []),
  (67, .irem, 1, [], []),
  (68, .ireturn, 1, [0], []),
  (69, .bipush 6, 2, [], []),
  (71, .iload_n 1, 1, [], []),
  (72, .bipush 6, 2, [], []),
  (74, .irem, 1, [], []),
  (75, .isub, 1, [], []),
  (76, .istore 4, 2, [], []),
  (78, .aload_n 0, 1, [], []),
  (79, .iload_n 1, 1, [], []),
  (80, .invokevirtual 350, 3, [190, 1, 12], [295]),
  (83, .aload_n 0, 1, [], []),
  (84, .getfield 114, 3, [12, 48], [17]),
  (87, .bipush 12, 2, [], []),
  (89, .iload 4, 2, [], []),
  (91, .iastore, 1, [], []),
  (92, .aload_n 0, 1, [], []),
  (93, .bipush 111, 2, [], []),
  (95, .bipush 7, 2, [], []),
  (97, .invokevirtual 353, 3, [186, 2, 12], [132]),
  (100, .istore 5, 2, [], []),
  (102, .aload_n 0, 1, [], []),
  (103, .getfield 32, 3, [12, 11], [19]),
  (106, .iload_n 1, 1, [], []),
  (107, .iaload, 1, [], []),
  (108, .aload_n 0, 1, [], []),
  (109, .getfield 47, 3, [12, 16], [85]),
  (112, .aload_n 0, 1, [], []),
  (113, .getfield 29, 3, [12, 10], [4]),
  (116, .iload_n 1, 1, [], []),
  (117, .iaload, 1, [], []),
  (118, .iaload, 1, [], []),
  (119, .imul, 1, [], []),
  (120, .istore 6, 2, [], []),
  (122, .aload_n 0, 1, [], []),
  (123, .getfield 65, 3, [12, 22], [53]),
  (126, .iload 5, 2, [], []),
  (128, .aload_n 0, 1, [], []),
  (129, .getfield 65, 3, [12, 22], [53]),
  (132, .iload 5, 2, [], []),
  (134, .iaload, 1, [], []),
  (135, .iload 6, 2, [], []),
  (137, .iadd, 1, [], []),
  (138, .iastore, 1, [], []),
  (139, .aload_n 0, 1, [], []),
  (140, .getfield 32, 3, [12, 11], [19]),
  (143, .iload_n 1, 1, [], []),
  (144, .iaload, 1, [], []),
  (145, .iload 4, 2, [], []),
  (147, .imul, 1, [], []),
  (148, .aload_n 0, 1, [], []),
  (149, .getfield 56, 3, [12, 19], [67]),
  (152, .iload_n 1, 1, [], []),
  (153, .bipush 6, 2, [], []),
  (155, .idiv, 1, [], []),
  (156, .iaload, 1, [], []),
  (157, .if_icmp .le 23, 3, [114], []),
  (160, .aload_n 0, 1, [], []),
  (161, .getfield 62, 3, [12, 21], [156]),
  (164, .iload_n 1, 1, [], []),
  (165, .bipush 6, 2, [], []),
  (167, .idiv, 1, [], []),
  (168, .aload_n 0, 1, [], []),
  (169, .getfield 62, 3, [12, 21], [156]),
  (172, .iload_n 1, 1, [], []),
  (173, .bipush 6, 2, [], []),
  (175, .idiv, 1, [], []),
  (176, .iaload, 1, [], []),
  (177, .iconst 1, 1, [], []),
  (178, .iadd, 1, [], []),
  (179, .iastore, 1, [], []),
  (180, .aload_n 0, 1, [], []),
  (181, .iload_n 1, 1, [], []),
  (182, .bipush 6, 2, [], []),
  (184, .iload 5, 2, [], []),
  (186, .iload 6, 2, [], []),
  (188, .invokevirtual 386, 3, [201, 4, 12], [297]),
  (191, .aload_n 0, 1, [], []),
  (192, .iload_n 1, 1, [], []),
  (193, .invokevirtual 218, 3, [152, 1, 12], [180]),
  (196, .bipush 6, 2, [], []),
  (198, .ireturn, 1, [0], [])]
def mX12_falls : pv_M := (⟨"CliffGardenModel", "falls", "(IZ)I"⟩, prog_14_method_59_code, 7, some .int, rX12_falls)
def rX12_fall : List pv_R := [
  (0, .aload_n 0, 1, [], []),
  (1, .iload_n 1, 1, [], []),
  (2, .iload_n 2, 1, [], []),
  (3, .invokevirtual 222, 3, [150, 2, 12], [131]),
  (6, .ifCond .eq 17, 3, [13], []),
  (9, .aload_n 0, 1, [], []),
  (10, .getfield 29, 3, [12, 10], [4]),
  (13, .iload_n 1, 1, [], []),
  (14, .iload_n 2, 1, [], []),
  (15, .invokestatic 214, 3, [149, 2], [16]),
  (18, .iaload, 1, [], []),
  (19, .iconst (-1), 1, [], []),
  (20, .if_icmp .ne 7, 3, [15], []),
  (23, .iconst (-1), 1, [], []),
  (24, .goto 13, 3, [21], []),
  (27, .aload_n 0, 1, [], []),
  (28, .iload_n 1, 1, [], []),
  (29, .iload_n 2, 1, [], []),
  (30, .invokestatic 214, 3, [149, 2], [16]),
  (33, .iconst 1, 1, [], []),
  (34, .invokevirtual 390, 3, [202, 2, 12], [188]),
  (37, .ireturn, 1, [0], [])]
def mX12_fall : pv_M := (⟨"CliffGardenModel", "fall", "(II)I"⟩, prog_14_method_60_code, 3, some .int, rX12_fall)
def rX12_firstGoing : List pv_R := [
  (0, .iconst 0, 1, [], []),
  (1, .istore_n 1, 1, [], []),
  (2, .iload_n 1, 1, [], []),
  (3, .bipush 48, 2, [], []),
  (5, .if_icmp .ge 34, 3, [22], []),
  (8, .aload_n 0, 1, [], []),
  (9, .getfield 7, 3, [12, 4], [3]),
  (12, .iload_n 1, 1, [], []),
  (13, .baload, 1, [1], []),
  (14, .ifCond .eq 19, 3, [20], []),
  (17, .aload_n 0, 1, [], []),
  (18, .iload_n 1, 1, [], []),
  (19, .invokevirtual 374, 3, [198, 1, 12], [187]),
  (22, .aload_n 0, 1, [], []),
  (23, .getfield 16, 3, [12, 6], [24]),
  (26, .iload_n 1, 1, [], []),
  (27, .iaload, 1, [], []),
  (28, .if_icmp .le 5, 3, [20], []),
  (31, .iload_n 1, 1, [], []),
  (32, .ireturn, 1, [0], []),
  (33, .iinc 1 1, 3, [], []),
  (36, .goto (-34), 3, [2], []),
  (39, .iconst (-1), 1, [], []),
  (40, .ireturn, 1, [0], [])]
def mX12_firstGoing : pv_M := (⟨"CliffGardenModel", "firstGoing", "()I"⟩, prog_14_method_61_code, 2, some .int, rX12_firstGoing)
def rX12_tears : List pv_R := [
  (0, .iload_n 1, 1, [], []),
  (1, .iconst 0, 1, [], []),
  (2, .bipush 47, 2, [], []),
  (4, .invokestatic 206, 3, [145, 3], [1]),
  (7, .ifCond .eq 38, 3, [27], []),
  (10, .iload_n 1, 1, [], []),
  (11, .bipush 6, 2, [], []),
  (13, .irem, 1, [], []),
  (14, .iload_n 2, 1, [], []),
  (15, .if_icmp .ne 30, 3, [27], []),
  (18, .aload_n 0, 1, [], []),
  (19, .getfield 7, 3, [12, 4], [3]),
  (22, .iload_n 1, 1, [], []),
  (23, .baload, 1, [1], []),
  (24, .ifCond .eq 21, 3, [27], []),
  (27, .aload_n 0, 1, [], []),
  (28, .getfield 16, 3, [12, 6], [24]),
  (31, .iload_n 1, 1, [], []),
  (32, .iconst 0, 1, [], []),
  (33, .aload_n 0, 1, [], []),
  (34, .getfield 16, 3, [12, 6], [24]),
  (37, .iload_n 1, 1, [], []),
  (38, .iaload, 1, [], []),
  (39, .iload_n 3, 1, [], []),
  (40, .isub, 1, [], []),
  (41, .invokestatic 394, 3, [147, 2], [172]),
  (44, .iastore, 1, [], []),
  (45, .return_, 1, [], [])]
def mX12_tears : pv_M := (⟨"CliffGardenModel", "tears", "(III)V"⟩, prog_14_method_62_code, 4, none, rX12_tears)
def rX12_goesOff : List pv_R := [
  (0, .aload_n 0, 1, [], []),
  (1, .iload_n 1, 1, [], []),
  (2, .invokevirtual 374, 3, [198, 1, 12], [187]),
  (5, .bipush 10, 2, [], []),
  (7, .idiv, 1, [], []),
  (8, .istore_n 3, 1, [], []),
  (9, .iconst 0, 1, [], []),
  (10, .istore 4, 2, [], []),
  (12, .bipush 6, 2, [], []),
  (14, .iload_n 1, 1, [], []),
  (15, .bipush 6, 2, [], []),
  (17, .idiv, 1, [], []),
  (18, .iconst 1, 1, [], []),
  (19, .iadd, 1, [], []),
  (20, .imul, 1, [], []),
  (21, .iconst 1, 1, [], []),
  (22, .isub, 1, [], []),
  (23, .istore 5, 2, [], []),
  (25, .iload 5, 2, [], []),
  (27, .iload_n 1, 1, [], []),
  (28, .if_icmp .lt 51, 3, [46], []),
  (31, .aload_n 0, 1, [], []),
  (32, .getfield 7, 3, [12, 4], [3]),
  (35, .iload 5, 2, [], []),
  (37, .baload, 1, [1], []),
  (38, .ifCond .ne 6, 3, [27], []),
  (41, .goto 32, 3, [44], []),
  (44, .iload_n 2, 1, [], []),
  (45, .ifCond .eq 22, 3, [40], []),
  (48, .aload_n 0, 1, [], []),
  (49, .getfield 29, 3, [12, 10], [4]),
  (52, .iload 5, 2, [], []),
  (54, .iaload, 1, [], []),
  (55, .iconst (-1), 1, [], []),
  (56, .if_icmp .eq 11, 3, [40], []),
  (59, .aload_n 0, 1, [], []),
  (60, .iload 5, 2, [], []),
  (62, .iconst 0, 1, [], []),
  (63, .invokevirtual 390, 3, [202, 2, 12], [188]),
  (66, .pop, 1, [], []),
  (67, .iload 4, 2, [], []),
  (69, .iconst 1, 1, [], []),
  (70, .iadd, 1, [], []),
  (71, .istore 4, 2, [], []),
  (73, .iinc 5 (-1), 3, [], []),
  (76, .goto (-51), 3, [18], []),
  (79, .iload_n 1, 1, [], []),
  (80, .istore 5, 2, [], []),
  (82, .iload 5, 2, [], []),
  (84, .bipush 6, 2, [], []),
  (86, .iload_n 1, 1, [], []),
  (87, .bipush 6, 2, [], []),
  (89, .idiv, 1, [], []),
  (90, .iconst 1, 1, [], []),
  (91, .iadd, 1, [], []),
  (92, .imul, 1, [], []),
  (93, .if_icmp .ge 17, 3, [64], []),
  (96, .aload_n 0, 1, [], []),
  (97, .getfield 7, 3, [12, 4], [3]),
  (100, .iload 5, 2, [], []),
  (102, .iconst 0, 1, [], []),
  (103, .bastore, 1, [1], []),
  (104, .iinc 5 1, 3, [], []),
  (107, .goto (-25), 3, [48], []),
  (110, .aload_n 0, 1, [], []),
  (111, .iload_n 1, 1, [], []),
  (112, .bipush 6, 2, [], []),
  (114, .isub, 1, [], []),
  (115, .iload_n 1, 1, [], []),
  (116, .bipush 6, 2, [], []),
  (118, .irem, 1, [], []),
  (119, .iload_n 3, 1, [], []),
  (120, .invokevirtual 397, 3, [205, 3, 12], [298]),
  (123, .aload_n 0, 1, [], []),
  (124, .iload_n 1, 1, [], []),
  (125, .bipush 6, 2, [], []),
  (127, .iadd, 1, [], []),
  (128, .iload_n 1, 1, [], []),
  (129, .bipush 6, 2, [], []),
  (131, .irem, 1, [], []),
  (132, .iload_n 3, 1, [], []),
  (133, .invokevirtual 397, 3, [205, 3, 12], [298]),
  (136, .iload 4, 2, [], []),
  (138, .ireturn, 1, [0], [])]
def mX12_goesOff : pv_M := (⟨"CliffGardenModel", "goesOff", "(IZ)I"⟩, prog_14_method_63_code, 6, some .int, rX12_goesOff)
def rX12_go : List pv_R := [
  (0, .iconst 0, 1, [], []),
  (1, .istore_n 1, 1, [], []),
  (2, .aload_n 0, 1, [], []),
  (3, .invokevirtual 400, 3, [204, 0, 12], [133]),
  (6, .istore_n 2, 1, [], []),
  (7, .iload_n 2, 1, [], []),
  (8, .iconst (-1), 1, [], []),
  (9, .if_icmp .eq 20, 3, [19], []),
  (12, .iload_n 1, 1, [], []),
  (13, .aload_n 0, 1, [], []),
  (14, .iload_n 2, 1, [], []),
  (15, .iconst 1, 1, [], []),
  (16, .invokevirtual 403, 3, [206, 2, 12], [189]),
  (19, .iadd, 1, [], []),
  (20, .istore_n 1, 1, [], []),
  (21, .aload_n 0, 1, [], []),
  (22, .invokevirtual 400, 3, [204, 0, 12], [133]),
  (25, .istore_n 2, 1, [], []),
  (26, .goto (-19), 3, [5], []),
  (29, .iload_n 1, 1, [], []),
  (30, .ireturn, 1, [0], [])]
def mX12_go : pv_M := (⟨"CliffGardenModel", "go", "()I"⟩, prog_14_method_64_code, 3, some .int, rX12_go)
def rX12_torn : List pv_R := [
  (0, .aload_n 0, 1, [], []),
  (1, .iload_n 1, 1, [], []),
  (2, .iload_n 2, 1, [], []),
  (3, .invokevirtual 222, 3, [150, 2, 12], [131]),
  (6, .ifCond .ne 7, 3, [7], []),
  (9, .ldc2_w 406, 3, [18446744073709551615], [244]),
  (12, .lreturn, 1, [], []),
  (13, .iconst 0, 1, [], []),
  (14, .istore_n 3, 1, [], []),
  (15, .iload_n 3, 1, [], []),
  (16, .bipush 48, 2, [], []),
  (18, .if_icmp .ge 33, 3, [30], []),
  (21, .aload_n 0, 1, [], []),
  (22, .getfield 150, 3, [12, 60], [163]),
  (25, .iload_n 3, 1, [], []),
  (26, .aload_n 0, 1, [], []),
  (27, .getfield 7, 3, [12, 4], [3]),
  (30, .iload_n 3, 1, [], []),
  (31, .baload, 1, [1], []),
  (32, .bastore, 1, [1], []),
  (33, .aload_n 0, 1, [], []),
  (34, .getfield 153, 3, [12, 61], [233]),
  (37, .iload_n 3, 1, [], []),
  (38, .aload_n 0, 1, [], []),
  (39, .getfield 16, 3, [12, 6], [24]),
  (42, .iload_n 3, 1, [], []),
  (43, .iaload, 1, [], []),
  (44, .iastore, 1, [], []),
  (45, .iinc 3 1, 3, [], []),
  (48, .goto (-33), 3, [9], []),
  (51, .aload_n 0, 1, [], []),
  (52, .iload_n 1, 1, [], []),
  (53, .iload_n 2, 1, [], []),
  (54, .invokestatic 214, 3, [149, 2], [16]),
  (57, .iconst 0, 1, [], []),
  (58, .invokevirtual 403, 3, [206, 2, 12], [189]),
  (61, .pop, 1, [], []),
  (62, .aload_n 0, 1, [], []),
  (63, .invokevirtual 400, 3, [204, 0, 12], [133]),
  (66, .istore_n 3, 1, [], []),
  (67, .iload_n 3, 1, [], []),
  (68, .iconst (-1), 1, [], []),
  (69, .if_icmp .eq 18, 3, [52], []),
  (72, .aload_n 0, 1, [], []),
  (73, .iload_n 3, 1, [], []),
  (74, .iconst 0, 1, [], []),
  (75, .invokevirtual 403, 3, [206, 2, 12], [189]),
  (78, .pop, 1, [], []),
  (79, .aload_n 0, 1, [], []),
  (80, .invokevirtual 400, 3, [204, 0, 12], [133]),
  (83, .istore_n 3, 1, [], []),
  (84, .goto (-17), 3, [40], []),
  (87, .lconst 0, 1, [], []),
  (88, .lstore_n 3, 1, [], []),
  (89, .iconst 0, 1, [], []),
  (90, .istore 5, 2, [], []),
  (92, .iload 5, 2, [], []),
  (94, .bipush 48, 2, [], []),
  (96, .if_icmp .ge 68, 3, [95], []),
  (99, .aload_n 0, 1, [], []),
  (100, .getfield 150, 3, [12, 60], [163]),
  (103, .iload 5, 2, [], []),
  (105, .baload, 1, [1], []),
  (106, .ifCond .eq 22, 3, [75], []),
  (109, .aload_n 0, 1, [], []),
  (110, .getfield 7, 3, [12, 4], [3]),
  (113, .iload 5, 2, [], []),
  (115, .baload, 1, [1], []),
  (116, .ifCond .ne 12, 3, [75], []),
  (119, .lload_n 3, 1, [], []),
  (120, .lconst 1, 1, [], []),
  (121, .iload 5, 2, [], []),
  (123, .lshl, 1, [], []),
  (124, .lor, 1, [], []),
  (125, .goto 4, 3, [76], []),
  (128, .lload_n 3, 1, [], []),
  (129, .lstore_n 3, 1, [], []),
  (130, .aload_n 0, 1, [], []),
  (131, .getfield 7, 3, [12, 4], [3]),
  (134, .iload 5, 2, [], []),
  (136, .aload_n 0, 1, [], []),
  (137, .getfield 150, 3, [12, 60], [163]),
  (140, .iload 5, 2, [], []),
  (142, .baload, 1, [1], []),
  (143, .bastore, 1, [1], []),
  (144, .aload_n 0, 1, [], []),
  (145, .getfield 16, 3, [12, 6], [24]),
  (148, .iload 5, 2, [], []),
  (150, .aload_n 0, 1, [], []),
  (151, .getfield 153, 3, [12, 61], [233]),
  (154, .iload 5, 2, [], []),
  (156, .iaload, 1, [], []),
  (157, .iastore, 1, [], []),
  (158, .iinc 5 1, 3, [], []),
  (161, .goto (-69), 3, [56], []),
  (164, .lload_n 3, 1, [], []),
  (165, .lreturn, 1, [], [])]
def mX12_torn : pv_M := (⟨"CliffGardenModel", "torn", "(II)J"⟩, prog_14_method_65_code, 6, some .long, rX12_torn)
def rX12_day : List pv_R := [
  (0, .aload_n 0, 1, [], []),
  (1, .iconst 0, 1, [], []),
  (2, .putfield 380, 3, [12, 3], [123]),
  (5, .aload_n 0, 1, [], []),
  (6, .invokevirtual 408, 3, [196, 0, 12], [630]),
  (9, .pop, 1, [], []),
  (10, .iconst 0, 1, [], []),
  (11, .istore_n 1, 1, [], []),
  (12, .iload_n 1, 1, [], []),
  (13, .bipush 48, 2, [], []),
  (15, .if_icmp .ge 56, 3, [40], []),
  (18, .aload_n 0, 1, [], []),
  (19, .getfield 7, 3, [12, 4], [3]),
  (22, .iload_n 1, 1, [], []),
  (23, .baload, 1, [1], []),
  (24, .ifCond .eq 41, 3, [38], []),
  (27, .aload_n 0, 1, [], []),
  (28, .getfield 29, 3, [12, 10], [4]),
  (31, .iload_n 1, 1, [], []),
  (32, .iaload, 1, [], []),
  (33, .iconst (-1), 1, [], []),
  (34, .if_icmp .eq 31, 3, [38], []),
  (37, .aload_n 0, 1, [], []),
  (38, .getfield 32, 3, [12, 11], [19]),
  (41, .iload_n 1, 1, [], []),
  (42, .sipush 200, 3, [], []),
  (45, .aload_n 0, 1, [], []),
  (46, .getfield 32, 3, [12, 11], [19]),
  (49, .iload_n 1, 1, [], []),
  (50, .iaload, 1, [], []),
  (51, .aload_n 0, 1, [], []),
  (52, .iload_n 1, 1, [], []),
  (53, .bipush 103, 2, [], []),
  (55, .bipush 50, 2, [], []),
  (57, .invokevirtual 356, 3, [191, 3, 12], [58]),
  (60, .iadd, 1, [], []),
  (61, .invokestatic 362, 3, [146, 2], [126]),
  (64, .iastore, 1, [], []),
  (65, .iinc 1 1, 3, [], []),
  (68, .goto (-56), 3, [8], []),
  (71, .iconst 0, 1, [], []),
  (72, .istore_n 1, 1, [], []),
  (73, .iload_n 1, 1, [], []),
  (74, .bipush 48, 2, [], []),
  (76, .if_icmp .ge 79, 3, [84], []),
  (79, .aload_n 0, 1, [], []),
  (80, .getfield 7, 3, [12, 4], [3]),
  (83, .iload_n 1, 1, [], []),
  (84, .baload, 1, [1], []),
  (85, .ifCond .eq 64, 3, [82], []),
  (88, .aload_n 0, 1, [], []),
  (89, .getfield 29, 3, [12, 10], [4]),
  (92, .iload_n 1, 1, [], []),
  (93, .iaload, 1, [], []),
  (94, .iconst (-1), 1, [], []),
  (95, .if_icmp .ne 6, 3, [57], []),
  (98, .goto 51, 3, [82], []),
  (101, .aload_n 0, 1, [], []),
  (102, .sipush 25173, 3, [], []),
  (105, .aload_n 0, 1, [], []),
  (106, .getfield 202, 3, [12, 1], [71]),
  (109, .imul, 1, [], []),
  (110, .sipush 13849, 3, [], []),
  (113, .iadd, 1, [], []),
  (114, .ldc_w 411, 3, [65536], [506]),
  (117, .irem, 1, [], []),
  (118, .putfield 202, 3, [12, 1], [71]),
  (121, .aload_n 0, 1, [], []),
  (122, .getfield 202, 3, [12, 1], [71]),
  (125, .sipush 1000, 3, [], []),
  (128, .irem, 1, [], []),
  (129, .aload_n 0, 1, [], []),
  (130, .iload_n 1, 1, [], []),
  (131, .bipush 102, 2, [], []),
  (133, .sipush 1000, 3, [], []),
  (136, .invokevirtual 356, 3, [191, 3, 12], [58]),
  (139, .if_icmp .ge 10, 3, [82], []),
  (142, .aload_n 0, 1, [], []),
  (143, .iload_n 1, 1, [], []),
  (144, .iconst 1, 1, [], []),
  (145, .invokevirtual 390, 3, [202, 2, 12], [188]),
  (148, .pop, 1, [], []),
  (149, .iinc 1 1, 3, [], []),
  (152, .goto (-79), 3, [42], []),
  (155, .iconst 0, 1, [], []),
  (156, .istore_n 1, 1, [], []),
  (157, .iload_n 1, 1, [], []),
  (158, .bipush 48, 2, [], []),
  (160, .if_icmp .ge 38, 3, [107], []),
  (163, .aload_n 0, 1, [], []),
  (164, .getfield 156, 3, [12, 62], [234]),
  (167, .iload_n 1, 1, [], []),
  (168, .aload_n 0, 1, [], []),
  (169, .getfield 7, 3, [12, 4], [3]),
  (172, .iload_n 1, 1, [], []),
  (173, .baload, 1, [1], []),
  (174, .ifCond .eq 16, 3, [103], []),
  (177, .aload_n 0, 1, [], []),
  (178, .iload_n 1, 1, [], []),
  (179, .bipush 97, 2, [], []),
  (181, .sipush 999, 3, [], []),
  (184, .invokevirtual 356, 3, [191, 3, 12], [58]),
  (187, .goto 4, 3, [104], []),
  (190, .iconst 0, 1, [], []),
  (191, .iastore, 1, [], []),
  (192, .iinc 1 1, 3, [], []),
  (195, .goto (-38), 3, [86], []),
  (198, .iconst 0, 1, [], []),
  (199, .istore_n 1, 1, [], []),
  (200, .iload_n 1, 1, [], []),
  (201, .bipush 48, 2, [], []),
  (203, .if_icmp .ge 32, 3, [129], []),
  (206, .aload_n 0, 1, [], []),
  (207, .getfield 16, 3, [12, 6], [24]),
  (210, .iload_n 1, 1, [], []),
  (211, .iconst 0, 1, [], []),
  (212, .aload_n 0, 1, [], []),
  (213, .getfield 16, 3, [12, 6], [24]),
  (216, .iload_n 1, 1, [], []),
  (217, .iaload, 1, [], []),
  (218, .aload_n 0, 1, [], []),
  (219, .getfield 156, 3, [12, 62], [234]),
  (222, .iload_n 1, 1, [], []),
  (223, .iaload, 1, [], []),
  (224, .isub, 1, [], []),
  (225, .invokestatic 394, 3, [147, 2], [172]),
  (228, .iastore, 1, [], []),
  (229, .iinc 1 1, 3, [], []),
  (232, .goto (-32), 3, [109], []),
  (235, .aload_n 0, 1, [], []),
  (236, .invokevirtual 412, 3, [207, 0, 12], [631]),
  (239, .pop, 1, [], []),
  (240, .aload_n 0, 1, [], []),
  (241, .aload_n 0, 1, [], []),
  (242, .getfield 336, 3, [12, 0], [88]),
  (245, .iconst 1, 1, [], []),
  (246, .iadd, 1, [], []),
  (247, .putfield 336, 3, [12, 0], [88]),
  (250, .aload_n 0, 1, [], []),
  (251, .getfield 380, 3, [12, 3], [123]),
  (254, .ireturn, 1, [0], [])]
def mX12_day : pv_M := (⟨"CliffGardenModel", "day", "()I"⟩, prog_14_method_66_code, 2, some .int, rX12_day)
def rX12_isFall : List pv_R := [
  (0, .iload_n 1, 1, [], []),
  (1, .ifCond .lt 15, 3, [8], []),
  (4, .iload_n 1, 1, [], []),
  (5, .aload_n 0, 1, [], []),
  (6, .getfield 377, 3, [12, 2], [21]),
  (9, .if_icmp .ge 7, 3, [8], []),
  (12, .iconst 1, 1, [], []),
  (13, .goto 4, 3, [9], []),
  (16, .iconst 0, 1, [], []),
  (17, .ireturn, 1, [1], [])]
def mX12_isFall : pv_M := (⟨"CliffGardenModel", "isFall", "(I)Z"⟩, prog_14_method_67_code, 2, some .boolean, rX12_isFall)
def rX12_fallIs : List pv_R := [
  (0, .aload_n 0, 1, [], []),
  (1, .iload_n 1, 1, [], []),
  (2, .invokevirtual 415, 3, [210, 1, 12], [190]),
  (5, .ifCond .ne 7, 3, [6], []),
  (8, .sipush (-1000), 3, [], []),
  (11, .ireturn, 1, [0], []),
  (12, .iload_n 2, 1, [], []),
  (13, .tableswitch 98 0 6 #[43, 53, 63, 70, 77, 84, 91], 43, [47, 8, 15, 22, 27, 32, 37, 42], []),
  (56, .aload_n 0, 1, [], []),
  (57, .getfield 123, 3, [12, 51], [86]),
  (60, .iload_n 1, 1, [], []),
  (61, .iaload, 1, [], []),
  (62, .bipush 6, 2, [], []),
  (64, .idiv, 1, [], []),
  (65, .ireturn, 1, [0], []),
  (66, .aload_n 0, 1, [], []),
  (67, .getfield 123, 3, [12, 51], [86]),
  (70, .iload_n 1, 1, [], []),
  (71, .iaload, 1, [], []),
  (72, .bipush 6, 2, [], []),
  (74, .irem, 1, [], []),
  (75, .ireturn, 1, [0], []),
  (76, .aload_n 0, 1, [], []),
  (77, .getfield 126, 3, [12, 52], [161]),
  (80, .iload_n 1, 1, [], []),
  (81, .iaload, 1, [], []),
  (82, .ireturn, 1, [0], []),
  (83, .aload_n 0, 1, [], []),
  (84, .getfield 129, 3, [12, 53], [162]),
  (87, .iload_n 1, 1, [], []),
  (88, .iaload, 1, [], []),
  (89, .ireturn, 1, [0], []),
  (90, .aload_n 0, 1, [], []),
  (91, .getfield 132, 3, [12, 54], [116]),
  (94, .iload_n 1, 1, [], []),
  (95, .iaload, 1, [], []),
  (96, .ireturn, 1, [0], []),
  (97, .aload_n 0, 1, [], []),
  (98, .getfield 135, 3, [12, 55], [69]),
  (101, .iload_n 1, 1, [], []),
  (102, .iaload, 1, [], []),
  (103, .ireturn, 1, [0], []),
  (104, .aload_n 0, 1, [], []),
  (105, .getfield 138, 3, [12, 56], [230]),
  (108, .iload_n 1, 1, [], []),
  (109, .iaload, 1, [], []),
  (110, .ireturn, 1, [0], []),
  (111, .sipush (-1000), 3, [], []),
  (114, .ireturn, 1, [0], [])]
def mX12_fallIs : pv_M := (⟨"CliffGardenModel", "fallIs", "(II)I"⟩, prog_14_method_68_code, 3, some .int, rX12_fallIs)
def rX12_claimer : List pv_R := [
  (0, .bipush (-2), 2, [], []),
  (2, .istore_n 3, 1, [], []),
  (3, .iconst 0, 1, [], []),
  (4, .istore 4, 2, [], []),
  (6, .iconst 0, 1, [], []),
  (7, .istore 5, 2, [], []),
  (9, .iload 5, 2, [], []),
  (11, .bipush 8, 2, [], []),
  (13, .if_icmp .ge 105, 3, [67], []),
  (16, .iload_n 2, 1, [], []),
  (17, .iload 5, 2, [], []),
  (19, .ishr, 1, [], []),
  (20, .iconst 1, 1, [], []),
  (21, .iand, 1, [], []),
  (22, .ifCond .ne 6, 3, [16], []),
  (25, .goto 87, 3, [65], []),
  (28, .aload_n 0, 1, [], []),
  (29, .aload_n 0, 1, [], []),
  (30, .getfield 123, 3, [12, 51], [86]),
  (33, .iload_n 1, 1, [], []),
  (34, .iaload, 1, [], []),
  (35, .aload_n 0, 1, [], []),
  (36, .getfield 132, 3, [12, 54], [116]),
  (39, .iload_n 1, 1, [], []),
  (40, .iaload, 1, [], []),
  (41, .aload_n 0, 1, [], []),
  (42, .getfield 123, 3, [12, 51], [86]),
  (45, .iload_n 1, 1, [], []),
  (46, .iaload, 1, [], []),
  (47, .bipush 6, 2, [], []),
  (49, .irem, 1, [], []),
  (50, .isub, 1, [], []),
  (51, .iload 5, 2, [], []),
  (53, .invokevirtual 339, 3, [187, 3, 12], [184]),
  (56, .aload_n 0, 1, [], []),
  (57, .aload_n 0, 1, [], []),
  (58, .getfield 126, 3, [12, 52], [161]),
  (61, .iload_n 1, 1, [], []),
  (62, .iaload, 1, [], []),
  (63, .aload_n 0, 1, [], []),
  (64, .getfield 129, 3, [12, 53], [162]),
  (67, .iload_n 1, 1, [], []),
  (68, .iaload, 1, [], []),
  (69, .aload_n 0, 1, [], []),
  (70, .getfield 144, 3, [12, 58], [231]),
  (73, .iload_n 1, 1, [], []),
  (74, .baload, 1, [1], []),
  (75, .aload_n 0, 1, [], []),
  (76, .getfield 147, 3, [12, 59], [232]),
  (79, .iload_n 1, 1, [], []),
  (80, .baload, 1, [1], []),
  (81, .invokevirtual 346, 3, [188, 4, 12], [186]),
  (84, .aload_n 0, 1, [], []),
  (85, .bipush 113, 2, [], []),
  (87, .sipush 1000, 3, [], []),
  (90, .invokevirtual 353, 3, [186, 2, 12], [132]),
  (93, .istore 6, 2, [], []),
  (95, .iload 6, 2, [], []),
  (97, .iload 4, 2, [], []),
  (99, .if_icmp .gt 6, 3, [61], []),
  (102, .goto 10, 3, [65], []),
  (105, .iload 6, 2, [], []),
  (107, .istore 4, 2, [], []),
  (109, .iload 5, 2, [], []),
  (111, .istore_n 3, 1, [], []),
  (112, .iinc 5 1, 3, [], []),
  (115, .goto (-106), 3, [6], []),
  (118, .iload_n 3, 1, [], []),
  (119, .ireturn, 1, [0], [])]
def mX12_claimer : pv_M := (⟨"CliffGardenModel", "claimer", "(II)I"⟩, prog_14_method_69_code, 7, some .int, rX12_claimer)
def rX12_claimed : List pv_R := [
  (0, .aload_n 0, 1, [], []),
  (1, .iload_n 1, 1, [], []),
  (2, .invokevirtual 415, 3, [210, 1, 12], [190]),
  (5, .ifCond .eq 23, 3, [14], []),
  (8, .iload_n 2, 1, [], []),
  (9, .iconst 1, 1, [], []),
  (10, .sipush 255, 3, [], []),
  (13, .invokestatic 206, 3, [145, 3], [1]),
  (16, .ifCond .eq 12, 3, [14], []),
  (19, .aload_n 0, 1, [], []),
  (20, .iload_n 1, 1, [], []),
  (21, .iload_n 2, 1, [], []),
  (22, .invokevirtual 418, 3, [212, 2, 12], [299]),
  (25, .goto 4, 3, [15], []),
  (28, .iconst (-1), 1, [], []),
  (29, .ireturn, 1, [0], [])]
def mX12_claimed : pv_M := (⟨"CliffGardenModel", "claimed", "(II)I"⟩, prog_14_method_70_code, 3, some .int, rX12_claimed)
def rX12_right : List pv_R := [
  (0, .aload_n 0, 1, [], []),
  (1, .iload_n 1, 1, [], []),
  (2, .invokevirtual 415, 3, [210, 1, 12], [190]),
  (5, .ifCond .eq 25, 3, [15], []),
  (8, .iload_n 2, 1, [], []),
  (9, .iconst 1, 1, [], []),
  (10, .sipush 255, 3, [], []),
  (13, .invokestatic 206, 3, [145, 3], [1]),
  (16, .ifCond .eq 14, 3, [15], []),
  (19, .aload_n 0, 1, [], []),
  (20, .getfield 132, 3, [12, 54], [116]),
  (23, .iload_n 1, 1, [], []),
  (24, .iaload, 1, [], []),
  (25, .bipush 6, 2, [], []),
  (27, .if_icmp .eq 5, 3, [17], []),
  (30, .iconst (-1), 1, [], []),
  (31, .ireturn, 1, [0], []),
  (32, .aload_n 0, 1, [], []),
  (33, .iload_n 1, 1, [], []),
  (34, .iload_n 2, 1, [], []),
  (35, .invokevirtual 418, 3, [212, 2, 12], [299]),
  (38, .istore_n 3, 1, [], []),
  (39, .iload_n 3, 1, [], []),
  (40, .bipush (-2), 2, [], []),
  (42, .if_icmp .eq 13, 3, [31], []),
  (45, .iload_n 3, 1, [], []),
  (46, .aload_n 0, 1, [], []),
  (47, .getfield 135, 3, [12, 55], [69]),
  (50, .iload_n 1, 1, [], []),
  (51, .iaload, 1, [], []),
  (52, .if_icmp .ne 5, 3, [33], []),
  (55, .iconst (-1), 1, [], []),
  (56, .ireturn, 1, [0], []),
  (57, .aload_n 0, 1, [], []),
  (58, .getfield 65, 3, [12, 22], [53]),
  (61, .aload_n 0, 1, [], []),
  (62, .getfield 135, 3, [12, 55], [69]),
  (65, .iload_n 1, 1, [], []),
  (66, .iaload, 1, [], []),
  (67, .aload_n 0, 1, [], []),
  (68, .getfield 65, 3, [12, 22], [53]),
  (71, .aload_n 0, 1, [], []),
  (72, .getfield 135, 3, [12, 55], [69]),
  (75, .iload_n 1, 1, [], []),
  (76, .iaload, 1, [], []),
  (77, .iaload, 1, [], []),
  (78, .aload_n 0, 1, [], []),
  (79, .getfield 141, 3, [12, 57], [117]),
  (82, .iload_n 1, 1, [], []),
  (83, .iaload, 1, [], []),
  (84, .isub, 1, [], []),
  (85, .iastore, 1, [], []),
  (86, .aload_n 0, 1, [], []),
  (87, .getfield 65, 3, [12, 22], [53]),
  (90, .iload_n 3, 1, [], []),
  (91, .aload_n 0, 1, [], []),
  (92, .getfield 65, 3, [12, 22], [53]),
  (95, .iload_n 3, 1, [], []),
  (96, .iaload, 1, [], []),
  (97, .aload_n 0, 1, [], []),
  (98, .getfield 141, 3, [12, 57], [117]),
  (101, .iload_n 1, 1, [], []),
  (102, .iaload, 1, [], []),
  (103, .iadd, 1, [], []),
  (104, .iastore, 1, [], []),
  (105, .aload_n 0, 1, [], []),
  (106, .getfield 135, 3, [12, 55], [69]),
  (109, .iload_n 1, 1, [], []),
  (110, .iload_n 3, 1, [], []),
  (111, .iastore, 1, [], []),
  (112, .aload_n 0, 1, [], []),
  (113, .getfield 141, 3, [12, 57], [117]),
  (116, .iload_n 1, 1, [], []),
  (117, .iaload, 1, [], []),
  (118, .ireturn, 1, [0], [])]
def mX12_right : pv_M := (⟨"CliffGardenModel", "right", "(II)I"⟩, prog_14_method_71_code, 4, some .int, rX12_right)
def rX12_food : List pv_R := [
  (0, .iload_n 1, 1, [], []),
  (1, .iconst 0, 1, [], []),
  (2, .bipush 7, 2, [], []),
  (4, .invokestatic 206, 3, [145, 3], [1]),
  (7, .ifCond .eq 12, 3, [10], []),
  (10, .aload_n 0, 1, [], []),
  (11, .getfield 65, 3, [12, 22], [53]),
  (14, .iload_n 1, 1, [], []),
  (15, .iaload, 1, [], []),
  (16, .goto 4, 3, [11], []),
  (19, .iconst (-1), 1, [], []),
  (20, .ireturn, 1, [0], [])]
def mX12_food : pv_M := (⟨"CliffGardenModel", "food", "(I)I"⟩, prog_14_method_72_code, 2, some .int, rX12_food)
def rX12_kitchenIs : List pv_R := [
  (0, .iload_n 1, 1, [], []),
  (1, .iconst 0, 1, [], []),
  (2, .bipush 7, 2, [], []),
  (4, .invokestatic 206, 3, [145, 3], [1]),
  (7, .ifCond .ne 5, 3, [7], []),
  (10, .iconst (-1), 1, [], []),
  (11, .ireturn, 1, [0], []),
  (12, .iload_n 2, 1, [], []),
  (13, .tableswitch 59 0 3 #[31, 38, 45, 52], 31, [29, 9, 14, 19, 24], []),
  (44, .aload_n 0, 1, [], []),
  (45, .getfield 53, 3, [12, 18], [154]),
  (48, .iload_n 1, 1, [], []),
  (49, .iaload, 1, [], []),
  (50, .ireturn, 1, [0], []),
  (51, .aload_n 0, 1, [], []),
  (52, .getfield 56, 3, [12, 19], [67]),
  (55, .iload_n 1, 1, [], []),
  (56, .iaload, 1, [], []),
  (57, .ireturn, 1, [0], []),
  (58, .aload_n 0, 1, [], []),
  (59, .getfield 59, 3, [12, 20], [155]),
  (62, .iload_n 1, 1, [], []),
  (63, .iaload, 1, [], []),
  (64, .ireturn, 1, [0], []),
  (65, .aload_n 0, 1, [], []),
  (66, .getfield 62, 3, [12, 21], [156]),
  (69, .iload_n 1, 1, [], []),
  (70, .iaload, 1, [], []),
  (71, .ireturn, 1, [0], []),
  (72, .iconst (-1), 1, [], []),
  (73, .ireturn, 1, [0], [])]
def mX12_kitchenIs : pv_M := (⟨"CliffGardenModel", "kitchenIs", "(II)I"⟩, prog_14_method_73_code, 3, some .int, rX12_kitchenIs)
def rX12_lays : List pv_R := [
  (0, .lload_n 1, 1, [], []),
  (1, .lconst 0, 1, [], []),
  (2, .lcmp, 1, [], []),
  (3, .ifCond .le 11, 3, [8], []),
  (6, .lload_n 1, 1, [], []),
  (7, .ldc2_w 421, 3, [281474976710656], [509]),
  (10, .lcmp, 1, [], []),
  (11, .ifCond .lt 5, 3, [10], []),
  (14, .iconst 0, 1, [], []),
  (15, .ireturn, 1, [1], []),
  (16, .aload_n 0, 1, [], []),
  (17, .iconst 0, 1, [], []),
  (18, .putfield 423, 3, [12, 63], [8]),
  (21, .iconst 0, 1, [], []),
  (22, .istore 4, 2, [], []),
  (24, .iload 4, 2, [], []),
  (26, .bipush 48, 2, [], []),
  (28, .if_icmp .ge 54, 3, [47], []),
  (31, .lload_n 1, 1, [], []),
  (32, .iload 4, 2, [], []),
  (34, .lshr, 1, [], []),
  (35, .lconst 1, 1, [], []),
  (36, .land, 1, [], []),
  (37, .lconst 0, 1, [], []),
  (38, .lcmp, 1, [], []),
  (39, .ifCond .ne 6, 3, [27], []),
  (42, .goto 34, 3, [45], []),
  (45, .aload_n 0, 1, [], []),
  (46, .getfield 423, 3, [12, 63], [8]),
  (49, .iload_n 3, 1, [], []),
  (50, .if_icmp .ne 5, 3, [33], []),
  (53, .iconst 0, 1, [], []),
  (54, .ireturn, 1, [1], []),
  (55, .aload_n 0, 1, [], []),
  (56, .getfield 159, 3, [12, 64], [13]),
  (59, .aload_n 0, 1, [], []),
  (60, .getfield 423, 3, [12, 63], [8]),
  (63, .iload 4, 2, [], []),
  (65, .iastore, 1, [], []),
  (66, .aload_n 0, 1, [], []),
  (67, .aload_n 0, 1, [], []),
  (68, .getfield 423, 3, [12, 63], [8]),
  (71, .iconst 1, 1, [], []),
  (72, .iadd, 1, [], []),
  (73, .putfield 423, 3, [12, 63], [8]),
  (76, .iinc 4 1, 3, [], []),
  (79, .goto (-55), 3, [15], []),
  (82, .iconst 1, 1, [], []),
  (83, .ireturn, 1, [1], [])]
def mX12_lays : pv_M := (⟨"CliffGardenModel", "lays", "(JI)Z"⟩, prog_14_method_74_code, 5, some .boolean, rX12_lays)
def rX12_mayBe : List pv_R := [
  (0, .iload_n 1, 1, [], []),
  (1, .iconst 5, 1, [], []),
  (2, .iload_n 2, 1, [], []),
  (3, .bipush 6, 2, [], []),
  (5, .irem, 1, [], []),
  (6, .imul, 1, [], []),
  (7, .iadd, 1, [], []),
  (8, .aload_n 0, 1, [], []),
  (9, .getfield 68, 3, [12, 23], [222]),
  (12, .iload_n 2, 1, [], []),
  (13, .bipush 6, 2, [], []),
  (15, .idiv, 1, [], []),
  (16, .iaload, 1, [], []),
  (17, .if_icmp .gt 7, 3, [16], []),
  (20, .iconst 1, 1, [], []),
  (21, .goto 4, 3, [17], []),
  (24, .iconst 0, 1, [], []),
  (25, .ireturn, 1, [1], [])]
def mX12_mayBe : pv_M := (⟨"CliffGardenModel", "mayBe", "(II)Z"⟩, prog_14_method_75_code, 3, some .boolean, rX12_mayBe)
def rX12_mayWork : List pv_R := [
  (0, .iload_n 1, 1, [], []),
  (1, .iconst 1, 1, [], []),
  (2, .bipush 99, 2, [], []),
  (4, .invokestatic 206, 3, [145, 3], [1]),
  (7, .ifCond .eq 11, 3, [9], []),
  (10, .iload_n 2, 1, [], []),
  (11, .iload_n 3, 1, [], []),
  (12, .invokestatic 210, 3, [148, 2], [91]),
  (15, .ifCond .ne 7, 3, [11], []),
  (18, .iconst (-1), 1, [], []),
  (19, .goto 21, 3, [21], []),
  (22, .aload_n 0, 1, [], []),
  (23, .iload_n 1, 1, [], []),
  (24, .iload_n 2, 1, [], []),
  (25, .iload_n 3, 1, [], []),
  (26, .invokestatic 214, 3, [149, 2], [16]),
  (29, .invokevirtual 426, 3, [218, 2, 12], [300]),
  (32, .ifCond .eq 7, 3, [20], []),
  (35, .iconst 1, 1, [], []),
  (36, .goto 4, 3, [21], []),
  (39, .iconst 0, 1, [], []),
  (40, .ireturn, 1, [0], [])]
def mX12_mayWork : pv_M := (⟨"CliffGardenModel", "mayWork", "(III)I"⟩, prog_14_method_76_code, 4, some .int, rX12_mayWork)
def rX12_apart : List pv_R := [
  (0, .iload_n 0, 1, [], []),
  (1, .iload_n 1, 1, [], []),
  (2, .if_icmp .ge 9, 3, [7], []),
  (5, .iload_n 1, 1, [], []),
  (6, .iload_n 0, 1, [], []),
  (7, .isub, 1, [], []),
  (8, .goto 6, 3, [10], []),
  (11, .iload_n 0, 1, [], []),
  (12, .iload_n 1, 1, [], []),
  (13, .isub, 1, [], []),
  (14, .ireturn, 1, [0], [])]
def mX12_apart : pv_M := (⟨"CliffGardenModel", "apart", "(II)I"⟩, prog_14_method_77_code, 2, some .int, rX12_apart)
def rX12_way : List pv_R := [
  (0, .iconst 2, 1, [], []),
  (1, .iload_n 0, 1, [], []),
  (2, .bipush 6, 2, [], []),
  (4, .idiv, 1, [], []),
  (5, .iload_n 1, 1, [], []),
  (6, .bipush 6, 2, [], []),
  (8, .idiv, 1, [], []),
  (9, .invokestatic 429, 3, [220, 2], [259]),
  (12, .imul, 1, [], []),
  (13, .iload_n 0, 1, [], []),
  (14, .bipush 6, 2, [], []),
  (16, .irem, 1, [], []),
  (17, .iload_n 1, 1, [], []),
  (18, .bipush 6, 2, [], []),
  (20, .irem, 1, [], []),
  (21, .invokestatic 429, 3, [220, 2], [259]),
  (24, .iadd, 1, [], []),
  (25, .iconst 1, 1, [], []),
  (26, .iadd, 1, [], []),
  (27, .ireturn, 1, [0], [])]
def mX12_way : pv_M := (⟨"CliffGardenModel", "way", "(II)I"⟩, prog_14_method_78_code, 2, some .int, rX12_way)
def rX12_laysHours : List pv_R := [
  (0, .iconst 0, 1, [], []),
  (1, .istore_n 1, 1, [], []),
  (2, .iload_n 1, 1, [], []),
  (3, .iconst 1, 1, [], []),
  (4, .aload_n 0, 1, [], []),
  (5, .getfield 423, 3, [12, 63], [8]),
  (8, .ishl, 1, [], []),
  (9, .if_icmp .ge 118, 3, [75], []),
  (12, .iconst 0, 1, [], []),
  (13, .istore_n 2, 1, [], []),
  (14, .iload_n 2, 1, [], []),
  (15, .aload_n 0, 1, [], []),
  (16, .getfield 423, 3, [12, 63], [8]),
  (19, .if_icmp .ge 102, 3, [73], []),
  (22, .iload_n 1, 1, [], []),
  (23, .ifCond .ne 7, 3, [18], []),
  (26, .iconst 0, 1, [], []),
  (27, .goto 6, 3, [19], []),
  (30, .ldc_w 432, 3, [1000000000], [168]),
  (33, .istore_n 3, 1, [], []),
  (34, .iconst 0, 1, [], []),
  (35, .istore 4, 2, [], []),
  (37, .iload 4, 2, [], []),
  (39, .aload_n 0, 1, [], []),
  (40, .getfield 423, 3, [12, 63], [8]),
  (43, .if_icmp .ge 60, 3, [62], []),
  (46, .iload_n 1, 1, [], []),
  (47, .iload 4, 2, [], []),
  (49, .ishr, 1, [], []),
  (50, .iconst 1, 1, [], []),
  (51, .iand, 1, [], []),
  (52, .iconst 1, 1, [], []),
  (53, .if_icmp .ne 44, 3, [60], []),
  (56, .iload_n 3, 1, [], []),
  (57, .aload_n 0, 1, [], []),
  (58, .getfield 159, 3, [12, 64], [13]),
  (61, .iload_n 2, 1, [], []),
  (62, .iaload, 1, [], []),
  (63, .aload_n 0, 1, [], []),
  (64, .getfield 159, 3, [12, 64], [13]),
  (67, .iload 4, 2, [], []),
  (69, .iaload, 1, [], []),
  (70, .invokestatic 433, 3, [221, 2], [260]),
  (73, .aload_n 0, 1, [], []),
  (74, .getfield 168, 3, [12, 67], [165]),
  (77, .bipush 8, 2, [], []),
  (79, .iload_n 1, 1, [], []),
  (80, .iconst 1, 1, [], []),
  (81, .iload 4, 2, [], []),
  (83, .ishl, 1, [], []),
  (84, .iconst (-1), 1, [], []),
  (85, .ixor, 1, [], []),
  (86, .iand, 1, [], []),
  (87, .imul, 1, [], []),
  (88, .iload 4, 2, [], []),
  (90, .iadd, 1, [], []),
  (91, .iaload, 1, [], []),
  (92, .iadd, 1, [], []),
  (93, .invokestatic 362, 3, [146, 2], [126]),
  (96, .istore_n 3, 1, [], []),
  (97, .iinc 4 1, 3, [], []),
  (100, .goto (-63), 3, [22], []),
  (103, .aload_n 0, 1, [], []),
  (104, .getfield 168, 3, [12, 67], [165]),
  (107, .bipush 8, 2, [], []),
  (109, .iload_n 1, 1, [], []),
  (110, .imul, 1, [], []),
  (111, .iload_n 2, 1, [], []),
  (112, .iadd, 1, [], []),
  (113, .iload_n 3, 1, [], []),
  (114, .iastore, 1, [], []),
  (115, .iinc 2 1, 3, [], []),
  (118, .goto (-104), 3, [10], []),
  (121, .iinc 1 1, 3, [], []),
  (124, .goto (-122), 3, [2], []),
  (127, .return_, 1, [], [])]
def mX12_laysHours : pv_M := (⟨"CliffGardenModel", "laysHours", "()V"⟩, prog_14_method_79_code, 5, none, rX12_laysHours)
def rX12_work : List pv_R := [
  (0, .iload_n 1, 1, [], []),
  (1, .iconst 1, 1, [], []),
  (2, .bipush 99, 2, [], []),
  (4, .invokestatic 206, 3, [145, 3], [1]),
  (7, .ifCond .eq 38, 3, [23], []),
  (10, .iload_n 2, 1, [], []),
  (11, .iconst 0, 1, [], []),
  (12, .bipush 7, 2, [], []),
  (14, .invokestatic 206, 3, [145, 3], [1]),
  (17, .ifCond .eq 28, 3, [23], []),
  (20, .aload_n 0, 1, [], []),
  (21, .lload_n 3, 1, [], []),
  (22, .bipush 8, 2, [], []),
  (24, .invokevirtual 436, 3, [217, 2, 12], [191]),
  (27, .ifCond .eq 18, 3, [23], []),
  (30, .iload 5, 2, [], []),
  (32, .iconst (-1), 1, [], []),
  (33, .aload_n 0, 1, [], []),
  (34, .getfield 423, 3, [12, 63], [8]),
  (37, .iconst 1, 1, [], []),
  (38, .isub, 1, [], []),
  (39, .invokestatic 206, 3, [145, 3], [1]),
  (42, .ifCond .ne 6, 3, [25], []),
  (45, .bipush (-3), 2, [], []),
  (47, .ireturn, 1, [0], []),
  (48, .iconst 0, 1, [], []),
  (49, .istore 6, 2, [], []),
  (51, .iload 6, 2, [], []),
  (53, .aload_n 0, 1, [], []),
  (54, .getfield 423, 3, [12, 63], [8]),
  (57, .if_icmp .ge 27, 3, [43], []),
  (60, .aload_n 0, 1, [], []),
  (61, .iload_n 1, 1, [], []),
  (62, .aload_n 0, 1, [], []),
  (63, .getfield 159, 3, [12, 64], [13]),
  (66, .iload 6, 2, [], []),
  (68, .iaload, 1, [], []),
  (69, .invokevirtual 426, 3, [218, 2, 12], [300]),
  (72, .ifCond .ne 6, 3, [41], []),
  (75, .bipush (-2), 2, [], []),
  (77, .ireturn, 1, [0], []),
  (78, .iinc 6 1, 3, [], []),
  (81, .goto (-30), 3, [27], []),
  (84, .aload_n 0, 1, [], []),
  (85, .invokevirtual 440, 3, [222, 0, 12], [632]),
  (88, .iconst 1, 1, [], []),
  (89, .aload_n 0, 1, [], []),
  (90, .getfield 423, 3, [12, 63], [8]),
  (93, .ishl, 1, [], []),
  (94, .iconst 1, 1, [], []),
  (95, .isub, 1, [], []),
  (96, .istore 6, 2, [], []),
  (98, .iload_n 2, 1, [], []),
  (99, .iconst 0, 1, [], []),
  (100, .invokestatic 214, 3, [149, 2], [16]),
  (103, .istore 7, 2, [], []),
  (105, .iconst (-1), 1, [], []),
  (106, .istore 8, 2, [], []),
  (108, .iconst 0, 1, [], []),
  (109, .istore 9, 2, [], []),
  (111, .iload 9, 2, [], []),
  (113, .aload_n 0, 1, [], []),
  (114, .getfield 423, 3, [12, 63], [8]),
  (117, .if_icmp .ge 151, 3, [143], []),
  (120, .iconst (-1), 1, [], []),
  (121, .istore 10, 2, [], []),
  (123, .ldc_w 432, 3, [1000000000], [168]),
  (126, .istore 11, 2, [], []),
  (128, .iconst 0, 1, [], []),
  (129, .istore 12, 2, [], []),
  (131, .iload 12, 2, [], []),
  (133, .aload_n 0, 1, [], []),
  (134, .getfield 423, 3, [12, 63], [8]),
  (137, .if_icmp .ge 75, 3, [113], []),
  (140, .iload 6, 2, [], []),
  (142, .iload 12, 2, [], []),
  (144, .ishr, 1, [], []),
  (145, .iconst 1, 1, [], []),
  (146, .iand, 1, [], []),
  (147, .ifCond .ne 6, 3, [81], []),
  (150, .goto 56, 3, [111], []),
  (153, .iload 7, 2, [], []),
  (155, .aload_n 0, 1, [], []),
  (156, .getfield 159, 3, [12, 64], [13]),
  (159, .iload 12, 2, [], []),
  (161, .iaload, 1, [], []),
  (162, .invokestatic 433, 3, [221, 2], [260]),
  (165, .aload_n 0, 1, [], []),
  (166, .getfield 168, 3, [12, 67], [165]),
  (169, .bipush 8, 2, [], []),
  (171, .iload 6, 2, [], []),
  (173, .iconst 1, 1, [], []),
  (174, .iload 12, 2, [], []),
  (176, .ishl, 1, [], []),
  (177, .iconst (-1), 1, [], []),
  (178, .ixor, 1, [], []),
  (179, .iand, 1, [], []),
  (180, .imul, 1, [], []),
  (181, .iload 12, 2, [], []),
  (183, .iadd, 1, [], []),
  (184, .iaload, 1, [], []),
  (185, .iadd, 1, [], []),
  (186, .istore 13, 2, [], []),
  (188, .iload 13, 2, [], []),
  (190, .iload 11, 2, [], []),
  (192, .if_icmp .lt 6, 3, [107], []),
  (195, .goto 11, 3, [111], []),
  (198, .iload 13, 2, [], []),
  (200, .istore 11, 2, [], []),
  (202, .iload 12, 2, [], []),
  (204, .istore 10, 2, [], []),
  (206, .iinc 12 1, 3, [], []),
  (209, .goto (-78), 3, [70], []),
  (212, .iload 8, 2, [], []),
  (214, .iconst (-1), 1, [], []),
  (215, .if_icmp .ne 8, 3, [118], []),
  (218, .iload 11, 2, [], []),
  (220, .goto 5, 3, [119], []),
  (223, .iload 8, 2, [], []),
  (225, .istore 8, 2, [], []),
  (227, .iload 9, 2, [], []),
  (229, .iload 5, 2, [], []),
  (231, .if_icmp .ne 11, 3, [128], []),
  (234, .aload_n 0, 1, [], []),
  (235, .getfield 159, 3, [12, 64], [13]),
  (238, .iload 10, 2, [], []),
  (240, .iaload, 1, [], []),
  (241, .ireturn, 1, [0], []),
  (242, .aload_n 0, 1, [], []),
  (243, .getfield 159, 3, [12, 64], [13]),
  (246, .iload 10, 2, [], []),
  (248, .iaload, 1, [], []),
  (249, .istore 7, 2, [], []),
  (251, .iload 6, 2, [], []),
  (253, .iconst 1, 1, [], []),
  (254, .iload 10, 2, [], []),
  (256, .ishl, 1, [], []),
  (257, .iconst (-1), 1, [], []),
  (258, .ixor, 1, [], []),
  (259, .iand, 1, [], []),
  (260, .istore 6, 2, [], []),
  (262, .iinc 9 1, 3, [], []),
  (265, .goto (-154), 3, [60], []),
  (268, .iload 8, 2, [], []),
  (270, .ireturn, 1, [0], [])]
def mX12_work : pv_M := (⟨"CliffGardenModel", "work", "(IIJI)I"⟩, prog_14_method_80_code, 14, some .int, rX12_work)
def rX12_hasKind : List pv_R := [
  (0, .bipush 6, 2, [], []),
  (2, .iload_n 1, 1, [], []),
  (3, .imul, 1, [], []),
  (4, .istore_n 3, 1, [], []),
  (5, .iload_n 3, 1, [], []),
  (6, .bipush 6, 2, [], []),
  (8, .iload_n 1, 1, [], []),
  (9, .iconst 1, 1, [], []),
  (10, .iadd, 1, [], []),
  (11, .imul, 1, [], []),
  (12, .if_icmp .ge 30, 3, [26], []),
  (15, .aload_n 0, 1, [], []),
  (16, .getfield 7, 3, [12, 4], [3]),
  (19, .iload_n 3, 1, [], []),
  (20, .baload, 1, [1], []),
  (21, .ifCond .eq 15, 3, [24], []),
  (24, .aload_n 0, 1, [], []),
  (25, .getfield 29, 3, [12, 10], [4]),
  (28, .iload_n 3, 1, [], []),
  (29, .iaload, 1, [], []),
  (30, .iload_n 2, 1, [], []),
  (31, .if_icmp .ne 5, 3, [24], []),
  (34, .iconst 1, 1, [], []),
  (35, .ireturn, 1, [1], []),
  (36, .iinc 3 1, 3, [], []),
  (39, .goto (-34), 3, [4], []),
  (42, .iconst 0, 1, [], []),
  (43, .ireturn, 1, [1], [])]
def mX12_hasKind : pv_M := (⟨"CliffGardenModel", "hasKind", "(II)Z"⟩, prog_14_method_81_code, 4, some .boolean, rX12_hasKind)
def rX12_takesUp : List pv_R := [
  (0, .iconst 0, 1, [], []),
  (1, .istore_n 3, 1, [], []),
  (2, .iload_n 3, 1, [], []),
  (3, .bipush 8, 2, [], []),
  (5, .if_icmp .ge 47, 3, [31], []),
  (8, .aload_n 0, 1, [], []),
  (9, .iload_n 3, 1, [], []),
  (10, .iload_n 2, 1, [], []),
  (11, .invokevirtual 443, 3, [224, 2, 12], [633]),
  (14, .ifCond .ne 6, 3, [11], []),
  (17, .goto 29, 3, [29], []),
  (20, .aload_n 0, 1, [], []),
  (21, .getfield 175, 3, [12, 69], [55]),
  (24, .iload_n 3, 1, [], []),
  (25, .aload_n 0, 1, [], []),
  (26, .getfield 175, 3, [12, 69], [55]),
  (29, .iload_n 3, 1, [], []),
  (30, .laload, 1, [], []),
  (31, .aload_n 0, 1, [], []),
  (32, .getfield 171, 3, [12, 68], [87]),
  (35, .iload_n 3, 1, [], []),
  (36, .laload, 1, [], []),
  (37, .ladd, 1, [], []),
  (38, .lastore, 1, [], []),
  (39, .aload_n 0, 1, [], []),
  (40, .getfield 171, 3, [12, 68], [87]),
  (43, .iload_n 3, 1, [], []),
  (44, .lconst 0, 1, [], []),
  (45, .lastore, 1, [], []),
  (46, .iinc 3 1, 3, [], []),
  (49, .goto (-47), 3, [2], []),
  (52, .aload_n 0, 1, [], []),
  (53, .getfield 175, 3, [12, 69], [55]),
  (56, .iload_n 1, 1, [], []),
  (57, .laload, 1, [], []),
  (58, .lstore_n 3, 1, [], []),
  (59, .aload_n 0, 1, [], []),
  (60, .getfield 175, 3, [12, 69], [55]),
  (63, .iload_n 1, 1, [], []),
  (64, .lconst 0, 1, [], []),
  (65, .lastore, 1, [], []),
  (66, .lload_n 3, 1, [], []),
  (67, .lreturn, 1, [], [])]
def mX12_takesUp : pv_M := (⟨"CliffGardenModel", "takesUp", "(II)J"⟩, prog_14_method_82_code, 5, some .long, rX12_takesUp)
def rX12_moved : List pv_R := [
  (0, .iload_n 0, 1, [], []),
  (1, .iload_n 1, 1, [], []),
  (2, .iadd, 1, [], []),
  (3, .ifCond .lt 11, 3, [9], []),
  (6, .iload_n 0, 1, [], []),
  (7, .iload_n 1, 1, [], []),
  (8, .iadd, 1, [], []),
  (9, .bipush 7, 2, [], []),
  (11, .if_icmp .le 7, 3, [11], []),
  (14, .iload_n 0, 1, [], []),
  (15, .goto 6, 3, [14], []),
  (18, .iload_n 0, 1, [], []),
  (19, .iload_n 1, 1, [], []),
  (20, .iadd, 1, [], []),
  (21, .ireturn, 1, [0], [])]
def mX12_moved : pv_M := (⟨"CliffGardenModel", "moved", "(II)I"⟩, prog_14_method_83_code, 2, some .int, rX12_moved)
def rX12_flies : List pv_R := [
  (0, .iconst 0, 1, [], []),
  (1, .istore_n 1, 1, [], []),
  (2, .iload_n 1, 1, [], []),
  (3, .bipush 8, 2, [], []),
  (5, .if_icmp .ge 23, 3, [17], []),
  (8, .aload_n 0, 1, [], []),
  (9, .getfield 178, 3, [12, 70], [118]),
  (12, .iload_n 1, 1, [], []),
  (13, .lconst 0, 1, [], []),
  (14, .lastore, 1, [], []),
  (15, .aload_n 0, 1, [], []),
  (16, .getfield 181, 3, [12, 71], [119]),
  (19, .iload_n 1, 1, [], []),
  (20, .lconst 0, 1, [], []),
  (21, .lastore, 1, [], []),
  (22, .iinc 1 1, 3, [], []),
  (25, .goto (-23), 3, [2], []),
  (28, .iconst 0, 1, [], []),
  (29, .istore_n 1, 1, [], []),
  (30, .iload_n 1, 1, [], []),
  (31, .bipush 8, 2, [], []),
  (33, .if_icmp .ge 66, 3, [61], []),
  (36, .iconst (-1), 1, [], []),
  (37, .istore_n 2, 1, [], []),
  (38, .iload_n 2, 1, [], []),
  (39, .iconst 2, 1, [], []),
  (40, .if_icmp .ge 53, 3, [59], []),
  (43, .iload_n 1, 1, [], []),
  (44, .iload_n 2, 1, [], []),
  (45, .invokestatic 446, 3, [226, 2], [562]),
  (48, .istore_n 3, 1, [], []),
  (49, .aload_n 0, 1, [], []),
  (50, .getfield 178, 3, [12, 70], [118]),
  (53, .iload_n 3, 1, [], []),
  (54, .aload_n 0, 1, [], []),
  (55, .getfield 178, 3, [12, 70], [118]),
  (58, .iload_n 3, 1, [], []),
  (59, .laload, 1, [], []),
  (60, .aload_n 0, 1, [], []),
  (61, .getfield 171, 3, [12, 68], [87]),
  (64, .iload_n 1, 1, [], []),
  (65, .laload, 1, [], []),
  (66, .ladd, 1, [], []),
  (67, .lastore, 1, [], []),
  (68, .aload_n 0, 1, [], []),
  (69, .getfield 181, 3, [12, 71], [119]),
  (72, .iload_n 3, 1, [], []),
  (73, .aload_n 0, 1, [], []),
  (74, .getfield 181, 3, [12, 71], [119]),
  (77, .iload_n 3, 1, [], []),
  (78, .laload, 1, [], []),
  (79, .aload_n 0, 1, [], []),
  (80, .getfield 175, 3, [12, 69], [55]),
  (83, .iload_n 1, 1, [], []),
  (84, .laload, 1, [], []),
  (85, .ladd, 1, [], []),
  (86, .lastore, 1, [], []),
  (87, .iinc 2 1, 3, [], []),
  (90, .goto (-52), 3, [24], []),
  (93, .iinc 1 1, 3, [], []),
  (96, .goto (-66), 3, [19], []),
  (99, .iconst 0, 1, [], []),
  (100, .istore_n 1, 1, [], []),
  (101, .iload_n 1, 1, [], []),
  (102, .bipush 8, 2, [], []),
  (104, .if_icmp .ge 33, 3, [84], []),
  (107, .aload_n 0, 1, [], []),
  (108, .getfield 171, 3, [12, 68], [87]),
  (111, .iload_n 1, 1, [], []),
  (112, .aload_n 0, 1, [], []),
  (113, .getfield 178, 3, [12, 70], [118]),
  (116, .iload_n 1, 1, [], []),
  (117, .laload, 1, [], []),
  (118, .lastore, 1, [], []),
  (119, .aload_n 0, 1, [], []),
  (120, .getfield 175, 3, [12, 69], [55]),
  (123, .iload_n 1, 1, [], []),
  (124, .aload_n 0, 1, [], []),
  (125, .getfield 181, 3, [12, 71], [119]),
  (128, .iload_n 1, 1, [], []),
  (129, .laload, 1, [], []),
  (130, .lastore, 1, [], []),
  (131, .iinc 1 1, 3, [], []),
  (134, .goto (-33), 3, [63], []),
  (137, .return_, 1, [], [])]
def mX12_flies : pv_M := (⟨"CliffGardenModel", "flies", "()V"⟩, prog_14_method_84_code, 4, none, rX12_flies)
def rX12_gcd : List pv_R := [
  (0, .lload_n 0, 1, [], []),
  (1, .lstore 4, 2, [], []),
  (3, .lload_n 2, 1, [], []),
  (4, .lstore 6, 2, [], []),
  (6, .lload 6, 2, [], []),
  (8, .lconst 0, 1, [], []),
  (9, .lcmp, 1, [], []),
  (10, .ifCond .eq 21, 3, [17], []),
  (13, .lload 4, 2, [], []),
  (15, .lload 6, 2, [], []),
  (17, .lrem, 1, [], []),
  (18, .lstore 8, 2, [], []),
  (20, .lload 6, 2, [], []),
  (22, .lstore 4, 2, [], []),
  (24, .lload 8, 2, [], []),
  (26, .lstore 6, 2, [], []),
  (28, .goto (-22), 3, [4], []),
  (31, .lload 4, 2, [], []),
  (33, .lreturn, 1, [], [])]
def mX12_gcd : pv_M := (⟨"CliffGardenModel", "gcd", "(JJ)J"⟩, prog_14_method_85_code, 10, some .long, rX12_gcd)
def rX12_pollen : List pv_R := [
  (0, .iload_n 1, 1, [], []),
  (1, .iconst 0, 1, [], []),
  (2, .bipush 7, 2, [], []),
  (4, .invokestatic 206, 3, [145, 3], [1]),
  (7, .ifCond .eq 43, 3, [25], []),
  (10, .iload_n 2, 1, [], []),
  (11, .iconst 0, 1, [], []),
  (12, .bipush 7, 2, [], []),
  (14, .invokestatic 206, 3, [145, 3], [1]),
  (17, .ifCond .eq 33, 3, [25], []),
  (20, .iload_n 3, 1, [], []),
  (21, .iconst 0, 1, [], []),
  (22, .iconst 5, 1, [], []),
  (23, .invokestatic 206, 3, [145, 3], [1]),
  (26, .ifCond .eq 24, 3, [25], []),
  (29, .iload 4, 2, [], []),
  (31, .iconst 1, 1, [], []),
  (32, .bipush 12, 2, [], []),
  (34, .invokestatic 206, 3, [145, 3], [1]),
  (37, .ifCond .eq 13, 3, [25], []),
  (40, .iload 5, 2, [], []),
  (42, .iconst 0, 1, [], []),
  (43, .iconst 1, 1, [], []),
  (44, .invokestatic 206, 3, [145, 3], [1]),
  (47, .ifCond .ne 7, 3, [27], []),
  (50, .ldc2_w 406, 3, [18446744073709551615], [244]),
  (53, .lreturn, 1, [], []),
  (54, .iconst 0, 1, [], []),
  (55, .istore 6, 2, [], []),
  (57, .iload 6, 2, [], []),
  (59, .bipush 8, 2, [], []),
  (61, .if_icmp .ge 35, 3, [49], []),
  (64, .aload_n 0, 1, [], []),
  (65, .getfield 171, 3, [12, 68], [87]),
  (68, .iload 6, 2, [], []),
  (70, .iload 6, 2, [], []),
  (72, .iload_n 1, 1, [], []),
  (73, .if_icmp .ne 7, 3, [40], []),
  (76, .lconst 1, 1, [], []),
  (77, .goto 4, 3, [41], []),
  (80, .lconst 0, 1, [], []),
  (81, .lastore, 1, [], []),
  (82, .aload_n 0, 1, [], []),
  (83, .getfield 175, 3, [12, 69], [55]),
  (86, .iload 6, 2, [], []),
  (88, .lconst 0, 1, [], []),
  (89, .lastore, 1, [], []),
  (90, .iinc 6 1, 3, [], []),
  (93, .goto (-36), 3, [29], []),
  (96, .aload_n 0, 1, [], []),
  (97, .iload_n 2, 1, [], []),
  (98, .iload_n 3, 1, [], []),
  (99, .invokevirtual 449, 3, [225, 2, 12], [301]),
  (102, .lstore 6, 2, [], []),
  (104, .lconst 1, 1, [], []),
  (105, .lstore 8, 2, [], []),
  (107, .iconst 0, 1, [], []),
  (108, .istore 10, 2, [], []),
  (110, .iload 10, 2, [], []),
  (112, .iload 4, 2, [], []),
  (114, .if_icmp .ge 36, 3, [78], []),
  (117, .aload_n 0, 1, [], []),
  (118, .invokevirtual 453, 3, [227, 0, 12], [634]),
  (121, .ldc2_w 456, 3, [3], [245]),
  (124, .lload 8, 2, [], []),
  (126, .lmul, 1, [], []),
  (127, .lstore 8, 2, [], []),
  (129, .ldc2_w 456, 3, [3], [245]),
  (132, .lload 6, 2, [], []),
  (134, .lmul, 1, [], []),
  (135, .aload_n 0, 1, [], []),
  (136, .iload_n 2, 1, [], []),
  (137, .iload_n 3, 1, [], []),
  (138, .invokevirtual 449, 3, [225, 2, 12], [301]),
  (141, .ladd, 1, [], []),
  (142, .lstore 6, 2, [], []),
  (144, .iinc 10 1, 3, [], []),
  (147, .goto (-37), 3, [58], []),
  (150, .lload 6, 2, [], []),
  (152, .lload 8, 2, [], []),
  (154, .invokestatic 458, 3, [228, 2], [563]),
  (157, .lstore 10, 2, [], []),
  (159, .iload 5, 2, [], []),
  (161, .ifCond .ne 11, 3, [88], []),
  (164, .lload 6, 2, [], []),
  (166, .lload 10, 2, [], []),
  (168, .ldiv, 1, [], []),
  (169, .goto 8, 3, [91], []),
  (172, .lload 8, 2, [], []),
  (174, .lload 10, 2, [], []),
  (176, .ldiv, 1, [], []),
  (177, .lreturn, 1, [], [])]
def mX12_pollen : pv_M := (⟨"CliffGardenModel", "pollen", "(IIIII)J"⟩, prog_14_method_86_code, 12, some .long, rX12_pollen)
def rX12_pollinate : List pv_R := [
  (0, .iload_n 1, 1, [], []),
  (1, .iconst 0, 1, [], []),
  (2, .bipush 7, 2, [], []),
  (4, .invokestatic 206, 3, [145, 3], [1]),
  (7, .ifCond .eq 12, 3, [10], []),
  (10, .iload_n 2, 1, [], []),
  (11, .iconst 0, 1, [], []),
  (12, .iconst 5, 1, [], []),
  (13, .invokestatic 206, 3, [145, 3], [1]),
  (16, .ifCond .ne 5, 3, [12], []),
  (19, .iconst (-1), 1, [], []),
  (20, .ireturn, 1, [0], []),
  (21, .iconst 0, 1, [], []),
  (22, .istore_n 3, 1, [], []),
  (23, .bipush 6, 2, [], []),
  (25, .iload_n 1, 1, [], []),
  (26, .imul, 1, [], []),
  (27, .istore 4, 2, [], []),
  (29, .iload 4, 2, [], []),
  (31, .bipush 6, 2, [], []),
  (33, .iload_n 1, 1, [], []),
  (34, .iconst 1, 1, [], []),
  (35, .iadd, 1, [], []),
  (36, .imul, 1, [], []),
  (37, .if_icmp .ge 55, 3, [53], []),
  (40, .aload_n 0, 1, [], []),
  (41, .getfield 7, 3, [12, 4], [3]),
  (44, .iload 4, 2, [], []),
  (46, .baload, 1, [1], []),
  (47, .ifCond .eq 39, 3, [51], []),
  (50, .aload_n 0, 1, [], []),
  (51, .getfield 29, 3, [12, 10], [4]),
  (54, .iload 4, 2, [], []),
  (56, .iaload, 1, [], []),
  (57, .iload_n 2, 1, [], []),
  (58, .if_icmp .ne 28, 3, [51], []),
  (61, .aload_n 0, 1, [], []),
  (62, .getfield 13, 3, [12, 5], [52]),
  (65, .iload 4, 2, [], []),
  (67, .baload, 1, [1], []),
  (68, .ifCond .eq 6, 3, [42], []),
  (71, .goto 15, 3, [51], []),
  (74, .aload_n 0, 1, [], []),
  (75, .getfield 13, 3, [12, 5], [52]),
  (78, .iload 4, 2, [], []),
  (80, .iconst 1, 1, [], []),
  (81, .bastore, 1, [1], []),
  (82, .iload_n 3, 1, [], []),
  (83, .iconst 1, 1, [], []),
  (84, .iadd, 1, [], []),
  (85, .istore_n 3, 1, [], []),
  (86, .iinc 4 1, 3, [], []),
  (89, .goto (-60), 3, [18], []),
  (92, .iload_n 3, 1, [], []),
  (93, .ireturn, 1, [0], [])]
def mX12_pollinate : pv_M := (⟨"CliffGardenModel", "pollinate", "(II)I"⟩, prog_14_method_87_code, 5, some .int, rX12_pollinate)
def rX12_bearsAll : List pv_R := [
  (0, .iconst 0, 1, [], []),
  (1, .istore_n 1, 1, [], []),
  (2, .iload_n 1, 1, [], []),
  (3, .bipush 48, 2, [], []),
  (5, .if_icmp .ge 86, 3, [55], []),
  (8, .aload_n 0, 1, [], []),
  (9, .getfield 184, 3, [12, 72], [120]),
  (12, .iload_n 1, 1, [], []),
  (13, .aload_n 0, 1, [], []),
  (14, .getfield 7, 3, [12, 4], [3]),
  (17, .iload_n 1, 1, [], []),
  (18, .baload, 1, [1], []),
  (19, .ifCond .eq 64, 3, [51], []),
  (22, .bipush 10, 2, [], []),
  (24, .aload_n 0, 1, [], []),
  (25, .getfield 20, 3, [12, 7], [84]),
  (28, .iload_n 1, 1, [], []),
  (29, .iaload, 1, [], []),
  (30, .imul, 1, [], []),
  (31, .aload_n 0, 1, [], []),
  (32, .getfield 35, 3, [12, 12], [66]),
  (35, .iload_n 1, 1, [], []),
  (36, .iaload, 1, [], []),
  (37, .iadd, 1, [], []),
  (38, .aload_n 0, 1, [], []),
  (39, .getfield 38, 3, [12, 13], [38]),
  (42, .iload_n 1, 1, [], []),
  (43, .iaload, 1, [], []),
  (44, .iadd, 1, [], []),
  (45, .aload_n 0, 1, [], []),
  (46, .getfield 29, 3, [12, 10], [4]),
  (49, .iload_n 1, 1, [], []),
  (50, .iaload, 1, [], []),
  (51, .iconst (-1), 1, [], []),
  (52, .if_icmp .ne 7, 3, [37], []),
  (55, .iconst 0, 1, [], []),
  (56, .goto 23, 3, [49], []),
  (59, .aload_n 0, 1, [], []),
  (60, .getfield 32, 3, [12, 11], [19]),
  (63, .iload_n 1, 1, [], []),
  (64, .iaload, 1, [], []),
  (65, .aload_n 0, 1, [], []),
  (66, .getfield 44, 3, [12, 15], [45]),
  (69, .aload_n 0, 1, [], []),
  (70, .getfield 29, 3, [12, 10], [4]),
  (73, .iload_n 1, 1, [], []),
  (74, .iaload, 1, [], []),
  (75, .iaload, 1, [], []),
  (76, .invokestatic 394, 3, [147, 2], [172]),
  (79, .iadd, 1, [], []),
  (80, .goto 4, 3, [52], []),
  (83, .iconst 0, 1, [], []),
  (84, .iastore, 1, [], []),
  (85, .iinc 1 1, 3, [], []),
  (88, .goto (-86), 3, [2], []),
  (91, .iconst 0, 1, [], []),
  (92, .istore_n 1, 1, [], []),
  (93, .iload_n 1, 1, [], []),
  (94, .aload_n 0, 1, [], []),
  (95, .getfield 423, 3, [12, 63], [8]),
  (98, .if_icmp .ge 57, 3, [93], []),
  (101, .aload_n 0, 1, [], []),
  (102, .getfield 184, 3, [12, 72], [120]),
  (105, .aload_n 0, 1, [], []),
  (106, .getfield 159, 3, [12, 64], [13]),
  (109, .iload_n 1, 1, [], []),
  (110, .iaload, 1, [], []),
  (111, .aload_n 0, 1, [], []),
  (112, .getfield 184, 3, [12, 72], [120]),
  (115, .aload_n 0, 1, [], []),
  (116, .getfield 159, 3, [12, 64], [13]),
  (119, .iload_n 1, 1, [], []),
  (120, .iaload, 1, [], []),
  (121, .iaload, 1, [], []),
  (122, .aload_n 0, 1, [], []),
  (123, .getfield 162, 3, [12, 65], [40]),
  (126, .iload_n 1, 1, [], []),
  (127, .iaload, 1, [], []),
  (128, .iconst (-1), 1, [], []),
  (129, .if_icmp .ne 7, 3, [82], []),
  (132, .iconst 0, 1, [], []),
  (133, .goto 14, 3, [89], []),
  (136, .aload_n 0, 1, [], []),
  (137, .getfield 44, 3, [12, 15], [45]),
  (140, .aload_n 0, 1, [], []),
  (141, .getfield 162, 3, [12, 65], [40]),
  (144, .iload_n 1, 1, [], []),
  (145, .iaload, 1, [], []),
  (146, .iaload, 1, [], []),
  (147, .iadd, 1, [], []),
  (148, .iastore, 1, [], []),
  (149, .iinc 1 1, 3, [], []),
  (152, .goto (-59), 3, [57], []),
  (155, .iconst 0, 1, [], []),
  (156, .istore_n 1, 1, [], []),
  (157, .iload_n 1, 1, [], []),
  (158, .bipush 8, 2, [], []),
  (160, .if_icmp .ge 64, 3, [137], []),
  (163, .iconst 0, 1, [], []),
  (164, .istore_n 2, 1, [], []),
  (165, .bipush 6, 2, [], []),
  (167, .iload_n 1, 1, [], []),
  (168, .iconst 1, 1, [], []),
  (169, .iadd, 1, [], []),
  (170, .imul, 1, [], []),
  (171, .iconst 1, 1, [], []),
  (172, .isub, 1, [], []),
  (173, .istore_n 3, 1, [], []),
  (174, .iload_n 3, 1, [], []),
  (175, .bipush 6, 2, [], []),
  (177, .iload_n 1, 1, [], []),
  (178, .imul, 1, [], []),
  (179, .if_icmp .lt 39, 3, [135], []),
  (182, .iload_n 2, 1, [], []),
  (183, .aload_n 0, 1, [], []),
  (184, .getfield 184, 3, [12, 72], [120]),
  (187, .iload_n 3, 1, [], []),
  (188, .iaload, 1, [], []),
  (189, .iadd, 1, [], []),
  (190, .istore_n 2, 1, [], []),
  (191, .aload_n 0, 1, [], []),
  (192, .getfield 7, 3, [12, 4], [3]),
  (195, .iload_n 3, 1, [], []),
  (196, .baload, 1, [1], []),
  (197, .ifCond .eq 15, 3, [133], []),
  (200, .iload_n 2, 1, [], []),
  (201, .aload_n 0, 1, [], []),
  (202, .getfield 16, 3, [12, 6], [24]),
  (205, .iload_n 3, 1, [], []),
  (206, .iaload, 1, [], []),
  (207, .if_icmp .le 5, 3, [133], []),
  (210, .iconst 0, 1, [], []),
  (211, .ireturn, 1, [1], []),
  (212, .iinc 3 (-1), 3, [], []),
  (215, .goto (-41), 3, [108], []),
  (218, .iinc 1 1, 3, [], []),
  (221, .goto (-64), 3, [95], []),
  (224, .iconst 1, 1, [], []),
  (225, .ireturn, 1, [1], [])]
def mX12_bearsAll : pv_M := (⟨"CliffGardenModel", "bearsAll", "()Z"⟩, prog_14_method_88_code, 4, some .boolean, rX12_bearsAll)
def rX12_areWhole : List pv_R := [
  (0, .iconst 0, 1, [], []),
  (1, .istore_n 1, 1, [], []),
  (2, .iload_n 1, 1, [], []),
  (3, .aload_n 0, 1, [], []),
  (4, .getfield 423, 3, [12, 63], [8]),
  (7, .if_icmp .ge 62, 3, [42], []),
  (10, .aload_n 0, 1, [], []),
  (11, .getfield 162, 3, [12, 65], [40]),
  (14, .iload_n 1, 1, [], []),
  (15, .iaload, 1, [], []),
  (16, .iconst (-1), 1, [], []),
  (17, .if_icmp .eq 46, 3, [40], []),
  (20, .aload_n 0, 1, [], []),
  (21, .getfield 44, 3, [12, 15], [45]),
  (24, .aload_n 0, 1, [], []),
  (25, .getfield 162, 3, [12, 65], [40]),
  (28, .iload_n 1, 1, [], []),
  (29, .iaload, 1, [], []),
  (30, .iaload, 1, [], []),
  (31, .bipush 6, 2, [], []),
  (33, .aload_n 0, 1, [], []),
  (34, .getfield 159, 3, [12, 64], [13]),
  (37, .iload_n 1, 1, [], []),
  (38, .iaload, 1, [], []),
  (39, .bipush 6, 2, [], []),
  (41, .irem, 1, [], []),
  (42, .isub, 1, [], []),
  (43, .imul, 1, [], []),
  (44, .aload_n 0, 1, [], []),
  (45, .getfield 56, 3, [12, 19], [67]),
  (48, .aload_n 0, 1, [], []),
  (49, .getfield 159, 3, [12, 64], [13]),
  (52, .iload_n 1, 1, [], []),
  (53, .iaload, 1, [], []),
  (54, .bipush 6, 2, [], []),
  (56, .idiv, 1, [], []),
  (57, .iaload, 1, [], []),
  (58, .if_icmp .le 5, 3, [40], []),
  (61, .iconst 0, 1, [], []),
  (62, .ireturn, 1, [1], []),
  (63, .iinc 1 1, 3, [], []),
  (66, .goto (-64), 3, [2], []),
  (69, .iconst 1, 1, [], []),
  (70, .ireturn, 1, [1], [])]
def mX12_areWhole : pv_M := (⟨"CliffGardenModel", "areWhole", "()Z"⟩, prog_14_method_89_code, 2, some .boolean, rX12_areWhole)
def rX12_planted : List pv_R := [
  (0, .aload_n 0, 1, [], []),
  (1, .lload_n 1, 1, [], []),
  (2, .iconst 5, 1, [], []),
  (3, .invokevirtual 436, 3, [217, 2, 12], [191]),
  (6, .ifCond .eq 23, 3, [16], []),
  (9, .iload_n 3, 1, [], []),
  (10, .bipush 10, 2, [], []),
  (12, .if_icmp .eq 20, 3, [18], []),
  (15, .iload_n 3, 1, [], []),
  (16, .iconst (-1), 1, [], []),
  (17, .aload_n 0, 1, [], []),
  (18, .getfield 423, 3, [12, 63], [8]),
  (21, .iconst 1, 1, [], []),
  (22, .isub, 1, [], []),
  (23, .invokestatic 206, 3, [145, 3], [1]),
  (26, .ifCond .ne 6, 3, [18], []),
  (29, .bipush (-3), 2, [], []),
  (31, .ireturn, 1, [0], []),
  (32, .iconst 1, 1, [], []),
  (33, .istore 4, 2, [], []),
  (35, .iconst 0, 1, [], []),
  (36, .istore 5, 2, [], []),
  (38, .iload 5, 2, [], []),
  (40, .aload_n 0, 1, [], []),
  (41, .getfield 423, 3, [12, 63], [8]),
  (44, .if_icmp .ge 50, 3, [51], []),
  (47, .aload_n 0, 1, [], []),
  (48, .getfield 7, 3, [12, 4], [3]),
  (51, .aload_n 0, 1, [], []),
  (52, .getfield 159, 3, [12, 64], [13]),
  (55, .iload 5, 2, [], []),
  (57, .iaload, 1, [], []),
  (58, .baload, 1, [1], []),
  (59, .ifCond .eq 19, 3, [43], []),
  (62, .aload_n 0, 1, [], []),
  (63, .getfield 29, 3, [12, 10], [4]),
  (66, .aload_n 0, 1, [], []),
  (67, .getfield 159, 3, [12, 64], [13]),
  (70, .iload 5, 2, [], []),
  (72, .iaload, 1, [], []),
  (73, .iaload, 1, [], []),
  (74, .iconst (-1), 1, [], []),
  (75, .if_icmp .eq 6, 3, [45], []),
  (78, .bipush (-3), 2, [], []),
  (80, .ireturn, 1, [0], []),
  (81, .bipush 7, 2, [], []),
  (83, .iload 4, 2, [], []),
  (85, .imul, 1, [], []),
  (86, .istore 4, 2, [], []),
  (88, .iinc 5 1, 3, [], []),
  (91, .goto (-53), 3, [22], []),
  (94, .iconst (-1), 1, [], []),
  (95, .istore 5, 2, [], []),
  (97, .iconst 0, 1, [], []),
  (98, .istore 6, 2, [], []),
  (100, .iload 6, 2, [], []),
  (102, .iload 4, 2, [], []),
  (104, .if_icmp .ge 167, 3, [143], []),
  (107, .iload 6, 2, [], []),
  (109, .istore 7, 2, [], []),
  (111, .iconst 0, 1, [], []),
  (112, .istore 8, 2, [], []),
  (114, .aload_n 0, 1, [], []),
  (115, .getfield 423, 3, [12, 63], [8]),
  (118, .iconst 1, 1, [], []),
  (119, .isub, 1, [], []),
  (120, .istore 9, 2, [], []),
  (122, .iload 9, 2, [], []),
  (124, .ifCond .lt 75, 3, [110], []),
  (127, .aload_n 0, 1, [], []),
  (128, .getfield 162, 3, [12, 65], [40]),
  (131, .iload 9, 2, [], []),
  (133, .iload 7, 2, [], []),
  (135, .bipush 7, 2, [], []),
  (137, .irem, 1, [], []),
  (138, .iconst 1, 1, [], []),
  (139, .isub, 1, [], []),
  (140, .iastore, 1, [], []),
  (141, .iload 7, 2, [], []),
  (143, .bipush 7, 2, [], []),
  (145, .idiv, 1, [], []),
  (146, .istore 7, 2, [], []),
  (148, .iload 8, 2, [], []),
  (150, .aload_n 0, 1, [], []),
  (151, .getfield 162, 3, [12, 65], [40]),
  (154, .iload 9, 2, [], []),
  (156, .iaload, 1, [], []),
  (157, .iconst (-1), 1, [], []),
  (158, .if_icmp .ne 7, 3, [91], []),
  (161, .iconst 0, 1, [], []),
  (162, .goto 28, 3, [106], []),
  (165, .aload_n 0, 1, [], []),
  (166, .getfield 47, 3, [12, 16], [85]),
  (169, .aload_n 0, 1, [], []),
  (170, .getfield 162, 3, [12, 65], [40]),
  (173, .iload 9, 2, [], []),
  (175, .iaload, 1, [], []),
  (176, .iaload, 1, [], []),
  (177, .aload_n 0, 1, [], []),
  (178, .getfield 44, 3, [12, 15], [45]),
  (181, .aload_n 0, 1, [], []),
  (182, .getfield 162, 3, [12, 65], [40]),
  (185, .iload 9, 2, [], []),
  (187, .iaload, 1, [], []),
  (188, .iaload, 1, [], []),
  (189, .imul, 1, [], []),
  (190, .iadd, 1, [], []),
  (191, .istore 8, 2, [], []),
  (193, .iinc 9 (-1), 3, [], []),
  (196, .goto (-74), 3, [67], []),
  (199, .iload 5, 2, [], []),
  (201, .iconst (-1), 1, [], []),
  (202, .if_icmp .eq 10, 3, [116], []),
  (205, .iload 8, 2, [], []),
  (207, .iload 5, 2, [], []),
  (209, .if_icmp .le 56, 3, [141], []),
  (212, .aload_n 0, 1, [], []),
  (213, .invokevirtual 462, 3, [232, 0, 12], [635]),
  (216, .ifCond .eq 49, 3, [141], []),
  (219, .aload_n 0, 1, [], []),
  (220, .invokevirtual 465, 3, [231, 0, 12], [636]),
  (223, .ifCond .ne 6, 3, [123], []),
  (226, .goto 39, 3, [141], []),
  (229, .iload 8, 2, [], []),
  (231, .istore 5, 2, [], []),
  (233, .iconst 0, 1, [], []),
  (234, .istore 9, 2, [], []),
  (236, .iload 9, 2, [], []),
  (238, .aload_n 0, 1, [], []),
  (239, .getfield 423, 3, [12, 63], [8]),
  (242, .if_icmp .ge 23, 3, [141], []),
  (245, .aload_n 0, 1, [], []),
  (246, .getfield 165, 3, [12, 66], [164]),
  (249, .iload 9, 2, [], []),
  (251, .aload_n 0, 1, [], []),
  (252, .getfield 162, 3, [12, 65], [40]),
  (255, .iload 9, 2, [], []),
  (257, .iaload, 1, [], []),
  (258, .iastore, 1, [], []),
  (259, .iinc 9 1, 3, [], []),
  (262, .goto (-26), 3, [127], []),
  (265, .iinc 6 1, 3, [], []),
  (268, .goto (-168), 3, [55], []),
  (271, .iload 5, 2, [], []),
  (273, .iconst (-1), 1, [], []),
  (274, .if_icmp .ne 6, 3, [148], []),
  (277, .bipush (-2), 2, [], []),
  (279, .ireturn, 1, [0], []),
  (280, .iconst 0, 1, [], []),
  (281, .istore 6, 2, [], []),
  (283, .iload 6, 2, [], []),
  (285, .aload_n 0, 1, [], []),
  (286, .getfield 423, 3, [12, 63], [8]),
  (289, .if_icmp .ge 34, 3, [170], []),
  (292, .iload_n 3, 1, [], []),
  (293, .bipush 10, 2, [], []),
  (295, .if_icmp .ne 28, 3, [170], []),
  (298, .aload_n 0, 1, [], []),
  (299, .getfield 29, 3, [12, 10], [4]),
  (302, .aload_n 0, 1, [], []),
  (303, .getfield 159, 3, [12, 64], [13]),
  (306, .iload 6, 2, [], []),
  (308, .iaload, 1, [], []),
  (309, .aload_n 0, 1, [], []),
  (310, .getfield 165, 3, [12, 66], [164]),
  (313, .iload 6, 2, [], []),
  (315, .iaload, 1, [], []),
  (316, .iastore, 1, [], []),
  (317, .iinc 6 1, 3, [], []),
  (320, .goto (-37), 3, [150], []),
  (323, .iload_n 3, 1, [], []),
  (324, .iconst (-1), 1, [], []),
  (325, .if_icmp .eq 9, 3, [176], []),
  (328, .iload_n 3, 1, [], []),
  (329, .bipush 10, 2, [], []),
  (331, .if_icmp .ne 8, 3, [178], []),
  (334, .iload 5, 2, [], []),
  (336, .goto 9, 3, [182], []),
  (339, .aload_n 0, 1, [], []),
  (340, .getfield 165, 3, [12, 66], [164]),
  (343, .iload_n 3, 1, [], []),
  (344, .iaload, 1, [], []),
  (345, .ireturn, 1, [0], [])]
def mX12_planted : pv_M := (⟨"CliffGardenModel", "planted", "(JI)I"⟩, prog_14_method_90_code, 10, some .int, rX12_planted)
def rX12_growth : List pv_R := [
  (0, .iconst 0, 1, [], []),
  (1, .istore_n 1, 1, [], []),
  (2, .iconst 0, 1, [], []),
  (3, .istore_n 2, 1, [], []),
  (4, .iload_n 2, 1, [], []),
  (5, .bipush 48, 2, [], []),
  (7, .if_icmp .ge 40, 3, [28], []),
  (10, .aload_n 0, 1, [], []),
  (11, .getfield 7, 3, [12, 4], [3]),
  (14, .iload_n 2, 1, [], []),
  (15, .baload, 1, [1], []),
  (16, .ifCond .eq 25, 3, [26], []),
  (19, .aload_n 0, 1, [], []),
  (20, .getfield 29, 3, [12, 10], [4]),
  (23, .iload_n 2, 1, [], []),
  (24, .iaload, 1, [], []),
  (25, .iconst (-1), 1, [], []),
  (26, .if_icmp .eq 15, 3, [26], []),
  (29, .iload_n 1, 1, [], []),
  (30, .aload_n 0, 1, [], []),
  (31, .iload_n 2, 1, [], []),
  (32, .bipush 103, 2, [], []),
  (34, .bipush 50, 2, [], []),
  (36, .invokevirtual 356, 3, [191, 3, 12], [58]),
  (39, .iadd, 1, [], []),
  (40, .istore_n 1, 1, [], []),
  (41, .iinc 2 1, 3, [], []),
  (44, .goto (-40), 3, [4], []),
  (47, .iload_n 1, 1, [], []),
  (48, .ireturn, 1, [0], [])]
def mX12_growth : pv_M := (⟨"CliffGardenModel", "growth", "()I"⟩, prog_14_method_91_code, 3, some .int, rX12_growth)
def rX12_drought : List pv_R := [
  (0, .iload_n 1, 1, [], []),
  (1, .iconst 0, 1, [], []),
  (2, .bipush 36, 2, [], []),
  (4, .invokestatic 206, 3, [145, 3], [1]),
  (7, .ifCond .eq 22, 3, [14], []),
  (10, .iload_n 2, 1, [], []),
  (11, .iconst 1, 1, [], []),
  (12, .sipush 255, 3, [], []),
  (15, .invokestatic 206, 3, [145, 3], [1]),
  (18, .ifCond .eq 11, 3, [14], []),
  (21, .iload_n 2, 1, [], []),
  (22, .invokestatic 468, 3, [236, 1], [564]),
  (25, .iconst 4, 1, [], []),
  (26, .if_icmp .le 6, 3, [16], []),
  (29, .bipush (-2), 2, [], []),
  (31, .ireturn, 1, [0], []),
  (32, .iconst 0, 1, [], []),
  (33, .istore 4, 2, [], []),
  (35, .iconst 0, 1, [], []),
  (36, .istore 5, 2, [], []),
  (38, .iload 5, 2, [], []),
  (40, .bipush 8, 2, [], []),
  (42, .if_icmp .ge 36, 3, [41], []),
  (45, .iload_n 2, 1, [], []),
  (46, .iload 5, 2, [], []),
  (48, .ishr, 1, [], []),
  (49, .iconst 1, 1, [], []),
  (50, .iand, 1, [], []),
  (51, .ifCond .ne 6, 3, [30], []),
  (54, .goto 18, 3, [39], []),
  (57, .aload_n 0, 1, [], []),
  (58, .getfield 190, 3, [12, 74], [236]),
  (61, .iload 4, 2, [], []),
  (63, .iload 5, 2, [], []),
  (65, .iastore, 1, [], []),
  (66, .iload 4, 2, [], []),
  (68, .iconst 1, 1, [], []),
  (69, .iadd, 1, [], []),
  (70, .istore 4, 2, [], []),
  (72, .iinc 5 1, 3, [], []),
  (75, .goto (-37), 3, [20], []),
  (78, .iload_n 3, 1, [], []),
  (79, .iconst (-1), 1, [], []),
  (80, .iload 4, 2, [], []),
  (82, .iconst 1, 1, [], []),
  (83, .isub, 1, [], []),
  (84, .invokestatic 206, 3, [145, 3], [1]),
  (87, .ifCond .ne 6, 3, [50], []),
  (90, .bipush (-2), 2, [], []),
  (92, .ireturn, 1, [0], []),
  (93, .iconst 0, 1, [], []),
  (94, .istore 5, 2, [], []),
  (96, .iload 5, 2, [], []),
  (98, .bipush 48, 2, [], []),
  (100, .if_icmp .ge 23, 3, [65], []),
  (103, .aload_n 0, 1, [], []),
  (104, .getfield 187, 3, [12, 73], [235]),
  (107, .iload 5, 2, [], []),
  (109, .aload_n 0, 1, [], []),
  (110, .getfield 38, 3, [12, 13], [38]),
  (113, .iload 5, 2, [], []),
  (115, .iaload, 1, [], []),
  (116, .iastore, 1, [], []),
  (117, .iinc 5 1, 3, [], []),
  (120, .goto (-24), 3, [52], []),
  (123, .iconst 1, 1, [], []),
  (124, .istore 5, 2, [], []),
  (126, .iconst 0, 1, [], []),
  (127, .istore 6, 2, [], []),
  (129, .iload 6, 2, [], []),
  (131, .iload 4, 2, [], []),
  (133, .if_icmp .ge 16, 3, [78], []),
  (136, .bipush 10, 2, [], []),
  (138, .iload 5, 2, [], []),
  (140, .imul, 1, [], []),
  (141, .istore 5, 2, [], []),
  (143, .iinc 6 1, 3, [], []),
  (146, .goto (-17), 3, [69], []),
  (149, .iconst (-1), 1, [], []),
  (150, .istore 6, 2, [], []),
  (152, .iconst 0, 1, [], []),
  (153, .istore 7, 2, [], []),
  (155, .iload 7, 2, [], []),
  (157, .iload 5, 2, [], []),
  (159, .if_icmp .ge 170, 3, [170], []),
  (162, .iload 7, 2, [], []),
  (164, .istore 8, 2, [], []),
  (166, .iconst 0, 1, [], []),
  (167, .istore 9, 2, [], []),
  (169, .iconst 0, 1, [], []),
  (170, .istore 10, 2, [], []),
  (172, .iload 10, 2, [], []),
  (174, .bipush 8, 2, [], []),
  (176, .if_icmp .ge 17, 3, [101], []),
  (179, .aload_n 0, 1, [], []),
  (180, .getfield 117, 3, [12, 49], [54]),
  (183, .iload 10, 2, [], []),
  (185, .iconst 0, 1, [], []),
  (186, .iastore, 1, [], []),
  (187, .iinc 10 1, 3, [], []),
  (190, .goto (-18), 3, [91], []),
  (193, .iload 4, 2, [], []),
  (195, .iconst 1, 1, [], []),
  (196, .isub, 1, [], []),
  (197, .istore 10, 2, [], []),
  (199, .iload 10, 2, [], []),
  (201, .ifCond .lt 59, 3, [138], []),
  (204, .aload_n 0, 1, [], []),
  (205, .getfield 196, 3, [12, 76], [121]),
  (208, .iload 10, 2, [], []),
  (210, .iload 8, 2, [], []),
  (212, .bipush 10, 2, [], []),
  (214, .irem, 1, [], []),
  (215, .iastore, 1, [], []),
  (216, .iload 8, 2, [], []),
  (218, .bipush 10, 2, [], []),
  (220, .idiv, 1, [], []),
  (221, .istore 8, 2, [], []),
  (223, .iload 9, 2, [], []),
  (225, .aload_n 0, 1, [], []),
  (226, .getfield 196, 3, [12, 76], [121]),
  (229, .iload 10, 2, [], []),
  (231, .iaload, 1, [], []),
  (232, .iadd, 1, [], []),
  (233, .istore 9, 2, [], []),
  (235, .aload_n 0, 1, [], []),
  (236, .getfield 117, 3, [12, 49], [54]),
  (239, .aload_n 0, 1, [], []),
  (240, .getfield 190, 3, [12, 74], [236]),
  (243, .iload 10, 2, [], []),
  (245, .iaload, 1, [], []),
  (246, .aload_n 0, 1, [], []),
  (247, .getfield 196, 3, [12, 76], [121]),
  (250, .iload 10, 2, [], []),
  (252, .iaload, 1, [], []),
  (253, .iastore, 1, [], []),
  (254, .iinc 10 (-1), 3, [], []),
  (257, .goto (-58), 3, [105], []),
  (260, .iload 9, 2, [], []),
  (262, .iload_n 1, 1, [], []),
  (263, .if_icmp .le 6, 3, [142], []),
  (266, .goto 57, 3, [168], []),
  (269, .aload_n 0, 1, [], []),
  (270, .invokevirtual 368, 3, [195, 0, 12], [296]),
  (273, .aload_n 0, 1, [], []),
  (274, .invokevirtual 471, 3, [234, 0, 12], [637]),
  (277, .istore 10, 2, [], []),
  (279, .iload 10, 2, [], []),
  (281, .iload 6, 2, [], []),
  (283, .if_icmp .gt 6, 3, [151], []),
  (286, .goto 37, 3, [168], []),
  (289, .iload 10, 2, [], []),
  (291, .istore 6, 2, [], []),
  (293, .iconst 0, 1, [], []),
  (294, .istore 11, 2, [], []),
  (296, .iload 11, 2, [], []),
  (298, .iload 4, 2, [], []),
  (300, .if_icmp .ge 23, 3, [168], []),
  (303, .aload_n 0, 1, [], []),
  (304, .getfield 193, 3, [12, 75], [237]),
  (307, .iload 11, 2, [], []),
  (309, .aload_n 0, 1, [], []),
  (310, .getfield 196, 3, [12, 76], [121]),
  (313, .iload 11, 2, [], []),
  (315, .iaload, 1, [], []),
  (316, .iastore, 1, [], []),
  (317, .iinc 11 1, 3, [], []),
  (320, .goto (-24), 3, [155], []),
  (323, .iinc 7 1, 3, [], []),
  (326, .goto (-171), 3, [82], []),
  (329, .iconst 0, 1, [], []),
  (330, .istore 7, 2, [], []),
  (332, .iload 7, 2, [], []),
  (334, .bipush 48, 2, [], []),
  (336, .if_icmp .ge 23, 3, [185], []),
  (339, .aload_n 0, 1, [], []),
  (340, .getfield 38, 3, [12, 13], [38]),
  (343, .iload 7, 2, [], []),
  (345, .aload_n 0, 1, [], []),
  (346, .getfield 187, 3, [12, 73], [235]),
  (349, .iload 7, 2, [], []),
  (351, .iaload, 1, [], []),
  (352, .iastore, 1, [], []),
  (353, .iinc 7 1, 3, [], []),
  (356, .goto (-24), 3, [172], []),
  (359, .iload_n 3, 1, [], []),
  (360, .iconst (-1), 1, [], []),
  (361, .if_icmp .ne 8, 3, [190], []),
  (364, .iload 6, 2, [], []),
  (366, .goto 9, 3, [194], []),
  (369, .aload_n 0, 1, [], []),
  (370, .getfield 193, 3, [12, 75], [237]),
  (373, .iload_n 3, 1, [], []),
  (374, .iaload, 1, [], []),
  (375, .ireturn, 1, [0], [])]
def mX12_drought : pv_M := (⟨"CliffGardenModel", "drought", "(III)I"⟩, prog_14_method_92_code, 12, some .int, rX12_drought)
def rX12_bits : List pv_R := [
  (0, .iconst 0, 1, [], []),
  (1, .istore_n 1, 1, [], []),
  (2, .iconst 0, 1, [], []),
  (3, .istore_n 2, 1, [], []),
  (4, .iload_n 2, 1, [], []),
  (5, .bipush 8, 2, [], []),
  (7, .if_icmp .ge 17, 3, [17], []),
  (10, .iload_n 1, 1, [], []),
  (11, .iload_n 0, 1, [], []),
  (12, .iload_n 2, 1, [], []),
  (13, .ishr, 1, [], []),
  (14, .iconst 1, 1, [], []),
  (15, .iand, 1, [], []),
  (16, .iadd, 1, [], []),
  (17, .istore_n 1, 1, [], []),
  (18, .iinc 2 1, 3, [], []),
  (21, .goto (-17), 3, [4], []),
  (24, .iload_n 1, 1, [], []),
  (25, .ireturn, 1, [0], [])]
def mX12_bits : pv_M := (⟨"CliffGardenModel", "bits", "(I)I"⟩, prog_14_method_93_code, 3, some .int, rX12_bits)
def rX12_takesOf : List pv_R := [
  (0, .iconst 1, 1, [], []),
  (1, .iload_n 0, 1, [], []),
  (2, .bipush 6, 2, [], []),
  (4, .irem, 1, [], []),
  (5, .iadd, 1, [], []),
  (6, .ireturn, 1, [0], [])]
def mX12_takesOf : pv_M := (⟨"CliffGardenModel", "takesOf", "(I)I"⟩, prog_14_method_94_code, 1, some .int, rX12_takesOf)
def rX12_hoursOf : List pv_R := [
  (0, .iconst 0, 1, [], []),
  (1, .istore_n 2, 1, [], []),
  (2, .iconst 0, 1, [], []),
  (3, .istore_n 3, 1, [], []),
  (4, .iload_n 3, 1, [], []),
  (5, .aload_n 0, 1, [], []),
  (6, .getfield 423, 3, [12, 63], [8]),
  (9, .if_icmp .ge 34, 3, [27], []),
  (12, .iload_n 2, 1, [], []),
  (13, .iload_n 1, 1, [], []),
  (14, .iload_n 3, 1, [], []),
  (15, .ishr, 1, [], []),
  (16, .iconst 1, 1, [], []),
  (17, .iand, 1, [], []),
  (18, .iconst 1, 1, [], []),
  (19, .if_icmp .ne 15, 3, [22], []),
  (22, .aload_n 0, 1, [], []),
  (23, .getfield 159, 3, [12, 64], [13]),
  (26, .iload_n 3, 1, [], []),
  (27, .iaload, 1, [], []),
  (28, .invokestatic 474, 3, [237, 1], [261]),
  (31, .goto 4, 3, [23], []),
  (34, .iconst 0, 1, [], []),
  (35, .iadd, 1, [], []),
  (36, .istore_n 2, 1, [], []),
  (37, .iinc 3 1, 3, [], []),
  (40, .goto (-36), 3, [4], []),
  (43, .iload_n 2, 1, [], []),
  (44, .ireturn, 1, [0], [])]
def mX12_hoursOf : pv_M := (⟨"CliffGardenModel", "hoursOf", "(I)I"⟩, prog_14_method_95_code, 4, some .int, rX12_hoursOf)
def rX12_canBeNext : List pv_R := [
  (0, .iload_n 1, 1, [], []),
  (1, .iload_n 2, 1, [], []),
  (2, .ishr, 1, [], []),
  (3, .iconst 1, 1, [], []),
  (4, .iand, 1, [], []),
  (5, .iconst 1, 1, [], []),
  (6, .if_icmp .ne 5, 3, [9], []),
  (9, .iconst 0, 1, [], []),
  (10, .ireturn, 1, [1], []),
  (11, .iconst 0, 1, [], []),
  (12, .istore_n 3, 1, [], []),
  (13, .iload_n 3, 1, [], []),
  (14, .aload_n 0, 1, [], []),
  (15, .getfield 423, 3, [12, 63], [8]),
  (18, .if_icmp .ge 49, 3, [44], []),
  (21, .aload_n 0, 1, [], []),
  (22, .getfield 159, 3, [12, 64], [13]),
  (25, .iload_n 3, 1, [], []),
  (26, .iaload, 1, [], []),
  (27, .aload_n 0, 1, [], []),
  (28, .getfield 159, 3, [12, 64], [13]),
  (31, .iload_n 2, 1, [], []),
  (32, .iaload, 1, [], []),
  (33, .iconst 1, 1, [], []),
  (34, .isub, 1, [], []),
  (35, .if_icmp .ne 26, 3, [42], []),
  (38, .aload_n 0, 1, [], []),
  (39, .getfield 159, 3, [12, 64], [13]),
  (42, .iload_n 3, 1, [], []),
  (43, .iaload, 1, [], []),
  (44, .bipush 6, 2, [], []),
  (46, .irem, 1, [], []),
  (47, .iconst 5, 1, [], []),
  (48, .if_icmp .eq 13, 3, [42], []),
  (51, .iload_n 1, 1, [], []),
  (52, .iload_n 3, 1, [], []),
  (53, .ishr, 1, [], []),
  (54, .iconst 1, 1, [], []),
  (55, .iand, 1, [], []),
  (56, .ifCond .ne 5, 3, [42], []),
  (59, .iconst 0, 1, [], []),
  (60, .ireturn, 1, [1], []),
  (61, .iinc 3 1, 3, [], []),
  (64, .goto (-51), 3, [11], []),
  (67, .iconst 1, 1, [], []),
  (68, .ireturn, 1, [1], [])]
def mX12_canBeNext : pv_M := (⟨"CliffGardenModel", "canBeNext", "(II)Z"⟩, prog_14_method_96_code, 4, some .boolean, rX12_canBeNext)
def rX12_costBy : List pv_R := [
  (0, .aload_n 0, 1, [], []),
  (1, .iload_n 1, 1, [], []),
  (2, .invokevirtual 477, 3, [238, 1, 12], [638]),
  (5, .aload_n 0, 1, [], []),
  (6, .getfield 159, 3, [12, 64], [13]),
  (9, .iload_n 2, 1, [], []),
  (10, .iaload, 1, [], []),
  (11, .invokestatic 474, 3, [237, 1], [261]),
  (14, .iadd, 1, [], []),
  (15, .aload_n 0, 1, [], []),
  (16, .getfield 71, 3, [12, 24], [157]),
  (19, .aload_n 0, 1, [], []),
  (20, .getfield 159, 3, [12, 64], [13]),
  (23, .iload_n 2, 1, [], []),
  (24, .iaload, 1, [], []),
  (25, .bipush 6, 2, [], []),
  (27, .idiv, 1, [], []),
  (28, .iaload, 1, [], []),
  (29, .imul, 1, [], []),
  (30, .aload_n 0, 1, [], []),
  (31, .getfield 199, 3, [12, 77], [70]),
  (34, .iload_n 1, 1, [], []),
  (35, .iconst 1, 1, [], []),
  (36, .iload_n 2, 1, [], []),
  (37, .ishl, 1, [], []),
  (38, .ior, 1, [], []),
  (39, .iaload, 1, [], []),
  (40, .iadd, 1, [], []),
  (41, .ireturn, 1, [0], [])]
def mX12_costBy : pv_M := (⟨"CliffGardenModel", "costBy", "(II)I"⟩, prog_14_method_97_code, 3, some .int, rX12_costBy)
def rX12_mended : List pv_R := [
  (0, .aload_n 0, 1, [], []),
  (1, .lload_n 1, 1, [], []),
  (2, .bipush 8, 2, [], []),
  (4, .invokevirtual 436, 3, [217, 2, 12], [191]),
  (7, .ifCond .eq 17, 3, [13], []),
  (10, .iload_n 3, 1, [], []),
  (11, .iconst (-1), 1, [], []),
  (12, .aload_n 0, 1, [], []),
  (13, .getfield 423, 3, [12, 63], [8]),
  (16, .iconst 1, 1, [], []),
  (17, .isub, 1, [], []),
  (18, .invokestatic 206, 3, [145, 3], [1]),
  (21, .ifCond .ne 6, 3, [15], []),
  (24, .bipush (-3), 2, [], []),
  (26, .ireturn, 1, [0], []),
  (27, .iconst 0, 1, [], []),
  (28, .istore 4, 2, [], []),
  (30, .iload 4, 2, [], []),
  (32, .aload_n 0, 1, [], []),
  (33, .getfield 423, 3, [12, 63], [8]),
  (36, .if_icmp .ge 27, 3, [33], []),
  (39, .aload_n 0, 1, [], []),
  (40, .getfield 7, 3, [12, 4], [3]),
  (43, .aload_n 0, 1, [], []),
  (44, .getfield 159, 3, [12, 64], [13]),
  (47, .iload 4, 2, [], []),
  (49, .iaload, 1, [], []),
  (50, .baload, 1, [1], []),
  (51, .ifCond .eq 6, 3, [31], []),
  (54, .bipush (-3), 2, [], []),
  (56, .ireturn, 1, [0], []),
  (57, .iinc 4 1, 3, [], []),
  (60, .goto (-30), 3, [17], []),
  (63, .iconst 1, 1, [], []),
  (64, .aload_n 0, 1, [], []),
  (65, .getfield 423, 3, [12, 63], [8]),
  (68, .ishl, 1, [], []),
  (69, .iconst 1, 1, [], []),
  (70, .isub, 1, [], []),
  (71, .istore 4, 2, [], []),
  (73, .iload 4, 2, [], []),
  (75, .istore 5, 2, [], []),
  (77, .iload 5, 2, [], []),
  (79, .ifCond .lt 84, 3, [82], []),
  (82, .aload_n 0, 1, [], []),
  (83, .getfield 199, 3, [12, 77], [70]),
  (86, .iload 5, 2, [], []),
  (88, .iload 5, 2, [], []),
  (90, .iload 4, 2, [], []),
  (92, .if_icmp .ne 7, 3, [52], []),
  (95, .iconst 0, 1, [], []),
  (96, .goto 6, 3, [53], []),
  (99, .ldc_w 432, 3, [1000000000], [168]),
  (102, .iastore, 1, [], []),
  (103, .iconst 0, 1, [], []),
  (104, .istore 6, 2, [], []),
  (106, .iload 6, 2, [], []),
  (108, .aload_n 0, 1, [], []),
  (109, .getfield 423, 3, [12, 63], [8]),
  (112, .if_icmp .ge 45, 3, [80], []),
  (115, .aload_n 0, 1, [], []),
  (116, .iload 5, 2, [], []),
  (118, .iload 6, 2, [], []),
  (120, .invokevirtual 480, 3, [239, 2, 12], [302]),
  (123, .ifCond .eq 28, 3, [78], []),
  (126, .aload_n 0, 1, [], []),
  (127, .getfield 199, 3, [12, 77], [70]),
  (130, .iload 5, 2, [], []),
  (132, .aload_n 0, 1, [], []),
  (133, .getfield 199, 3, [12, 77], [70]),
  (136, .iload 5, 2, [], []),
  (138, .iaload, 1, [], []),
  (139, .aload_n 0, 1, [], []),
  (140, .iload 5, 2, [], []),
  (142, .iload 6, 2, [], []),
  (144, .invokevirtual 483, 3, [240, 2, 12], [303]),
  (147, .invokestatic 362, 3, [146, 2], [126]),
  (150, .iastore, 1, [], []),
  (151, .iinc 6 1, 3, [], []),
  (154, .goto (-48), 3, [56], []),
  (157, .iinc 5 (-1), 3, [], []),
  (160, .goto (-83), 3, [42], []),
  (163, .iload_n 3, 1, [], []),
  (164, .iconst (-1), 1, [], []),
  (165, .if_icmp .ne 10, 3, [90], []),
  (168, .aload_n 0, 1, [], []),
  (169, .getfield 199, 3, [12, 77], [70]),
  (172, .iconst 0, 1, [], []),
  (173, .iaload, 1, [], []),
  (174, .ireturn, 1, [0], []),
  (175, .iconst 0, 1, [], []),
  (176, .istore 5, 2, [], []),
  (178, .iconst 0, 1, [], []),
  (179, .istore 6, 2, [], []),
  (181, .iload 6, 2, [], []),
  (183, .iload_n 3, 1, [], []),
  (184, .if_icmp .gt 73, 3, [134], []),
  (187, .iconst 0, 1, [], []),
  (188, .istore 7, 2, [], []),
  (190, .aload_n 0, 1, [], []),
  (191, .iload 5, 2, [], []),
  (193, .iload 7, 2, [], []),
  (195, .invokevirtual 480, 3, [239, 2, 12], [302]),
  (198, .ifCond .eq 21, 3, [113], []),
  (201, .aload_n 0, 1, [], []),
  (202, .iload 5, 2, [], []),
  (204, .iload 7, 2, [], []),
  (206, .invokevirtual 483, 3, [240, 2, 12], [303]),
  (209, .aload_n 0, 1, [], []),
  (210, .getfield 199, 3, [12, 77], [70]),
  (213, .iload 5, 2, [], []),
  (215, .iaload, 1, [], []),
  (216, .if_icmp .eq 12, 3, [118], []),
  (219, .iload 7, 2, [], []),
  (221, .iconst 1, 1, [], []),
  (222, .iadd, 1, [], []),
  (223, .istore 7, 2, [], []),
  (225, .goto (-35), 3, [99], []),
  (228, .iload 6, 2, [], []),
  (230, .iload_n 3, 1, [], []),
  (231, .if_icmp .ne 11, 3, [126], []),
  (234, .aload_n 0, 1, [], []),
  (235, .getfield 159, 3, [12, 64], [13]),
  (238, .iload 7, 2, [], []),
  (240, .iaload, 1, [], []),
  (241, .ireturn, 1, [0], []),
  (242, .iload 5, 2, [], []),
  (244, .iconst 1, 1, [], []),
  (245, .iload 7, 2, [], []),
  (247, .ishl, 1, [], []),
  (248, .ior, 1, [], []),
  (249, .istore 5, 2, [], []),
  (251, .iinc 6 1, 3, [], []),
  (254, .goto (-73), 3, [94], []),
  (257, .iconst (-1), 1, [], []),
  (258, .ireturn, 1, [0], [])]
def mX12_mended : pv_M := (⟨"CliffGardenModel", "mended", "(JI)I"⟩, prog_14_method_98_code, 8, some .int, rX12_mended)
def rX12_isHit : List pv_R := [
  (0, .iconst 0, 1, [], []),
  (1, .istore_n 3, 1, [], []),
  (2, .iload_n 3, 1, [], []),
  (3, .bipush 6, 2, [], []),
  (5, .if_icmp .ge 67, 3, [42], []),
  (8, .iload_n 1, 1, [], []),
  (9, .iload_n 3, 1, [], []),
  (10, .invokestatic 214, 3, [149, 2], [16]),
  (13, .istore 4, 2, [], []),
  (15, .aload_n 0, 1, [], []),
  (16, .getfield 7, 3, [12, 4], [3]),
  (19, .iload 4, 2, [], []),
  (21, .baload, 1, [1], []),
  (22, .ifCond .eq 44, 3, [40], []),
  (25, .aload_n 0, 1, [], []),
  (26, .getfield 29, 3, [12, 10], [4]),
  (29, .iload 4, 2, [], []),
  (31, .iaload, 1, [], []),
  (32, .iconst (-1), 1, [], []),
  (33, .if_icmp .eq 33, 3, [40], []),
  (36, .iload_n 2, 1, [], []),
  (37, .aload_n 0, 1, [], []),
  (38, .getfield 29, 3, [12, 10], [4]),
  (41, .iload 4, 2, [], []),
  (43, .iaload, 1, [], []),
  (44, .ishr, 1, [], []),
  (45, .iconst 1, 1, [], []),
  (46, .iand, 1, [], []),
  (47, .iconst 1, 1, [], []),
  (48, .if_icmp .ne 18, 3, [40], []),
  (51, .bipush 6, 2, [], []),
  (53, .iload_n 3, 1, [], []),
  (54, .isub, 1, [], []),
  (55, .aload_n 0, 1, [], []),
  (56, .getfield 56, 3, [12, 19], [67]),
  (59, .iload_n 1, 1, [], []),
  (60, .iaload, 1, [], []),
  (61, .if_icmp .le 5, 3, [40], []),
  (64, .iconst 1, 1, [], []),
  (65, .ireturn, 1, [1], []),
  (66, .iinc 3 1, 3, [], []),
  (69, .goto (-67), 3, [2], []),
  (72, .iconst 0, 1, [], []),
  (73, .ireturn, 1, [1], [])]
def mX12_isHit : pv_M := (⟨"CliffGardenModel", "isHit", "(II)Z"⟩, prog_14_method_99_code, 5, some .boolean, rX12_isHit)
def rX12_hail : List pv_R := [
  (0, .iload_n 1, 1, [], []),
  (1, .iconst 0, 1, [], []),
  (2, .bipush 63, 2, [], []),
  (4, .invokestatic 206, 3, [145, 3], [1]),
  (7, .ifCond .ne 5, 3, [7], []),
  (10, .iconst (-1), 1, [], []),
  (11, .ireturn, 1, [0], []),
  (12, .iconst 0, 1, [], []),
  (13, .istore_n 2, 1, [], []),
  (14, .iconst 0, 1, [], []),
  (15, .istore_n 3, 1, [], []),
  (16, .iload_n 3, 1, [], []),
  (17, .bipush 8, 2, [], []),
  (19, .if_icmp .ge 26, 3, [27], []),
  (22, .iload_n 2, 1, [], []),
  (23, .aload_n 0, 1, [], []),
  (24, .iload_n 3, 1, [], []),
  (25, .iload_n 1, 1, [], []),
  (26, .invokevirtual 486, 3, [242, 2, 12], [639]),
  (29, .ifCond .eq 7, 3, [22], []),
  (32, .iconst 1, 1, [], []),
  (33, .goto 4, 3, [23], []),
  (36, .iconst 0, 1, [], []),
  (37, .iadd, 1, [], []),
  (38, .istore_n 2, 1, [], []),
  (39, .iinc 3 1, 3, [], []),
  (42, .goto (-26), 3, [11], []),
  (45, .iload_n 2, 1, [], []),
  (46, .ireturn, 1, [0], [])]
def mX12_hail : pv_M := (⟨"CliffGardenModel", "hail", "(I)I"⟩, prog_14_method_100_code, 4, some .int, rX12_hail)
def rX12_tapeNumber : List pv_R := [
  (0, .iconst 0, 1, [], []),
  (1, .istore_n 2, 1, [], []),
  (2, .iconst 4, 1, [], []),
  (3, .iload_n 1, 1, [], []),
  (4, .imul, 1, [], []),
  (5, .istore_n 3, 1, [], []),
  (6, .iload_n 3, 1, [], []),
  (7, .iconst 4, 1, [], []),
  (8, .iload_n 1, 1, [], []),
  (9, .imul, 1, [], []),
  (10, .iconst 4, 1, [], []),
  (11, .iadd, 1, [], []),
  (12, .if_icmp .ge 25, 3, [26], []),
  (15, .iload_n 2, 1, [], []),
  (16, .bipush 8, 2, [], []),
  (18, .ishl, 1, [], []),
  (19, .aload_n 0, 1, [], []),
  (20, .getfield 74, 3, [12, 25], [158]),
  (23, .iload_n 3, 1, [], []),
  (24, .baload, 1, [2], []),
  (25, .sipush 255, 3, [], []),
  (28, .iand, 1, [], []),
  (29, .ior, 1, [], []),
  (30, .istore_n 2, 1, [], []),
  (31, .iinc 3 1, 3, [], []),
  (34, .goto (-28), 3, [6], []),
  (37, .iload_n 2, 1, [], []),
  (38, .ireturn, 1, [0], [])]
def mX12_tapeNumber : pv_M := (⟨"CliffGardenModel", "tapeNumber", "(I)I"⟩, prog_14_method_101_code, 4, some .int, rX12_tapeNumber)
def rX12_check : List pv_R := [
  (0, .iload_n 1, 1, [], []),
  (1, .iconst 0, 1, [], []),
  (2, .bipush 7, 2, [], []),
  (4, .invokestatic 206, 3, [145, 3], [1]),
  (7, .ifCond .eq 17, 3, [13], []),
  (10, .iload_n 2, 1, [], []),
  (11, .ifCond .lt 13, 3, [13], []),
  (14, .iload_n 2, 1, [], []),
  (15, .aload_n 0, 1, [], []),
  (16, .getfield 226, 3, [12, 26], [31]),
  (19, .iconst 4, 1, [], []),
  (20, .idiv, 1, [], []),
  (21, .if_icmp .le 6, 3, [15], []),
  (24, .bipush (-2), 2, [], []),
  (26, .ireturn, 1, [0], []),
  (27, .aload_n 0, 1, [], []),
  (28, .iconst 0, 1, [], []),
  (29, .putfield 226, 3, [12, 26], [31]),
  (32, .iconst 0, 1, [], []),
  (33, .istore_n 3, 1, [], []),
  (34, .iload_n 3, 1, [], []),
  (35, .bipush 6, 2, [], []),
  (37, .if_icmp .ge 63, 3, [55], []),
  (40, .iload_n 1, 1, [], []),
  (41, .iload_n 3, 1, [], []),
  (42, .invokestatic 214, 3, [149, 2], [16]),
  (45, .istore 4, 2, [], []),
  (47, .iload_n 3, 1, [], []),
  (48, .iload_n 2, 1, [], []),
  (49, .if_icmp .eq 43, 3, [51], []),
  (52, .aload_n 0, 1, [], []),
  (53, .iload_n 3, 1, [], []),
  (54, .invokevirtual 489, 3, [244, 1, 12], [640]),
  (57, .aload_n 0, 1, [], []),
  (58, .getfield 7, 3, [12, 4], [3]),
  (61, .iload 4, 2, [], []),
  (63, .baload, 1, [1], []),
  (64, .ifCond .eq 24, 3, [49], []),
  (67, .aload_n 0, 1, [], []),
  (68, .getfield 29, 3, [12, 10], [4]),
  (71, .iload 4, 2, [], []),
  (73, .iaload, 1, [], []),
  (74, .iconst (-1), 1, [], []),
  (75, .if_icmp .eq 13, 3, [49], []),
  (78, .aload_n 0, 1, [], []),
  (79, .getfield 32, 3, [12, 11], [19]),
  (82, .iload 4, 2, [], []),
  (84, .iaload, 1, [], []),
  (85, .goto 4, 3, [50], []),
  (88, .iconst (-1), 1, [], []),
  (89, .if_icmp .eq 5, 3, [53], []),
  (92, .iload_n 3, 1, [], []),
  (93, .ireturn, 1, [0], []),
  (94, .iinc 3 1, 3, [], []),
  (97, .goto (-63), 3, [20], []),
  (100, .bipush 6, 2, [], []),
  (102, .iload_n 2, 1, [], []),
  (103, .if_icmp .ge 8, 3, [60], []),
  (106, .bipush 6, 2, [], []),
  (108, .goto 4, 3, [61], []),
  (111, .iconst (-1), 1, [], []),
  (112, .ireturn, 1, [0], [])]
def mX12_check : pv_M := (⟨"CliffGardenModel", "check", "(II)I"⟩, prog_14_method_102_code, 5, some .int, rX12_check)
def rX12_cells : List pv_R := [
  (0, .iconst 0, 1, [], []),
  (1, .istore_n 2, 1, [], []),
  (2, .iconst 0, 1, [], []),
  (3, .istore_n 3, 1, [], []),
  (4, .iload_n 3, 1, [], []),
  (5, .bipush 48, 2, [], []),
  (7, .if_icmp .ge 40, 3, [28], []),
  (10, .iload_n 2, 1, [], []),
  (11, .aload_n 0, 1, [], []),
  (12, .getfield 7, 3, [12, 4], [3]),
  (15, .iload_n 3, 1, [], []),
  (16, .baload, 1, [1], []),
  (17, .ifCond .eq 21, 3, [23], []),
  (20, .iload_n 1, 1, [], []),
  (21, .ifCond .eq 13, 3, [21], []),
  (24, .aload_n 0, 1, [], []),
  (25, .getfield 29, 3, [12, 10], [4]),
  (28, .iload_n 3, 1, [], []),
  (29, .iaload, 1, [], []),
  (30, .iconst (-1), 1, [], []),
  (31, .if_icmp .eq 7, 3, [23], []),
  (34, .iconst 1, 1, [], []),
  (35, .goto 4, 3, [24], []),
  (38, .iconst 0, 1, [], []),
  (39, .iadd, 1, [], []),
  (40, .istore_n 2, 1, [], []),
  (41, .iinc 3 1, 3, [], []),
  (44, .goto (-40), 3, [4], []),
  (47, .iload_n 2, 1, [], []),
  (48, .ireturn, 1, [0], [])]
def mX12_cells : pv_M := (⟨"CliffGardenModel", "cells", "(Z)I"⟩, prog_14_method_103_code, 4, some .int, rX12_cells)
def rX12_count : List pv_R := [
  (0, .iload_n 1, 1, [], []),
  (1, .tableswitch 80 0 6 #[43, 49, 54, 59, 64, 69, 74], 43, [25, 2, 6, 9, 12, 15, 18, 21], []),
  (44, .aload_n 0, 1, [], []),
  (45, .iconst 0, 1, [], []),
  (46, .invokevirtual 492, 3, [246, 1, 12], [304]),
  (49, .ireturn, 1, [0], []),
  (50, .aload_n 0, 1, [], []),
  (51, .getfield 336, 3, [12, 0], [88]),
  (54, .ireturn, 1, [0], []),
  (55, .aload_n 0, 1, [], []),
  (56, .getfield 377, 3, [12, 2], [21]),
  (59, .ireturn, 1, [0], []),
  (60, .aload_n 0, 1, [], []),
  (61, .getfield 326, 3, [12, 35], [167]),
  (64, .ireturn, 1, [0], []),
  (65, .aload_n 0, 1, [], []),
  (66, .getfield 226, 3, [12, 26], [31]),
  (69, .ireturn, 1, [0], []),
  (70, .aload_n 0, 1, [], []),
  (71, .getfield 202, 3, [12, 1], [71]),
  (74, .ireturn, 1, [0], []),
  (75, .aload_n 0, 1, [], []),
  (76, .iconst 1, 1, [], []),
  (77, .invokevirtual 492, 3, [246, 1, 12], [304]),
  (80, .ireturn, 1, [0], []),
  (81, .iload_n 1, 1, [], []),
  (82, .bipush 10, 2, [], []),
  (84, .bipush 17, 2, [], []),
  (86, .invokestatic 206, 3, [145, 3], [1]),
  (89, .ifCond .eq 13, 3, [37], []),
  (92, .aload_n 0, 1, [], []),
  (93, .getfield 50, 3, [12, 17], [153]),
  (96, .iload_n 1, 1, [], []),
  (97, .bipush 10, 2, [], []),
  (99, .isub, 1, [], []),
  (100, .iaload, 1, [], []),
  (101, .ireturn, 1, [0], []),
  (102, .iload_n 1, 1, [], []),
  (103, .bipush 20, 2, [], []),
  (105, .bipush 37, 2, [], []),
  (107, .invokestatic 206, 3, [145, 3], [1]),
  (110, .ifCond .ne 5, 3, [44], []),
  (113, .iconst (-1), 1, [], []),
  (114, .ireturn, 1, [0], []),
  (115, .iload_n 1, 1, [], []),
  (116, .bipush 20, 2, [], []),
  (118, .isub, 1, [], []),
  (119, .iconst 3, 1, [], []),
  (120, .irem, 1, [], []),
  (121, .ifCond .ne 17, 3, [59], []),
  (124, .aload_n 0, 1, [], []),
  (125, .getfield 41, 3, [12, 14], [113]),
  (128, .iload_n 1, 1, [], []),
  (129, .bipush 20, 2, [], []),
  (131, .isub, 1, [], []),
  (132, .iconst 3, 1, [], []),
  (133, .idiv, 1, [], []),
  (134, .iaload, 1, [], []),
  (135, .goto 38, 3, [83], []),
  (138, .iload_n 1, 1, [], []),
  (139, .bipush 20, 2, [], []),
  (141, .isub, 1, [], []),
  (142, .iconst 3, 1, [], []),
  (143, .irem, 1, [], []),
  (144, .iconst 1, 1, [], []),
  (145, .if_icmp .ne 17, 3, [75], []),
  (148, .aload_n 0, 1, [], []),
  (149, .getfield 44, 3, [12, 15], [45]),
  (152, .iload_n 1, 1, [], []),
  (153, .bipush 20, 2, [], []),
  (155, .isub, 1, [], []),
  (156, .iconst 3, 1, [], []),
  (157, .idiv, 1, [], []),
  (158, .iaload, 1, [], []),
  (159, .goto 14, 3, [83], []),
  (162, .aload_n 0, 1, [], []),
  (163, .getfield 47, 3, [12, 16], [85]),
  (166, .iload_n 1, 1, [], []),
  (167, .bipush 20, 2, [], []),
  (169, .isub, 1, [], []),
  (170, .iconst 3, 1, [], []),
  (171, .idiv, 1, [], []),
  (172, .iaload, 1, [], []),
  (173, .ireturn, 1, [0], [])]
def mX12_count : pv_M := (⟨"CliffGardenModel", "count", "(I)I"⟩, prog_14_method_104_code, 2, some .int, rX12_count)
def rJ6_bitCount_0f7a4 : List pv_R := [
  (0, .iload_n 0, 1, [], []),
  (1, .iload_n 0, 1, [], []),
  (2, .iconst 1, 1, [], []),
  (3, .iushr, 1, [], []),
  (4, .ldc_w 265, 3, [1431655765], [507]),
  (7, .iand, 1, [], []),
  (8, .isub, 1, [], []),
  (9, .istore_n 0, 1, [], []),
  (10, .iload_n 0, 1, [], []),
  (11, .ldc_w 266, 3, [858993459], [241]),
  (14, .iand, 1, [], []),
  (15, .iload_n 0, 1, [], []),
  (16, .iconst 2, 1, [], []),
  (17, .iushr, 1, [], []),
  (18, .ldc_w 266, 3, [858993459], [241]),
  (21, .iand, 1, [], []),
  (22, .iadd, 1, [], []),
  (23, .istore_n 0, 1, [], []),
  (24, .iload_n 0, 1, [], []),
  (25, .iload_n 0, 1, [], []),
  (26, .iconst 4, 1, [], []),
  (27, .iushr, 1, [], []),
  (28, .iadd, 1, [], []),
  (29, .ldc_w 267, 3, [252645135], [508]),
  (32, .iand, 1, [], []),
  (33, .istore_n 0, 1, [], []),
  (34, .iload_n 0, 1, [], []),
  (35, .iload_n 0, 1, [], []),
  (36, .bipush 8, 2, [], []),
  (38, .iushr, 1, [], []),
  (39, .iadd, 1, [], []),
  (40, .istore_n 0, 1, [], []),
  (41, .iload_n 0, 1, [], []),
  (42, .iload_n 0, 1, [], []),
  (43, .bipush 16, 2, [], []),
  (45, .iushr, 1, [], []),
  (46, .iadd, 1, [], []),
  (47, .istore_n 0, 1, [], []),
  (48, .iload_n 0, 1, [], []),
  (49, .bipush 63, 2, [], []),
  (51, .iand, 1, [], []),
  (52, .ireturn, 1, [0], [])]
def mJ6_bitCount_0f7a4 : pv_M := (⟨"java/lang/Integer", "bitCount", "(I)I"⟩, prog_16_method_49_code, 1, some .int, rJ6_bitCount_0f7a4)
def rJ13_bitCount_95d88 : List pv_R := [
  (0, .lload_n 0, 1, [], []),
  (1, .lload_n 0, 1, [], []),
  (2, .iconst 1, 1, [], []),
  (3, .lushr, 1, [], []),
  (4, .ldc2_w 314, 3, [6148914691236517205], [510]),
  (7, .land, 1, [], []),
  (8, .lsub, 1, [], []),
  (9, .lstore_n 0, 1, [], []),
  (10, .lload_n 0, 1, [], []),
  (11, .ldc2_w 316, 3, [3689348814741910323], [246]),
  (14, .land, 1, [], []),
  (15, .lload_n 0, 1, [], []),
  (16, .iconst 2, 1, [], []),
  (17, .lushr, 1, [], []),
  (18, .ldc2_w 316, 3, [3689348814741910323], [246]),
  (21, .land, 1, [], []),
  (22, .ladd, 1, [], []),
  (23, .lstore_n 0, 1, [], []),
  (24, .lload_n 0, 1, [], []),
  (25, .lload_n 0, 1, [], []),
  (26, .iconst 4, 1, [], []),
  (27, .lushr, 1, [], []),
  (28, .ladd, 1, [], []),
  (29, .ldc2_w 318, 3, [1085102592571150095], [511]),
  (32, .land, 1, [], []),
  (33, .lstore_n 0, 1, [], []),
  (34, .lload_n 0, 1, [], []),
  (35, .lload_n 0, 1, [], []),
  (36, .bipush 8, 2, [], []),
  (38, .lushr, 1, [], []),
  (39, .ladd, 1, [], []),
  (40, .lstore_n 0, 1, [], []),
  (41, .lload_n 0, 1, [], []),
  (42, .lload_n 0, 1, [], []),
  (43, .bipush 16, 2, [], []),
  (45, .lushr, 1, [], []),
  (46, .ladd, 1, [], []),
  (47, .lstore_n 0, 1, [], []),
  (48, .lload_n 0, 1, [], []),
  (49, .lload_n 0, 1, [], []),
  (50, .bipush 32, 2, [], []),
  (52, .lushr, 1, [], []),
  (53, .ladd, 1, [], []),
  (54, .lstore_n 0, 1, [], []),
  (55, .lload_n 0, 1, [], []),
  (56, .l2i, 1, [], []),
  (57, .bipush 127, 2, [], []),
  (59, .iand, 1, [], []),
  (60, .ireturn, 1, [0], [])]
def mJ13_bitCount_95d88 : pv_M := (⟨"java/lang/Long", "bitCount", "(J)I"⟩, prog_17_method_50_code, 2, some .int, rJ13_bitCount_95d88)
def rJ7_fill_53178 : List pv_R := [
  (0, .iconst 0, 1, [], []),
  (1, .istore_n 2, 1, [], []),
  (2, .aload_n 0, 1, [], []),
  (3, .arraylength, 1, [], []),
  (4, .istore_n 3, 1, [], []),
  (5, .iload_n 2, 1, [], []),
  (6, .iload_n 3, 1, [], []),
  (7, .if_icmp .ge 13, 3, [14], []),
  (10, .aload_n 0, 1, [], []),
  (11, .iload_n 2, 1, [], []),
  (12, .iload_n 1, 1, [], []),
  (13, .iastore, 1, [], []),
  (14, .iinc 2 1, 3, [], []),
  (17, .goto (-12), 3, [5], []),
  (20, .return_, 1, [], [])]
def mJ7_fill_53178 : pv_M := (⟨"java/util/Arrays", "fill", "([II)V"⟩, prog_23_method_103_code, 4, none, rJ7_fill_53178)
def pv_prog : List pv_M := [mX0_init, mX0_carries, mX0_factOf, mX1_init, mX1_growth, mX1_oddsOfFall, mX1_ageing, mX1_catchingLevel, mX1_ownerOf, mX1_pointsOf, mX1_seeCell, mX1_seeCellAndCrop, mX1_seeFallen, mX1_seeFallFromItsCell, mX2_init, mX2_open, mX2_close, mX2_isWritten, mX2_factOf, mX3_init, mX3_endOfColumn, mX3_hangs, mX3_hasCrop, mX3_isRipe, mX3_needOf, mX3_setCrop, mX3_clearCrop, mX3_crops, mX3_factOf, mX3_loadOf, mX3_ripeLoadOf, mX3_firstOverloaded, mX3_unhang, mX3_loosen, mX3_wouldGo, mX3_columnsOf, mX3_highestFall, mX4_init, mX4_choose, mX4_tryCell, mX4_fits, mX4_burden, mX4_carryOut, mX4_kindAt, mX5_init, mX5_read, mX5_look, mX5_fail, mX5_expect, mX5_enter, mX5_isOneOf, mX5_readClause, mX5_readCondition, mX5_readPart, mX5_readJump, mX5_readPiece, mX5_readComparison, mX5_readSum, mX5_readTerm, mX5_readFactor, mX5_isDigit, mX5_readNumber, mX6_init, mX6_tell, mX6_asWork, mX6_hoursBetween, mX6_asMending, mX6_solve, mX6_spentOn, mX6_leastOnward, mX6_costVia, mX6_findRow, mX6_least, mX6_cellAt, mX7_init, mX7_put, mX7_answer, mX7_reckon, mX7_joined, mX8_init, mX8_fly, mX8_arrive, mX8_cancel, mX9_init, mX9_append, mX9_numberAt, mX10_init, mX10_pour, mX10_passOn, mX10_share, mX10_reckonGrowth, mX10_tryValve, mX10_weighTrial, mX10_dropsAt, mX11_init, mX11_hang, mX11_knot, mX11_kind, mX11_plant, mX11_valve, mX11_kitchen, mX11_rope, mX11_seed, mX11_feed, mX11_law, mX11_cell, mX11_byLaw, mX11_water, mX11_fall, mX11_go, mX11_day, mX11_torn, mX11_fallIs, mX11_claimed, mX11_right, mX11_food, mX11_kitchenIs, mX11_mayWork, mX11_work, mX11_pollen, mX11_pollinate, mX11_planted, mX11_drought, mX11_mended, mX11_hail, mX11_check, mX11_count, mX11_countOfRow, mX11_letWaterFlow, mX11_letCropsGrow, mX11_letCropsFall, mX11_letKnotsAge, mX11_letKnotsGo, mX11_tearDown, mX11_dropCrop, mX11_landInKitchen, mX11_claimantOf, mX11_hungCell, mX11_within, mX11_isColumn, mX11_isPerson, mX11_isCell, mX11_isTold, mX11_toldCells, mX12_init, mX12_in, mX12_less, mX12_more, mX12_isCell, mX12_at, mX12_isHung, mX12_hang, mX12_empties, mX12_knot, mX12_kind, mX12_plant, mX12_valve, mX12_kitchen, mX12_rope, mX12_seed, mX12_types, mX12_feed, mX12_here, mX12_isDigit, mX12_wrongAt, mX12_takes, mX12_readsNumber, mX12_notes, mX12_opens, mX12_top, mX12_factOf, mX12_sumSign, mX12_closesSums, mX12_readsFactor, mX12_hasOpenSum, mX12_readsSum, mX12_endsPiece, mX12_lands, mX12_jumps, mX12_readsCompared, mX12_readsCondition, mX12_canBegin, mX12_readsClause, mX12_law, mX12_reckon, mX12_comesTo, mX12_told, mX12_feelsCell, mX12_feelsCrop, mX12_isRipe, mX12_feels, mX12_asked, mX12_byLaw, mX12_sends, mX12_drips, mX12_flows, mX12_water, mX12_ownLoad, mX12_loadOf, mX12_cell, mX12_catcher, mX12_writes, mX12_falls, mX12_fall, mX12_firstGoing, mX12_tears, mX12_goesOff, mX12_go, mX12_torn, mX12_day, mX12_isFall, mX12_fallIs, mX12_claimer, mX12_claimed, mX12_right, mX12_food, mX12_kitchenIs, mX12_lays, mX12_mayBe, mX12_mayWork, mX12_apart, mX12_way, mX12_laysHours, mX12_work, mX12_hasKind, mX12_takesUp, mX12_moved, mX12_flies, mX12_gcd, mX12_pollen, mX12_pollinate, mX12_bearsAll, mX12_areWhole, mX12_planted, mX12_growth, mX12_drought, mX12_bits, mX12_takesOf, mX12_hoursOf, mX12_canBeNext, mX12_costBy, mX12_mended, mX12_isHit, mX12_hail, mX12_tapeNumber, mX12_check, mX12_cells, mX12_count, mJ6_bitCount_0f7a4, mJ13_bitCount_95d88, mJ7_fill_53178]
def pv_links : List (List Nat) := [[0, 11, 12, 11, 0], [7, 12, 206, 145, 3], [0, 12, 232, 12, 27], [0, 12, 7, 12, 4], [0, 12, 29, 12, 10], [0, 1, 11, 1, 3], [0, 12, 262, 12, 32], [0, 11, 26, 11, 2], [0, 12, 423, 12, 63], [0, 5, 21, 5, 3], [0, 11, 19, 11, 1], [7, 11, 100, 138, 2], [0, 5, 13, 5, 1], [0, 12, 159, 12, 64], [8, 12, 238, 162, 0, 12], [0, 7, 51, 7, 9], [7, 12, 214, 149, 2], [0, 12, 114, 12, 48], [8, 5, 39, 46, 0, 5], [0, 12, 32, 12, 11], [0, 11, 51, 11, 5], [0, 12, 377, 12, 2], [0, 6, 33, 6, 7], [0, 11, 35, 11, 3], [0, 12, 16, 12, 6], [0, 2, 40, 2, 9], [0, 12, 259, 12, 30], [0, 12, 314, 12, 33], [2, 12, 258, 1048576], [0, 1, 22, 1, 0], [0, 11, 65, 11, 7], [0, 12, 226, 12, 26], [0, 12, 255, 12, 31], [7, 11, 154, 139, 1], [8, 12, 245, 164, 2, 12], [0, 3, 24, 3, 5], [0, 6, 11, 6, 0], [0, 7, 28, 7, 6], [0, 12, 38, 12, 13], [0, 12, 111, 12, 47], [0, 12, 162, 12, 65], [8, 11, 103, 21, 1, 3], [8, 11, 147, 22, 1, 3], [0, 1, 30, 1, 2], [0, 10, 9, 10, 2], [0, 12, 44, 12, 15], [8, 12, 265, 169, 0, 12], [0, 1, 18, 1, 4], [0, 4, 32, 4, 6], [0, 5, 32, 7, 8], [0, 10, 76, 10, 9], [0, 11, 176, 9, 1], [0, 12, 13, 12, 5], [0, 12, 65, 12, 22], [0, 12, 117, 12, 49], [0, 12, 175, 12, 69], [8, 5, 53, 47, 1, 5], [8, 5, 104, 75, 2, 7], [8, 12, 356, 191, 3, 12], [0, 3, 9, 3, 1], [0, 3, 58, 3, 0], [0, 4, 24, 4, 0], [0, 8, 47, 8, 2], [0, 11, 44, 11, 4], [0, 11, 92, 11, 11], [0, 11, 247, 2, 7], [0, 12, 35, 12, 12], [0, 12, 56, 12, 19], [0, 12, 81, 12, 37], [0, 12, 135, 12, 55], [0, 12, 199, 12, 77], [0, 12, 202, 12, 1], [8, 1, 38, 76, 3, 7], [8, 3, 70, 22, 1, 3], [8, 12, 268, 167, 2, 12], [8, 12, 359, 193, 3, 12], [0, 3, 27, 3, 6], [0, 4, 15, 4, 3], [0, 5, 27, 7, 7], [0, 7, 31, 7, 8], [0, 8, 11, 8, 0], [0, 8, 28, 8, 3], [0, 10, 33, 10, 0], [0, 11, 241, 2, 6], [0, 12, 20, 12, 7], [0, 12, 47, 12, 16], [0, 12, 123, 12, 51], [0, 12, 171, 12, 68], [0, 12, 336, 12, 0], [7, 5, 64, 50, 2], [7, 11, 96, 141, 2], [7, 12, 210, 148, 2], [8, 3, 62, 21, 1, 3], [8, 5, 43, 48, 1, 5], [8, 11, 179, 84, 1, 9], [8, 12, 229, 160, 1, 12], [0, 4, 9, 4, 2], [0, 4, 21, 4, 5], [0, 5, 24, 5, 4], [0, 6, 15, 6, 1], [0, 6, 21, 6, 3], [0, 6, 27, 6, 5], [0, 7, 13, 7, 1], [0, 8, 15, 8, 1], [0, 9, 13, 9, 1], [0, 10, 24, 10, 6], [0, 11, 74, 11, 8], [0, 11, 88, 11, 10], [0, 11, 107, 3, 0], [0, 11, 115, 3, 1], [0, 11, 127, 3, 8], [0, 11, 225, 0, 8], [0, 11, 244, 0, 7], [0, 12, 41, 12, 14], [0, 12, 78, 12, 36], [0, 12, 120, 12, 50], [0, 12, 132, 12, 54], [0, 12, 141, 12, 57], [0, 12, 178, 12, 70], [0, 12, 181, 12, 71], [0, 12, 184, 12, 72], [0, 12, 196, 12, 76], [0, 12, 248, 12, 34], [0, 12, 380, 12, 3], [7, 3, 52, 250, 2], [7, 11, 160, 140, 1], [7, 12, 362, 146, 2], [8, 3, 77, 29, 1, 3], [8, 5, 74, 57, 1, 5], [8, 8, 24, 81, 5, 8], [8, 11, 134, 137, 2, 11], [8, 12, 222, 150, 2, 12], [8, 12, 353, 186, 2, 12], [8, 12, 400, 204, 0, 12], [0, 1, 42, 2, 0], [0, 2, 11, 2, 0], [0, 3, 43, 3, 11], [0, 4, 18, 4, 4], [0, 4, 36, 4, 7], [0, 6, 18, 6, 2], [0, 6, 24, 6, 4], [0, 10, 18, 10, 4], [0, 10, 84, 10, 10], [0, 11, 81, 11, 9], [0, 11, 124, 3, 7], [0, 11, 144, 3, 12], [0, 11, 157, 0, 0], [0, 11, 166, 0, 2], [0, 11, 186, 1, 4], [0, 11, 332, 3, 6], [0, 11, 398, 2, 2], [0, 12, 23, 12, 8], [0, 12, 26, 12, 9], [0, 12, 50, 12, 17], [0, 12, 53, 12, 18], [0, 12, 59, 12, 20], [0, 12, 62, 12, 21], [0, 12, 71, 12, 24], [0, 12, 74, 12, 25], [0, 12, 96, 12, 42], [0, 12, 105, 12, 45], [0, 12, 126, 12, 52], [0, 12, 129, 12, 53], [0, 12, 150, 12, 60], [0, 12, 165, 12, 66], [0, 12, 168, 12, 67], [0, 12, 235, 12, 28], [0, 12, 326, 12, 35], [2, 12, 432, 1000000000], [7, 3, 81, 20, 1], [7, 5, 126, 60, 1], [7, 11, 253, 143, 2], [7, 12, 394, 147, 2], [8, 1, 34, 11, 1, 1], [8, 1, 57, 10, 1, 1], [8, 4, 56, 39, 2, 4], [8, 5, 95, 55, 1, 5], [8, 5, 108, 49, 1, 5], [8, 11, 206, 134, 2, 11], [8, 11, 234, 17, 1, 2], [8, 12, 218, 152, 1, 12], [8, 12, 272, 168, 1, 12], [8, 12, 289, 172, 1, 12], [8, 12, 296, 175, 0, 12], [8, 12, 339, 187, 3, 12], [8, 12, 343, 189, 1, 12], [8, 12, 346, 188, 4, 12], [8, 12, 374, 198, 1, 12], [8, 12, 390, 202, 2, 12], [8, 12, 403, 206, 2, 12], [8, 12, 415, 210, 1, 12], [8, 12, 436, 217, 2, 12], [0, 0, 18, 0, 2], [0, 1, 26, 1, 1], [0, 2, 15, 2, 1], [0, 2, 18, 2, 2], [0, 2, 37, 2, 8], [0, 2, 53, 2, 10], [0, 3, 15, 3, 2], [0, 3, 30, 3, 7], [0, 3, 33, 3, 8], [0, 3, 36, 3, 9], [0, 3, 40, 3, 10], [0, 3, 49, 3, 13], [0, 5, 7, 5, 0], [0, 5, 17, 5, 2], [0, 5, 92, 7, 1], [0, 6, 30, 6, 6], [0, 7, 9, 7, 0], [0, 7, 22, 7, 4], [0, 9, 9, 9, 0], [0, 10, 15, 10, 3], [0, 10, 21, 10, 5], [0, 10, 27, 10, 7], [0, 10, 30, 10, 8], [0, 11, 111, 3, 2], [0, 11, 138, 3, 10], [0, 11, 141, 3, 11], [0, 11, 172, 0, 6], [0, 11, 213, 2, 10], [0, 11, 293, 3, 9], [0, 11, 367, 10, 2], [0, 12, 68, 12, 23], [0, 12, 84, 12, 38], [0, 12, 87, 12, 39], [0, 12, 90, 12, 40], [0, 12, 93, 12, 41], [0, 12, 99, 12, 43], [0, 12, 102, 12, 44], [0, 12, 108, 12, 46], [0, 12, 138, 12, 56], [0, 12, 144, 12, 58], [0, 12, 147, 12, 59], [0, 12, 153, 12, 61], [0, 12, 156, 12, 62], [0, 12, 187, 12, 73], [0, 12, 190, 12, 74], [0, 12, 193, 12, 75], [0, 12, 242, 12, 29], [2, 6, 68, 1000000000], [2, 11, 175, 65535], [2, 14, 266, 858993459], [3, 3, 90, 18446744073709551615], [3, 11, 228, 18446744073709551615], [3, 12, 406, 18446744073709551615], [3, 12, 456, 3], [3, 15, 316, 3689348814741910323], [6, 3, 84, 0], [6, 3, 96, 3], [6, 6, 45, 2], [6, 7, 48, 0], [6, 10, 41, 3], [6, 10, 59, 1], [6, 11, 338, 1], [7, 0, 36, 250, 2], [7, 6, 41, 65, 2], [7, 8, 18, 250, 2], [7, 11, 257, 142, 2], [7, 11, 343, 249, 1], [7, 12, 429, 220, 2], [7, 12, 433, 221, 2], [7, 12, 474, 237, 1], [8, 1, 60, 12, 1, 1], [8, 1, 63, 13, 1, 1], [8, 3, 92, 33, 2, 3], [8, 4, 73, 41, 2, 4], [8, 5, 80, 52, 1, 5], [8, 5, 86, 53, 1, 5], [8, 5, 89, 54, 0, 5], [8, 5, 116, 58, 1, 5], [8, 5, 121, 59, 1, 5], [8, 6, 57, 68, 1, 6], [8, 6, 69, 70, 4, 6], [8, 7, 38, 77, 3, 7], [8, 10, 53, 24, 1, 3], [8, 10, 87, 91, 2, 10], [8, 11, 130, 26, 1, 3], [8, 11, 192, 6, 1, 1], [8, 11, 196, 4, 2, 1], [8, 11, 199, 5, 1, 1], [8, 11, 202, 128, 0, 11], [8, 11, 210, 132, 0, 11], [8, 11, 238, 136, 2, 11], [8, 11, 249, 1, 3, 0], [8, 11, 261, 63, 1, 6], [8, 11, 268, 67, 0, 6], [8, 11, 271, 72, 0, 6], [8, 11, 274, 73, 1, 6], [8, 12, 251, 163, 0, 12], [8, 12, 283, 173, 0, 12], [8, 12, 293, 174, 1, 12], [8, 12, 299, 176, 0, 12], [8, 12, 305, 177, 1, 12], [8, 12, 320, 182, 0, 12], [8, 12, 333, 185, 2, 12], [8, 12, 350, 190, 1, 12], [8, 12, 368, 195, 0, 12], [8, 12, 386, 201, 4, 12], [8, 12, 397, 205, 3, 12], [8, 12, 418, 212, 2, 12], [8, 12, 426, 218, 2, 12], [8, 12, 449, 225, 2, 12], [8, 12, 480, 239, 2, 12], [8, 12, 483, 240, 2, 12], [8, 12, 492, 246, 1, 12], [0, 0, 15, 0, 1], [0, 0, 21, 0, 3], [0, 0, 24, 0, 4], [0, 0, 27, 0, 5], [0, 0, 30, 0, 6], [0, 1, 72, 3, 2], [0, 1, 75, 3, 1], [0, 1, 78, 3, 3], [0, 1, 81, 3, 8], [0, 1, 84, 0, 8], [0, 1, 90, 0, 1], [0, 1, 96, 3, 5], [0, 1, 99, 3, 6], [0, 1, 105, 3, 9], [0, 1, 109, 2, 1], [0, 1, 110, 2, 2], [0, 1, 111, 2, 3], [0, 1, 114, 2, 4], [0, 1, 115, 2, 5], [0, 2, 21, 2, 3], [0, 2, 25, 2, 4], [0, 2, 28, 2, 5], [0, 2, 31, 2, 6], [0, 2, 44, 3, 5], [0, 2, 47, 3, 6], [0, 2, 52, 3, 9], [0, 3, 18, 3, 3], [0, 3, 21, 3, 4], [0, 3, 46, 3, 12], [0, 4, 28, 4, 1], [0, 4, 45, 3, 1], [0, 4, 66, 3, 11], [0, 4, 76, 3, 12], [0, 4, 79, 0, 2], [0, 5, 49, 9, 0], [0, 5, 68, 7, 2], [0, 5, 71, 7, 3], [0, 5, 77, 7, 4], [0, 5, 83, 7, 5], [0, 7, 16, 7, 2], [0, 7, 19, 7, 3], [0, 7, 25, 7, 5], [0, 7, 35, 7, 7], [0, 10, 37, 10, 1], [0, 10, 69, 3, 4], [0, 11, 58, 11, 6], [0, 11, 118, 3, 3], [0, 11, 121, 3, 4], [0, 11, 163, 0, 1], [0, 11, 169, 0, 5], [0, 11, 284, 8, 2], [0, 11, 287, 8, 3], [0, 11, 290, 3, 5], [0, 11, 304, 4, 7], [0, 11, 319, 10, 10], [0, 11, 348, 2, 9], [0, 11, 351, 7, 7], [0, 11, 364, 0, 3], [0, 11, 395, 2, 5], [0, 11, 408, 2, 1], [0, 11, 409, 0, 4], [1, 0, 9, 0, 0], [1, 0, 15, 0, 1], [1, 0, 18, 0, 2], [1, 0, 21, 0, 3], [1, 0, 24, 0, 4], [1, 0, 27, 0, 5], [1, 0, 30, 0, 6], [1, 0, 33, 0, 7], [1, 1, 11, 1, 3], [1, 1, 22, 1, 0], [1, 1, 26, 1, 1], [1, 1, 30, 1, 2], [1, 2, 11, 2, 0], [1, 2, 15, 2, 1], [1, 2, 18, 2, 2], [1, 2, 21, 2, 3], [1, 2, 25, 2, 4], [1, 2, 28, 2, 5], [1, 2, 31, 2, 6], [1, 2, 34, 2, 7], [1, 2, 37, 2, 8], [1, 3, 9, 3, 1], [1, 3, 15, 3, 2], [1, 3, 18, 3, 3], [1, 3, 21, 3, 4], [1, 3, 24, 3, 5], [1, 3, 27, 3, 6], [1, 3, 30, 3, 7], [1, 3, 33, 3, 8], [1, 3, 36, 3, 9], [1, 3, 40, 3, 10], [1, 3, 43, 3, 11], [1, 3, 46, 3, 12], [1, 3, 49, 3, 13], [1, 4, 9, 4, 2], [1, 4, 15, 4, 3], [1, 4, 18, 4, 4], [1, 4, 21, 4, 5], [1, 4, 24, 4, 0], [1, 4, 28, 4, 1], [1, 6, 11, 6, 0], [1, 6, 15, 6, 1], [1, 6, 18, 6, 2], [1, 6, 21, 6, 3], [1, 6, 24, 6, 4], [1, 6, 27, 6, 5], [1, 6, 30, 6, 6], [1, 7, 9, 7, 0], [1, 7, 13, 7, 1], [1, 7, 16, 7, 2], [1, 7, 19, 7, 3], [1, 7, 22, 7, 4], [1, 7, 25, 7, 5], [1, 7, 28, 7, 6], [1, 8, 11, 8, 0], [1, 8, 15, 8, 1], [1, 9, 9, 9, 0], [1, 10, 9, 10, 2], [1, 10, 15, 10, 3], [1, 10, 18, 10, 4], [1, 10, 21, 10, 5], [1, 10, 24, 10, 6], [1, 10, 27, 10, 7], [1, 10, 30, 10, 8], [1, 10, 33, 10, 0], [1, 10, 37, 10, 1], [1, 11, 12, 11, 0], [1, 11, 19, 11, 1], [1, 11, 26, 11, 2], [1, 11, 35, 11, 3], [1, 11, 44, 11, 4], [1, 11, 51, 11, 5], [1, 11, 58, 11, 6], [1, 11, 65, 11, 7], [1, 11, 74, 11, 8], [1, 11, 81, 11, 9], [1, 12, 7, 12, 4], [1, 12, 13, 12, 5], [1, 12, 16, 12, 6], [1, 12, 20, 12, 7], [1, 12, 23, 12, 8], [1, 12, 26, 12, 9], [1, 12, 29, 12, 10], [1, 12, 32, 12, 11], [1, 12, 35, 12, 12], [1, 12, 38, 12, 13], [1, 12, 41, 12, 14], [1, 12, 44, 12, 15], [1, 12, 47, 12, 16], [1, 12, 50, 12, 17], [1, 12, 53, 12, 18], [1, 12, 56, 12, 19], [1, 12, 59, 12, 20], [1, 12, 62, 12, 21], [1, 12, 65, 12, 22], [1, 12, 68, 12, 23], [1, 12, 71, 12, 24], [1, 12, 74, 12, 25], [1, 12, 78, 12, 36], [1, 12, 81, 12, 37], [1, 12, 84, 12, 38], [1, 12, 87, 12, 39], [1, 12, 90, 12, 40], [1, 12, 93, 12, 41], [1, 12, 96, 12, 42], [1, 12, 99, 12, 43], [1, 12, 102, 12, 44], [1, 12, 105, 12, 45], [1, 12, 108, 12, 46], [1, 12, 111, 12, 47], [1, 12, 114, 12, 48], [1, 12, 117, 12, 49], [1, 12, 120, 12, 50], [1, 12, 123, 12, 51], [1, 12, 126, 12, 52], [1, 12, 129, 12, 53], [1, 12, 132, 12, 54], [1, 12, 135, 12, 55], [1, 12, 138, 12, 56], [1, 12, 141, 12, 57], [1, 12, 144, 12, 58], [1, 12, 147, 12, 59], [1, 12, 150, 12, 60], [1, 12, 153, 12, 61], [1, 12, 156, 12, 62], [1, 12, 159, 12, 64], [1, 12, 162, 12, 65], [1, 12, 165, 12, 66], [1, 12, 168, 12, 67], [1, 12, 171, 12, 68], [1, 12, 175, 12, 69], [1, 12, 178, 12, 70], [1, 12, 181, 12, 71], [1, 12, 184, 12, 72], [1, 12, 187, 12, 73], [1, 12, 190, 12, 74], [1, 12, 193, 12, 75], [1, 12, 196, 12, 76], [1, 12, 199, 12, 77], [2, 12, 225, 65535], [2, 12, 411, 65536], [2, 14, 265, 1431655765], [2, 14, 267, 252645135], [3, 12, 421, 281474976710656], [3, 15, 314, 6148914691236517205], [3, 15, 318, 1085102592571150095], [4, 1, 9, 7], [4, 11, 9, 3], [4, 11, 16, 0], [4, 11, 23, 2], [4, 11, 30, 1], [4, 11, 39, 10], [4, 11, 48, 9], [4, 11, 55, 5], [4, 11, 62, 6], [4, 11, 69, 4], [4, 11, 78, 8], [4, 11, 85, 7], [5, 0, 3], [5, 1, 3], [5, 2, 3], [5, 3, 3], [5, 4, 3], [5, 5, 1], [5, 6, 5], [5, 7, 1], [5, 8, 3], [5, 9, 1], [5, 10, 3], [5, 11, 3], [5, 12, 1], [6, 4, 60, 3], [6, 5, 98, 1], [6, 6, 73, 1], [6, 7, 42, 1], [6, 8, 32, 3], [6, 8, 38, 0], [6, 8, 44, 1], [6, 11, 370, 0], [7, 1, 47, 20, 1], [7, 1, 66, 250, 2], [7, 3, 66, 138, 2], [7, 4, 52, 142, 2], [7, 4, 88, 138, 2], [7, 6, 37, 142, 2], [7, 6, 51, 250, 2], [7, 6, 76, 138, 2], [7, 7, 54, 78, 3], [7, 10, 47, 250, 2], [7, 10, 106, 138, 2], [7, 11, 310, 248, 1], [7, 11, 382, 20, 1], [7, 12, 279, 170, 1], [7, 12, 286, 171, 1], [7, 12, 311, 181, 1], [7, 12, 329, 184, 3], [7, 12, 446, 226, 2], [7, 12, 458, 228, 2], [7, 12, 468, 236, 1], [8, 1, 53, 21, 1, 3], [8, 1, 93, 22, 1, 3], [8, 1, 102, 23, 1, 3], [8, 2, 48, 23, 1, 3], [8, 3, 73, 25, 3, 3], [8, 3, 102, 32, 2, 3], [8, 3, 105, 31, 0, 3], [8, 4, 39, 21, 1, 3], [8, 4, 48, 30, 1, 3], [8, 4, 69, 40, 2, 4], [8, 4, 84, 25, 3, 3], [8, 5, 35, 51, 0, 5], [8, 5, 111, 56, 1, 5], [8, 5, 129, 61, 0, 5], [8, 6, 60, 69, 3, 6], [8, 6, 64, 71, 1, 6], [8, 8, 50, 82, 1, 8], [8, 10, 65, 21, 1, 3], [8, 10, 72, 88, 3, 10], [8, 10, 80, 90, 1, 10], [8, 10, 91, 22, 1, 3], [8, 10, 94, 4, 2, 1], [8, 10, 99, 92, 0, 10], [8, 10, 102, 87, 2, 10], [8, 11, 150, 25, 3, 3], [8, 11, 182, 45, 3, 5], [8, 11, 189, 28, 2, 3], [8, 11, 216, 129, 0, 11], [8, 11, 219, 130, 0, 11], [8, 11, 222, 131, 0, 11], [8, 11, 230, 34, 1, 3], [8, 11, 237, 18, 2, 2], [8, 11, 248, 2, 2, 0], [8, 11, 265, 64, 1, 6], [8, 11, 277, 35, 1, 3], [8, 11, 280, 80, 4, 8], [8, 11, 297, 38, 1, 4], [8, 11, 301, 42, 0, 4], [8, 11, 307, 43, 1, 4], [8, 11, 315, 89, 2, 10], [8, 11, 322, 93, 1, 10], [8, 11, 325, 66, 1, 6], [8, 11, 329, 36, 2, 3], [8, 11, 335, 85, 1, 9], [8, 11, 354, 27, 0, 3], [8, 11, 357, 127, 1, 11], [8, 11, 360, 87, 2, 10], [8, 11, 373, 31, 0, 3], [8, 11, 376, 133, 1, 11], [8, 11, 379, 29, 1, 3], [8, 11, 385, 32, 2, 3], [8, 11, 388, 15, 3, 2], [8, 11, 392, 7, 1, 1], [8, 11, 399, 8, 1, 1], [8, 11, 402, 135, 2, 11], [8, 11, 405, 16, 0, 2], [8, 11, 412, 9, 2, 1], [8, 12, 276, 166, 0, 12], [8, 12, 302, 179, 0, 12], [8, 12, 308, 178, 1, 12], [8, 12, 317, 180, 0, 12], [8, 12, 323, 165, 1, 12], [8, 12, 365, 194, 2, 12], [8, 12, 371, 197, 1, 12], [8, 12, 383, 200, 1, 12], [8, 12, 408, 196, 0, 12], [8, 12, 412, 207, 0, 12], [8, 12, 440, 222, 0, 12], [8, 12, 443, 224, 2, 12], [8, 12, 453, 227, 0, 12], [8, 12, 462, 232, 0, 12], [8, 12, 465, 231, 0, 12], [8, 12, 471, 234, 0, 12], [8, 12, 477, 238, 1, 12], [8, 12, 486, 242, 2, 12], [8, 12, 489, 244, 1, 12], [9, 1, 17, 74, 0], [9, 11, 11, 19, 0], [9, 11, 18, 0, 0], [9, 11, 25, 14, 0], [9, 11, 32, 3, 3], [9, 11, 41, 86, 2], [9, 11, 50, 83, 0], [9, 11, 57, 44, 0], [9, 11, 64, 62, 0], [9, 11, 71, 37, 2], [9, 11, 80, 79, 0], [9, 11, 87, 74, 0]]
end
section
theorem pv_mT (p : Nat) {w : Cond} (h : (decide (lw_tbl[p]? = some w) && goodWord w) = true) : w ∈ pv_T := by
  simp only [Bool.and_eq_true, decide_eq_true_eq] at h
  exact List.mem_filter.mpr ⟨List.mem_of_getElem? h.1, h.2⟩
theorem pv_mN (p : Nat) {w : Cond} (h : (decide (lw_tbl[p]? = some w) && pv_isN w) = true) : w ∈ pv_N := by
  simp only [Bool.and_eq_true, decide_eq_true_eq] at h
  exact List.mem_filter.mpr ⟨List.mem_of_getElem? h.1, h.2⟩
theorem lk_0_11_12_11_0 : pv_sem pv_prog [0, 11, 12, 11, 0] := fun own q h1 h2 => by cases h1; cases h2; exact Or.inl (pv_mT 590 (by decide +kernel))
theorem lk_7_12_206_145_3 : pv_sem pv_prog [7, 12, 206, 145, 3] := fun own q h1 h2 => by cases h1; cases h2; exact ⟨Or.inl (pv_mT 1547 (by decide +kernel)), (pv_mT 1548 (by decide +kernel)), by decide +kernel⟩
theorem lk_0_12_232_12_27 : pv_sem pv_prog [0, 12, 232, 12, 27] := fun own q h1 h2 => by cases h1; cases h2; exact Or.inl (pv_mT 1331 (by decide +kernel))
theorem lk_0_12_7_12_4 : pv_sem pv_prog [0, 12, 7, 12, 4] := fun own q h1 h2 => by cases h1; cases h2; exact Or.inl (pv_mT 1308 (by decide +kernel))
theorem lk_0_12_29_12_10 : pv_sem pv_prog [0, 12, 29, 12, 10] := fun own q h1 h2 => by cases h1; cases h2; exact Or.inl (pv_mT 1314 (by decide +kernel))
theorem lk_0_1_11_1_3 : pv_sem pv_prog [0, 1, 11, 1, 3] := fun own q h1 h2 => by cases h1; cases h2; exact Or.inl (pv_mT 411 (by decide +kernel))
theorem lk_0_12_262_12_32 : pv_sem pv_prog [0, 12, 262, 12, 32] := fun own q h1 h2 => by cases h1; cases h2; exact Or.inl (pv_mT 1336 (by decide +kernel))
theorem lk_0_11_26_11_2 : pv_sem pv_prog [0, 11, 26, 11, 2] := fun own q h1 h2 => by cases h1; cases h2; exact Or.inl (pv_mT 592 (by decide +kernel))
theorem lk_0_12_423_12_63 : pv_sem pv_prog [0, 12, 423, 12, 63] := fun own q h1 h2 => by cases h1; cases h2; exact Or.inl (pv_mT 1367 (by decide +kernel))
theorem lk_0_5_21_5_3 : pv_sem pv_prog [0, 5, 21, 5, 3] := fun own q h1 h2 => by cases h1; cases h2; exact Or.inl (pv_mT 491 (by decide +kernel))
theorem lk_0_11_19_11_1 : pv_sem pv_prog [0, 11, 19, 11, 1] := fun own q h1 h2 => by cases h1; cases h2; exact Or.inl (pv_mT 591 (by decide +kernel))
theorem lk_7_11_100_138_2 : pv_sem pv_prog [7, 11, 100, 138, 2] := fun own q h1 h2 => by cases h1; cases h2; exact ⟨Or.inl (pv_mT 637 (by decide +kernel)), (pv_mT 638 (by decide +kernel)), by decide +kernel⟩
theorem lk_0_5_13_5_1 : pv_sem pv_prog [0, 5, 13, 5, 1] := fun own q h1 h2 => by cases h1; cases h2; exact Or.inl (pv_mT 489 (by decide +kernel))
theorem lk_0_12_159_12_64 : pv_sem pv_prog [0, 12, 159, 12, 64] := fun own q h1 h2 => by cases h1; cases h2; exact Or.inl (pv_mT 1368 (by decide +kernel))
theorem lk_8_12_238_162_0_12 : pv_sem pv_prog [8, 12, 238, 162, 0, 12] := fun own M q h1 h2 h3 => by cases h1; cases h2; cases h3; exact ⟨Or.inl (pv_mT 1606 (by decide +kernel)), (pv_mT 1608 (by decide +kernel)), (pv_mT 93 (by decide +kernel)), by decide +kernel, rfl⟩
theorem lk_0_7_51_7_9 : pv_sem pv_prog [0, 7, 51, 7, 9] := fun own q h1 h2 => by cases h1; cases h2; exact Or.inl (pv_mT 386 (by decide +kernel))
theorem lk_7_12_214_149_2 : pv_sem pv_prog [7, 12, 214, 149, 2] := fun own q h1 h2 => by cases h1; cases h2; exact ⟨Or.inl (pv_mT 1550 (by decide +kernel)), (pv_mT 1551 (by decide +kernel)), by decide +kernel⟩
theorem lk_0_12_114_12_48 : pv_sem pv_prog [0, 12, 114, 12, 48] := fun own q h1 h2 => by cases h1; cases h2; exact Or.inl (pv_mT 1352 (by decide +kernel))
theorem lk_8_5_39_46_0_5 : pv_sem pv_prog [8, 5, 39, 46, 0, 5] := fun own M q h1 h2 h3 => by cases h1; cases h2; cases h3; exact ⟨Or.inl (pv_mT 715 (by decide +kernel)), (pv_mT 717 (by decide +kernel)), (pv_mT 8 (by decide +kernel)), by decide +kernel, rfl⟩
theorem lk_0_12_32_12_11 : pv_sem pv_prog [0, 12, 32, 12, 11] := fun own q h1 h2 => by cases h1; cases h2; exact Or.inl (pv_mT 1315 (by decide +kernel))
theorem lk_0_11_51_11_5 : pv_sem pv_prog [0, 11, 51, 11, 5] := fun own q h1 h2 => by cases h1; cases h2; exact Or.inl (pv_mT 595 (by decide +kernel))
theorem lk_0_12_377_12_2 : pv_sem pv_prog [0, 12, 377, 12, 2] := fun own q h1 h2 => by cases h1; cases h2; exact Or.inl (pv_mT 1306 (by decide +kernel))
theorem lk_0_6_33_6_7 : pv_sem pv_prog [0, 6, 33, 6, 7] := fun own q h1 h2 => by cases h1; cases h2; exact Or.inl (pv_mT 517 (by decide +kernel))
theorem lk_0_11_35_11_3 : pv_sem pv_prog [0, 11, 35, 11, 3] := fun own q h1 h2 => by cases h1; cases h2; exact Or.inl (pv_mT 593 (by decide +kernel))
theorem lk_0_12_16_12_6 : pv_sem pv_prog [0, 12, 16, 12, 6] := fun own q h1 h2 => by cases h1; cases h2; exact Or.inl (pv_mT 1310 (by decide +kernel))
theorem lk_0_2_40_2_9 : pv_sem pv_prog [0, 2, 40, 2, 9] := fun own q h1 h2 => by cases h1; cases h2; exact Or.inl (pv_mT 330 (by decide +kernel))
theorem lk_0_12_259_12_30 : pv_sem pv_prog [0, 12, 259, 12, 30] := fun own q h1 h2 => by cases h1; cases h2; exact Or.inl (pv_mT 1334 (by decide +kernel))
theorem lk_0_12_314_12_33 : pv_sem pv_prog [0, 12, 314, 12, 33] := fun own q h1 h2 => by cases h1; cases h2; exact Or.inl (pv_mT 1337 (by decide +kernel))
theorem lk_2_12_258_1048576 : pv_sem pv_prog [2, 12, 258, 1048576] := fun own h1 => by cases h1; exact (pv_mT 1629 (by decide +kernel))
theorem lk_0_1_22_1_0 : pv_sem pv_prog [0, 1, 22, 1, 0] := fun own q h1 h2 => by cases h1; cases h2; exact Or.inl (pv_mT 408 (by decide +kernel))
theorem lk_0_11_65_11_7 : pv_sem pv_prog [0, 11, 65, 11, 7] := fun own q h1 h2 => by cases h1; cases h2; exact Or.inl (pv_mT 597 (by decide +kernel))
theorem lk_0_12_226_12_26 : pv_sem pv_prog [0, 12, 226, 12, 26] := fun own q h1 h2 => by cases h1; cases h2; exact Or.inl (pv_mT 1330 (by decide +kernel))
theorem lk_0_12_255_12_31 : pv_sem pv_prog [0, 12, 255, 12, 31] := fun own q h1 h2 => by cases h1; cases h2; exact Or.inl (pv_mT 1335 (by decide +kernel))
theorem lk_7_11_154_139_1 : pv_sem pv_prog [7, 11, 154, 139, 1] := fun own q h1 h2 => by cases h1; cases h2; exact ⟨Or.inl (pv_mT 634 (by decide +kernel)), (pv_mT 635 (by decide +kernel)), by decide +kernel⟩
theorem lk_8_12_245_164_2_12 : pv_sem pv_prog [8, 12, 245, 164, 2, 12] := fun own M q h1 h2 h3 => by cases h1; cases h2; cases h3; exact ⟨Or.inl (pv_mT 1613 (by decide +kernel)), (pv_mT 1615 (by decide +kernel)), (pv_mT 94 (by decide +kernel)), by decide +kernel, rfl⟩
theorem lk_0_3_24_3_5 : pv_sem pv_prog [0, 3, 24, 3, 5] := fun own q h1 h2 => by cases h1; cases h2; exact Or.inl (pv_mT 201 (by decide +kernel))
theorem lk_0_6_11_6_0 : pv_sem pv_prog [0, 6, 11, 6, 0] := fun own q h1 h2 => by cases h1; cases h2; exact Or.inl (pv_mT 510 (by decide +kernel))
theorem lk_0_7_28_7_6 : pv_sem pv_prog [0, 7, 28, 7, 6] := fun own q h1 h2 => by cases h1; cases h2; exact Or.inl (pv_mT 380 (by decide +kernel))
theorem lk_0_12_38_12_13 : pv_sem pv_prog [0, 12, 38, 12, 13] := fun own q h1 h2 => by cases h1; cases h2; exact Or.inl (pv_mT 1317 (by decide +kernel))
theorem lk_0_12_111_12_47 : pv_sem pv_prog [0, 12, 111, 12, 47] := fun own q h1 h2 => by cases h1; cases h2; exact Or.inl (pv_mT 1351 (by decide +kernel))
theorem lk_0_12_162_12_65 : pv_sem pv_prog [0, 12, 162, 12, 65] := fun own q h1 h2 => by cases h1; cases h2; exact Or.inl (pv_mT 1369 (by decide +kernel))
theorem lk_8_11_103_21_1_3 : pv_sem pv_prog [8, 11, 103, 21, 1, 3] := fun own M q h1 h2 h3 => by cases h1; cases h2; cases h3; exact ⟨Or.inr ⟨"CliffGarden", pv_mN 640 (by decide +kernel)⟩, (pv_mT 642 (by decide +kernel)), (pv_mT 0 (by decide +kernel)), by decide +kernel, rfl⟩
theorem lk_8_11_147_22_1_3 : pv_sem pv_prog [8, 11, 147, 22, 1, 3] := fun own M q h1 h2 h3 => by cases h1; cases h2; cases h3; exact ⟨Or.inr ⟨"CliffGarden", pv_mN 668 (by decide +kernel)⟩, (pv_mT 670 (by decide +kernel)), (pv_mT 4 (by decide +kernel)), by decide +kernel, rfl⟩
theorem lk_0_1_30_1_2 : pv_sem pv_prog [0, 1, 30, 1, 2] := fun own q h1 h2 => by cases h1; cases h2; exact Or.inl (pv_mT 410 (by decide +kernel))
theorem lk_0_10_9_10_2 : pv_sem pv_prog [0, 10, 9, 10, 2] := fun own q h1 h2 => by cases h1; cases h2; exact Or.inl (pv_mT 433 (by decide +kernel))
theorem lk_0_12_44_12_15 : pv_sem pv_prog [0, 12, 44, 12, 15] := fun own q h1 h2 => by cases h1; cases h2; exact Or.inl (pv_mT 1319 (by decide +kernel))
theorem lk_8_12_265_169_0_12 : pv_sem pv_prog [8, 12, 265, 169, 0, 12] := fun own M q h1 h2 h3 => by cases h1; cases h2; cases h3; exact ⟨Or.inl (pv_mT 1652 (by decide +kernel)), (pv_mT 1654 (by decide +kernel)), (pv_mT 102 (by decide +kernel)), by decide +kernel, rfl⟩
theorem lk_0_1_18_1_4 : pv_sem pv_prog [0, 1, 18, 1, 4] := fun own q h1 h2 => by cases h1; cases h2; exact Or.inl (pv_mT 412 (by decide +kernel))
theorem lk_0_4_32_4_6 : pv_sem pv_prog [0, 4, 32, 4, 6] := fun own q h1 h2 => by cases h1; cases h2; exact Or.inl (pv_mT 547 (by decide +kernel))
theorem lk_0_5_32_7_8 : pv_sem pv_prog [0, 5, 32, 7, 8] := fun own q h1 h2 => by cases h1; cases h2; exact Or.inr ⟨"CliffGarden", pv_mN 385 (by decide +kernel)⟩
theorem lk_0_10_76_10_9 : pv_sem pv_prog [0, 10, 76, 10, 9] := fun own q h1 h2 => by cases h1; cases h2; exact Or.inl (pv_mT 441 (by decide +kernel))
theorem lk_0_11_176_9_1 : pv_sem pv_prog [0, 11, 176, 9, 1] := fun own q h1 h2 => by cases h1; cases h2; exact Or.inr ⟨"CliffGarden", pv_mN 476 (by decide +kernel)⟩
theorem lk_0_12_13_12_5 : pv_sem pv_prog [0, 12, 13, 12, 5] := fun own q h1 h2 => by cases h1; cases h2; exact Or.inl (pv_mT 1309 (by decide +kernel))
theorem lk_0_12_65_12_22 : pv_sem pv_prog [0, 12, 65, 12, 22] := fun own q h1 h2 => by cases h1; cases h2; exact Or.inl (pv_mT 1326 (by decide +kernel))
theorem lk_0_12_117_12_49 : pv_sem pv_prog [0, 12, 117, 12, 49] := fun own q h1 h2 => by cases h1; cases h2; exact Or.inl (pv_mT 1353 (by decide +kernel))
theorem lk_0_12_175_12_69 : pv_sem pv_prog [0, 12, 175, 12, 69] := fun own q h1 h2 => by cases h1; cases h2; exact Or.inl (pv_mT 1373 (by decide +kernel))
theorem lk_8_5_53_47_1_5 : pv_sem pv_prog [8, 5, 53, 47, 1, 5] := fun own M q h1 h2 h3 => by cases h1; cases h2; cases h3; exact ⟨Or.inl (pv_mT 809 (by decide +kernel)), (pv_mT 811 (by decide +kernel)), (pv_mT 9 (by decide +kernel)), by decide +kernel, rfl⟩
theorem lk_8_5_104_75_2_7 : pv_sem pv_prog [8, 5, 104, 75, 2, 7] := fun own M q h1 h2 h3 => by cases h1; cases h2; cases h3; exact ⟨Or.inr ⟨"CliffGarden", pv_mN 840 (by decide +kernel)⟩, (pv_mT 842 (by decide +kernel)), (pv_mT 16 (by decide +kernel)), by decide +kernel, rfl⟩
theorem lk_8_12_356_191_3_12 : pv_sem pv_prog [8, 12, 356, 191, 3, 12] := fun own M q h1 h2 h3 => by cases h1; cases h2; cases h3; exact ⟨Or.inl (pv_mT 1688 (by decide +kernel)), (pv_mT 1690 (by decide +kernel)), (pv_mT 110 (by decide +kernel)), by decide +kernel, rfl⟩
theorem lk_0_3_9_3_1 : pv_sem pv_prog [0, 3, 9, 3, 1] := fun own q h1 h2 => by cases h1; cases h2; exact Or.inl (pv_mT 188 (by decide +kernel))
theorem lk_0_3_58_3_0 : pv_sem pv_prog [0, 3, 58, 3, 0] := fun own q h1 h2 => by cases h1; cases h2; exact Or.inl (pv_mT 187 (by decide +kernel))
theorem lk_0_4_24_4_0 : pv_sem pv_prog [0, 4, 24, 4, 0] := fun own q h1 h2 => by cases h1; cases h2; exact Or.inl (pv_mT 541 (by decide +kernel))
theorem lk_0_8_47_8_2 : pv_sem pv_prog [0, 8, 47, 8, 2] := fun own q h1 h2 => by cases h1; cases h2; exact Or.inl (pv_mT 575 (by decide +kernel))
theorem lk_0_11_44_11_4 : pv_sem pv_prog [0, 11, 44, 11, 4] := fun own q h1 h2 => by cases h1; cases h2; exact Or.inl (pv_mT 594 (by decide +kernel))
theorem lk_0_11_92_11_11 : pv_sem pv_prog [0, 11, 92, 11, 11] := fun own q h1 h2 => by cases h1; cases h2; exact Or.inl (pv_mT 601 (by decide +kernel))
theorem lk_0_11_247_2_7 : pv_sem pv_prog [0, 11, 247, 2, 7] := fun own q h1 h2 => by cases h1; cases h2; exact Or.inr ⟨"CliffGarden", pv_mN 328 (by decide +kernel)⟩
theorem lk_0_12_35_12_12 : pv_sem pv_prog [0, 12, 35, 12, 12] := fun own q h1 h2 => by cases h1; cases h2; exact Or.inl (pv_mT 1316 (by decide +kernel))
theorem lk_0_12_56_12_19 : pv_sem pv_prog [0, 12, 56, 12, 19] := fun own q h1 h2 => by cases h1; cases h2; exact Or.inl (pv_mT 1323 (by decide +kernel))
theorem lk_0_12_81_12_37 : pv_sem pv_prog [0, 12, 81, 12, 37] := fun own q h1 h2 => by cases h1; cases h2; exact Or.inl (pv_mT 1341 (by decide +kernel))
theorem lk_0_12_135_12_55 : pv_sem pv_prog [0, 12, 135, 12, 55] := fun own q h1 h2 => by cases h1; cases h2; exact Or.inl (pv_mT 1359 (by decide +kernel))
theorem lk_0_12_199_12_77 : pv_sem pv_prog [0, 12, 199, 12, 77] := fun own q h1 h2 => by cases h1; cases h2; exact Or.inl (pv_mT 1381 (by decide +kernel))
theorem lk_0_12_202_12_1 : pv_sem pv_prog [0, 12, 202, 12, 1] := fun own q h1 h2 => by cases h1; cases h2; exact Or.inl (pv_mT 1305 (by decide +kernel))
theorem lk_8_1_38_76_3_7 : pv_sem pv_prog [8, 1, 38, 76, 3, 7] := fun own M q h1 h2 h3 => by cases h1; cases h2; cases h3; exact ⟨Or.inr ⟨"CliffGarden", pv_mN 908 (by decide +kernel)⟩, (pv_mT 910 (by decide +kernel)), (pv_mT 28 (by decide +kernel)), by decide +kernel, rfl⟩
theorem lk_8_3_70_22_1_3 : pv_sem pv_prog [8, 3, 70, 22, 1, 3] := fun own M q h1 h2 h3 => by cases h1; cases h2; cases h3; exact ⟨Or.inl (pv_mT 907 (by decide +kernel)), (pv_mT 670 (by decide +kernel)), (pv_mT 4 (by decide +kernel)), by decide +kernel, rfl⟩
theorem lk_8_12_268_167_2_12 : pv_sem pv_prog [8, 12, 268, 167, 2, 12] := fun own M q h1 h2 h3 => by cases h1; cases h2; cases h3; exact ⟨Or.inl (pv_mT 1638 (by decide +kernel)), (pv_mT 1640 (by decide +kernel)), (pv_mT 100 (by decide +kernel)), by decide +kernel, rfl⟩
theorem lk_8_12_359_193_3_12 : pv_sem pv_prog [8, 12, 359, 193, 3, 12] := fun own M q h1 h2 h3 => by cases h1; cases h2; cases h3; exact ⟨Or.inl (pv_mT 1731 (by decide +kernel)), (pv_mT 1733 (by decide +kernel)), (pv_mT 119 (by decide +kernel)), by decide +kernel, rfl⟩
theorem lk_0_3_27_3_6 : pv_sem pv_prog [0, 3, 27, 3, 6] := fun own q h1 h2 => by cases h1; cases h2; exact Or.inl (pv_mT 205 (by decide +kernel))
theorem lk_0_4_15_4_3 : pv_sem pv_prog [0, 4, 15, 4, 3] := fun own q h1 h2 => by cases h1; cases h2; exact Or.inl (pv_mT 544 (by decide +kernel))
theorem lk_0_5_27_7_7 : pv_sem pv_prog [0, 5, 27, 7, 7] := fun own q h1 h2 => by cases h1; cases h2; exact Or.inr ⟨"CliffGarden", pv_mN 381 (by decide +kernel)⟩
theorem lk_0_7_31_7_8 : pv_sem pv_prog [0, 7, 31, 7, 8] := fun own q h1 h2 => by cases h1; cases h2; exact Or.inl (pv_mT 384 (by decide +kernel))
theorem lk_0_8_11_8_0 : pv_sem pv_prog [0, 8, 11, 8, 0] := fun own q h1 h2 => by cases h1; cases h2; exact Or.inl (pv_mT 573 (by decide +kernel))
theorem lk_0_8_28_8_3 : pv_sem pv_prog [0, 8, 28, 8, 3] := fun own q h1 h2 => by cases h1; cases h2; exact Or.inl (pv_mT 577 (by decide +kernel))
theorem lk_0_10_33_10_0 : pv_sem pv_prog [0, 10, 33, 10, 0] := fun own q h1 h2 => by cases h1; cases h2; exact Or.inl (pv_mT 431 (by decide +kernel))
theorem lk_0_11_241_2_6 : pv_sem pv_prog [0, 11, 241, 2, 6] := fun own q h1 h2 => by cases h1; cases h2; exact Or.inr ⟨"CliffGarden", pv_mN 326 (by decide +kernel)⟩
theorem lk_0_12_20_12_7 : pv_sem pv_prog [0, 12, 20, 12, 7] := fun own q h1 h2 => by cases h1; cases h2; exact Or.inl (pv_mT 1311 (by decide +kernel))
theorem lk_0_12_47_12_16 : pv_sem pv_prog [0, 12, 47, 12, 16] := fun own q h1 h2 => by cases h1; cases h2; exact Or.inl (pv_mT 1320 (by decide +kernel))
theorem lk_0_12_123_12_51 : pv_sem pv_prog [0, 12, 123, 12, 51] := fun own q h1 h2 => by cases h1; cases h2; exact Or.inl (pv_mT 1355 (by decide +kernel))
theorem lk_0_12_171_12_68 : pv_sem pv_prog [0, 12, 171, 12, 68] := fun own q h1 h2 => by cases h1; cases h2; exact Or.inl (pv_mT 1372 (by decide +kernel))
theorem lk_0_12_336_12_0 : pv_sem pv_prog [0, 12, 336, 12, 0] := fun own q h1 h2 => by cases h1; cases h2; exact Or.inl (pv_mT 1304 (by decide +kernel))
theorem lk_7_5_64_50_2 : pv_sem pv_prog [7, 5, 64, 50, 2] := fun own q h1 h2 => by cases h1; cases h2; exact ⟨Or.inl (pv_mT 720 (by decide +kernel)), (pv_mT 721 (by decide +kernel)), by decide +kernel⟩
theorem lk_7_11_96_141_2 : pv_sem pv_prog [7, 11, 96, 141, 2] := fun own q h1 h2 => by cases h1; cases h2; exact ⟨Or.inl (pv_mT 631 (by decide +kernel)), (pv_mT 632 (by decide +kernel)), by decide +kernel⟩
theorem lk_7_12_210_148_2 : pv_sem pv_prog [7, 12, 210, 148, 2] := fun own q h1 h2 => by cases h1; cases h2; exact ⟨Or.inl (pv_mT 1544 (by decide +kernel)), (pv_mT 1545 (by decide +kernel)), by decide +kernel⟩
theorem lk_8_3_62_21_1_3 : pv_sem pv_prog [8, 3, 62, 21, 1, 3] := fun own M q h1 h2 h3 => by cases h1; cases h2; cases h3; exact ⟨Or.inl (pv_mT 672 (by decide +kernel)), (pv_mT 642 (by decide +kernel)), (pv_mT 0 (by decide +kernel)), by decide +kernel, rfl⟩
theorem lk_8_5_43_48_1_5 : pv_sem pv_prog [8, 5, 43, 48, 1, 5] := fun own M q h1 h2 h3 => by cases h1; cases h2; cases h3; exact ⟨Or.inl (pv_mT 829 (by decide +kernel)), (pv_mT 831 (by decide +kernel)), (pv_mT 14 (by decide +kernel)), by decide +kernel, rfl⟩
theorem lk_8_11_179_84_1_9 : pv_sem pv_prog [8, 11, 179, 84, 1, 9] := fun own M q h1 h2 h3 => by cases h1; cases h2; cases h3; exact ⟨Or.inr ⟨"CliffGarden", pv_mN 699 (by decide +kernel)⟩, (pv_mT 701 (by decide +kernel)), (pv_mT 5 (by decide +kernel)), by decide +kernel, rfl⟩
theorem lk_8_12_229_160_1_12 : pv_sem pv_prog [8, 12, 229, 160, 1, 12] := fun own M q h1 h2 h3 => by cases h1; cases h2; cases h3; exact ⟨Or.inl (pv_mT 1594 (by decide +kernel)), (pv_mT 1596 (by decide +kernel)), (pv_mT 91 (by decide +kernel)), by decide +kernel, rfl⟩
theorem lk_0_4_9_4_2 : pv_sem pv_prog [0, 4, 9, 4, 2] := fun own q h1 h2 => by cases h1; cases h2; exact Or.inl (pv_mT 543 (by decide +kernel))
theorem lk_0_4_21_4_5 : pv_sem pv_prog [0, 4, 21, 4, 5] := fun own q h1 h2 => by cases h1; cases h2; exact Or.inl (pv_mT 546 (by decide +kernel))
theorem lk_0_5_24_5_4 : pv_sem pv_prog [0, 5, 24, 5, 4] := fun own q h1 h2 => by cases h1; cases h2; exact Or.inl (pv_mT 492 (by decide +kernel))
theorem lk_0_6_15_6_1 : pv_sem pv_prog [0, 6, 15, 6, 1] := fun own q h1 h2 => by cases h1; cases h2; exact Or.inl (pv_mT 511 (by decide +kernel))
theorem lk_0_6_21_6_3 : pv_sem pv_prog [0, 6, 21, 6, 3] := fun own q h1 h2 => by cases h1; cases h2; exact Or.inl (pv_mT 513 (by decide +kernel))
theorem lk_0_6_27_6_5 : pv_sem pv_prog [0, 6, 27, 6, 5] := fun own q h1 h2 => by cases h1; cases h2; exact Or.inl (pv_mT 515 (by decide +kernel))
theorem lk_0_7_13_7_1 : pv_sem pv_prog [0, 7, 13, 7, 1] := fun own q h1 h2 => by cases h1; cases h2; exact Or.inl (pv_mT 370 (by decide +kernel))
theorem lk_0_8_15_8_1 : pv_sem pv_prog [0, 8, 15, 8, 1] := fun own q h1 h2 => by cases h1; cases h2; exact Or.inl (pv_mT 574 (by decide +kernel))
theorem lk_0_9_13_9_1 : pv_sem pv_prog [0, 9, 13, 9, 1] := fun own q h1 h2 => by cases h1; cases h2; exact Or.inl (pv_mT 475 (by decide +kernel))
theorem lk_0_10_24_10_6 : pv_sem pv_prog [0, 10, 24, 10, 6] := fun own q h1 h2 => by cases h1; cases h2; exact Or.inl (pv_mT 438 (by decide +kernel))
theorem lk_0_11_74_11_8 : pv_sem pv_prog [0, 11, 74, 11, 8] := fun own q h1 h2 => by cases h1; cases h2; exact Or.inl (pv_mT 598 (by decide +kernel))
theorem lk_0_11_88_11_10 : pv_sem pv_prog [0, 11, 88, 11, 10] := fun own q h1 h2 => by cases h1; cases h2; exact Or.inl (pv_mT 600 (by decide +kernel))
theorem lk_0_11_107_3_0 : pv_sem pv_prog [0, 11, 107, 3, 0] := fun own q h1 h2 => by cases h1; cases h2; exact Or.inr ⟨"CliffGarden", pv_mN 186 (by decide +kernel)⟩
theorem lk_0_11_115_3_1 : pv_sem pv_prog [0, 11, 115, 3, 1] := fun own q h1 h2 => by cases h1; cases h2; exact Or.inr ⟨"CliffGarden", pv_mN 190 (by decide +kernel)⟩
theorem lk_0_11_127_3_8 : pv_sem pv_prog [0, 11, 127, 3, 8] := fun own q h1 h2 => by cases h1; cases h2; exact Or.inr ⟨"CliffGarden", pv_mN 212 (by decide +kernel)⟩
theorem lk_0_11_225_0_8 : pv_sem pv_prog [0, 11, 225, 0, 8] := fun own q h1 h2 => by cases h1; cases h2; exact Or.inr ⟨"CliffGarden", pv_mN 284 (by decide +kernel)⟩
theorem lk_0_11_244_0_7 : pv_sem pv_prog [0, 11, 244, 0, 7] := fun own q h1 h2 => by cases h1; cases h2; exact Or.inr ⟨"CliffGarden", pv_mN 282 (by decide +kernel)⟩
theorem lk_0_12_41_12_14 : pv_sem pv_prog [0, 12, 41, 12, 14] := fun own q h1 h2 => by cases h1; cases h2; exact Or.inl (pv_mT 1318 (by decide +kernel))
theorem lk_0_12_78_12_36 : pv_sem pv_prog [0, 12, 78, 12, 36] := fun own q h1 h2 => by cases h1; cases h2; exact Or.inl (pv_mT 1340 (by decide +kernel))
theorem lk_0_12_120_12_50 : pv_sem pv_prog [0, 12, 120, 12, 50] := fun own q h1 h2 => by cases h1; cases h2; exact Or.inl (pv_mT 1354 (by decide +kernel))
theorem lk_0_12_132_12_54 : pv_sem pv_prog [0, 12, 132, 12, 54] := fun own q h1 h2 => by cases h1; cases h2; exact Or.inl (pv_mT 1358 (by decide +kernel))
theorem lk_0_12_141_12_57 : pv_sem pv_prog [0, 12, 141, 12, 57] := fun own q h1 h2 => by cases h1; cases h2; exact Or.inl (pv_mT 1361 (by decide +kernel))
theorem lk_0_12_178_12_70 : pv_sem pv_prog [0, 12, 178, 12, 70] := fun own q h1 h2 => by cases h1; cases h2; exact Or.inl (pv_mT 1374 (by decide +kernel))
theorem lk_0_12_181_12_71 : pv_sem pv_prog [0, 12, 181, 12, 71] := fun own q h1 h2 => by cases h1; cases h2; exact Or.inl (pv_mT 1375 (by decide +kernel))
theorem lk_0_12_184_12_72 : pv_sem pv_prog [0, 12, 184, 12, 72] := fun own q h1 h2 => by cases h1; cases h2; exact Or.inl (pv_mT 1376 (by decide +kernel))
theorem lk_0_12_196_12_76 : pv_sem pv_prog [0, 12, 196, 12, 76] := fun own q h1 h2 => by cases h1; cases h2; exact Or.inl (pv_mT 1380 (by decide +kernel))
theorem lk_0_12_248_12_34 : pv_sem pv_prog [0, 12, 248, 12, 34] := fun own q h1 h2 => by cases h1; cases h2; exact Or.inl (pv_mT 1338 (by decide +kernel))
theorem lk_0_12_380_12_3 : pv_sem pv_prog [0, 12, 380, 12, 3] := fun own q h1 h2 => by cases h1; cases h2; exact Or.inl (pv_mT 1307 (by decide +kernel))
theorem lk_7_3_52_250_2 : pv_sem pv_prog [7, 3, 52, 250, 2] := fun own q h1 h2 => by cases h1; cases h2; exact ⟨Or.inl (pv_mT 183 (by decide +kernel)), (pv_mT 184 (by decide +kernel)), by decide +kernel⟩
theorem lk_7_11_160_140_1 : pv_sem pv_prog [7, 11, 160, 140, 1] := fun own q h1 h2 => by cases h1; cases h2; exact ⟨Or.inl (pv_mT 683 (by decide +kernel)), (pv_mT 684 (by decide +kernel)), by decide +kernel⟩
theorem lk_7_12_362_146_2 : pv_sem pv_prog [7, 12, 362, 146, 2] := fun own q h1 h2 => by cases h1; cases h2; exact ⟨Or.inl (pv_mT 1735 (by decide +kernel)), (pv_mT 1736 (by decide +kernel)), by decide +kernel⟩
theorem lk_8_3_77_29_1_3 : pv_sem pv_prog [8, 3, 77, 29, 1, 3] := fun own M q h1 h2 h3 => by cases h1; cases h2; cases h3; exact ⟨Or.inl (pv_mT 878 (by decide +kernel)), (pv_mT 880 (by decide +kernel)), (pv_mT 23 (by decide +kernel)), by decide +kernel, rfl⟩
theorem lk_8_5_74_57_1_5 : pv_sem pv_prog [8, 5, 74, 57, 1, 5] := fun own M q h1 h2 h3 => by cases h1; cases h2; cases h3; exact ⟨Or.inl (pv_mT 813 (by decide +kernel)), (pv_mT 815 (by decide +kernel)), (pv_mT 10 (by decide +kernel)), by decide +kernel, rfl⟩
theorem lk_8_8_24_81_5_8 : pv_sem pv_prog [8, 8, 24, 81, 5, 8] := fun own M q h1 h2 h3 => by cases h1; cases h2; cases h3; exact ⟨Or.inl (pv_mT 1175 (by decide +kernel)), (pv_mT 1177 (by decide +kernel)), (pv_mT 70 (by decide +kernel)), by decide +kernel, rfl⟩
theorem lk_8_11_134_137_2_11 : pv_sem pv_prog [8, 11, 134, 137, 2, 11] := fun own M q h1 h2 h3 => by cases h1; cases h2; cases h3; exact ⟨Or.inl (pv_mT 656 (by decide +kernel)), (pv_mT 658 (by decide +kernel)), (pv_mT 3 (by decide +kernel)), by decide +kernel, rfl⟩
theorem lk_8_12_222_150_2_12 : pv_sem pv_prog [8, 12, 222, 150, 2, 12] := fun own M q h1 h2 h3 => by cases h1; cases h2; cases h3; exact ⟨Or.inl (pv_mT 1561 (by decide +kernel)), (pv_mT 1563 (by decide +kernel)), (pv_mT 90 (by decide +kernel)), by decide +kernel, rfl⟩
theorem lk_8_12_353_186_2_12 : pv_sem pv_prog [8, 12, 353, 186, 2, 12] := fun own M q h1 h2 h3 => by cases h1; cases h2; cases h3; exact ⟨Or.inl (pv_mT 1708 (by decide +kernel)), (pv_mT 1710 (by decide +kernel)), (pv_mT 115 (by decide +kernel)), by decide +kernel, rfl⟩
theorem lk_8_12_400_204_0_12 : pv_sem pv_prog [8, 12, 400, 204, 0, 12] := fun own M q h1 h2 h3 => by cases h1; cases h2; cases h3; exact ⟨Or.inl (pv_mT 1770 (by decide +kernel)), (pv_mT 1772 (by decide +kernel)), (pv_mT 125 (by decide +kernel)), by decide +kernel, rfl⟩
theorem lk_0_1_42_2_0 : pv_sem pv_prog [0, 1, 42, 2, 0] := fun own q h1 h2 => by cases h1; cases h2; exact Or.inr ⟨"CliffGarden", pv_mN 311 (by decide +kernel)⟩
theorem lk_0_2_11_2_0 : pv_sem pv_prog [0, 2, 11, 2, 0] := fun own q h1 h2 => by cases h1; cases h2; exact Or.inl (pv_mT 310 (by decide +kernel))
theorem lk_0_3_43_3_11 : pv_sem pv_prog [0, 3, 43, 3, 11] := fun own q h1 h2 => by cases h1; cases h2; exact Or.inl (pv_mT 220 (by decide +kernel))
theorem lk_0_4_18_4_4 : pv_sem pv_prog [0, 4, 18, 4, 4] := fun own q h1 h2 => by cases h1; cases h2; exact Or.inl (pv_mT 545 (by decide +kernel))
theorem lk_0_4_36_4_7 : pv_sem pv_prog [0, 4, 36, 4, 7] := fun own q h1 h2 => by cases h1; cases h2; exact Or.inl (pv_mT 548 (by decide +kernel))
theorem lk_0_6_18_6_2 : pv_sem pv_prog [0, 6, 18, 6, 2] := fun own q h1 h2 => by cases h1; cases h2; exact Or.inl (pv_mT 512 (by decide +kernel))
theorem lk_0_6_24_6_4 : pv_sem pv_prog [0, 6, 24, 6, 4] := fun own q h1 h2 => by cases h1; cases h2; exact Or.inl (pv_mT 514 (by decide +kernel))
theorem lk_0_10_18_10_4 : pv_sem pv_prog [0, 10, 18, 10, 4] := fun own q h1 h2 => by cases h1; cases h2; exact Or.inl (pv_mT 436 (by decide +kernel))
theorem lk_0_10_84_10_10 : pv_sem pv_prog [0, 10, 84, 10, 10] := fun own q h1 h2 => by cases h1; cases h2; exact Or.inl (pv_mT 442 (by decide +kernel))
theorem lk_0_11_81_11_9 : pv_sem pv_prog [0, 11, 81, 11, 9] := fun own q h1 h2 => by cases h1; cases h2; exact Or.inl (pv_mT 599 (by decide +kernel))
theorem lk_0_11_124_3_7 : pv_sem pv_prog [0, 11, 124, 3, 7] := fun own q h1 h2 => by cases h1; cases h2; exact Or.inr ⟨"CliffGarden", pv_mN 210 (by decide +kernel)⟩
theorem lk_0_11_144_3_12 : pv_sem pv_prog [0, 11, 144, 3, 12] := fun own q h1 h2 => by cases h1; cases h2; exact Or.inr ⟨"CliffGarden", pv_mN 225 (by decide +kernel)⟩
theorem lk_0_11_157_0_0 : pv_sem pv_prog [0, 11, 157, 0, 0] := fun own q h1 h2 => by cases h1; cases h2; exact Or.inr ⟨"CliffGarden", pv_mN 266 (by decide +kernel)⟩
theorem lk_0_11_166_0_2 : pv_sem pv_prog [0, 11, 166, 0, 2] := fun own q h1 h2 => by cases h1; cases h2; exact Or.inr ⟨"CliffGarden", pv_mN 272 (by decide +kernel)⟩
theorem lk_0_11_186_1_4 : pv_sem pv_prog [0, 11, 186, 1, 4] := fun own q h1 h2 => by cases h1; cases h2; exact Or.inr ⟨"CliffGarden", pv_mN 413 (by decide +kernel)⟩
theorem lk_0_11_332_3_6 : pv_sem pv_prog [0, 11, 332, 3, 6] := fun own q h1 h2 => by cases h1; cases h2; exact Or.inr ⟨"CliffGarden", pv_mN 208 (by decide +kernel)⟩
theorem lk_0_11_398_2_2 : pv_sem pv_prog [0, 11, 398, 2, 2] := fun own q h1 h2 => by cases h1; cases h2; exact Or.inr ⟨"CliffGarden", pv_mN 317 (by decide +kernel)⟩
theorem lk_0_12_23_12_8 : pv_sem pv_prog [0, 12, 23, 12, 8] := fun own q h1 h2 => by cases h1; cases h2; exact Or.inl (pv_mT 1312 (by decide +kernel))
theorem lk_0_12_26_12_9 : pv_sem pv_prog [0, 12, 26, 12, 9] := fun own q h1 h2 => by cases h1; cases h2; exact Or.inl (pv_mT 1313 (by decide +kernel))
theorem lk_0_12_50_12_17 : pv_sem pv_prog [0, 12, 50, 12, 17] := fun own q h1 h2 => by cases h1; cases h2; exact Or.inl (pv_mT 1321 (by decide +kernel))
theorem lk_0_12_53_12_18 : pv_sem pv_prog [0, 12, 53, 12, 18] := fun own q h1 h2 => by cases h1; cases h2; exact Or.inl (pv_mT 1322 (by decide +kernel))
theorem lk_0_12_59_12_20 : pv_sem pv_prog [0, 12, 59, 12, 20] := fun own q h1 h2 => by cases h1; cases h2; exact Or.inl (pv_mT 1324 (by decide +kernel))
theorem lk_0_12_62_12_21 : pv_sem pv_prog [0, 12, 62, 12, 21] := fun own q h1 h2 => by cases h1; cases h2; exact Or.inl (pv_mT 1325 (by decide +kernel))
theorem lk_0_12_71_12_24 : pv_sem pv_prog [0, 12, 71, 12, 24] := fun own q h1 h2 => by cases h1; cases h2; exact Or.inl (pv_mT 1328 (by decide +kernel))
theorem lk_0_12_74_12_25 : pv_sem pv_prog [0, 12, 74, 12, 25] := fun own q h1 h2 => by cases h1; cases h2; exact Or.inl (pv_mT 1329 (by decide +kernel))
theorem lk_0_12_96_12_42 : pv_sem pv_prog [0, 12, 96, 12, 42] := fun own q h1 h2 => by cases h1; cases h2; exact Or.inl (pv_mT 1346 (by decide +kernel))
theorem lk_0_12_105_12_45 : pv_sem pv_prog [0, 12, 105, 12, 45] := fun own q h1 h2 => by cases h1; cases h2; exact Or.inl (pv_mT 1349 (by decide +kernel))
theorem lk_0_12_126_12_52 : pv_sem pv_prog [0, 12, 126, 12, 52] := fun own q h1 h2 => by cases h1; cases h2; exact Or.inl (pv_mT 1356 (by decide +kernel))
theorem lk_0_12_129_12_53 : pv_sem pv_prog [0, 12, 129, 12, 53] := fun own q h1 h2 => by cases h1; cases h2; exact Or.inl (pv_mT 1357 (by decide +kernel))
theorem lk_0_12_150_12_60 : pv_sem pv_prog [0, 12, 150, 12, 60] := fun own q h1 h2 => by cases h1; cases h2; exact Or.inl (pv_mT 1364 (by decide +kernel))
theorem lk_0_12_165_12_66 : pv_sem pv_prog [0, 12, 165, 12, 66] := fun own q h1 h2 => by cases h1; cases h2; exact Or.inl (pv_mT 1370 (by decide +kernel))
theorem lk_0_12_168_12_67 : pv_sem pv_prog [0, 12, 168, 12, 67] := fun own q h1 h2 => by cases h1; cases h2; exact Or.inl (pv_mT 1371 (by decide +kernel))
theorem lk_0_12_235_12_28 : pv_sem pv_prog [0, 12, 235, 12, 28] := fun own q h1 h2 => by cases h1; cases h2; exact Or.inl (pv_mT 1332 (by decide +kernel))
theorem lk_0_12_326_12_35 : pv_sem pv_prog [0, 12, 326, 12, 35] := fun own q h1 h2 => by cases h1; cases h2; exact Or.inl (pv_mT 1339 (by decide +kernel))
theorem lk_2_12_432_1000000000 : pv_sem pv_prog [2, 12, 432, 1000000000] := fun own h1 => by cases h1; exact (pv_mT 1846 (by decide +kernel))
theorem lk_7_3_81_20_1 : pv_sem pv_prog [7, 3, 81, 20, 1] := fun own q h1 h2 => by cases h1; cases h2; exact ⟨Or.inl (pv_mT 882 (by decide +kernel)), (pv_mT 883 (by decide +kernel)), by decide +kernel⟩
theorem lk_7_5_126_60_1 : pv_sem pv_prog [7, 5, 126, 60, 1] := fun own q h1 h2 => by cases h1; cases h2; exact ⟨Or.inl (pv_mT 833 (by decide +kernel)), (pv_mT 834 (by decide +kernel)), by decide +kernel⟩
theorem lk_7_11_253_143_2 : pv_sem pv_prog [7, 11, 253, 143, 2] := fun own q h1 h2 => by cases h1; cases h2; exact ⟨Or.inl (pv_mT 1104 (by decide +kernel)), (pv_mT 1105 (by decide +kernel)), by decide +kernel⟩
theorem lk_7_12_394_147_2 : pv_sem pv_prog [7, 12, 394, 147, 2] := fun own q h1 h2 => by cases h1; cases h2; exact ⟨Or.inl (pv_mT 1782 (by decide +kernel)), (pv_mT 1783 (by decide +kernel)), by decide +kernel⟩
theorem lk_8_1_34_11_1_1 : pv_sem pv_prog [8, 1, 34, 11, 1, 1] := fun own M q h1 h2 h3 => by cases h1; cases h2; cases h3; exact ⟨Or.inl (pv_mT 893 (by decide +kernel)), (pv_mT 895 (by decide +kernel)), (pv_mT 25 (by decide +kernel)), by decide +kernel, rfl⟩
theorem lk_8_1_57_10_1_1 : pv_sem pv_prog [8, 1, 57, 10, 1, 1] := fun own M q h1 h2 h3 => by cases h1; cases h2; cases h3; exact ⟨Or.inl (pv_mT 897 (by decide +kernel)), (pv_mT 899 (by decide +kernel)), (pv_mT 26 (by decide +kernel)), by decide +kernel, rfl⟩
theorem lk_8_4_56_39_2_4 : pv_sem pv_prog [8, 4, 56, 39, 2, 4] := fun own M q h1 h2 h3 => by cases h1; cases h2; cases h3; exact ⟨Or.inl (pv_mT 1204 (by decide +kernel)), (pv_mT 1206 (by decide +kernel)), (pv_mT 74 (by decide +kernel)), by decide +kernel, rfl⟩
theorem lk_8_5_95_55_1_5 : pv_sem pv_prog [8, 5, 95, 55, 1, 5] := fun own M q h1 h2 h3 => by cases h1; cases h2; cases h3; exact ⟨Or.inl (pv_mT 855 (by decide +kernel)), (pv_mT 857 (by decide +kernel)), (pv_mT 19 (by decide +kernel)), by decide +kernel, rfl⟩
theorem lk_8_5_108_49_1_5 : pv_sem pv_prog [8, 5, 108, 49, 1, 5] := fun own M q h1 h2 h3 => by cases h1; cases h2; cases h3; exact ⟨Or.inl (pv_mT 825 (by decide +kernel)), (pv_mT 827 (by decide +kernel)), (pv_mT 13 (by decide +kernel)), by decide +kernel, rfl⟩
theorem lk_8_11_206_134_2_11 : pv_sem pv_prog [8, 11, 206, 134, 2, 11] := fun own M q h1 h2 h3 => by cases h1; cases h2; cases h3; exact ⟨Or.inl (pv_mT 959 (by decide +kernel)), (pv_mT 961 (by decide +kernel)), (pv_mT 36 (by decide +kernel)), by decide +kernel, rfl⟩
theorem lk_8_11_234_17_1_2 : pv_sem pv_prog [8, 11, 234, 17, 1, 2] := fun own M q h1 h2 h3 => by cases h1; cases h2; cases h3; exact ⟨Or.inr ⟨"CliffGarden", pv_mN 1056 (by decide +kernel)⟩, (pv_mT 1058 (by decide +kernel)), (pv_mT 53 (by decide +kernel)), by decide +kernel, rfl⟩
theorem lk_8_12_218_152_1_12 : pv_sem pv_prog [8, 12, 218, 152, 1, 12] := fun own M q h1 h2 h3 => by cases h1; cases h2; cases h3; exact ⟨Or.inl (pv_mT 1553 (by decide +kernel)), (pv_mT 1555 (by decide +kernel)), (pv_mT 89 (by decide +kernel)), by decide +kernel, rfl⟩
theorem lk_8_12_272_168_1_12 : pv_sem pv_prog [8, 12, 272, 168, 1, 12] := fun own M q h1 h2 h3 => by cases h1; cases h2; cases h3; exact ⟨Or.inl (pv_mT 1625 (by decide +kernel)), (pv_mT 1627 (by decide +kernel)), (pv_mT 97 (by decide +kernel)), by decide +kernel, rfl⟩
theorem lk_8_12_289_172_1_12 : pv_sem pv_prog [8, 12, 289, 172, 1, 12] := fun own M q h1 h2 h3 => by cases h1; cases h2; cases h3; exact ⟨Or.inl (pv_mT 1648 (by decide +kernel)), (pv_mT 1650 (by decide +kernel)), (pv_mT 101 (by decide +kernel)), by decide +kernel, rfl⟩
theorem lk_8_12_296_175_0_12 : pv_sem pv_prog [8, 12, 296, 175, 0, 12] := fun own M q h1 h2 h3 => by cases h1; cases h2; cases h3; exact ⟨Or.inl (pv_mT 1617 (by decide +kernel)), (pv_mT 1619 (by decide +kernel)), (pv_mT 95 (by decide +kernel)), by decide +kernel, rfl⟩
theorem lk_8_12_339_187_3_12 : pv_sem pv_prog [8, 12, 339, 187, 3, 12] := fun own M q h1 h2 h3 => by cases h1; cases h2; cases h3; exact ⟨Or.inl (pv_mT 1696 (by decide +kernel)), (pv_mT 1698 (by decide +kernel)), (pv_mT 112 (by decide +kernel)), by decide +kernel, rfl⟩
theorem lk_8_12_343_189_1_12 : pv_sem pv_prog [8, 12, 343, 189, 1, 12] := fun own M q h1 h2 h3 => by cases h1; cases h2; cases h3; exact ⟨Or.inl (pv_mT 1700 (by decide +kernel)), (pv_mT 1702 (by decide +kernel)), (pv_mT 113 (by decide +kernel)), by decide +kernel, rfl⟩
theorem lk_8_12_346_188_4_12 : pv_sem pv_prog [8, 12, 346, 188, 4, 12] := fun own M q h1 h2 h3 => by cases h1; cases h2; cases h3; exact ⟨Or.inl (pv_mT 1704 (by decide +kernel)), (pv_mT 1706 (by decide +kernel)), (pv_mT 114 (by decide +kernel)), by decide +kernel, rfl⟩
theorem lk_8_12_374_198_1_12 : pv_sem pv_prog [8, 12, 374, 198, 1, 12] := fun own M q h1 h2 h3 => by cases h1; cases h2; cases h3; exact ⟨Or.inl (pv_mT 1742 (by decide +kernel)), (pv_mT 1744 (by decide +kernel)), (pv_mT 120 (by decide +kernel)), by decide +kernel, rfl⟩
theorem lk_8_12_390_202_2_12 : pv_sem pv_prog [8, 12, 390, 202, 2, 12] := fun own M q h1 h2 h3 => by cases h1; cases h2; cases h3; exact ⟨Or.inl (pv_mT 1754 (by decide +kernel)), (pv_mT 1756 (by decide +kernel)), (pv_mT 122 (by decide +kernel)), by decide +kernel, rfl⟩
theorem lk_8_12_403_206_2_12 : pv_sem pv_prog [8, 12, 403, 206, 2, 12] := fun own M q h1 h2 h3 => by cases h1; cases h2; cases h3; exact ⟨Or.inl (pv_mT 1774 (by decide +kernel)), (pv_mT 1776 (by decide +kernel)), (pv_mT 126 (by decide +kernel)), by decide +kernel, rfl⟩
theorem lk_8_12_415_210_1_12 : pv_sem pv_prog [8, 12, 415, 210, 1, 12] := fun own M q h1 h2 h3 => by cases h1; cases h2; cases h3; exact ⟨Or.inl (pv_mT 1801 (by decide +kernel)), (pv_mT 1803 (by decide +kernel)), (pv_mT 128 (by decide +kernel)), by decide +kernel, rfl⟩
theorem lk_8_12_436_217_2_12 : pv_sem pv_prog [8, 12, 436, 217, 2, 12] := fun own M q h1 h2 h3 => by cases h1; cases h2; cases h3; exact ⟨Or.inl (pv_mT 1837 (by decide +kernel)), (pv_mT 1839 (by decide +kernel)), (pv_mT 131 (by decide +kernel)), by decide +kernel, rfl⟩
theorem lk_0_0_18_0_2 : pv_sem pv_prog [0, 0, 18, 0, 2] := fun own q h1 h2 => by cases h1; cases h2; exact Or.inl (pv_mT 270 (by decide +kernel))
theorem lk_0_1_26_1_1 : pv_sem pv_prog [0, 1, 26, 1, 1] := fun own q h1 h2 => by cases h1; cases h2; exact Or.inl (pv_mT 409 (by decide +kernel))
theorem lk_0_2_15_2_1 : pv_sem pv_prog [0, 2, 15, 2, 1] := fun own q h1 h2 => by cases h1; cases h2; exact Or.inl (pv_mT 312 (by decide +kernel))
theorem lk_0_2_18_2_2 : pv_sem pv_prog [0, 2, 18, 2, 2] := fun own q h1 h2 => by cases h1; cases h2; exact Or.inl (pv_mT 315 (by decide +kernel))
theorem lk_0_2_37_2_8 : pv_sem pv_prog [0, 2, 37, 2, 8] := fun own q h1 h2 => by cases h1; cases h2; exact Or.inl (pv_mT 329 (by decide +kernel))
theorem lk_0_2_53_2_10 : pv_sem pv_prog [0, 2, 53, 2, 10] := fun own q h1 h2 => by cases h1; cases h2; exact Or.inl (pv_mT 332 (by decide +kernel))
theorem lk_0_3_15_3_2 : pv_sem pv_prog [0, 3, 15, 3, 2] := fun own q h1 h2 => by cases h1; cases h2; exact Or.inl (pv_mT 192 (by decide +kernel))
theorem lk_0_3_30_3_7 : pv_sem pv_prog [0, 3, 30, 3, 7] := fun own q h1 h2 => by cases h1; cases h2; exact Or.inl (pv_mT 209 (by decide +kernel))
theorem lk_0_3_33_3_8 : pv_sem pv_prog [0, 3, 33, 3, 8] := fun own q h1 h2 => by cases h1; cases h2; exact Or.inl (pv_mT 211 (by decide +kernel))
theorem lk_0_3_36_3_9 : pv_sem pv_prog [0, 3, 36, 3, 9] := fun own q h1 h2 => by cases h1; cases h2; exact Or.inl (pv_mT 214 (by decide +kernel))
theorem lk_0_3_40_3_10 : pv_sem pv_prog [0, 3, 40, 3, 10] := fun own q h1 h2 => by cases h1; cases h2; exact Or.inl (pv_mT 218 (by decide +kernel))
theorem lk_0_3_49_3_13 : pv_sem pv_prog [0, 3, 49, 3, 13] := fun own q h1 h2 => by cases h1; cases h2; exact Or.inl (pv_mT 226 (by decide +kernel))
theorem lk_0_5_7_5_0 : pv_sem pv_prog [0, 5, 7, 5, 0] := fun own q h1 h2 => by cases h1; cases h2; exact Or.inl (pv_mT 488 (by decide +kernel))
theorem lk_0_5_17_5_2 : pv_sem pv_prog [0, 5, 17, 5, 2] := fun own q h1 h2 => by cases h1; cases h2; exact Or.inl (pv_mT 490 (by decide +kernel))
theorem lk_0_5_92_7_1 : pv_sem pv_prog [0, 5, 92, 7, 1] := fun own q h1 h2 => by cases h1; cases h2; exact Or.inr ⟨"CliffGarden", pv_mN 371 (by decide +kernel)⟩
theorem lk_0_6_30_6_6 : pv_sem pv_prog [0, 6, 30, 6, 6] := fun own q h1 h2 => by cases h1; cases h2; exact Or.inl (pv_mT 516 (by decide +kernel))
theorem lk_0_7_9_7_0 : pv_sem pv_prog [0, 7, 9, 7, 0] := fun own q h1 h2 => by cases h1; cases h2; exact Or.inl (pv_mT 369 (by decide +kernel))
theorem lk_0_7_22_7_4 : pv_sem pv_prog [0, 7, 22, 7, 4] := fun own q h1 h2 => by cases h1; cases h2; exact Or.inl (pv_mT 376 (by decide +kernel))
theorem lk_0_9_9_9_0 : pv_sem pv_prog [0, 9, 9, 9, 0] := fun own q h1 h2 => by cases h1; cases h2; exact Or.inl (pv_mT 473 (by decide +kernel))
theorem lk_0_10_15_10_3 : pv_sem pv_prog [0, 10, 15, 10, 3] := fun own q h1 h2 => by cases h1; cases h2; exact Or.inl (pv_mT 435 (by decide +kernel))
theorem lk_0_10_21_10_5 : pv_sem pv_prog [0, 10, 21, 10, 5] := fun own q h1 h2 => by cases h1; cases h2; exact Or.inl (pv_mT 437 (by decide +kernel))
theorem lk_0_10_27_10_7 : pv_sem pv_prog [0, 10, 27, 10, 7] := fun own q h1 h2 => by cases h1; cases h2; exact Or.inl (pv_mT 439 (by decide +kernel))
theorem lk_0_10_30_10_8 : pv_sem pv_prog [0, 10, 30, 10, 8] := fun own q h1 h2 => by cases h1; cases h2; exact Or.inl (pv_mT 440 (by decide +kernel))
theorem lk_0_11_111_3_2 : pv_sem pv_prog [0, 11, 111, 3, 2] := fun own q h1 h2 => by cases h1; cases h2; exact Or.inr ⟨"CliffGarden", pv_mN 193 (by decide +kernel)⟩
theorem lk_0_11_138_3_10 : pv_sem pv_prog [0, 11, 138, 3, 10] := fun own q h1 h2 => by cases h1; cases h2; exact Or.inr ⟨"CliffGarden", pv_mN 219 (by decide +kernel)⟩
theorem lk_0_11_141_3_11 : pv_sem pv_prog [0, 11, 141, 3, 11] := fun own q h1 h2 => by cases h1; cases h2; exact Or.inr ⟨"CliffGarden", pv_mN 222 (by decide +kernel)⟩
theorem lk_0_11_172_0_6 : pv_sem pv_prog [0, 11, 172, 0, 6] := fun own q h1 h2 => by cases h1; cases h2; exact Or.inr ⟨"CliffGarden", pv_mN 280 (by decide +kernel)⟩
theorem lk_0_11_213_2_10 : pv_sem pv_prog [0, 11, 213, 2, 10] := fun own q h1 h2 => by cases h1; cases h2; exact Or.inr ⟨"CliffGarden", pv_mN 333 (by decide +kernel)⟩
theorem lk_0_11_293_3_9 : pv_sem pv_prog [0, 11, 293, 3, 9] := fun own q h1 h2 => by cases h1; cases h2; exact Or.inr ⟨"CliffGarden", pv_mN 217 (by decide +kernel)⟩
theorem lk_0_11_367_10_2 : pv_sem pv_prog [0, 11, 367, 10, 2] := fun own q h1 h2 => by cases h1; cases h2; exact Or.inr ⟨"CliffGarden", pv_mN 434 (by decide +kernel)⟩
theorem lk_0_12_68_12_23 : pv_sem pv_prog [0, 12, 68, 12, 23] := fun own q h1 h2 => by cases h1; cases h2; exact Or.inl (pv_mT 1327 (by decide +kernel))
theorem lk_0_12_84_12_38 : pv_sem pv_prog [0, 12, 84, 12, 38] := fun own q h1 h2 => by cases h1; cases h2; exact Or.inl (pv_mT 1342 (by decide +kernel))
theorem lk_0_12_87_12_39 : pv_sem pv_prog [0, 12, 87, 12, 39] := fun own q h1 h2 => by cases h1; cases h2; exact Or.inl (pv_mT 1343 (by decide +kernel))
theorem lk_0_12_90_12_40 : pv_sem pv_prog [0, 12, 90, 12, 40] := fun own q h1 h2 => by cases h1; cases h2; exact Or.inl (pv_mT 1344 (by decide +kernel))
theorem lk_0_12_93_12_41 : pv_sem pv_prog [0, 12, 93, 12, 41] := fun own q h1 h2 => by cases h1; cases h2; exact Or.inl (pv_mT 1345 (by decide +kernel))
theorem lk_0_12_99_12_43 : pv_sem pv_prog [0, 12, 99, 12, 43] := fun own q h1 h2 => by cases h1; cases h2; exact Or.inl (pv_mT 1347 (by decide +kernel))
theorem lk_0_12_102_12_44 : pv_sem pv_prog [0, 12, 102, 12, 44] := fun own q h1 h2 => by cases h1; cases h2; exact Or.inl (pv_mT 1348 (by decide +kernel))
theorem lk_0_12_108_12_46 : pv_sem pv_prog [0, 12, 108, 12, 46] := fun own q h1 h2 => by cases h1; cases h2; exact Or.inl (pv_mT 1350 (by decide +kernel))
theorem lk_0_12_138_12_56 : pv_sem pv_prog [0, 12, 138, 12, 56] := fun own q h1 h2 => by cases h1; cases h2; exact Or.inl (pv_mT 1360 (by decide +kernel))
theorem lk_0_12_144_12_58 : pv_sem pv_prog [0, 12, 144, 12, 58] := fun own q h1 h2 => by cases h1; cases h2; exact Or.inl (pv_mT 1362 (by decide +kernel))
theorem lk_0_12_147_12_59 : pv_sem pv_prog [0, 12, 147, 12, 59] := fun own q h1 h2 => by cases h1; cases h2; exact Or.inl (pv_mT 1363 (by decide +kernel))
theorem lk_0_12_153_12_61 : pv_sem pv_prog [0, 12, 153, 12, 61] := fun own q h1 h2 => by cases h1; cases h2; exact Or.inl (pv_mT 1365 (by decide +kernel))
theorem lk_0_12_156_12_62 : pv_sem pv_prog [0, 12, 156, 12, 62] := fun own q h1 h2 => by cases h1; cases h2; exact Or.inl (pv_mT 1366 (by decide +kernel))
theorem lk_0_12_187_12_73 : pv_sem pv_prog [0, 12, 187, 12, 73] := fun own q h1 h2 => by cases h1; cases h2; exact Or.inl (pv_mT 1377 (by decide +kernel))
theorem lk_0_12_190_12_74 : pv_sem pv_prog [0, 12, 190, 12, 74] := fun own q h1 h2 => by cases h1; cases h2; exact Or.inl (pv_mT 1378 (by decide +kernel))
theorem lk_0_12_193_12_75 : pv_sem pv_prog [0, 12, 193, 12, 75] := fun own q h1 h2 => by cases h1; cases h2; exact Or.inl (pv_mT 1379 (by decide +kernel))
theorem lk_0_12_242_12_29 : pv_sem pv_prog [0, 12, 242, 12, 29] := fun own q h1 h2 => by cases h1; cases h2; exact Or.inl (pv_mT 1333 (by decide +kernel))
theorem lk_2_6_68_1000000000 : pv_sem pv_prog [2, 6, 68, 1000000000] := fun own h1 => by cases h1; exact (pv_mT 1143 (by decide +kernel))
theorem lk_2_11_175_65535 : pv_sem pv_prog [2, 11, 175, 65535] := fun own h1 => by cases h1; exact (pv_mT 694 (by decide +kernel))
theorem lk_2_14_266_858993459 : pv_sem pv_prog [2, 14, 266, 858993459] := fun own h1 => by cases h1; exact (pv_mT 1235 (by decide +kernel))
theorem lk_3_3_90_18446744073709551615 : pv_sem pv_prog [3, 3, 90, 18446744073709551615] := fun own h1 => by cases h1; exact (pv_mT 1016 (by decide +kernel))
theorem lk_3_11_228_18446744073709551615 : pv_sem pv_prog [3, 11, 228, 18446744073709551615] := fun own h1 => by cases h1; exact (pv_mT 1044 (by decide +kernel))
theorem lk_3_12_406_18446744073709551615 : pv_sem pv_prog [3, 12, 406, 18446744073709551615] := fun own h1 => by cases h1; exact (pv_mT 1789 (by decide +kernel))
theorem lk_3_12_456_3 : pv_sem pv_prog [3, 12, 456, 3] := fun own h1 => by cases h1; exact (pv_mT 1872 (by decide +kernel))
theorem lk_3_15_316_3689348814741910323 : pv_sem pv_prog [3, 15, 316, 3689348814741910323] := fun own h1 => by cases h1; exact (pv_mT 1111 (by decide +kernel))
theorem lk_6_3_84_0 : pv_sem pv_prog [6, 3, 84, 0] := fun own h1 => by cases h1; exact ⟨(pv_mT 1021 (by decide +kernel)), (pv_mT 752 (by decide +kernel)), (pv_mT 162 (by decide +kernel)), (pv_mT 753 (by decide +kernel))⟩
theorem lk_6_3_96_3 : pv_sem pv_prog [6, 3, 96, 3] := fun own h1 => by cases h1; exact ⟨(pv_mT 1049 (by decide +kernel)), (pv_mT 942 (by decide +kernel)), (pv_mT 166 (by decide +kernel)), (pv_mT 943 (by decide +kernel))⟩
theorem lk_6_6_45_2 : pv_sem pv_prog [6, 6, 45, 2] := fun own h1 => by cases h1; exact ⟨(pv_mT 1128 (by decide +kernel)), (pv_mT 1129 (by decide +kernel)), (pv_mT 162 (by decide +kernel)), (pv_mT 1130 (by decide +kernel))⟩
theorem lk_6_7_48_0 : pv_sem pv_prog [6, 7, 48, 0] := fun own h1 => by cases h1; exact ⟨(pv_mT 916 (by decide +kernel)), (pv_mT 752 (by decide +kernel)), (pv_mT 162 (by decide +kernel)), (pv_mT 753 (by decide +kernel))⟩
theorem lk_6_10_41_3 : pv_sem pv_prog [6, 10, 41, 3] := fun own h1 => by cases h1; exact ⟨(pv_mT 941 (by decide +kernel)), (pv_mT 942 (by decide +kernel)), (pv_mT 166 (by decide +kernel)), (pv_mT 943 (by decide +kernel))⟩
theorem lk_6_10_59_1 : pv_sem pv_prog [6, 10, 59, 1] := fun own h1 => by cases h1; exact ⟨(pv_mT 949 (by decide +kernel)), (pv_mT 755 (by decide +kernel)), (pv_mT 162 (by decide +kernel)), (pv_mT 756 (by decide +kernel))⟩
theorem lk_6_11_338_1 : pv_sem pv_prog [6, 11, 338, 1] := fun own h1 => by cases h1; exact ⟨(pv_mT 1030 (by decide +kernel)), (pv_mT 755 (by decide +kernel)), (pv_mT 162 (by decide +kernel)), (pv_mT 756 (by decide +kernel))⟩
theorem lk_7_0_36_250_2 : pv_sem pv_prog [7, 0, 36, 250, 2] := fun own q h1 h2 => by cases h1; cases h2; exact ⟨Or.inl (pv_mT 264 (by decide +kernel)), (pv_mT 184 (by decide +kernel)), by decide +kernel⟩
theorem lk_7_6_41_65_2 : pv_sem pv_prog [7, 6, 41, 65, 2] := fun own q h1 h2 => by cases h1; cases h2; exact ⟨Or.inl (pv_mT 1125 (by decide +kernel)), (pv_mT 1126 (by decide +kernel)), by decide +kernel⟩
theorem lk_7_8_18_250_2 : pv_sem pv_prog [7, 8, 18, 250, 2] := fun own q h1 h2 => by cases h1; cases h2; exact ⟨Or.inl (pv_mT 1174 (by decide +kernel)), (pv_mT 184 (by decide +kernel)), by decide +kernel⟩
theorem lk_7_11_257_142_2 : pv_sem pv_prog [7, 11, 257, 142, 2] := fun own q h1 h2 => by cases h1; cases h2; exact ⟨Or.inl (pv_mT 1113 (by decide +kernel)), (pv_mT 1114 (by decide +kernel)), by decide +kernel⟩
theorem lk_7_11_343_249_1 : pv_sem pv_prog [7, 11, 343, 249, 1] := fun own q h1 h2 => by cases h1; cases h2; exact ⟨Or.inl (pv_mT 1107 (by decide +kernel)), (pv_mT 1108 (by decide +kernel)), by decide +kernel⟩
theorem lk_7_12_429_220_2 : pv_sem pv_prog [7, 12, 429, 220, 2] := fun own q h1 h2 => by cases h1; cases h2; exact ⟨Or.inl (pv_mT 1850 (by decide +kernel)), (pv_mT 1851 (by decide +kernel)), by decide +kernel⟩
theorem lk_7_12_433_221_2 : pv_sem pv_prog [7, 12, 433, 221, 2] := fun own q h1 h2 => by cases h1; cases h2; exact ⟨Or.inl (pv_mT 1847 (by decide +kernel)), (pv_mT 1848 (by decide +kernel)), by decide +kernel⟩
theorem lk_7_12_474_237_1 : pv_sem pv_prog [7, 12, 474, 237, 1] := fun own q h1 h2 => by cases h1; cases h2; exact ⟨Or.inl (pv_mT 1919 (by decide +kernel)), (pv_mT 1920 (by decide +kernel)), by decide +kernel⟩
theorem lk_8_1_60_12_1_1 : pv_sem pv_prog [8, 1, 60, 12, 1, 1] := fun own M q h1 h2 h3 => by cases h1; cases h2; cases h3; exact ⟨Or.inl (pv_mT 974 (by decide +kernel)), (pv_mT 976 (by decide +kernel)), (pv_mT 39 (by decide +kernel)), by decide +kernel, rfl⟩
theorem lk_8_1_63_13_1_1 : pv_sem pv_prog [8, 1, 63, 13, 1, 1] := fun own M q h1 h2 h3 => by cases h1; cases h2; cases h3; exact ⟨Or.inl (pv_mT 982 (by decide +kernel)), (pv_mT 984 (by decide +kernel)), (pv_mT 41 (by decide +kernel)), by decide +kernel, rfl⟩
theorem lk_8_3_92_33_2_3 : pv_sem pv_prog [8, 3, 92, 33, 2, 3] := fun own M q h1 h2 h3 => by cases h1; cases h2; cases h3; exact ⟨Or.inl (pv_mT 1017 (by decide +kernel)), (pv_mT 1019 (by decide +kernel)), (pv_mT 48 (by decide +kernel)), by decide +kernel, rfl⟩
theorem lk_8_4_73_41_2_4 : pv_sem pv_prog [8, 4, 73, 41, 2, 4] := fun own M q h1 h2 h3 => by cases h1; cases h2; cases h3; exact ⟨Or.inl (pv_mT 1213 (by decide +kernel)), (pv_mT 1215 (by decide +kernel)), (pv_mT 76 (by decide +kernel)), by decide +kernel, rfl⟩
theorem lk_8_5_80_52_1_5 : pv_sem pv_prog [8, 5, 80, 52, 1, 5] := fun own M q h1 h2 h3 => by cases h1; cases h2; cases h3; exact ⟨Or.inl (pv_mT 847 (by decide +kernel)), (pv_mT 849 (by decide +kernel)), (pv_mT 17 (by decide +kernel)), by decide +kernel, rfl⟩
theorem lk_8_5_86_53_1_5 : pv_sem pv_prog [8, 5, 86, 53, 1, 5] := fun own M q h1 h2 h3 => by cases h1; cases h2; cases h3; exact ⟨Or.inl (pv_mT 851 (by decide +kernel)), (pv_mT 853 (by decide +kernel)), (pv_mT 18 (by decide +kernel)), by decide +kernel, rfl⟩
theorem lk_8_5_89_54_0_5 : pv_sem pv_prog [8, 5, 89, 54, 0, 5] := fun own M q h1 h2 h3 => by cases h1; cases h2; cases h3; exact ⟨Or.inl (pv_mT 864 (by decide +kernel)), (pv_mT 866 (by decide +kernel)), (pv_mT 21 (by decide +kernel)), by decide +kernel, rfl⟩
theorem lk_8_5_116_58_1_5 : pv_sem pv_prog [8, 5, 116, 58, 1, 5] := fun own M q h1 h2 h3 => by cases h1; cases h2; cases h3; exact ⟨Or.inl (pv_mT 817 (by decide +kernel)), (pv_mT 819 (by decide +kernel)), (pv_mT 11 (by decide +kernel)), by decide +kernel, rfl⟩
theorem lk_8_5_121_59_1_5 : pv_sem pv_prog [8, 5, 121, 59, 1, 5] := fun own M q h1 h2 h3 => by cases h1; cases h2; cases h3; exact ⟨Or.inl (pv_mT 821 (by decide +kernel)), (pv_mT 823 (by decide +kernel)), (pv_mT 12 (by decide +kernel)), by decide +kernel, rfl⟩
theorem lk_8_6_57_68_1_6 : pv_sem pv_prog [8, 6, 57, 68, 1, 6] := fun own M q h1 h2 h3 => by cases h1; cases h2; cases h3; exact ⟨Or.inl (pv_mT 1135 (by decide +kernel)), (pv_mT 1137 (by decide +kernel)), (pv_mT 62 (by decide +kernel)), by decide +kernel, rfl⟩
theorem lk_8_6_69_70_4_6 : pv_sem pv_prog [8, 6, 69, 70, 4, 6] := fun own M q h1 h2 h3 => by cases h1; cases h2; cases h3; exact ⟨Or.inl (pv_mT 1144 (by decide +kernel)), (pv_mT 1146 (by decide +kernel)), (pv_mT 64 (by decide +kernel)), by decide +kernel, rfl⟩
theorem lk_8_7_38_77_3_7 : pv_sem pv_prog [8, 7, 38, 77, 3, 7] := fun own M q h1 h2 h3 => by cases h1; cases h2; cases h3; exact ⟨Or.inl (pv_mT 912 (by decide +kernel)), (pv_mT 914 (by decide +kernel)), (pv_mT 29 (by decide +kernel)), by decide +kernel, rfl⟩
theorem lk_8_10_53_24_1_3 : pv_sem pv_prog [8, 10, 53, 24, 1, 3] := fun own M q h1 h2 h3 => by cases h1; cases h2; cases h3; exact ⟨Or.inr ⟨"CliffGarden", pv_mN 945 (by decide +kernel)⟩, (pv_mT 947 (by decide +kernel)), (pv_mT 34 (by decide +kernel)), by decide +kernel, rfl⟩
theorem lk_8_10_87_91_2_10 : pv_sem pv_prog [8, 10, 87, 91, 2, 10] := fun own M q h1 h2 h3 => by cases h1; cases h2; cases h3; exact ⟨Or.inl (pv_mT 1247 (by decide +kernel)), (pv_mT 1249 (by decide +kernel)), (pv_mT 81 (by decide +kernel)), by decide +kernel, rfl⟩
theorem lk_8_11_130_26_1_3 : pv_sem pv_prog [8, 11, 130, 26, 1, 3] := fun own M q h1 h2 h3 => by cases h1; cases h2; cases h3; exact ⟨Or.inr ⟨"CliffGarden", pv_mN 644 (by decide +kernel)⟩, (pv_mT 646 (by decide +kernel)), (pv_mT 1 (by decide +kernel)), by decide +kernel, rfl⟩
theorem lk_8_11_192_6_1_1 : pv_sem pv_prog [8, 11, 192, 6, 1, 1] := fun own M q h1 h2 h3 => by cases h1; cases h2; cases h3; exact ⟨Or.inr ⟨"CliffGarden", pv_mN 889 (by decide +kernel)⟩, (pv_mT 891 (by decide +kernel)), (pv_mT 24 (by decide +kernel)), by decide +kernel, rfl⟩
theorem lk_8_11_196_4_2_1 : pv_sem pv_prog [8, 11, 196, 4, 2, 1] := fun own M q h1 h2 h3 => by cases h1; cases h2; cases h3; exact ⟨Or.inr ⟨"CliffGarden", pv_mN 921 (by decide +kernel)⟩, (pv_mT 923 (by decide +kernel)), (pv_mT 30 (by decide +kernel)), by decide +kernel, rfl⟩
theorem lk_8_11_199_5_1_1 : pv_sem pv_prog [8, 11, 199, 5, 1, 1] := fun own M q h1 h2 h3 => by cases h1; cases h2; cases h3; exact ⟨Or.inr ⟨"CliffGarden", pv_mN 925 (by decide +kernel)⟩, (pv_mT 927 (by decide +kernel)), (pv_mT 31 (by decide +kernel)), by decide +kernel, rfl⟩
theorem lk_8_11_202_128_0_11 : pv_sem pv_prog [8, 11, 202, 128, 0, 11] := fun own M q h1 h2 h3 => by cases h1; cases h2; cases h3; exact ⟨Or.inl (pv_mT 933 (by decide +kernel)), (pv_mT 935 (by decide +kernel)), (pv_mT 32 (by decide +kernel)), by decide +kernel, rfl⟩
theorem lk_8_11_210_132_0_11 : pv_sem pv_prog [8, 11, 210, 132, 0, 11] := fun own M q h1 h2 h3 => by cases h1; cases h2; cases h3; exact ⟨Or.inl (pv_mT 998 (by decide +kernel)), (pv_mT 1000 (by decide +kernel)), (pv_mT 44 (by decide +kernel)), by decide +kernel, rfl⟩
theorem lk_8_11_238_136_2_11 : pv_sem pv_prog [8, 11, 238, 136, 2, 11] := fun own M q h1 h2 h3 => by cases h1; cases h2; cases h3; exact ⟨Or.inl (pv_mT 1068 (by decide +kernel)), (pv_mT 1070 (by decide +kernel)), (pv_mT 55 (by decide +kernel)), by decide +kernel, rfl⟩
theorem lk_8_11_249_1_3_0 : pv_sem pv_prog [8, 11, 249, 1, 3, 0] := fun own M q h1 h2 h3 => by cases h1; cases h2; cases h3; exact ⟨Or.inr ⟨"CliffGarden", pv_mN 1096 (by decide +kernel)⟩, (pv_mT 1098 (by decide +kernel)), (pv_mT 58 (by decide +kernel)), by decide +kernel, rfl⟩
theorem lk_8_11_261_63_1_6 : pv_sem pv_prog [8, 11, 261, 63, 1, 6] := fun own M q h1 h2 h3 => by cases h1; cases h2; cases h3; exact ⟨Or.inr ⟨"CliffGarden", pv_mN 1116 (by decide +kernel)⟩, (pv_mT 1118 (by decide +kernel)), (pv_mT 59 (by decide +kernel)), by decide +kernel, rfl⟩
theorem lk_8_11_268_67_0_6 : pv_sem pv_prog [8, 11, 268, 67, 0, 6] := fun own M q h1 h2 h3 => by cases h1; cases h2; cases h3; exact ⟨Or.inr ⟨"CliffGarden", pv_mN 1131 (by decide +kernel)⟩, (pv_mT 1133 (by decide +kernel)), (pv_mT 61 (by decide +kernel)), by decide +kernel, rfl⟩
theorem lk_8_11_271_72_0_6 : pv_sem pv_prog [8, 11, 271, 72, 0, 6] := fun own M q h1 h2 h3 => by cases h1; cases h2; cases h3; exact ⟨Or.inr ⟨"CliffGarden", pv_mN 1153 (by decide +kernel)⟩, (pv_mT 1155 (by decide +kernel)), (pv_mT 66 (by decide +kernel)), by decide +kernel, rfl⟩
theorem lk_8_11_274_73_1_6 : pv_sem pv_prog [8, 11, 274, 73, 1, 6] := fun own M q h1 h2 h3 => by cases h1; cases h2; cases h3; exact ⟨Or.inr ⟨"CliffGarden", pv_mN 1157 (by decide +kernel)⟩, (pv_mT 1159 (by decide +kernel)), (pv_mT 67 (by decide +kernel)), by decide +kernel, rfl⟩
theorem lk_8_12_251_163_0_12 : pv_sem pv_prog [8, 12, 251, 163, 0, 12] := fun own M q h1 h2 h3 => by cases h1; cases h2; cases h3; exact ⟨Or.inl (pv_mT 1630 (by decide +kernel)), (pv_mT 1632 (by decide +kernel)), (pv_mT 98 (by decide +kernel)), by decide +kernel, rfl⟩
theorem lk_8_12_283_173_0_12 : pv_sem pv_prog [8, 12, 283, 173, 0, 12] := fun own M q h1 h2 h3 => by cases h1; cases h2; cases h3; exact ⟨Or.inl (pv_mT 1621 (by decide +kernel)), (pv_mT 1623 (by decide +kernel)), (pv_mT 96 (by decide +kernel)), by decide +kernel, rfl⟩
theorem lk_8_12_293_174_1_12 : pv_sem pv_prog [8, 12, 293, 174, 1, 12] := fun own M q h1 h2 h3 => by cases h1; cases h2; cases h3; exact ⟨Or.inl (pv_mT 1656 (by decide +kernel)), (pv_mT 1658 (by decide +kernel)), (pv_mT 103 (by decide +kernel)), by decide +kernel, rfl⟩
theorem lk_8_12_299_176_0_12 : pv_sem pv_prog [8, 12, 299, 176, 0, 12] := fun own M q h1 h2 h3 => by cases h1; cases h2; cases h3; exact ⟨Or.inl (pv_mT 1668 (by decide +kernel)), (pv_mT 1670 (by decide +kernel)), (pv_mT 106 (by decide +kernel)), by decide +kernel, rfl⟩
theorem lk_8_12_305_177_1_12 : pv_sem pv_prog [8, 12, 305, 177, 1, 12] := fun own M q h1 h2 h3 => by cases h1; cases h2; cases h3; exact ⟨Or.inl (pv_mT 1672 (by decide +kernel)), (pv_mT 1674 (by decide +kernel)), (pv_mT 107 (by decide +kernel)), by decide +kernel, rfl⟩
theorem lk_8_12_320_182_0_12 : pv_sem pv_prog [8, 12, 320, 182, 0, 12] := fun own M q h1 h2 h3 => by cases h1; cases h2; cases h3; exact ⟨Or.inl (pv_mT 1602 (by decide +kernel)), (pv_mT 1604 (by decide +kernel)), (pv_mT 92 (by decide +kernel)), by decide +kernel, rfl⟩
theorem lk_8_12_333_185_2_12 : pv_sem pv_prog [8, 12, 333, 185, 2, 12] := fun own M q h1 h2 h3 => by cases h1; cases h2; cases h3; exact ⟨Or.inl (pv_mT 1712 (by decide +kernel)), (pv_mT 1714 (by decide +kernel)), (pv_mT 116 (by decide +kernel)), by decide +kernel, rfl⟩
theorem lk_8_12_350_190_1_12 : pv_sem pv_prog [8, 12, 350, 190, 1, 12] := fun own M q h1 h2 h3 => by cases h1; cases h2; cases h3; exact ⟨Or.inl (pv_mT 1692 (by decide +kernel)), (pv_mT 1694 (by decide +kernel)), (pv_mT 111 (by decide +kernel)), by decide +kernel, rfl⟩
theorem lk_8_12_368_195_0_12 : pv_sem pv_prog [8, 12, 368, 195, 0, 12] := fun own M q h1 h2 h3 => by cases h1; cases h2; cases h3; exact ⟨Or.inl (pv_mT 1723 (by decide +kernel)), (pv_mT 1725 (by decide +kernel)), (pv_mT 117 (by decide +kernel)), by decide +kernel, rfl⟩
theorem lk_8_12_386_201_4_12 : pv_sem pv_prog [8, 12, 386, 201, 4, 12] := fun own M q h1 h2 h3 => by cases h1; cases h2; cases h3; exact ⟨Or.inl (pv_mT 1762 (by decide +kernel)), (pv_mT 1764 (by decide +kernel)), (pv_mT 124 (by decide +kernel)), by decide +kernel, rfl⟩
theorem lk_8_12_397_205_3_12 : pv_sem pv_prog [8, 12, 397, 205, 3, 12] := fun own M q h1 h2 h3 => by cases h1; cases h2; cases h3; exact ⟨Or.inl (pv_mT 1778 (by decide +kernel)), (pv_mT 1780 (by decide +kernel)), (pv_mT 127 (by decide +kernel)), by decide +kernel, rfl⟩
theorem lk_8_12_418_212_2_12 : pv_sem pv_prog [8, 12, 418, 212, 2, 12] := fun own M q h1 h2 h3 => by cases h1; cases h2; cases h3; exact ⟨Or.inl (pv_mT 1809 (by decide +kernel)), (pv_mT 1811 (by decide +kernel)), (pv_mT 129 (by decide +kernel)), by decide +kernel, rfl⟩
theorem lk_8_12_426_218_2_12 : pv_sem pv_prog [8, 12, 426, 218, 2, 12] := fun own M q h1 h2 h3 => by cases h1; cases h2; cases h3; exact ⟨Or.inl (pv_mT 1829 (by decide +kernel)), (pv_mT 1831 (by decide +kernel)), (pv_mT 130 (by decide +kernel)), by decide +kernel, rfl⟩
theorem lk_8_12_449_225_2_12 : pv_sem pv_prog [8, 12, 449, 225, 2, 12] := fun own M q h1 h2 h3 => by cases h1; cases h2; cases h3; exact ⟨Or.inl (pv_mT 1857 (by decide +kernel)), (pv_mT 1859 (by decide +kernel)), (pv_mT 133 (by decide +kernel)), by decide +kernel, rfl⟩
theorem lk_8_12_480_239_2_12 : pv_sem pv_prog [8, 12, 480, 239, 2, 12] := fun own M q h1 h2 h3 => by cases h1; cases h2; cases h3; exact ⟨Or.inl (pv_mT 1907 (by decide +kernel)), (pv_mT 1909 (by decide +kernel)), (pv_mT 139 (by decide +kernel)), by decide +kernel, rfl⟩
theorem lk_8_12_483_240_2_12 : pv_sem pv_prog [8, 12, 483, 240, 2, 12] := fun own M q h1 h2 h3 => by cases h1; cases h2; cases h3; exact ⟨Or.inl (pv_mT 1911 (by decide +kernel)), (pv_mT 1913 (by decide +kernel)), (pv_mT 140 (by decide +kernel)), by decide +kernel, rfl⟩
theorem lk_8_12_492_246_1_12 : pv_sem pv_prog [8, 12, 492, 246, 1, 12] := fun own M q h1 h2 h3 => by cases h1; cases h2; cases h3; exact ⟨Or.inl (pv_mT 1942 (by decide +kernel)), (pv_mT 1944 (by decide +kernel)), (pv_mT 144 (by decide +kernel)), by decide +kernel, rfl⟩
theorem lk_0_0_15_0_1 : pv_sem pv_prog [0, 0, 15, 0, 1] := fun own q h1 h2 => by cases h1; cases h2; exact Or.inl (pv_mT 267 (by decide +kernel))
theorem lk_0_0_21_0_3 : pv_sem pv_prog [0, 0, 21, 0, 3] := fun own q h1 h2 => by cases h1; cases h2; exact Or.inl (pv_mT 273 (by decide +kernel))
theorem lk_0_0_24_0_4 : pv_sem pv_prog [0, 0, 24, 0, 4] := fun own q h1 h2 => by cases h1; cases h2; exact Or.inl (pv_mT 275 (by decide +kernel))
theorem lk_0_0_27_0_5 : pv_sem pv_prog [0, 0, 27, 0, 5] := fun own q h1 h2 => by cases h1; cases h2; exact Or.inl (pv_mT 277 (by decide +kernel))
theorem lk_0_0_30_0_6 : pv_sem pv_prog [0, 0, 30, 0, 6] := fun own q h1 h2 => by cases h1; cases h2; exact Or.inl (pv_mT 279 (by decide +kernel))
theorem lk_0_1_72_3_2 : pv_sem pv_prog [0, 1, 72, 3, 2] := fun own q h1 h2 => by cases h1; cases h2; exact Or.inr ⟨"CliffGarden", pv_mN 194 (by decide +kernel)⟩
theorem lk_0_1_75_3_1 : pv_sem pv_prog [0, 1, 75, 3, 1] := fun own q h1 h2 => by cases h1; cases h2; exact Or.inr ⟨"CliffGarden", pv_mN 191 (by decide +kernel)⟩
theorem lk_0_1_78_3_3 : pv_sem pv_prog [0, 1, 78, 3, 3] := fun own q h1 h2 => by cases h1; cases h2; exact Or.inr ⟨"CliffGarden", pv_mN 197 (by decide +kernel)⟩
theorem lk_0_1_81_3_8 : pv_sem pv_prog [0, 1, 81, 3, 8] := fun own q h1 h2 => by cases h1; cases h2; exact Or.inr ⟨"CliffGarden", pv_mN 213 (by decide +kernel)⟩
theorem lk_0_1_84_0_8 : pv_sem pv_prog [0, 1, 84, 0, 8] := fun own q h1 h2 => by cases h1; cases h2; exact Or.inr ⟨"CliffGarden", pv_mN 283 (by decide +kernel)⟩
theorem lk_0_1_90_0_1 : pv_sem pv_prog [0, 1, 90, 0, 1] := fun own q h1 h2 => by cases h1; cases h2; exact Or.inr ⟨"CliffGarden", pv_mN 269 (by decide +kernel)⟩
theorem lk_0_1_96_3_5 : pv_sem pv_prog [0, 1, 96, 3, 5] := fun own q h1 h2 => by cases h1; cases h2; exact Or.inr ⟨"CliffGarden", pv_mN 203 (by decide +kernel)⟩
theorem lk_0_1_99_3_6 : pv_sem pv_prog [0, 1, 99, 3, 6] := fun own q h1 h2 => by cases h1; cases h2; exact Or.inr ⟨"CliffGarden", pv_mN 207 (by decide +kernel)⟩
theorem lk_0_1_105_3_9 : pv_sem pv_prog [0, 1, 105, 3, 9] := fun own q h1 h2 => by cases h1; cases h2; exact Or.inr ⟨"CliffGarden", pv_mN 216 (by decide +kernel)⟩
theorem lk_0_1_109_2_1 : pv_sem pv_prog [0, 1, 109, 2, 1] := fun own q h1 h2 => by cases h1; cases h2; exact Or.inr ⟨"CliffGarden", pv_mN 313 (by decide +kernel)⟩
theorem lk_0_1_110_2_2 : pv_sem pv_prog [0, 1, 110, 2, 2] := fun own q h1 h2 => by cases h1; cases h2; exact Or.inr ⟨"CliffGarden", pv_mN 316 (by decide +kernel)⟩
theorem lk_0_1_111_2_3 : pv_sem pv_prog [0, 1, 111, 2, 3] := fun own q h1 h2 => by cases h1; cases h2; exact Or.inr ⟨"CliffGarden", pv_mN 319 (by decide +kernel)⟩
theorem lk_0_1_114_2_4 : pv_sem pv_prog [0, 1, 114, 2, 4] := fun own q h1 h2 => by cases h1; cases h2; exact Or.inr ⟨"CliffGarden", pv_mN 321 (by decide +kernel)⟩
theorem lk_0_1_115_2_5 : pv_sem pv_prog [0, 1, 115, 2, 5] := fun own q h1 h2 => by cases h1; cases h2; exact Or.inr ⟨"CliffGarden", pv_mN 323 (by decide +kernel)⟩
theorem lk_0_2_21_2_3 : pv_sem pv_prog [0, 2, 21, 2, 3] := fun own q h1 h2 => by cases h1; cases h2; exact Or.inl (pv_mT 318 (by decide +kernel))
theorem lk_0_2_25_2_4 : pv_sem pv_prog [0, 2, 25, 2, 4] := fun own q h1 h2 => by cases h1; cases h2; exact Or.inl (pv_mT 320 (by decide +kernel))
theorem lk_0_2_28_2_5 : pv_sem pv_prog [0, 2, 28, 2, 5] := fun own q h1 h2 => by cases h1; cases h2; exact Or.inl (pv_mT 322 (by decide +kernel))
theorem lk_0_2_31_2_6 : pv_sem pv_prog [0, 2, 31, 2, 6] := fun own q h1 h2 => by cases h1; cases h2; exact Or.inl (pv_mT 325 (by decide +kernel))
theorem lk_0_2_44_3_5 : pv_sem pv_prog [0, 2, 44, 3, 5] := fun own q h1 h2 => by cases h1; cases h2; exact Or.inr ⟨"CliffGarden", pv_mN 202 (by decide +kernel)⟩
theorem lk_0_2_47_3_6 : pv_sem pv_prog [0, 2, 47, 3, 6] := fun own q h1 h2 => by cases h1; cases h2; exact Or.inr ⟨"CliffGarden", pv_mN 206 (by decide +kernel)⟩
theorem lk_0_2_52_3_9 : pv_sem pv_prog [0, 2, 52, 3, 9] := fun own q h1 h2 => by cases h1; cases h2; exact Or.inr ⟨"CliffGarden", pv_mN 215 (by decide +kernel)⟩
theorem lk_0_3_18_3_3 : pv_sem pv_prog [0, 3, 18, 3, 3] := fun own q h1 h2 => by cases h1; cases h2; exact Or.inl (pv_mT 195 (by decide +kernel))
theorem lk_0_3_21_3_4 : pv_sem pv_prog [0, 3, 21, 3, 4] := fun own q h1 h2 => by cases h1; cases h2; exact Or.inl (pv_mT 198 (by decide +kernel))
theorem lk_0_3_46_3_12 : pv_sem pv_prog [0, 3, 46, 3, 12] := fun own q h1 h2 => by cases h1; cases h2; exact Or.inl (pv_mT 223 (by decide +kernel))
theorem lk_0_4_28_4_1 : pv_sem pv_prog [0, 4, 28, 4, 1] := fun own q h1 h2 => by cases h1; cases h2; exact Or.inl (pv_mT 542 (by decide +kernel))
theorem lk_0_4_45_3_1 : pv_sem pv_prog [0, 4, 45, 3, 1] := fun own q h1 h2 => by cases h1; cases h2; exact Or.inr ⟨"CliffGarden", pv_mN 189 (by decide +kernel)⟩
theorem lk_0_4_66_3_11 : pv_sem pv_prog [0, 4, 66, 3, 11] := fun own q h1 h2 => by cases h1; cases h2; exact Or.inr ⟨"CliffGarden", pv_mN 221 (by decide +kernel)⟩
theorem lk_0_4_76_3_12 : pv_sem pv_prog [0, 4, 76, 3, 12] := fun own q h1 h2 => by cases h1; cases h2; exact Or.inr ⟨"CliffGarden", pv_mN 224 (by decide +kernel)⟩
theorem lk_0_4_79_0_2 : pv_sem pv_prog [0, 4, 79, 0, 2] := fun own q h1 h2 => by cases h1; cases h2; exact Or.inr ⟨"CliffGarden", pv_mN 271 (by decide +kernel)⟩
theorem lk_0_5_49_9_0 : pv_sem pv_prog [0, 5, 49, 9, 0] := fun own q h1 h2 => by cases h1; cases h2; exact Or.inr ⟨"CliffGarden", pv_mN 474 (by decide +kernel)⟩
theorem lk_0_5_68_7_2 : pv_sem pv_prog [0, 5, 68, 7, 2] := fun own q h1 h2 => by cases h1; cases h2; exact Or.inr ⟨"CliffGarden", pv_mN 373 (by decide +kernel)⟩
theorem lk_0_5_71_7_3 : pv_sem pv_prog [0, 5, 71, 7, 3] := fun own q h1 h2 => by cases h1; cases h2; exact Or.inr ⟨"CliffGarden", pv_mN 375 (by decide +kernel)⟩
theorem lk_0_5_77_7_4 : pv_sem pv_prog [0, 5, 77, 7, 4] := fun own q h1 h2 => by cases h1; cases h2; exact Or.inr ⟨"CliffGarden", pv_mN 377 (by decide +kernel)⟩
theorem lk_0_5_83_7_5 : pv_sem pv_prog [0, 5, 83, 7, 5] := fun own q h1 h2 => by cases h1; cases h2; exact Or.inr ⟨"CliffGarden", pv_mN 379 (by decide +kernel)⟩
theorem lk_0_7_16_7_2 : pv_sem pv_prog [0, 7, 16, 7, 2] := fun own q h1 h2 => by cases h1; cases h2; exact Or.inl (pv_mT 372 (by decide +kernel))
theorem lk_0_7_19_7_3 : pv_sem pv_prog [0, 7, 19, 7, 3] := fun own q h1 h2 => by cases h1; cases h2; exact Or.inl (pv_mT 374 (by decide +kernel))
theorem lk_0_7_25_7_5 : pv_sem pv_prog [0, 7, 25, 7, 5] := fun own q h1 h2 => by cases h1; cases h2; exact Or.inl (pv_mT 378 (by decide +kernel))
theorem lk_0_7_35_7_7 : pv_sem pv_prog [0, 7, 35, 7, 7] := fun own q h1 h2 => by cases h1; cases h2; exact Or.inl (pv_mT 382 (by decide +kernel))
theorem lk_0_10_37_10_1 : pv_sem pv_prog [0, 10, 37, 10, 1] := fun own q h1 h2 => by cases h1; cases h2; exact Or.inl (pv_mT 432 (by decide +kernel))
theorem lk_0_10_69_3_4 : pv_sem pv_prog [0, 10, 69, 3, 4] := fun own q h1 h2 => by cases h1; cases h2; exact Or.inr ⟨"CliffGarden", pv_mN 199 (by decide +kernel)⟩
theorem lk_0_11_58_11_6 : pv_sem pv_prog [0, 11, 58, 11, 6] := fun own q h1 h2 => by cases h1; cases h2; exact Or.inl (pv_mT 596 (by decide +kernel))
theorem lk_0_11_118_3_3 : pv_sem pv_prog [0, 11, 118, 3, 3] := fun own q h1 h2 => by cases h1; cases h2; exact Or.inr ⟨"CliffGarden", pv_mN 196 (by decide +kernel)⟩
theorem lk_0_11_121_3_4 : pv_sem pv_prog [0, 11, 121, 3, 4] := fun own q h1 h2 => by cases h1; cases h2; exact Or.inr ⟨"CliffGarden", pv_mN 200 (by decide +kernel)⟩
theorem lk_0_11_163_0_1 : pv_sem pv_prog [0, 11, 163, 0, 1] := fun own q h1 h2 => by cases h1; cases h2; exact Or.inr ⟨"CliffGarden", pv_mN 268 (by decide +kernel)⟩
theorem lk_0_11_169_0_5 : pv_sem pv_prog [0, 11, 169, 0, 5] := fun own q h1 h2 => by cases h1; cases h2; exact Or.inr ⟨"CliffGarden", pv_mN 278 (by decide +kernel)⟩
theorem lk_0_11_284_8_2 : pv_sem pv_prog [0, 11, 284, 8, 2] := fun own q h1 h2 => by cases h1; cases h2; exact Or.inr ⟨"CliffGarden", pv_mN 576 (by decide +kernel)⟩
theorem lk_0_11_287_8_3 : pv_sem pv_prog [0, 11, 287, 8, 3] := fun own q h1 h2 => by cases h1; cases h2; exact Or.inr ⟨"CliffGarden", pv_mN 578 (by decide +kernel)⟩
theorem lk_0_11_290_3_5 : pv_sem pv_prog [0, 11, 290, 3, 5] := fun own q h1 h2 => by cases h1; cases h2; exact Or.inr ⟨"CliffGarden", pv_mN 204 (by decide +kernel)⟩
theorem lk_0_11_304_4_7 : pv_sem pv_prog [0, 11, 304, 4, 7] := fun own q h1 h2 => by cases h1; cases h2; exact Or.inr ⟨"CliffGarden", pv_mN 549 (by decide +kernel)⟩
theorem lk_0_11_319_10_10 : pv_sem pv_prog [0, 11, 319, 10, 10] := fun own q h1 h2 => by cases h1; cases h2; exact Or.inr ⟨"CliffGarden", pv_mN 443 (by decide +kernel)⟩
theorem lk_0_11_348_2_9 : pv_sem pv_prog [0, 11, 348, 2, 9] := fun own q h1 h2 => by cases h1; cases h2; exact Or.inr ⟨"CliffGarden", pv_mN 331 (by decide +kernel)⟩
theorem lk_0_11_351_7_7 : pv_sem pv_prog [0, 11, 351, 7, 7] := fun own q h1 h2 => by cases h1; cases h2; exact Or.inr ⟨"CliffGarden", pv_mN 383 (by decide +kernel)⟩
theorem lk_0_11_364_0_3 : pv_sem pv_prog [0, 11, 364, 0, 3] := fun own q h1 h2 => by cases h1; cases h2; exact Or.inr ⟨"CliffGarden", pv_mN 274 (by decide +kernel)⟩
theorem lk_0_11_395_2_5 : pv_sem pv_prog [0, 11, 395, 2, 5] := fun own q h1 h2 => by cases h1; cases h2; exact Or.inr ⟨"CliffGarden", pv_mN 324 (by decide +kernel)⟩
theorem lk_0_11_408_2_1 : pv_sem pv_prog [0, 11, 408, 2, 1] := fun own q h1 h2 => by cases h1; cases h2; exact Or.inr ⟨"CliffGarden", pv_mN 314 (by decide +kernel)⟩
theorem lk_0_11_409_0_4 : pv_sem pv_prog [0, 11, 409, 0, 4] := fun own q h1 h2 => by cases h1; cases h2; exact Or.inr ⟨"CliffGarden", pv_mN 276 (by decide +kernel)⟩
theorem lk_1_0_9_0_0 : pv_sem pv_prog [1, 0, 9, 0, 0] := fun own q h1 h2 => by cases h1; cases h2; exact ⟨(pv_mT 265 (by decide +kernel)), rfl⟩
theorem lk_1_0_15_0_1 : pv_sem pv_prog [1, 0, 15, 0, 1] := fun own q h1 h2 => by cases h1; cases h2; exact ⟨(pv_mT 267 (by decide +kernel)), rfl⟩
theorem lk_1_0_18_0_2 : pv_sem pv_prog [1, 0, 18, 0, 2] := fun own q h1 h2 => by cases h1; cases h2; exact ⟨(pv_mT 270 (by decide +kernel)), rfl⟩
theorem lk_1_0_21_0_3 : pv_sem pv_prog [1, 0, 21, 0, 3] := fun own q h1 h2 => by cases h1; cases h2; exact ⟨(pv_mT 273 (by decide +kernel)), rfl⟩
theorem lk_1_0_24_0_4 : pv_sem pv_prog [1, 0, 24, 0, 4] := fun own q h1 h2 => by cases h1; cases h2; exact ⟨(pv_mT 275 (by decide +kernel)), rfl⟩
theorem lk_1_0_27_0_5 : pv_sem pv_prog [1, 0, 27, 0, 5] := fun own q h1 h2 => by cases h1; cases h2; exact ⟨(pv_mT 277 (by decide +kernel)), rfl⟩
theorem lk_1_0_30_0_6 : pv_sem pv_prog [1, 0, 30, 0, 6] := fun own q h1 h2 => by cases h1; cases h2; exact ⟨(pv_mT 279 (by decide +kernel)), rfl⟩
theorem lk_1_0_33_0_7 : pv_sem pv_prog [1, 0, 33, 0, 7] := fun own q h1 h2 => by cases h1; cases h2; exact ⟨(pv_mT 281 (by decide +kernel)), rfl⟩
theorem lk_1_1_11_1_3 : pv_sem pv_prog [1, 1, 11, 1, 3] := fun own q h1 h2 => by cases h1; cases h2; exact ⟨(pv_mT 411 (by decide +kernel)), rfl⟩
theorem lk_1_1_22_1_0 : pv_sem pv_prog [1, 1, 22, 1, 0] := fun own q h1 h2 => by cases h1; cases h2; exact ⟨(pv_mT 408 (by decide +kernel)), rfl⟩
theorem lk_1_1_26_1_1 : pv_sem pv_prog [1, 1, 26, 1, 1] := fun own q h1 h2 => by cases h1; cases h2; exact ⟨(pv_mT 409 (by decide +kernel)), rfl⟩
theorem lk_1_1_30_1_2 : pv_sem pv_prog [1, 1, 30, 1, 2] := fun own q h1 h2 => by cases h1; cases h2; exact ⟨(pv_mT 410 (by decide +kernel)), rfl⟩
theorem lk_1_2_11_2_0 : pv_sem pv_prog [1, 2, 11, 2, 0] := fun own q h1 h2 => by cases h1; cases h2; exact ⟨(pv_mT 310 (by decide +kernel)), rfl⟩
theorem lk_1_2_15_2_1 : pv_sem pv_prog [1, 2, 15, 2, 1] := fun own q h1 h2 => by cases h1; cases h2; exact ⟨(pv_mT 312 (by decide +kernel)), rfl⟩
theorem lk_1_2_18_2_2 : pv_sem pv_prog [1, 2, 18, 2, 2] := fun own q h1 h2 => by cases h1; cases h2; exact ⟨(pv_mT 315 (by decide +kernel)), rfl⟩
theorem lk_1_2_21_2_3 : pv_sem pv_prog [1, 2, 21, 2, 3] := fun own q h1 h2 => by cases h1; cases h2; exact ⟨(pv_mT 318 (by decide +kernel)), rfl⟩
theorem lk_1_2_25_2_4 : pv_sem pv_prog [1, 2, 25, 2, 4] := fun own q h1 h2 => by cases h1; cases h2; exact ⟨(pv_mT 320 (by decide +kernel)), rfl⟩
theorem lk_1_2_28_2_5 : pv_sem pv_prog [1, 2, 28, 2, 5] := fun own q h1 h2 => by cases h1; cases h2; exact ⟨(pv_mT 322 (by decide +kernel)), rfl⟩
theorem lk_1_2_31_2_6 : pv_sem pv_prog [1, 2, 31, 2, 6] := fun own q h1 h2 => by cases h1; cases h2; exact ⟨(pv_mT 325 (by decide +kernel)), rfl⟩
theorem lk_1_2_34_2_7 : pv_sem pv_prog [1, 2, 34, 2, 7] := fun own q h1 h2 => by cases h1; cases h2; exact ⟨(pv_mT 327 (by decide +kernel)), rfl⟩
theorem lk_1_2_37_2_8 : pv_sem pv_prog [1, 2, 37, 2, 8] := fun own q h1 h2 => by cases h1; cases h2; exact ⟨(pv_mT 329 (by decide +kernel)), rfl⟩
theorem lk_1_3_9_3_1 : pv_sem pv_prog [1, 3, 9, 3, 1] := fun own q h1 h2 => by cases h1; cases h2; exact ⟨(pv_mT 188 (by decide +kernel)), rfl⟩
theorem lk_1_3_15_3_2 : pv_sem pv_prog [1, 3, 15, 3, 2] := fun own q h1 h2 => by cases h1; cases h2; exact ⟨(pv_mT 192 (by decide +kernel)), rfl⟩
theorem lk_1_3_18_3_3 : pv_sem pv_prog [1, 3, 18, 3, 3] := fun own q h1 h2 => by cases h1; cases h2; exact ⟨(pv_mT 195 (by decide +kernel)), rfl⟩
theorem lk_1_3_21_3_4 : pv_sem pv_prog [1, 3, 21, 3, 4] := fun own q h1 h2 => by cases h1; cases h2; exact ⟨(pv_mT 198 (by decide +kernel)), rfl⟩
theorem lk_1_3_24_3_5 : pv_sem pv_prog [1, 3, 24, 3, 5] := fun own q h1 h2 => by cases h1; cases h2; exact ⟨(pv_mT 201 (by decide +kernel)), rfl⟩
theorem lk_1_3_27_3_6 : pv_sem pv_prog [1, 3, 27, 3, 6] := fun own q h1 h2 => by cases h1; cases h2; exact ⟨(pv_mT 205 (by decide +kernel)), rfl⟩
theorem lk_1_3_30_3_7 : pv_sem pv_prog [1, 3, 30, 3, 7] := fun own q h1 h2 => by cases h1; cases h2; exact ⟨(pv_mT 209 (by decide +kernel)), rfl⟩
theorem lk_1_3_33_3_8 : pv_sem pv_prog [1, 3, 33, 3, 8] := fun own q h1 h2 => by cases h1; cases h2; exact ⟨(pv_mT 211 (by decide +kernel)), rfl⟩
theorem lk_1_3_36_3_9 : pv_sem pv_prog [1, 3, 36, 3, 9] := fun own q h1 h2 => by cases h1; cases h2; exact ⟨(pv_mT 214 (by decide +kernel)), rfl⟩
theorem lk_1_3_40_3_10 : pv_sem pv_prog [1, 3, 40, 3, 10] := fun own q h1 h2 => by cases h1; cases h2; exact ⟨(pv_mT 218 (by decide +kernel)), rfl⟩
theorem lk_1_3_43_3_11 : pv_sem pv_prog [1, 3, 43, 3, 11] := fun own q h1 h2 => by cases h1; cases h2; exact ⟨(pv_mT 220 (by decide +kernel)), rfl⟩
theorem lk_1_3_46_3_12 : pv_sem pv_prog [1, 3, 46, 3, 12] := fun own q h1 h2 => by cases h1; cases h2; exact ⟨(pv_mT 223 (by decide +kernel)), rfl⟩
theorem lk_1_3_49_3_13 : pv_sem pv_prog [1, 3, 49, 3, 13] := fun own q h1 h2 => by cases h1; cases h2; exact ⟨(pv_mT 226 (by decide +kernel)), rfl⟩
theorem lk_1_4_9_4_2 : pv_sem pv_prog [1, 4, 9, 4, 2] := fun own q h1 h2 => by cases h1; cases h2; exact ⟨(pv_mT 543 (by decide +kernel)), rfl⟩
theorem lk_1_4_15_4_3 : pv_sem pv_prog [1, 4, 15, 4, 3] := fun own q h1 h2 => by cases h1; cases h2; exact ⟨(pv_mT 544 (by decide +kernel)), rfl⟩
theorem lk_1_4_18_4_4 : pv_sem pv_prog [1, 4, 18, 4, 4] := fun own q h1 h2 => by cases h1; cases h2; exact ⟨(pv_mT 545 (by decide +kernel)), rfl⟩
theorem lk_1_4_21_4_5 : pv_sem pv_prog [1, 4, 21, 4, 5] := fun own q h1 h2 => by cases h1; cases h2; exact ⟨(pv_mT 546 (by decide +kernel)), rfl⟩
theorem lk_1_4_24_4_0 : pv_sem pv_prog [1, 4, 24, 4, 0] := fun own q h1 h2 => by cases h1; cases h2; exact ⟨(pv_mT 541 (by decide +kernel)), rfl⟩
theorem lk_1_4_28_4_1 : pv_sem pv_prog [1, 4, 28, 4, 1] := fun own q h1 h2 => by cases h1; cases h2; exact ⟨(pv_mT 542 (by decide +kernel)), rfl⟩
theorem lk_1_6_11_6_0 : pv_sem pv_prog [1, 6, 11, 6, 0] := fun own q h1 h2 => by cases h1; cases h2; exact ⟨(pv_mT 510 (by decide +kernel)), rfl⟩
theorem lk_1_6_15_6_1 : pv_sem pv_prog [1, 6, 15, 6, 1] := fun own q h1 h2 => by cases h1; cases h2; exact ⟨(pv_mT 511 (by decide +kernel)), rfl⟩
theorem lk_1_6_18_6_2 : pv_sem pv_prog [1, 6, 18, 6, 2] := fun own q h1 h2 => by cases h1; cases h2; exact ⟨(pv_mT 512 (by decide +kernel)), rfl⟩
theorem lk_1_6_21_6_3 : pv_sem pv_prog [1, 6, 21, 6, 3] := fun own q h1 h2 => by cases h1; cases h2; exact ⟨(pv_mT 513 (by decide +kernel)), rfl⟩
theorem lk_1_6_24_6_4 : pv_sem pv_prog [1, 6, 24, 6, 4] := fun own q h1 h2 => by cases h1; cases h2; exact ⟨(pv_mT 514 (by decide +kernel)), rfl⟩
theorem lk_1_6_27_6_5 : pv_sem pv_prog [1, 6, 27, 6, 5] := fun own q h1 h2 => by cases h1; cases h2; exact ⟨(pv_mT 515 (by decide +kernel)), rfl⟩
theorem lk_1_6_30_6_6 : pv_sem pv_prog [1, 6, 30, 6, 6] := fun own q h1 h2 => by cases h1; cases h2; exact ⟨(pv_mT 516 (by decide +kernel)), rfl⟩
theorem lk_1_7_9_7_0 : pv_sem pv_prog [1, 7, 9, 7, 0] := fun own q h1 h2 => by cases h1; cases h2; exact ⟨(pv_mT 369 (by decide +kernel)), rfl⟩
theorem lk_1_7_13_7_1 : pv_sem pv_prog [1, 7, 13, 7, 1] := fun own q h1 h2 => by cases h1; cases h2; exact ⟨(pv_mT 370 (by decide +kernel)), rfl⟩
theorem lk_1_7_16_7_2 : pv_sem pv_prog [1, 7, 16, 7, 2] := fun own q h1 h2 => by cases h1; cases h2; exact ⟨(pv_mT 372 (by decide +kernel)), rfl⟩
theorem lk_1_7_19_7_3 : pv_sem pv_prog [1, 7, 19, 7, 3] := fun own q h1 h2 => by cases h1; cases h2; exact ⟨(pv_mT 374 (by decide +kernel)), rfl⟩
theorem lk_1_7_22_7_4 : pv_sem pv_prog [1, 7, 22, 7, 4] := fun own q h1 h2 => by cases h1; cases h2; exact ⟨(pv_mT 376 (by decide +kernel)), rfl⟩
theorem lk_1_7_25_7_5 : pv_sem pv_prog [1, 7, 25, 7, 5] := fun own q h1 h2 => by cases h1; cases h2; exact ⟨(pv_mT 378 (by decide +kernel)), rfl⟩
theorem lk_1_7_28_7_6 : pv_sem pv_prog [1, 7, 28, 7, 6] := fun own q h1 h2 => by cases h1; cases h2; exact ⟨(pv_mT 380 (by decide +kernel)), rfl⟩
theorem lk_1_8_11_8_0 : pv_sem pv_prog [1, 8, 11, 8, 0] := fun own q h1 h2 => by cases h1; cases h2; exact ⟨(pv_mT 573 (by decide +kernel)), rfl⟩
theorem lk_1_8_15_8_1 : pv_sem pv_prog [1, 8, 15, 8, 1] := fun own q h1 h2 => by cases h1; cases h2; exact ⟨(pv_mT 574 (by decide +kernel)), rfl⟩
theorem lk_1_9_9_9_0 : pv_sem pv_prog [1, 9, 9, 9, 0] := fun own q h1 h2 => by cases h1; cases h2; exact ⟨(pv_mT 473 (by decide +kernel)), rfl⟩
theorem lk_1_10_9_10_2 : pv_sem pv_prog [1, 10, 9, 10, 2] := fun own q h1 h2 => by cases h1; cases h2; exact ⟨(pv_mT 433 (by decide +kernel)), rfl⟩
theorem lk_1_10_15_10_3 : pv_sem pv_prog [1, 10, 15, 10, 3] := fun own q h1 h2 => by cases h1; cases h2; exact ⟨(pv_mT 435 (by decide +kernel)), rfl⟩
theorem lk_1_10_18_10_4 : pv_sem pv_prog [1, 10, 18, 10, 4] := fun own q h1 h2 => by cases h1; cases h2; exact ⟨(pv_mT 436 (by decide +kernel)), rfl⟩
theorem lk_1_10_21_10_5 : pv_sem pv_prog [1, 10, 21, 10, 5] := fun own q h1 h2 => by cases h1; cases h2; exact ⟨(pv_mT 437 (by decide +kernel)), rfl⟩
theorem lk_1_10_24_10_6 : pv_sem pv_prog [1, 10, 24, 10, 6] := fun own q h1 h2 => by cases h1; cases h2; exact ⟨(pv_mT 438 (by decide +kernel)), rfl⟩
theorem lk_1_10_27_10_7 : pv_sem pv_prog [1, 10, 27, 10, 7] := fun own q h1 h2 => by cases h1; cases h2; exact ⟨(pv_mT 439 (by decide +kernel)), rfl⟩
theorem lk_1_10_30_10_8 : pv_sem pv_prog [1, 10, 30, 10, 8] := fun own q h1 h2 => by cases h1; cases h2; exact ⟨(pv_mT 440 (by decide +kernel)), rfl⟩
theorem lk_1_10_33_10_0 : pv_sem pv_prog [1, 10, 33, 10, 0] := fun own q h1 h2 => by cases h1; cases h2; exact ⟨(pv_mT 431 (by decide +kernel)), rfl⟩
theorem lk_1_10_37_10_1 : pv_sem pv_prog [1, 10, 37, 10, 1] := fun own q h1 h2 => by cases h1; cases h2; exact ⟨(pv_mT 432 (by decide +kernel)), rfl⟩
theorem lk_1_11_12_11_0 : pv_sem pv_prog [1, 11, 12, 11, 0] := fun own q h1 h2 => by cases h1; cases h2; exact ⟨(pv_mT 590 (by decide +kernel)), rfl⟩
theorem lk_1_11_19_11_1 : pv_sem pv_prog [1, 11, 19, 11, 1] := fun own q h1 h2 => by cases h1; cases h2; exact ⟨(pv_mT 591 (by decide +kernel)), rfl⟩
theorem lk_1_11_26_11_2 : pv_sem pv_prog [1, 11, 26, 11, 2] := fun own q h1 h2 => by cases h1; cases h2; exact ⟨(pv_mT 592 (by decide +kernel)), rfl⟩
theorem lk_1_11_35_11_3 : pv_sem pv_prog [1, 11, 35, 11, 3] := fun own q h1 h2 => by cases h1; cases h2; exact ⟨(pv_mT 593 (by decide +kernel)), rfl⟩
theorem lk_1_11_44_11_4 : pv_sem pv_prog [1, 11, 44, 11, 4] := fun own q h1 h2 => by cases h1; cases h2; exact ⟨(pv_mT 594 (by decide +kernel)), rfl⟩
theorem lk_1_11_51_11_5 : pv_sem pv_prog [1, 11, 51, 11, 5] := fun own q h1 h2 => by cases h1; cases h2; exact ⟨(pv_mT 595 (by decide +kernel)), rfl⟩
theorem lk_1_11_58_11_6 : pv_sem pv_prog [1, 11, 58, 11, 6] := fun own q h1 h2 => by cases h1; cases h2; exact ⟨(pv_mT 596 (by decide +kernel)), rfl⟩
theorem lk_1_11_65_11_7 : pv_sem pv_prog [1, 11, 65, 11, 7] := fun own q h1 h2 => by cases h1; cases h2; exact ⟨(pv_mT 597 (by decide +kernel)), rfl⟩
theorem lk_1_11_74_11_8 : pv_sem pv_prog [1, 11, 74, 11, 8] := fun own q h1 h2 => by cases h1; cases h2; exact ⟨(pv_mT 598 (by decide +kernel)), rfl⟩
theorem lk_1_11_81_11_9 : pv_sem pv_prog [1, 11, 81, 11, 9] := fun own q h1 h2 => by cases h1; cases h2; exact ⟨(pv_mT 599 (by decide +kernel)), rfl⟩
theorem lk_1_12_7_12_4 : pv_sem pv_prog [1, 12, 7, 12, 4] := fun own q h1 h2 => by cases h1; cases h2; exact ⟨(pv_mT 1308 (by decide +kernel)), rfl⟩
theorem lk_1_12_13_12_5 : pv_sem pv_prog [1, 12, 13, 12, 5] := fun own q h1 h2 => by cases h1; cases h2; exact ⟨(pv_mT 1309 (by decide +kernel)), rfl⟩
theorem lk_1_12_16_12_6 : pv_sem pv_prog [1, 12, 16, 12, 6] := fun own q h1 h2 => by cases h1; cases h2; exact ⟨(pv_mT 1310 (by decide +kernel)), rfl⟩
theorem lk_1_12_20_12_7 : pv_sem pv_prog [1, 12, 20, 12, 7] := fun own q h1 h2 => by cases h1; cases h2; exact ⟨(pv_mT 1311 (by decide +kernel)), rfl⟩
theorem lk_1_12_23_12_8 : pv_sem pv_prog [1, 12, 23, 12, 8] := fun own q h1 h2 => by cases h1; cases h2; exact ⟨(pv_mT 1312 (by decide +kernel)), rfl⟩
theorem lk_1_12_26_12_9 : pv_sem pv_prog [1, 12, 26, 12, 9] := fun own q h1 h2 => by cases h1; cases h2; exact ⟨(pv_mT 1313 (by decide +kernel)), rfl⟩
theorem lk_1_12_29_12_10 : pv_sem pv_prog [1, 12, 29, 12, 10] := fun own q h1 h2 => by cases h1; cases h2; exact ⟨(pv_mT 1314 (by decide +kernel)), rfl⟩
theorem lk_1_12_32_12_11 : pv_sem pv_prog [1, 12, 32, 12, 11] := fun own q h1 h2 => by cases h1; cases h2; exact ⟨(pv_mT 1315 (by decide +kernel)), rfl⟩
theorem lk_1_12_35_12_12 : pv_sem pv_prog [1, 12, 35, 12, 12] := fun own q h1 h2 => by cases h1; cases h2; exact ⟨(pv_mT 1316 (by decide +kernel)), rfl⟩
theorem lk_1_12_38_12_13 : pv_sem pv_prog [1, 12, 38, 12, 13] := fun own q h1 h2 => by cases h1; cases h2; exact ⟨(pv_mT 1317 (by decide +kernel)), rfl⟩
theorem lk_1_12_41_12_14 : pv_sem pv_prog [1, 12, 41, 12, 14] := fun own q h1 h2 => by cases h1; cases h2; exact ⟨(pv_mT 1318 (by decide +kernel)), rfl⟩
theorem lk_1_12_44_12_15 : pv_sem pv_prog [1, 12, 44, 12, 15] := fun own q h1 h2 => by cases h1; cases h2; exact ⟨(pv_mT 1319 (by decide +kernel)), rfl⟩
theorem lk_1_12_47_12_16 : pv_sem pv_prog [1, 12, 47, 12, 16] := fun own q h1 h2 => by cases h1; cases h2; exact ⟨(pv_mT 1320 (by decide +kernel)), rfl⟩
theorem lk_1_12_50_12_17 : pv_sem pv_prog [1, 12, 50, 12, 17] := fun own q h1 h2 => by cases h1; cases h2; exact ⟨(pv_mT 1321 (by decide +kernel)), rfl⟩
theorem lk_1_12_53_12_18 : pv_sem pv_prog [1, 12, 53, 12, 18] := fun own q h1 h2 => by cases h1; cases h2; exact ⟨(pv_mT 1322 (by decide +kernel)), rfl⟩
theorem lk_1_12_56_12_19 : pv_sem pv_prog [1, 12, 56, 12, 19] := fun own q h1 h2 => by cases h1; cases h2; exact ⟨(pv_mT 1323 (by decide +kernel)), rfl⟩
theorem lk_1_12_59_12_20 : pv_sem pv_prog [1, 12, 59, 12, 20] := fun own q h1 h2 => by cases h1; cases h2; exact ⟨(pv_mT 1324 (by decide +kernel)), rfl⟩
theorem lk_1_12_62_12_21 : pv_sem pv_prog [1, 12, 62, 12, 21] := fun own q h1 h2 => by cases h1; cases h2; exact ⟨(pv_mT 1325 (by decide +kernel)), rfl⟩
theorem lk_1_12_65_12_22 : pv_sem pv_prog [1, 12, 65, 12, 22] := fun own q h1 h2 => by cases h1; cases h2; exact ⟨(pv_mT 1326 (by decide +kernel)), rfl⟩
theorem lk_1_12_68_12_23 : pv_sem pv_prog [1, 12, 68, 12, 23] := fun own q h1 h2 => by cases h1; cases h2; exact ⟨(pv_mT 1327 (by decide +kernel)), rfl⟩
theorem lk_1_12_71_12_24 : pv_sem pv_prog [1, 12, 71, 12, 24] := fun own q h1 h2 => by cases h1; cases h2; exact ⟨(pv_mT 1328 (by decide +kernel)), rfl⟩
theorem lk_1_12_74_12_25 : pv_sem pv_prog [1, 12, 74, 12, 25] := fun own q h1 h2 => by cases h1; cases h2; exact ⟨(pv_mT 1329 (by decide +kernel)), rfl⟩
theorem lk_1_12_78_12_36 : pv_sem pv_prog [1, 12, 78, 12, 36] := fun own q h1 h2 => by cases h1; cases h2; exact ⟨(pv_mT 1340 (by decide +kernel)), rfl⟩
theorem lk_1_12_81_12_37 : pv_sem pv_prog [1, 12, 81, 12, 37] := fun own q h1 h2 => by cases h1; cases h2; exact ⟨(pv_mT 1341 (by decide +kernel)), rfl⟩
theorem lk_1_12_84_12_38 : pv_sem pv_prog [1, 12, 84, 12, 38] := fun own q h1 h2 => by cases h1; cases h2; exact ⟨(pv_mT 1342 (by decide +kernel)), rfl⟩
theorem lk_1_12_87_12_39 : pv_sem pv_prog [1, 12, 87, 12, 39] := fun own q h1 h2 => by cases h1; cases h2; exact ⟨(pv_mT 1343 (by decide +kernel)), rfl⟩
theorem lk_1_12_90_12_40 : pv_sem pv_prog [1, 12, 90, 12, 40] := fun own q h1 h2 => by cases h1; cases h2; exact ⟨(pv_mT 1344 (by decide +kernel)), rfl⟩
theorem lk_1_12_93_12_41 : pv_sem pv_prog [1, 12, 93, 12, 41] := fun own q h1 h2 => by cases h1; cases h2; exact ⟨(pv_mT 1345 (by decide +kernel)), rfl⟩
theorem lk_1_12_96_12_42 : pv_sem pv_prog [1, 12, 96, 12, 42] := fun own q h1 h2 => by cases h1; cases h2; exact ⟨(pv_mT 1346 (by decide +kernel)), rfl⟩
theorem lk_1_12_99_12_43 : pv_sem pv_prog [1, 12, 99, 12, 43] := fun own q h1 h2 => by cases h1; cases h2; exact ⟨(pv_mT 1347 (by decide +kernel)), rfl⟩
theorem lk_1_12_102_12_44 : pv_sem pv_prog [1, 12, 102, 12, 44] := fun own q h1 h2 => by cases h1; cases h2; exact ⟨(pv_mT 1348 (by decide +kernel)), rfl⟩
theorem lk_1_12_105_12_45 : pv_sem pv_prog [1, 12, 105, 12, 45] := fun own q h1 h2 => by cases h1; cases h2; exact ⟨(pv_mT 1349 (by decide +kernel)), rfl⟩
theorem lk_1_12_108_12_46 : pv_sem pv_prog [1, 12, 108, 12, 46] := fun own q h1 h2 => by cases h1; cases h2; exact ⟨(pv_mT 1350 (by decide +kernel)), rfl⟩
theorem lk_1_12_111_12_47 : pv_sem pv_prog [1, 12, 111, 12, 47] := fun own q h1 h2 => by cases h1; cases h2; exact ⟨(pv_mT 1351 (by decide +kernel)), rfl⟩
theorem lk_1_12_114_12_48 : pv_sem pv_prog [1, 12, 114, 12, 48] := fun own q h1 h2 => by cases h1; cases h2; exact ⟨(pv_mT 1352 (by decide +kernel)), rfl⟩
theorem lk_1_12_117_12_49 : pv_sem pv_prog [1, 12, 117, 12, 49] := fun own q h1 h2 => by cases h1; cases h2; exact ⟨(pv_mT 1353 (by decide +kernel)), rfl⟩
theorem lk_1_12_120_12_50 : pv_sem pv_prog [1, 12, 120, 12, 50] := fun own q h1 h2 => by cases h1; cases h2; exact ⟨(pv_mT 1354 (by decide +kernel)), rfl⟩
theorem lk_1_12_123_12_51 : pv_sem pv_prog [1, 12, 123, 12, 51] := fun own q h1 h2 => by cases h1; cases h2; exact ⟨(pv_mT 1355 (by decide +kernel)), rfl⟩
theorem lk_1_12_126_12_52 : pv_sem pv_prog [1, 12, 126, 12, 52] := fun own q h1 h2 => by cases h1; cases h2; exact ⟨(pv_mT 1356 (by decide +kernel)), rfl⟩
theorem lk_1_12_129_12_53 : pv_sem pv_prog [1, 12, 129, 12, 53] := fun own q h1 h2 => by cases h1; cases h2; exact ⟨(pv_mT 1357 (by decide +kernel)), rfl⟩
theorem lk_1_12_132_12_54 : pv_sem pv_prog [1, 12, 132, 12, 54] := fun own q h1 h2 => by cases h1; cases h2; exact ⟨(pv_mT 1358 (by decide +kernel)), rfl⟩
theorem lk_1_12_135_12_55 : pv_sem pv_prog [1, 12, 135, 12, 55] := fun own q h1 h2 => by cases h1; cases h2; exact ⟨(pv_mT 1359 (by decide +kernel)), rfl⟩
theorem lk_1_12_138_12_56 : pv_sem pv_prog [1, 12, 138, 12, 56] := fun own q h1 h2 => by cases h1; cases h2; exact ⟨(pv_mT 1360 (by decide +kernel)), rfl⟩
theorem lk_1_12_141_12_57 : pv_sem pv_prog [1, 12, 141, 12, 57] := fun own q h1 h2 => by cases h1; cases h2; exact ⟨(pv_mT 1361 (by decide +kernel)), rfl⟩
theorem lk_1_12_144_12_58 : pv_sem pv_prog [1, 12, 144, 12, 58] := fun own q h1 h2 => by cases h1; cases h2; exact ⟨(pv_mT 1362 (by decide +kernel)), rfl⟩
theorem lk_1_12_147_12_59 : pv_sem pv_prog [1, 12, 147, 12, 59] := fun own q h1 h2 => by cases h1; cases h2; exact ⟨(pv_mT 1363 (by decide +kernel)), rfl⟩
theorem lk_1_12_150_12_60 : pv_sem pv_prog [1, 12, 150, 12, 60] := fun own q h1 h2 => by cases h1; cases h2; exact ⟨(pv_mT 1364 (by decide +kernel)), rfl⟩
theorem lk_1_12_153_12_61 : pv_sem pv_prog [1, 12, 153, 12, 61] := fun own q h1 h2 => by cases h1; cases h2; exact ⟨(pv_mT 1365 (by decide +kernel)), rfl⟩
theorem lk_1_12_156_12_62 : pv_sem pv_prog [1, 12, 156, 12, 62] := fun own q h1 h2 => by cases h1; cases h2; exact ⟨(pv_mT 1366 (by decide +kernel)), rfl⟩
theorem lk_1_12_159_12_64 : pv_sem pv_prog [1, 12, 159, 12, 64] := fun own q h1 h2 => by cases h1; cases h2; exact ⟨(pv_mT 1368 (by decide +kernel)), rfl⟩
theorem lk_1_12_162_12_65 : pv_sem pv_prog [1, 12, 162, 12, 65] := fun own q h1 h2 => by cases h1; cases h2; exact ⟨(pv_mT 1369 (by decide +kernel)), rfl⟩
theorem lk_1_12_165_12_66 : pv_sem pv_prog [1, 12, 165, 12, 66] := fun own q h1 h2 => by cases h1; cases h2; exact ⟨(pv_mT 1370 (by decide +kernel)), rfl⟩
theorem lk_1_12_168_12_67 : pv_sem pv_prog [1, 12, 168, 12, 67] := fun own q h1 h2 => by cases h1; cases h2; exact ⟨(pv_mT 1371 (by decide +kernel)), rfl⟩
theorem lk_1_12_171_12_68 : pv_sem pv_prog [1, 12, 171, 12, 68] := fun own q h1 h2 => by cases h1; cases h2; exact ⟨(pv_mT 1372 (by decide +kernel)), rfl⟩
theorem lk_1_12_175_12_69 : pv_sem pv_prog [1, 12, 175, 12, 69] := fun own q h1 h2 => by cases h1; cases h2; exact ⟨(pv_mT 1373 (by decide +kernel)), rfl⟩
theorem lk_1_12_178_12_70 : pv_sem pv_prog [1, 12, 178, 12, 70] := fun own q h1 h2 => by cases h1; cases h2; exact ⟨(pv_mT 1374 (by decide +kernel)), rfl⟩
theorem lk_1_12_181_12_71 : pv_sem pv_prog [1, 12, 181, 12, 71] := fun own q h1 h2 => by cases h1; cases h2; exact ⟨(pv_mT 1375 (by decide +kernel)), rfl⟩
theorem lk_1_12_184_12_72 : pv_sem pv_prog [1, 12, 184, 12, 72] := fun own q h1 h2 => by cases h1; cases h2; exact ⟨(pv_mT 1376 (by decide +kernel)), rfl⟩
theorem lk_1_12_187_12_73 : pv_sem pv_prog [1, 12, 187, 12, 73] := fun own q h1 h2 => by cases h1; cases h2; exact ⟨(pv_mT 1377 (by decide +kernel)), rfl⟩
theorem lk_1_12_190_12_74 : pv_sem pv_prog [1, 12, 190, 12, 74] := fun own q h1 h2 => by cases h1; cases h2; exact ⟨(pv_mT 1378 (by decide +kernel)), rfl⟩
theorem lk_1_12_193_12_75 : pv_sem pv_prog [1, 12, 193, 12, 75] := fun own q h1 h2 => by cases h1; cases h2; exact ⟨(pv_mT 1379 (by decide +kernel)), rfl⟩
theorem lk_1_12_196_12_76 : pv_sem pv_prog [1, 12, 196, 12, 76] := fun own q h1 h2 => by cases h1; cases h2; exact ⟨(pv_mT 1380 (by decide +kernel)), rfl⟩
theorem lk_1_12_199_12_77 : pv_sem pv_prog [1, 12, 199, 12, 77] := fun own q h1 h2 => by cases h1; cases h2; exact ⟨(pv_mT 1381 (by decide +kernel)), rfl⟩
theorem lk_2_12_225_65535 : pv_sem pv_prog [2, 12, 225, 65535] := fun own h1 => by cases h1; exact (pv_mT 1589 (by decide +kernel))
theorem lk_2_12_411_65536 : pv_sem pv_prog [2, 12, 411, 65536] := fun own h1 => by cases h1; exact (pv_mT 1795 (by decide +kernel))
theorem lk_2_14_265_1431655765 : pv_sem pv_prog [2, 14, 265, 1431655765] := fun own h1 => by cases h1; exact (pv_mT 1234 (by decide +kernel))
theorem lk_2_14_267_252645135 : pv_sem pv_prog [2, 14, 267, 252645135] := fun own h1 => by cases h1; exact (pv_mT 1236 (by decide +kernel))
theorem lk_3_12_421_281474976710656 : pv_sem pv_prog [3, 12, 421, 281474976710656] := fun own h1 => by cases h1; exact (pv_mT 1841 (by decide +kernel))
theorem lk_3_15_314_6148914691236517205 : pv_sem pv_prog [3, 15, 314, 6148914691236517205] := fun own h1 => by cases h1; exact (pv_mT 1110 (by decide +kernel))
theorem lk_3_15_318_1085102592571150095 : pv_sem pv_prog [3, 15, 318, 1085102592571150095] := fun own h1 => by cases h1; exact (pv_mT 1112 (by decide +kernel))
theorem lk_4_1_9_7 : pv_sem pv_prog [4, 1, 9, 7] := fun own q h1 h2 => by cases h1; cases h2; exact ⟨(pv_mT 363 (by decide +kernel)), (pv_mT 364 (by decide +kernel)), (pv_mT 152 (by decide +kernel))⟩
theorem lk_4_11_9_3 : pv_sem pv_prog [4, 11, 9, 3] := fun own q h1 h2 => by cases h1; cases h2; exact ⟨(pv_mT 177 (by decide +kernel)), (pv_mT 178 (by decide +kernel)), (pv_mT 147 (by decide +kernel))⟩
theorem lk_4_11_16_0 : pv_sem pv_prog [4, 11, 16, 0] := fun own q h1 h2 => by cases h1; cases h2; exact ⟨(pv_mT 258 (by decide +kernel)), (pv_mT 259 (by decide +kernel)), (pv_mT 149 (by decide +kernel))⟩
theorem lk_4_11_23_2 : pv_sem pv_prog [4, 11, 23, 2] := fun own q h1 h2 => by cases h1; cases h2; exact ⟨(pv_mT 304 (by decide +kernel)), (pv_mT 305 (by decide +kernel)), (pv_mT 150 (by decide +kernel))⟩
theorem lk_4_11_30_1 : pv_sem pv_prog [4, 11, 30, 1] := fun own q h1 h2 => by cases h1; cases h2; exact ⟨(pv_mT 357 (by decide +kernel)), (pv_mT 358 (by decide +kernel)), (pv_mT 151 (by decide +kernel))⟩
theorem lk_4_11_39_10 : pv_sem pv_prog [4, 11, 39, 10] := fun own q h1 h2 => by cases h1; cases h2; exact ⟨(pv_mT 425 (by decide +kernel)), (pv_mT 426 (by decide +kernel)), (pv_mT 153 (by decide +kernel))⟩
theorem lk_4_11_48_9 : pv_sem pv_prog [4, 11, 48, 9] := fun own q h1 h2 => by cases h1; cases h2; exact ⟨(pv_mT 467 (by decide +kernel)), (pv_mT 468 (by decide +kernel)), (pv_mT 154 (by decide +kernel))⟩
theorem lk_4_11_55_5 : pv_sem pv_prog [4, 11, 55, 5] := fun own q h1 h2 => by cases h1; cases h2; exact ⟨(pv_mT 482 (by decide +kernel)), (pv_mT 483 (by decide +kernel)), (pv_mT 155 (by decide +kernel))⟩
theorem lk_4_11_62_6 : pv_sem pv_prog [4, 11, 62, 6] := fun own q h1 h2 => by cases h1; cases h2; exact ⟨(pv_mT 504 (by decide +kernel)), (pv_mT 505 (by decide +kernel)), (pv_mT 156 (by decide +kernel))⟩
theorem lk_4_11_69_4 : pv_sem pv_prog [4, 11, 69, 4] := fun own q h1 h2 => by cases h1; cases h2; exact ⟨(pv_mT 535 (by decide +kernel)), (pv_mT 536 (by decide +kernel)), (pv_mT 157 (by decide +kernel))⟩
theorem lk_4_11_78_8 : pv_sem pv_prog [4, 11, 78, 8] := fun own q h1 h2 => by cases h1; cases h2; exact ⟨(pv_mT 567 (by decide +kernel)), (pv_mT 568 (by decide +kernel)), (pv_mT 158 (by decide +kernel))⟩
theorem lk_4_11_85_7 : pv_sem pv_prog [4, 11, 85, 7] := fun own q h1 h2 => by cases h1; cases h2; exact ⟨(pv_mT 588 (by decide +kernel)), (pv_mT 364 (by decide +kernel)), (pv_mT 152 (by decide +kernel))⟩
theorem lk_5_0_3 : pv_sem pv_prog [5, 0, 3] := fun own h1 => by cases h1; exact ⟨(pv_mT 263 (by decide +kernel)), (pv_mT 175 (by decide +kernel)), (pv_mT 176 (by decide +kernel))⟩
theorem lk_5_1_3 : pv_sem pv_prog [5, 1, 3] := fun own h1 => by cases h1; exact ⟨(pv_mT 362 (by decide +kernel)), (pv_mT 175 (by decide +kernel)), (pv_mT 176 (by decide +kernel))⟩
theorem lk_5_2_3 : pv_sem pv_prog [5, 2, 3] := fun own h1 => by cases h1; exact ⟨(pv_mT 309 (by decide +kernel)), (pv_mT 175 (by decide +kernel)), (pv_mT 176 (by decide +kernel))⟩
theorem lk_5_3_3 : pv_sem pv_prog [5, 3, 3] := fun own h1 => by cases h1; exact ⟨(pv_mT 182 (by decide +kernel)), (pv_mT 175 (by decide +kernel)), (pv_mT 176 (by decide +kernel))⟩
theorem lk_5_4_3 : pv_sem pv_prog [5, 4, 3] := fun own h1 => by cases h1; exact ⟨(pv_mT 540 (by decide +kernel)), (pv_mT 175 (by decide +kernel)), (pv_mT 176 (by decide +kernel))⟩
theorem lk_5_5_1 : pv_sem pv_prog [5, 5, 1] := fun own h1 => by cases h1; exact ⟨(pv_mT 487 (by decide +kernel)), (pv_mT 175 (by decide +kernel)), (pv_mT 176 (by decide +kernel))⟩
theorem lk_5_6_5 : pv_sem pv_prog [5, 6, 5] := fun own h1 => by cases h1; exact ⟨(pv_mT 509 (by decide +kernel)), (pv_mT 175 (by decide +kernel)), (pv_mT 176 (by decide +kernel))⟩
theorem lk_5_7_1 : pv_sem pv_prog [5, 7, 1] := fun own h1 => by cases h1; exact ⟨(pv_mT 368 (by decide +kernel)), (pv_mT 175 (by decide +kernel)), (pv_mT 176 (by decide +kernel))⟩
theorem lk_5_8_3 : pv_sem pv_prog [5, 8, 3] := fun own h1 => by cases h1; exact ⟨(pv_mT 572 (by decide +kernel)), (pv_mT 175 (by decide +kernel)), (pv_mT 176 (by decide +kernel))⟩
theorem lk_5_9_1 : pv_sem pv_prog [5, 9, 1] := fun own h1 => by cases h1; exact ⟨(pv_mT 472 (by decide +kernel)), (pv_mT 175 (by decide +kernel)), (pv_mT 176 (by decide +kernel))⟩
theorem lk_5_10_3 : pv_sem pv_prog [5, 10, 3] := fun own h1 => by cases h1; exact ⟨(pv_mT 430 (by decide +kernel)), (pv_mT 175 (by decide +kernel)), (pv_mT 176 (by decide +kernel))⟩
theorem lk_5_11_3 : pv_sem pv_prog [5, 11, 3] := fun own h1 => by cases h1; exact ⟨(pv_mT 174 (by decide +kernel)), (pv_mT 175 (by decide +kernel)), (pv_mT 176 (by decide +kernel))⟩
theorem lk_5_12_1 : pv_sem pv_prog [5, 12, 1] := fun own h1 => by cases h1; exact ⟨(pv_mT 1303 (by decide +kernel)), (pv_mT 175 (by decide +kernel)), (pv_mT 176 (by decide +kernel))⟩
theorem lk_6_4_60_3 : pv_sem pv_prog [6, 4, 60, 3] := fun own h1 => by cases h1; exact ⟨(pv_mT 1208 (by decide +kernel)), (pv_mT 942 (by decide +kernel)), (pv_mT 166 (by decide +kernel)), (pv_mT 943 (by decide +kernel))⟩
theorem lk_6_5_98_1 : pv_sem pv_prog [6, 5, 98, 1] := fun own h1 => by cases h1; exact ⟨(pv_mT 868 (by decide +kernel)), (pv_mT 755 (by decide +kernel)), (pv_mT 162 (by decide +kernel)), (pv_mT 756 (by decide +kernel))⟩
theorem lk_6_6_73_1 : pv_sem pv_prog [6, 6, 73, 1] := fun own h1 => by cases h1; exact ⟨(pv_mT 1148 (by decide +kernel)), (pv_mT 755 (by decide +kernel)), (pv_mT 162 (by decide +kernel)), (pv_mT 756 (by decide +kernel))⟩
theorem lk_6_7_42_1 : pv_sem pv_prog [6, 7, 42, 1] := fun own h1 => by cases h1; exact ⟨(pv_mT 920 (by decide +kernel)), (pv_mT 755 (by decide +kernel)), (pv_mT 162 (by decide +kernel)), (pv_mT 756 (by decide +kernel))⟩
theorem lk_6_8_32_3 : pv_sem pv_prog [6, 8, 32, 3] := fun own h1 => by cases h1; exact ⟨(pv_mT 1179 (by decide +kernel)), (pv_mT 942 (by decide +kernel)), (pv_mT 166 (by decide +kernel)), (pv_mT 943 (by decide +kernel))⟩
theorem lk_6_8_38_0 : pv_sem pv_prog [6, 8, 38, 0] := fun own h1 => by cases h1; exact ⟨(pv_mT 1180 (by decide +kernel)), (pv_mT 752 (by decide +kernel)), (pv_mT 162 (by decide +kernel)), (pv_mT 753 (by decide +kernel))⟩
theorem lk_6_8_44_1 : pv_sem pv_prog [6, 8, 44, 1] := fun own h1 => by cases h1; exact ⟨(pv_mT 1181 (by decide +kernel)), (pv_mT 755 (by decide +kernel)), (pv_mT 162 (by decide +kernel)), (pv_mT 756 (by decide +kernel))⟩
theorem lk_6_11_370_0 : pv_sem pv_prog [6, 11, 370, 0] := fun own h1 => by cases h1; exact ⟨(pv_mT 1039 (by decide +kernel)), (pv_mT 752 (by decide +kernel)), (pv_mT 162 (by decide +kernel)), (pv_mT 753 (by decide +kernel))⟩
theorem lk_7_1_47_20_1 : pv_sem pv_prog [7, 1, 47, 20, 1] := fun own q h1 h2 => by cases h1; cases h2; exact ⟨Or.inr ⟨"CliffGarden", pv_mN 972 (by decide +kernel)⟩, (pv_mT 883 (by decide +kernel)), by decide +kernel⟩
theorem lk_7_1_66_250_2 : pv_sem pv_prog [7, 1, 66, 250, 2] := fun own q h1 h2 => by cases h1; cases h2; exact ⟨Or.inl (pv_mT 901 (by decide +kernel)), (pv_mT 184 (by decide +kernel)), by decide +kernel⟩
theorem lk_7_3_66_138_2 : pv_sem pv_prog [7, 3, 66, 138, 2] := fun own q h1 h2 => by cases h1; cases h2; exact ⟨Or.inr ⟨"CliffGarden", pv_mN 673 (by decide +kernel)⟩, (pv_mT 638 (by decide +kernel)), by decide +kernel⟩
theorem lk_7_4_52_142_2 : pv_sem pv_prog [7, 4, 52, 142, 2] := fun own q h1 h2 => by cases h1; cases h2; exact ⟨Or.inr ⟨"CliffGarden", pv_mN 1203 (by decide +kernel)⟩, (pv_mT 1114 (by decide +kernel)), by decide +kernel⟩
theorem lk_7_4_88_138_2 : pv_sem pv_prog [7, 4, 88, 138, 2] := fun own q h1 h2 => by cases h1; cases h2; exact ⟨Or.inr ⟨"CliffGarden", pv_mN 1226 (by decide +kernel)⟩, (pv_mT 638 (by decide +kernel)), by decide +kernel⟩
theorem lk_7_6_37_142_2 : pv_sem pv_prog [7, 6, 37, 142, 2] := fun own q h1 h2 => by cases h1; cases h2; exact ⟨Or.inr ⟨"CliffGarden", pv_mN 1120 (by decide +kernel)⟩, (pv_mT 1114 (by decide +kernel)), by decide +kernel⟩
theorem lk_7_6_51_250_2 : pv_sem pv_prog [7, 6, 51, 250, 2] := fun own q h1 h2 => by cases h1; cases h2; exact ⟨Or.inl (pv_mT 1269 (by decide +kernel)), (pv_mT 184 (by decide +kernel)), by decide +kernel⟩
theorem lk_7_6_76_138_2 : pv_sem pv_prog [7, 6, 76, 138, 2] := fun own q h1 h2 => by cases h1; cases h2; exact ⟨Or.inr ⟨"CliffGarden", pv_mN 1161 (by decide +kernel)⟩, (pv_mT 638 (by decide +kernel)), by decide +kernel⟩
theorem lk_7_7_54_78_3 : pv_sem pv_prog [7, 7, 54, 78, 3] := fun own q h1 h2 => by cases h1; cases h2; exact ⟨Or.inl (pv_mT 917 (by decide +kernel)), (pv_mT 918 (by decide +kernel)), by decide +kernel⟩
theorem lk_7_10_47_250_2 : pv_sem pv_prog [7, 10, 47, 250, 2] := fun own q h1 h2 => by cases h1; cases h2; exact ⟨Or.inl (pv_mT 944 (by decide +kernel)), (pv_mT 184 (by decide +kernel)), by decide +kernel⟩
theorem lk_7_10_106_138_2 : pv_sem pv_prog [7, 10, 106, 138, 2] := fun own q h1 h2 => by cases h1; cases h2; exact ⟨Or.inr ⟨"CliffGarden", pv_mN 1260 (by decide +kernel)⟩, (pv_mT 638 (by decide +kernel)), by decide +kernel⟩
theorem lk_7_11_310_248_1 : pv_sem pv_prog [7, 11, 310, 248, 1] := fun own q h1 h2 => by cases h1; cases h2; exact ⟨Or.inl (pv_mT 1231 (by decide +kernel)), (pv_mT 1232 (by decide +kernel)), by decide +kernel⟩
theorem lk_7_11_382_20_1 : pv_sem pv_prog [7, 11, 382, 20, 1] := fun own q h1 h2 => by cases h1; cases h2; exact ⟨Or.inr ⟨"CliffGarden", pv_mN 1011 (by decide +kernel)⟩, (pv_mT 883 (by decide +kernel)), by decide +kernel⟩
theorem lk_7_12_279_170_1 : pv_sem pv_prog [7, 12, 279, 170, 1] := fun own q h1 h2 => by cases h1; cases h2; exact ⟨Or.inl (pv_mT 1642 (by decide +kernel)), (pv_mT 1643 (by decide +kernel)), by decide +kernel⟩
theorem lk_7_12_286_171_1 : pv_sem pv_prog [7, 12, 286, 171, 1] := fun own q h1 h2 => by cases h1; cases h2; exact ⟨Or.inl (pv_mT 1645 (by decide +kernel)), (pv_mT 1646 (by decide +kernel)), by decide +kernel⟩
theorem lk_7_12_311_181_1 : pv_sem pv_prog [7, 12, 311, 181, 1] := fun own q h1 h2 => by cases h1; cases h2; exact ⟨Or.inl (pv_mT 1610 (by decide +kernel)), (pv_mT 1611 (by decide +kernel)), by decide +kernel⟩
theorem lk_7_12_329_184_3 : pv_sem pv_prog [7, 12, 329, 184, 3] := fun own q h1 h2 => by cases h1; cases h2; exact ⟨Or.inl (pv_mT 1716 (by decide +kernel)), (pv_mT 1717 (by decide +kernel)), by decide +kernel⟩
theorem lk_7_12_446_226_2 : pv_sem pv_prog [7, 12, 446, 226, 2] := fun own q h1 h2 => by cases h1; cases h2; exact ⟨Or.inl (pv_mT 1869 (by decide +kernel)), (pv_mT 1870 (by decide +kernel)), by decide +kernel⟩
theorem lk_7_12_458_228_2 : pv_sem pv_prog [7, 12, 458, 228, 2] := fun own q h1 h2 => by cases h1; cases h2; exact ⟨Or.inl (pv_mT 1873 (by decide +kernel)), (pv_mT 1874 (by decide +kernel)), by decide +kernel⟩
theorem lk_7_12_468_236_1 : pv_sem pv_prog [7, 12, 468, 236, 1] := fun own q h1 h2 => by cases h1; cases h2; exact ⟨Or.inl (pv_mT 1896 (by decide +kernel)), (pv_mT 1897 (by decide +kernel)), by decide +kernel⟩
theorem lk_8_1_53_21_1_3 : pv_sem pv_prog [8, 1, 53, 21, 1, 3] := fun own M q h1 h2 h3 => by cases h1; cases h2; cases h3; exact ⟨Or.inr ⟨"CliffGarden", pv_mN 973 (by decide +kernel)⟩, (pv_mT 642 (by decide +kernel)), (pv_mT 0 (by decide +kernel)), by decide +kernel, rfl⟩
theorem lk_8_1_93_22_1_3 : pv_sem pv_prog [8, 1, 93, 22, 1, 3] := fun own M q h1 h2 h3 => by cases h1; cases h2; cases h3; exact ⟨Or.inr ⟨"CliffGarden", pv_mN 902 (by decide +kernel)⟩, (pv_mT 670 (by decide +kernel)), (pv_mT 4 (by decide +kernel)), by decide +kernel, rfl⟩
theorem lk_8_1_102_23_1_3 : pv_sem pv_prog [8, 1, 102, 23, 1, 3] := fun own M q h1 h2 h3 => by cases h1; cases h2; cases h3; exact ⟨Or.inr ⟨"CliffGarden", pv_mN 903 (by decide +kernel)⟩, (pv_mT 905 (by decide +kernel)), (pv_mT 27 (by decide +kernel)), by decide +kernel, rfl⟩
theorem lk_8_2_48_23_1_3 : pv_sem pv_prog [8, 2, 48, 23, 1, 3] := fun own M q h1 h2 h3 => by cases h1; cases h2; cases h3; exact ⟨Or.inr ⟨"CliffGarden", pv_mN 967 (by decide +kernel)⟩, (pv_mT 905 (by decide +kernel)), (pv_mT 27 (by decide +kernel)), by decide +kernel, rfl⟩
theorem lk_8_3_73_25_3_3 : pv_sem pv_prog [8, 3, 73, 25, 3, 3] := fun own M q h1 h2 h3 => by cases h1; cases h2; cases h3; exact ⟨Or.inl (pv_mT 648 (by decide +kernel)), (pv_mT 650 (by decide +kernel)), (pv_mT 2 (by decide +kernel)), by decide +kernel, rfl⟩
theorem lk_8_3_102_32_2_3 : pv_sem pv_prog [8, 3, 102, 32, 2, 3] := fun own M q h1 h2 h3 => by cases h1; cases h2; cases h3; exact ⟨Or.inl (pv_mT 1050 (by decide +kernel)), (pv_mT 1014 (by decide +kernel)), (pv_mT 47 (by decide +kernel)), by decide +kernel, rfl⟩
theorem lk_8_3_105_31_0_3 : pv_sem pv_prog [8, 3, 105, 31, 0, 3] := fun own M q h1 h2 h3 => by cases h1; cases h2; cases h3; exact ⟨Or.inl (pv_mT 1051 (by decide +kernel)), (pv_mT 1004 (by decide +kernel)), (pv_mT 45 (by decide +kernel)), by decide +kernel, rfl⟩
theorem lk_8_4_39_21_1_3 : pv_sem pv_prog [8, 4, 39, 21, 1, 3] := fun own M q h1 h2 h3 => by cases h1; cases h2; cases h3; exact ⟨Or.inr ⟨"CliffGarden", pv_mN 1198 (by decide +kernel)⟩, (pv_mT 642 (by decide +kernel)), (pv_mT 0 (by decide +kernel)), by decide +kernel, rfl⟩
theorem lk_8_4_48_30_1_3 : pv_sem pv_prog [8, 4, 48, 30, 1, 3] := fun own M q h1 h2 h3 => by cases h1; cases h2; cases h3; exact ⟨Or.inr ⟨"CliffGarden", pv_mN 1199 (by decide +kernel)⟩, (pv_mT 1201 (by decide +kernel)), (pv_mT 73 (by decide +kernel)), by decide +kernel, rfl⟩
theorem lk_8_4_69_40_2_4 : pv_sem pv_prog [8, 4, 69, 40, 2, 4] := fun own M q h1 h2 h3 => by cases h1; cases h2; cases h3; exact ⟨Or.inl (pv_mT 1209 (by decide +kernel)), (pv_mT 1211 (by decide +kernel)), (pv_mT 75 (by decide +kernel)), by decide +kernel, rfl⟩
theorem lk_8_4_84_25_3_3 : pv_sem pv_prog [8, 4, 84, 25, 3, 3] := fun own M q h1 h2 h3 => by cases h1; cases h2; cases h3; exact ⟨Or.inr ⟨"CliffGarden", pv_mN 1221 (by decide +kernel)⟩, (pv_mT 650 (by decide +kernel)), (pv_mT 2 (by decide +kernel)), by decide +kernel, rfl⟩
theorem lk_8_5_35_51_0_5 : pv_sem pv_prog [8, 5, 35, 51, 0, 5] := fun own M q h1 h2 h3 => by cases h1; cases h2; cases h3; exact ⟨Or.inl (pv_mT 711 (by decide +kernel)), (pv_mT 713 (by decide +kernel)), (pv_mT 7 (by decide +kernel)), by decide +kernel, rfl⟩
theorem lk_8_5_111_56_1_5 : pv_sem pv_prog [8, 5, 111, 56, 1, 5] := fun own M q h1 h2 h3 => by cases h1; cases h2; cases h3; exact ⟨Or.inl (pv_mT 859 (by decide +kernel)), (pv_mT 861 (by decide +kernel)), (pv_mT 20 (by decide +kernel)), by decide +kernel, rfl⟩
theorem lk_8_5_129_61_0_5 : pv_sem pv_prog [8, 5, 129, 61, 0, 5] := fun own M q h1 h2 h3 => by cases h1; cases h2; cases h3; exact ⟨Or.inl (pv_mT 836 (by decide +kernel)), (pv_mT 838 (by decide +kernel)), (pv_mT 15 (by decide +kernel)), by decide +kernel, rfl⟩
theorem lk_8_6_60_69_3_6 : pv_sem pv_prog [8, 6, 60, 69, 3, 6] := fun own M q h1 h2 h3 => by cases h1; cases h2; cases h3; exact ⟨Or.inl (pv_mT 1139 (by decide +kernel)), (pv_mT 1141 (by decide +kernel)), (pv_mT 63 (by decide +kernel)), by decide +kernel, rfl⟩
theorem lk_8_6_64_71_1_6 : pv_sem pv_prog [8, 6, 64, 71, 1, 6] := fun own M q h1 h2 h3 => by cases h1; cases h2; cases h3; exact ⟨Or.inl (pv_mT 1149 (by decide +kernel)), (pv_mT 1151 (by decide +kernel)), (pv_mT 65 (by decide +kernel)), by decide +kernel, rfl⟩
theorem lk_8_8_50_82_1_8 : pv_sem pv_prog [8, 8, 50, 82, 1, 8] := fun own M q h1 h2 h3 => by cases h1; cases h2; cases h3; exact ⟨Or.inl (pv_mT 1182 (by decide +kernel)), (pv_mT 1184 (by decide +kernel)), (pv_mT 71 (by decide +kernel)), by decide +kernel, rfl⟩
theorem lk_8_10_65_21_1_3 : pv_sem pv_prog [8, 10, 65, 21, 1, 3] := fun own M q h1 h2 h3 => by cases h1; cases h2; cases h3; exact ⟨Or.inr ⟨"CliffGarden", pv_mN 950 (by decide +kernel)⟩, (pv_mT 642 (by decide +kernel)), (pv_mT 0 (by decide +kernel)), by decide +kernel, rfl⟩
theorem lk_8_10_72_88_3_10 : pv_sem pv_prog [8, 10, 72, 88, 3, 10] := fun own M q h1 h2 h3 => by cases h1; cases h2; cases h3; exact ⟨Or.inl (pv_mT 951 (by decide +kernel)), (pv_mT 953 (by decide +kernel)), (pv_mT 35 (by decide +kernel)), by decide +kernel, rfl⟩
theorem lk_8_10_80_90_1_10 : pv_sem pv_prog [8, 10, 80, 90, 1, 10] := fun own M q h1 h2 h3 => by cases h1; cases h2; cases h3; exact ⟨Or.inl (pv_mT 1241 (by decide +kernel)), (pv_mT 1243 (by decide +kernel)), (pv_mT 80 (by decide +kernel)), by decide +kernel, rfl⟩
theorem lk_8_10_91_22_1_3 : pv_sem pv_prog [8, 10, 91, 22, 1, 3] := fun own M q h1 h2 h3 => by cases h1; cases h2; cases h3; exact ⟨Or.inr ⟨"CliffGarden", pv_mN 1245 (by decide +kernel)⟩, (pv_mT 670 (by decide +kernel)), (pv_mT 4 (by decide +kernel)), by decide +kernel, rfl⟩
theorem lk_8_10_94_4_2_1 : pv_sem pv_prog [8, 10, 94, 4, 2, 1] := fun own M q h1 h2 h3 => by cases h1; cases h2; cases h3; exact ⟨Or.inr ⟨"CliffGarden", pv_mN 1246 (by decide +kernel)⟩, (pv_mT 923 (by decide +kernel)), (pv_mT 30 (by decide +kernel)), by decide +kernel, rfl⟩
theorem lk_8_10_99_92_0_10 : pv_sem pv_prog [8, 10, 99, 92, 0, 10] := fun own M q h1 h2 h3 => by cases h1; cases h2; cases h3; exact ⟨Or.inl (pv_mT 1251 (by decide +kernel)), (pv_mT 1253 (by decide +kernel)), (pv_mT 82 (by decide +kernel)), by decide +kernel, rfl⟩
theorem lk_8_10_102_87_2_10 : pv_sem pv_prog [8, 10, 102, 87, 2, 10] := fun own M q h1 h2 h3 => by cases h1; cases h2; cases h3; exact ⟨Or.inl (pv_mT 1255 (by decide +kernel)), (pv_mT 939 (by decide +kernel)), (pv_mT 33 (by decide +kernel)), by decide +kernel, rfl⟩
theorem lk_8_11_150_25_3_3 : pv_sem pv_prog [8, 11, 150, 25, 3, 3] := fun own M q h1 h2 h3 => by cases h1; cases h2; cases h3; exact ⟨Or.inr ⟨"CliffGarden", pv_mN 674 (by decide +kernel)⟩, (pv_mT 650 (by decide +kernel)), (pv_mT 2 (by decide +kernel)), by decide +kernel, rfl⟩
theorem lk_8_11_182_45_3_5 : pv_sem pv_prog [8, 11, 182, 45, 3, 5] := fun own M q h1 h2 h3 => by cases h1; cases h2; cases h3; exact ⟨Or.inr ⟨"CliffGarden", pv_mN 707 (by decide +kernel)⟩, (pv_mT 709 (by decide +kernel)), (pv_mT 6 (by decide +kernel)), by decide +kernel, rfl⟩
theorem lk_8_11_189_28_2_3 : pv_sem pv_prog [8, 11, 189, 28, 2, 3] := fun own M q h1 h2 h3 => by cases h1; cases h2; cases h3; exact ⟨Or.inr ⟨"CliffGarden", pv_mN 874 (by decide +kernel)⟩, (pv_mT 876 (by decide +kernel)), (pv_mT 22 (by decide +kernel)), by decide +kernel, rfl⟩
theorem lk_8_11_216_129_0_11 : pv_sem pv_prog [8, 11, 216, 129, 0, 11] := fun own M q h1 h2 h3 => by cases h1; cases h2; cases h3; exact ⟨Or.inl (pv_mT 1026 (by decide +kernel)), (pv_mT 1028 (by decide +kernel)), (pv_mT 49 (by decide +kernel)), by decide +kernel, rfl⟩
theorem lk_8_11_219_130_0_11 : pv_sem pv_prog [8, 11, 219, 130, 0, 11] := fun own M q h1 h2 h3 => by cases h1; cases h2; cases h3; exact ⟨Or.inl (pv_mT 1031 (by decide +kernel)), (pv_mT 1033 (by decide +kernel)), (pv_mT 50 (by decide +kernel)), by decide +kernel, rfl⟩
theorem lk_8_11_222_131_0_11 : pv_sem pv_prog [8, 11, 222, 131, 0, 11] := fun own M q h1 h2 h3 => by cases h1; cases h2; cases h3; exact ⟨Or.inl (pv_mT 1035 (by decide +kernel)), (pv_mT 1037 (by decide +kernel)), (pv_mT 51 (by decide +kernel)), by decide +kernel, rfl⟩
theorem lk_8_11_230_34_1_3 : pv_sem pv_prog [8, 11, 230, 34, 1, 3] := fun own M q h1 h2 h3 => by cases h1; cases h2; cases h3; exact ⟨Or.inr ⟨"CliffGarden", pv_mN 1045 (by decide +kernel)⟩, (pv_mT 1047 (by decide +kernel)), (pv_mT 52 (by decide +kernel)), by decide +kernel, rfl⟩
theorem lk_8_11_237_18_2_2 : pv_sem pv_prog [8, 11, 237, 18, 2, 2] := fun own M q h1 h2 h3 => by cases h1; cases h2; cases h3; exact ⟨Or.inr ⟨"CliffGarden", pv_mN 1060 (by decide +kernel)⟩, (pv_mT 1062 (by decide +kernel)), (pv_mT 54 (by decide +kernel)), by decide +kernel, rfl⟩
theorem lk_8_11_248_2_2_0 : pv_sem pv_prog [8, 11, 248, 2, 2, 0] := fun own M q h1 h2 h3 => by cases h1; cases h2; cases h3; exact ⟨Or.inr ⟨"CliffGarden", pv_mN 1088 (by decide +kernel)⟩, (pv_mT 1090 (by decide +kernel)), (pv_mT 57 (by decide +kernel)), by decide +kernel, rfl⟩
theorem lk_8_11_265_64_1_6 : pv_sem pv_prog [8, 11, 265, 64, 1, 6] := fun own M q h1 h2 h3 => by cases h1; cases h2; cases h3; exact ⟨Or.inr ⟨"CliffGarden", pv_mN 1121 (by decide +kernel)⟩, (pv_mT 1123 (by decide +kernel)), (pv_mT 60 (by decide +kernel)), by decide +kernel, rfl⟩
theorem lk_8_11_277_35_1_3 : pv_sem pv_prog [8, 11, 277, 35, 1, 3] := fun own M q h1 h2 h3 => by cases h1; cases h2; cases h3; exact ⟨Or.inr ⟨"CliffGarden", pv_mN 1166 (by decide +kernel)⟩, (pv_mT 1168 (by decide +kernel)), (pv_mT 68 (by decide +kernel)), by decide +kernel, rfl⟩
theorem lk_8_11_280_80_4_8 : pv_sem pv_prog [8, 11, 280, 80, 4, 8] := fun own M q h1 h2 h3 => by cases h1; cases h2; cases h3; exact ⟨Or.inr ⟨"CliffGarden", pv_mN 1170 (by decide +kernel)⟩, (pv_mT 1172 (by decide +kernel)), (pv_mT 69 (by decide +kernel)), by decide +kernel, rfl⟩
theorem lk_8_11_297_38_1_4 : pv_sem pv_prog [8, 11, 297, 38, 1, 4] := fun own M q h1 h2 h3 => by cases h1; cases h2; cases h3; exact ⟨Or.inr ⟨"CliffGarden", pv_mN 1194 (by decide +kernel)⟩, (pv_mT 1196 (by decide +kernel)), (pv_mT 72 (by decide +kernel)), by decide +kernel, rfl⟩
theorem lk_8_11_301_42_0_4 : pv_sem pv_prog [8, 11, 301, 42, 0, 4] := fun own M q h1 h2 h3 => by cases h1; cases h2; cases h3; exact ⟨Or.inr ⟨"CliffGarden", pv_mN 1217 (by decide +kernel)⟩, (pv_mT 1219 (by decide +kernel)), (pv_mT 77 (by decide +kernel)), by decide +kernel, rfl⟩
theorem lk_8_11_307_43_1_4 : pv_sem pv_prog [8, 11, 307, 43, 1, 4] := fun own M q h1 h2 h3 => by cases h1; cases h2; cases h3; exact ⟨Or.inr ⟨"CliffGarden", pv_mN 1222 (by decide +kernel)⟩, (pv_mT 1224 (by decide +kernel)), (pv_mT 78 (by decide +kernel)), by decide +kernel, rfl⟩
theorem lk_8_11_315_89_2_10 : pv_sem pv_prog [8, 11, 315, 89, 2, 10] := fun own M q h1 h2 h3 => by cases h1; cases h2; cases h3; exact ⟨Or.inr ⟨"CliffGarden", pv_mN 1237 (by decide +kernel)⟩, (pv_mT 1239 (by decide +kernel)), (pv_mT 79 (by decide +kernel)), by decide +kernel, rfl⟩
theorem lk_8_11_322_93_1_10 : pv_sem pv_prog [8, 11, 322, 93, 1, 10] := fun own M q h1 h2 h3 => by cases h1; cases h2; cases h3; exact ⟨Or.inr ⟨"CliffGarden", pv_mN 1256 (by decide +kernel)⟩, (pv_mT 1258 (by decide +kernel)), (pv_mT 83 (by decide +kernel)), by decide +kernel, rfl⟩
theorem lk_8_11_325_66_1_6 : pv_sem pv_prog [8, 11, 325, 66, 1, 6] := fun own M q h1 h2 h3 => by cases h1; cases h2; cases h3; exact ⟨Or.inr ⟨"CliffGarden", pv_mN 1265 (by decide +kernel)⟩, (pv_mT 1267 (by decide +kernel)), (pv_mT 84 (by decide +kernel)), by decide +kernel, rfl⟩
theorem lk_8_11_329_36_2_3 : pv_sem pv_prog [8, 11, 329, 36, 2, 3] := fun own M q h1 h2 h3 => by cases h1; cases h2; cases h3; exact ⟨Or.inr ⟨"CliffGarden", pv_mN 1274 (by decide +kernel)⟩, (pv_mT 1276 (by decide +kernel)), (pv_mT 85 (by decide +kernel)), by decide +kernel, rfl⟩
theorem lk_8_11_335_85_1_9 : pv_sem pv_prog [8, 11, 335, 85, 1, 9] := fun own M q h1 h2 h3 => by cases h1; cases h2; cases h3; exact ⟨Or.inr ⟨"CliffGarden", pv_mN 1282 (by decide +kernel)⟩, (pv_mT 1284 (by decide +kernel)), (pv_mT 86 (by decide +kernel)), by decide +kernel, rfl⟩
theorem lk_8_11_354_27_0_3 : pv_sem pv_prog [8, 11, 354, 27, 0, 3] := fun own M q h1 h2 h3 => by cases h1; cases h2; cases h3; exact ⟨Or.inr ⟨"CliffGarden", pv_mN 1290 (by decide +kernel)⟩, (pv_mT 1292 (by decide +kernel)), (pv_mT 87 (by decide +kernel)), by decide +kernel, rfl⟩
theorem lk_8_11_357_127_1_11 : pv_sem pv_prog [8, 11, 357, 127, 1, 11] := fun own M q h1 h2 h3 => by cases h1; cases h2; cases h3; exact ⟨Or.inl (pv_mT 1294 (by decide +kernel)), (pv_mT 1296 (by decide +kernel)), (pv_mT 88 (by decide +kernel)), by decide +kernel, rfl⟩
theorem lk_8_11_360_87_2_10 : pv_sem pv_prog [8, 11, 360, 87, 2, 10] := fun own M q h1 h2 h3 => by cases h1; cases h2; cases h3; exact ⟨Or.inr ⟨"CliffGarden", pv_mN 937 (by decide +kernel)⟩, (pv_mT 939 (by decide +kernel)), (pv_mT 33 (by decide +kernel)), by decide +kernel, rfl⟩
theorem lk_8_11_373_31_0_3 : pv_sem pv_prog [8, 11, 373, 31, 0, 3] := fun own M q h1 h2 h3 => by cases h1; cases h2; cases h3; exact ⟨Or.inr ⟨"CliffGarden", pv_mN 1002 (by decide +kernel)⟩, (pv_mT 1004 (by decide +kernel)), (pv_mT 45 (by decide +kernel)), by decide +kernel, rfl⟩
theorem lk_8_11_376_133_1_11 : pv_sem pv_prog [8, 11, 376, 133, 1, 11] := fun own M q h1 h2 h3 => by cases h1; cases h2; cases h3; exact ⟨Or.inl (pv_mT 1006 (by decide +kernel)), (pv_mT 1008 (by decide +kernel)), (pv_mT 46 (by decide +kernel)), by decide +kernel, rfl⟩
theorem lk_8_11_379_29_1_3 : pv_sem pv_prog [8, 11, 379, 29, 1, 3] := fun own M q h1 h2 h3 => by cases h1; cases h2; cases h3; exact ⟨Or.inr ⟨"CliffGarden", pv_mN 1010 (by decide +kernel)⟩, (pv_mT 880 (by decide +kernel)), (pv_mT 23 (by decide +kernel)), by decide +kernel, rfl⟩
theorem lk_8_11_385_32_2_3 : pv_sem pv_prog [8, 11, 385, 32, 2, 3] := fun own M q h1 h2 h3 => by cases h1; cases h2; cases h3; exact ⟨Or.inr ⟨"CliffGarden", pv_mN 1012 (by decide +kernel)⟩, (pv_mT 1014 (by decide +kernel)), (pv_mT 47 (by decide +kernel)), by decide +kernel, rfl⟩
theorem lk_8_11_388_15_3_2 : pv_sem pv_prog [8, 11, 388, 15, 3, 2] := fun own M q h1 h2 h3 => by cases h1; cases h2; cases h3; exact ⟨Or.inr ⟨"CliffGarden", pv_mN 963 (by decide +kernel)⟩, (pv_mT 965 (by decide +kernel)), (pv_mT 37 (by decide +kernel)), by decide +kernel, rfl⟩
theorem lk_8_11_392_7_1_1 : pv_sem pv_prog [8, 11, 392, 7, 1, 1] := fun own M q h1 h2 h3 => by cases h1; cases h2; cases h3; exact ⟨Or.inr ⟨"CliffGarden", pv_mN 968 (by decide +kernel)⟩, (pv_mT 970 (by decide +kernel)), (pv_mT 38 (by decide +kernel)), by decide +kernel, rfl⟩
theorem lk_8_11_399_8_1_1 : pv_sem pv_prog [8, 11, 399, 8, 1, 1] := fun own M q h1 h2 h3 => by cases h1; cases h2; cases h3; exact ⟨Or.inr ⟨"CliffGarden", pv_mN 978 (by decide +kernel)⟩, (pv_mT 980 (by decide +kernel)), (pv_mT 40 (by decide +kernel)), by decide +kernel, rfl⟩
theorem lk_8_11_402_135_2_11 : pv_sem pv_prog [8, 11, 402, 135, 2, 11] := fun own M q h1 h2 h3 => by cases h1; cases h2; cases h3; exact ⟨Or.inl (pv_mT 986 (by decide +kernel)), (pv_mT 988 (by decide +kernel)), (pv_mT 42 (by decide +kernel)), by decide +kernel, rfl⟩
theorem lk_8_11_405_16_0_2 : pv_sem pv_prog [8, 11, 405, 16, 0, 2] := fun own M q h1 h2 h3 => by cases h1; cases h2; cases h3; exact ⟨Or.inr ⟨"CliffGarden", pv_mN 990 (by decide +kernel)⟩, (pv_mT 992 (by decide +kernel)), (pv_mT 43 (by decide +kernel)), by decide +kernel, rfl⟩
theorem lk_8_11_412_9_2_1 : pv_sem pv_prog [8, 11, 412, 9, 2, 1] := fun own M q h1 h2 h3 => by cases h1; cases h2; cases h3; exact ⟨Or.inr ⟨"CliffGarden", pv_mN 1072 (by decide +kernel)⟩, (pv_mT 1074 (by decide +kernel)), (pv_mT 56 (by decide +kernel)), by decide +kernel, rfl⟩
theorem lk_8_12_276_166_0_12 : pv_sem pv_prog [8, 12, 276, 166, 0, 12] := fun own M q h1 h2 h3 => by cases h1; cases h2; cases h3; exact ⟨Or.inl (pv_mT 1634 (by decide +kernel)), (pv_mT 1636 (by decide +kernel)), (pv_mT 99 (by decide +kernel)), by decide +kernel, rfl⟩
theorem lk_8_12_302_179_0_12 : pv_sem pv_prog [8, 12, 302, 179, 0, 12] := fun own M q h1 h2 h3 => by cases h1; cases h2; cases h3; exact ⟨Or.inl (pv_mT 1664 (by decide +kernel)), (pv_mT 1666 (by decide +kernel)), (pv_mT 105 (by decide +kernel)), by decide +kernel, rfl⟩
theorem lk_8_12_308_178_1_12 : pv_sem pv_prog [8, 12, 308, 178, 1, 12] := fun own M q h1 h2 h3 => by cases h1; cases h2; cases h3; exact ⟨Or.inl (pv_mT 1676 (by decide +kernel)), (pv_mT 1678 (by decide +kernel)), (pv_mT 108 (by decide +kernel)), by decide +kernel, rfl⟩
theorem lk_8_12_317_180_0_12 : pv_sem pv_prog [8, 12, 317, 180, 0, 12] := fun own M q h1 h2 h3 => by cases h1; cases h2; cases h3; exact ⟨Or.inl (pv_mT 1660 (by decide +kernel)), (pv_mT 1662 (by decide +kernel)), (pv_mT 104 (by decide +kernel)), by decide +kernel, rfl⟩
theorem lk_8_12_323_165_1_12 : pv_sem pv_prog [8, 12, 323, 165, 1, 12] := fun own M q h1 h2 h3 => by cases h1; cases h2; cases h3; exact ⟨Or.inl (pv_mT 1680 (by decide +kernel)), (pv_mT 1682 (by decide +kernel)), (pv_mT 109 (by decide +kernel)), by decide +kernel, rfl⟩
theorem lk_8_12_365_194_2_12 : pv_sem pv_prog [8, 12, 365, 194, 2, 12] := fun own M q h1 h2 h3 => by cases h1; cases h2; cases h3; exact ⟨Or.inl (pv_mT 1727 (by decide +kernel)), (pv_mT 1729 (by decide +kernel)), (pv_mT 118 (by decide +kernel)), by decide +kernel, rfl⟩
theorem lk_8_12_371_197_1_12 : pv_sem pv_prog [8, 12, 371, 197, 1, 12] := fun own M q h1 h2 h3 => by cases h1; cases h2; cases h3; exact ⟨Or.inl (pv_mT 1746 (by decide +kernel)), (pv_mT 1748 (by decide +kernel)), (pv_mT 121 (by decide +kernel)), by decide +kernel, rfl⟩
theorem lk_8_12_383_200_1_12 : pv_sem pv_prog [8, 12, 383, 200, 1, 12] := fun own M q h1 h2 h3 => by cases h1; cases h2; cases h3; exact ⟨Or.inl (pv_mT 1758 (by decide +kernel)), (pv_mT 1760 (by decide +kernel)), (pv_mT 123 (by decide +kernel)), by decide +kernel, rfl⟩
theorem lk_8_12_408_196_0_12 : pv_sem pv_prog [8, 12, 408, 196, 0, 12] := fun own M q h1 h2 h3 => by cases h1; cases h2; cases h3; exact ⟨Or.inl (pv_mT 1794 (by decide +kernel)), (pv_mT 1720 (by decide +kernel)), (pv_mT 1721 (by decide +kernel)), by decide +kernel, rfl⟩
theorem lk_8_12_412_207_0_12 : pv_sem pv_prog [8, 12, 412, 207, 0, 12] := fun own M q h1 h2 h3 => by cases h1; cases h2; cases h3; exact ⟨Or.inl (pv_mT 1796 (by decide +kernel)), (pv_mT 1767 (by decide +kernel)), (pv_mT 1768 (by decide +kernel)), by decide +kernel, rfl⟩
theorem lk_8_12_440_222_0_12 : pv_sem pv_prog [8, 12, 440, 222, 0, 12] := fun own M q h1 h2 h3 => by cases h1; cases h2; cases h3; exact ⟨Or.inl (pv_mT 1842 (by decide +kernel)), (pv_mT 1844 (by decide +kernel)), (pv_mT 132 (by decide +kernel)), by decide +kernel, rfl⟩
theorem lk_8_12_443_224_2_12 : pv_sem pv_prog [8, 12, 443, 224, 2, 12] := fun own M q h1 h2 h3 => by cases h1; cases h2; cases h3; exact ⟨Or.inl (pv_mT 1861 (by decide +kernel)), (pv_mT 1863 (by decide +kernel)), (pv_mT 134 (by decide +kernel)), by decide +kernel, rfl⟩
theorem lk_8_12_453_227_0_12 : pv_sem pv_prog [8, 12, 453, 227, 0, 12] := fun own M q h1 h2 h3 => by cases h1; cases h2; cases h3; exact ⟨Or.inl (pv_mT 1865 (by decide +kernel)), (pv_mT 1867 (by decide +kernel)), (pv_mT 135 (by decide +kernel)), by decide +kernel, rfl⟩
theorem lk_8_12_462_232_0_12 : pv_sem pv_prog [8, 12, 462, 232, 0, 12] := fun own M q h1 h2 h3 => by cases h1; cases h2; cases h3; exact ⟨Or.inl (pv_mT 1884 (by decide +kernel)), (pv_mT 1886 (by decide +kernel)), (pv_mT 136 (by decide +kernel)), by decide +kernel, rfl⟩
theorem lk_8_12_465_231_0_12 : pv_sem pv_prog [8, 12, 465, 231, 0, 12] := fun own M q h1 h2 h3 => by cases h1; cases h2; cases h3; exact ⟨Or.inl (pv_mT 1888 (by decide +kernel)), (pv_mT 1890 (by decide +kernel)), (pv_mT 137 (by decide +kernel)), by decide +kernel, rfl⟩
theorem lk_8_12_471_234_0_12 : pv_sem pv_prog [8, 12, 471, 234, 0, 12] := fun own M q h1 h2 h3 => by cases h1; cases h2; cases h3; exact ⟨Or.inl (pv_mT 1899 (by decide +kernel)), (pv_mT 1901 (by decide +kernel)), (pv_mT 138 (by decide +kernel)), by decide +kernel, rfl⟩
theorem lk_8_12_477_238_1_12 : pv_sem pv_prog [8, 12, 477, 238, 1, 12] := fun own M q h1 h2 h3 => by cases h1; cases h2; cases h3; exact ⟨Or.inl (pv_mT 1915 (by decide +kernel)), (pv_mT 1917 (by decide +kernel)), (pv_mT 141 (by decide +kernel)), by decide +kernel, rfl⟩
theorem lk_8_12_486_242_2_12 : pv_sem pv_prog [8, 12, 486, 242, 2, 12] := fun own M q h1 h2 h3 => by cases h1; cases h2; cases h3; exact ⟨Or.inl (pv_mT 1926 (by decide +kernel)), (pv_mT 1928 (by decide +kernel)), (pv_mT 142 (by decide +kernel)), by decide +kernel, rfl⟩
theorem lk_8_12_489_244_1_12 : pv_sem pv_prog [8, 12, 489, 244, 1, 12] := fun own M q h1 h2 h3 => by cases h1; cases h2; cases h3; exact ⟨Or.inl (pv_mT 1934 (by decide +kernel)), (pv_mT 1936 (by decide +kernel)), (pv_mT 143 (by decide +kernel)), by decide +kernel, rfl⟩
theorem lk_9_1_17_74_0 : pv_sem pv_prog [9, 1, 17, 74, 0] := fun own q h1 h2 => by cases h1; cases h2; exact ⟨Or.inr ⟨"CliffGarden", pv_mN 365 (by decide +kernel)⟩, (pv_mT 366 (by decide +kernel)), by decide +kernel, rfl, rfl⟩
theorem lk_9_11_11_19_0 : pv_sem pv_prog [9, 11, 11, 19, 0] := fun own q h1 h2 => by cases h1; cases h2; exact ⟨Or.inr ⟨"CliffGarden", pv_mN 179 (by decide +kernel)⟩, (pv_mT 180 (by decide +kernel)), by decide +kernel, rfl, rfl⟩
theorem lk_9_11_18_0_0 : pv_sem pv_prog [9, 11, 18, 0, 0] := fun own q h1 h2 => by cases h1; cases h2; exact ⟨Or.inr ⟨"CliffGarden", pv_mN 260 (by decide +kernel)⟩, (pv_mT 261 (by decide +kernel)), by decide +kernel, rfl, rfl⟩
theorem lk_9_11_25_14_0 : pv_sem pv_prog [9, 11, 25, 14, 0] := fun own q h1 h2 => by cases h1; cases h2; exact ⟨Or.inr ⟨"CliffGarden", pv_mN 306 (by decide +kernel)⟩, (pv_mT 307 (by decide +kernel)), by decide +kernel, rfl, rfl⟩
theorem lk_9_11_32_3_3 : pv_sem pv_prog [9, 11, 32, 3, 3] := fun own q h1 h2 => by cases h1; cases h2; exact ⟨Or.inr ⟨"CliffGarden", pv_mN 359 (by decide +kernel)⟩, (pv_mT 360 (by decide +kernel)), by decide +kernel, rfl, rfl⟩
theorem lk_9_11_41_86_2 : pv_sem pv_prog [9, 11, 41, 86, 2] := fun own q h1 h2 => by cases h1; cases h2; exact ⟨Or.inr ⟨"CliffGarden", pv_mN 427 (by decide +kernel)⟩, (pv_mT 428 (by decide +kernel)), by decide +kernel, rfl, rfl⟩
theorem lk_9_11_50_83_0 : pv_sem pv_prog [9, 11, 50, 83, 0] := fun own q h1 h2 => by cases h1; cases h2; exact ⟨Or.inr ⟨"CliffGarden", pv_mN 469 (by decide +kernel)⟩, (pv_mT 470 (by decide +kernel)), by decide +kernel, rfl, rfl⟩
theorem lk_9_11_57_44_0 : pv_sem pv_prog [9, 11, 57, 44, 0] := fun own q h1 h2 => by cases h1; cases h2; exact ⟨Or.inr ⟨"CliffGarden", pv_mN 484 (by decide +kernel)⟩, (pv_mT 485 (by decide +kernel)), by decide +kernel, rfl, rfl⟩
theorem lk_9_11_64_62_0 : pv_sem pv_prog [9, 11, 64, 62, 0] := fun own q h1 h2 => by cases h1; cases h2; exact ⟨Or.inr ⟨"CliffGarden", pv_mN 506 (by decide +kernel)⟩, (pv_mT 507 (by decide +kernel)), by decide +kernel, rfl, rfl⟩
theorem lk_9_11_71_37_2 : pv_sem pv_prog [9, 11, 71, 37, 2] := fun own q h1 h2 => by cases h1; cases h2; exact ⟨Or.inr ⟨"CliffGarden", pv_mN 537 (by decide +kernel)⟩, (pv_mT 538 (by decide +kernel)), by decide +kernel, rfl, rfl⟩
theorem lk_9_11_80_79_0 : pv_sem pv_prog [9, 11, 80, 79, 0] := fun own q h1 h2 => by cases h1; cases h2; exact ⟨Or.inr ⟨"CliffGarden", pv_mN 569 (by decide +kernel)⟩, (pv_mT 570 (by decide +kernel)), by decide +kernel, rfl, rfl⟩
theorem lk_9_11_87_74_0 : pv_sem pv_prog [9, 11, 87, 74, 0] := fun own q h1 h2 => by cases h1; cases h2; exact ⟨Or.inr ⟨"CliffGarden", pv_mN 589 (by decide +kernel)⟩, (pv_mT 366 (by decide +kernel)), by decide +kernel, rfl, rfl⟩
end
section
theorem lks_0 : ∀ c ∈ ([[0, 11, 12, 11, 0], [7, 12, 206, 145, 3], [0, 12, 232, 12, 27], [0, 12, 7, 12, 4], [0, 12, 29, 12, 10], [0, 1, 11, 1, 3], [0, 12, 262, 12, 32], [0, 11, 26, 11, 2], [0, 12, 423, 12, 63], [0, 5, 21, 5, 3], [0, 11, 19, 11, 1], [7, 11, 100, 138, 2], [0, 5, 13, 5, 1], [0, 12, 159, 12, 64], [8, 12, 238, 162, 0, 12], [0, 7, 51, 7, 9], [7, 12, 214, 149, 2], [0, 12, 114, 12, 48], [8, 5, 39, 46, 0, 5], [0, 12, 32, 12, 11], [0, 11, 51, 11, 5], [0, 12, 377, 12, 2], [0, 6, 33, 6, 7], [0, 11, 35, 11, 3], [0, 12, 16, 12, 6], [0, 2, 40, 2, 9], [0, 12, 259, 12, 30], [0, 12, 314, 12, 33], [2, 12, 258, 1048576], [0, 1, 22, 1, 0], [0, 11, 65, 11, 7], [0, 12, 226, 12, 26], [0, 12, 255, 12, 31], [7, 11, 154, 139, 1], [8, 12, 245, 164, 2, 12], [0, 3, 24, 3, 5], [0, 6, 11, 6, 0], [0, 7, 28, 7, 6], [0, 12, 38, 12, 13], [0, 12, 111, 12, 47]] : List (List Nat)), pv_sem pv_prog c := List.forall_mem_cons.mpr ⟨lk_0_11_12_11_0, List.forall_mem_cons.mpr ⟨lk_7_12_206_145_3, List.forall_mem_cons.mpr ⟨lk_0_12_232_12_27, List.forall_mem_cons.mpr ⟨lk_0_12_7_12_4, List.forall_mem_cons.mpr ⟨lk_0_12_29_12_10, List.forall_mem_cons.mpr ⟨lk_0_1_11_1_3, List.forall_mem_cons.mpr ⟨lk_0_12_262_12_32, List.forall_mem_cons.mpr ⟨lk_0_11_26_11_2, List.forall_mem_cons.mpr ⟨lk_0_12_423_12_63, List.forall_mem_cons.mpr ⟨lk_0_5_21_5_3, List.forall_mem_cons.mpr ⟨lk_0_11_19_11_1, List.forall_mem_cons.mpr ⟨lk_7_11_100_138_2, List.forall_mem_cons.mpr ⟨lk_0_5_13_5_1, List.forall_mem_cons.mpr ⟨lk_0_12_159_12_64, List.forall_mem_cons.mpr ⟨lk_8_12_238_162_0_12, List.forall_mem_cons.mpr ⟨lk_0_7_51_7_9, List.forall_mem_cons.mpr ⟨lk_7_12_214_149_2, List.forall_mem_cons.mpr ⟨lk_0_12_114_12_48, List.forall_mem_cons.mpr ⟨lk_8_5_39_46_0_5, List.forall_mem_cons.mpr ⟨lk_0_12_32_12_11, List.forall_mem_cons.mpr ⟨lk_0_11_51_11_5, List.forall_mem_cons.mpr ⟨lk_0_12_377_12_2, List.forall_mem_cons.mpr ⟨lk_0_6_33_6_7, List.forall_mem_cons.mpr ⟨lk_0_11_35_11_3, List.forall_mem_cons.mpr ⟨lk_0_12_16_12_6, List.forall_mem_cons.mpr ⟨lk_0_2_40_2_9, List.forall_mem_cons.mpr ⟨lk_0_12_259_12_30, List.forall_mem_cons.mpr ⟨lk_0_12_314_12_33, List.forall_mem_cons.mpr ⟨lk_2_12_258_1048576, List.forall_mem_cons.mpr ⟨lk_0_1_22_1_0, List.forall_mem_cons.mpr ⟨lk_0_11_65_11_7, List.forall_mem_cons.mpr ⟨lk_0_12_226_12_26, List.forall_mem_cons.mpr ⟨lk_0_12_255_12_31, List.forall_mem_cons.mpr ⟨lk_7_11_154_139_1, List.forall_mem_cons.mpr ⟨lk_8_12_245_164_2_12, List.forall_mem_cons.mpr ⟨lk_0_3_24_3_5, List.forall_mem_cons.mpr ⟨lk_0_6_11_6_0, List.forall_mem_cons.mpr ⟨lk_0_7_28_7_6, List.forall_mem_cons.mpr ⟨lk_0_12_38_12_13, List.forall_mem_cons.mpr ⟨lk_0_12_111_12_47, fun _ h => absurd h List.not_mem_nil⟩⟩⟩⟩⟩⟩⟩⟩⟩⟩⟩⟩⟩⟩⟩⟩⟩⟩⟩⟩⟩⟩⟩⟩⟩⟩⟩⟩⟩⟩⟩⟩⟩⟩⟩⟩⟩⟩⟩⟩
theorem lks_1 : ∀ c ∈ ([[0, 12, 162, 12, 65], [8, 11, 103, 21, 1, 3], [8, 11, 147, 22, 1, 3], [0, 1, 30, 1, 2], [0, 10, 9, 10, 2], [0, 12, 44, 12, 15], [8, 12, 265, 169, 0, 12], [0, 1, 18, 1, 4], [0, 4, 32, 4, 6], [0, 5, 32, 7, 8], [0, 10, 76, 10, 9], [0, 11, 176, 9, 1], [0, 12, 13, 12, 5], [0, 12, 65, 12, 22], [0, 12, 117, 12, 49], [0, 12, 175, 12, 69], [8, 5, 53, 47, 1, 5], [8, 5, 104, 75, 2, 7], [8, 12, 356, 191, 3, 12], [0, 3, 9, 3, 1], [0, 3, 58, 3, 0], [0, 4, 24, 4, 0], [0, 8, 47, 8, 2], [0, 11, 44, 11, 4], [0, 11, 92, 11, 11], [0, 11, 247, 2, 7], [0, 12, 35, 12, 12], [0, 12, 56, 12, 19], [0, 12, 81, 12, 37], [0, 12, 135, 12, 55], [0, 12, 199, 12, 77], [0, 12, 202, 12, 1], [8, 1, 38, 76, 3, 7], [8, 3, 70, 22, 1, 3], [8, 12, 268, 167, 2, 12], [8, 12, 359, 193, 3, 12], [0, 3, 27, 3, 6], [0, 4, 15, 4, 3], [0, 5, 27, 7, 7], [0, 7, 31, 7, 8]] : List (List Nat)), pv_sem pv_prog c := List.forall_mem_cons.mpr ⟨lk_0_12_162_12_65, List.forall_mem_cons.mpr ⟨lk_8_11_103_21_1_3, List.forall_mem_cons.mpr ⟨lk_8_11_147_22_1_3, List.forall_mem_cons.mpr ⟨lk_0_1_30_1_2, List.forall_mem_cons.mpr ⟨lk_0_10_9_10_2, List.forall_mem_cons.mpr ⟨lk_0_12_44_12_15, List.forall_mem_cons.mpr ⟨lk_8_12_265_169_0_12, List.forall_mem_cons.mpr ⟨lk_0_1_18_1_4, List.forall_mem_cons.mpr ⟨lk_0_4_32_4_6, List.forall_mem_cons.mpr ⟨lk_0_5_32_7_8, List.forall_mem_cons.mpr ⟨lk_0_10_76_10_9, List.forall_mem_cons.mpr ⟨lk_0_11_176_9_1, List.forall_mem_cons.mpr ⟨lk_0_12_13_12_5, List.forall_mem_cons.mpr ⟨lk_0_12_65_12_22, List.forall_mem_cons.mpr ⟨lk_0_12_117_12_49, List.forall_mem_cons.mpr ⟨lk_0_12_175_12_69, List.forall_mem_cons.mpr ⟨lk_8_5_53_47_1_5, List.forall_mem_cons.mpr ⟨lk_8_5_104_75_2_7, List.forall_mem_cons.mpr ⟨lk_8_12_356_191_3_12, List.forall_mem_cons.mpr ⟨lk_0_3_9_3_1, List.forall_mem_cons.mpr ⟨lk_0_3_58_3_0, List.forall_mem_cons.mpr ⟨lk_0_4_24_4_0, List.forall_mem_cons.mpr ⟨lk_0_8_47_8_2, List.forall_mem_cons.mpr ⟨lk_0_11_44_11_4, List.forall_mem_cons.mpr ⟨lk_0_11_92_11_11, List.forall_mem_cons.mpr ⟨lk_0_11_247_2_7, List.forall_mem_cons.mpr ⟨lk_0_12_35_12_12, List.forall_mem_cons.mpr ⟨lk_0_12_56_12_19, List.forall_mem_cons.mpr ⟨lk_0_12_81_12_37, List.forall_mem_cons.mpr ⟨lk_0_12_135_12_55, List.forall_mem_cons.mpr ⟨lk_0_12_199_12_77, List.forall_mem_cons.mpr ⟨lk_0_12_202_12_1, List.forall_mem_cons.mpr ⟨lk_8_1_38_76_3_7, List.forall_mem_cons.mpr ⟨lk_8_3_70_22_1_3, List.forall_mem_cons.mpr ⟨lk_8_12_268_167_2_12, List.forall_mem_cons.mpr ⟨lk_8_12_359_193_3_12, List.forall_mem_cons.mpr ⟨lk_0_3_27_3_6, List.forall_mem_cons.mpr ⟨lk_0_4_15_4_3, List.forall_mem_cons.mpr ⟨lk_0_5_27_7_7, List.forall_mem_cons.mpr ⟨lk_0_7_31_7_8, fun _ h => absurd h List.not_mem_nil⟩⟩⟩⟩⟩⟩⟩⟩⟩⟩⟩⟩⟩⟩⟩⟩⟩⟩⟩⟩⟩⟩⟩⟩⟩⟩⟩⟩⟩⟩⟩⟩⟩⟩⟩⟩⟩⟩⟩⟩
theorem lks_2 : ∀ c ∈ ([[0, 8, 11, 8, 0], [0, 8, 28, 8, 3], [0, 10, 33, 10, 0], [0, 11, 241, 2, 6], [0, 12, 20, 12, 7], [0, 12, 47, 12, 16], [0, 12, 123, 12, 51], [0, 12, 171, 12, 68], [0, 12, 336, 12, 0], [7, 5, 64, 50, 2], [7, 11, 96, 141, 2], [7, 12, 210, 148, 2], [8, 3, 62, 21, 1, 3], [8, 5, 43, 48, 1, 5], [8, 11, 179, 84, 1, 9], [8, 12, 229, 160, 1, 12], [0, 4, 9, 4, 2], [0, 4, 21, 4, 5], [0, 5, 24, 5, 4], [0, 6, 15, 6, 1], [0, 6, 21, 6, 3], [0, 6, 27, 6, 5], [0, 7, 13, 7, 1], [0, 8, 15, 8, 1], [0, 9, 13, 9, 1], [0, 10, 24, 10, 6], [0, 11, 74, 11, 8], [0, 11, 88, 11, 10], [0, 11, 107, 3, 0], [0, 11, 115, 3, 1], [0, 11, 127, 3, 8], [0, 11, 225, 0, 8], [0, 11, 244, 0, 7], [0, 12, 41, 12, 14], [0, 12, 78, 12, 36], [0, 12, 120, 12, 50], [0, 12, 132, 12, 54], [0, 12, 141, 12, 57], [0, 12, 178, 12, 70], [0, 12, 181, 12, 71]] : List (List Nat)), pv_sem pv_prog c := List.forall_mem_cons.mpr ⟨lk_0_8_11_8_0, List.forall_mem_cons.mpr ⟨lk_0_8_28_8_3, List.forall_mem_cons.mpr ⟨lk_0_10_33_10_0, List.forall_mem_cons.mpr ⟨lk_0_11_241_2_6, List.forall_mem_cons.mpr ⟨lk_0_12_20_12_7, List.forall_mem_cons.mpr ⟨lk_0_12_47_12_16, List.forall_mem_cons.mpr ⟨lk_0_12_123_12_51, List.forall_mem_cons.mpr ⟨lk_0_12_171_12_68, List.forall_mem_cons.mpr ⟨lk_0_12_336_12_0, List.forall_mem_cons.mpr ⟨lk_7_5_64_50_2, List.forall_mem_cons.mpr ⟨lk_7_11_96_141_2, List.forall_mem_cons.mpr ⟨lk_7_12_210_148_2, List.forall_mem_cons.mpr ⟨lk_8_3_62_21_1_3, List.forall_mem_cons.mpr ⟨lk_8_5_43_48_1_5, List.forall_mem_cons.mpr ⟨lk_8_11_179_84_1_9, List.forall_mem_cons.mpr ⟨lk_8_12_229_160_1_12, List.forall_mem_cons.mpr ⟨lk_0_4_9_4_2, List.forall_mem_cons.mpr ⟨lk_0_4_21_4_5, List.forall_mem_cons.mpr ⟨lk_0_5_24_5_4, List.forall_mem_cons.mpr ⟨lk_0_6_15_6_1, List.forall_mem_cons.mpr ⟨lk_0_6_21_6_3, List.forall_mem_cons.mpr ⟨lk_0_6_27_6_5, List.forall_mem_cons.mpr ⟨lk_0_7_13_7_1, List.forall_mem_cons.mpr ⟨lk_0_8_15_8_1, List.forall_mem_cons.mpr ⟨lk_0_9_13_9_1, List.forall_mem_cons.mpr ⟨lk_0_10_24_10_6, List.forall_mem_cons.mpr ⟨lk_0_11_74_11_8, List.forall_mem_cons.mpr ⟨lk_0_11_88_11_10, List.forall_mem_cons.mpr ⟨lk_0_11_107_3_0, List.forall_mem_cons.mpr ⟨lk_0_11_115_3_1, List.forall_mem_cons.mpr ⟨lk_0_11_127_3_8, List.forall_mem_cons.mpr ⟨lk_0_11_225_0_8, List.forall_mem_cons.mpr ⟨lk_0_11_244_0_7, List.forall_mem_cons.mpr ⟨lk_0_12_41_12_14, List.forall_mem_cons.mpr ⟨lk_0_12_78_12_36, List.forall_mem_cons.mpr ⟨lk_0_12_120_12_50, List.forall_mem_cons.mpr ⟨lk_0_12_132_12_54, List.forall_mem_cons.mpr ⟨lk_0_12_141_12_57, List.forall_mem_cons.mpr ⟨lk_0_12_178_12_70, List.forall_mem_cons.mpr ⟨lk_0_12_181_12_71, fun _ h => absurd h List.not_mem_nil⟩⟩⟩⟩⟩⟩⟩⟩⟩⟩⟩⟩⟩⟩⟩⟩⟩⟩⟩⟩⟩⟩⟩⟩⟩⟩⟩⟩⟩⟩⟩⟩⟩⟩⟩⟩⟩⟩⟩⟩
theorem lks_3 : ∀ c ∈ ([[0, 12, 184, 12, 72], [0, 12, 196, 12, 76], [0, 12, 248, 12, 34], [0, 12, 380, 12, 3], [7, 3, 52, 250, 2], [7, 11, 160, 140, 1], [7, 12, 362, 146, 2], [8, 3, 77, 29, 1, 3], [8, 5, 74, 57, 1, 5], [8, 8, 24, 81, 5, 8], [8, 11, 134, 137, 2, 11], [8, 12, 222, 150, 2, 12], [8, 12, 353, 186, 2, 12], [8, 12, 400, 204, 0, 12], [0, 1, 42, 2, 0], [0, 2, 11, 2, 0], [0, 3, 43, 3, 11], [0, 4, 18, 4, 4], [0, 4, 36, 4, 7], [0, 6, 18, 6, 2], [0, 6, 24, 6, 4], [0, 10, 18, 10, 4], [0, 10, 84, 10, 10], [0, 11, 81, 11, 9], [0, 11, 124, 3, 7], [0, 11, 144, 3, 12], [0, 11, 157, 0, 0], [0, 11, 166, 0, 2], [0, 11, 186, 1, 4], [0, 11, 332, 3, 6], [0, 11, 398, 2, 2], [0, 12, 23, 12, 8], [0, 12, 26, 12, 9], [0, 12, 50, 12, 17], [0, 12, 53, 12, 18], [0, 12, 59, 12, 20], [0, 12, 62, 12, 21], [0, 12, 71, 12, 24], [0, 12, 74, 12, 25], [0, 12, 96, 12, 42]] : List (List Nat)), pv_sem pv_prog c := List.forall_mem_cons.mpr ⟨lk_0_12_184_12_72, List.forall_mem_cons.mpr ⟨lk_0_12_196_12_76, List.forall_mem_cons.mpr ⟨lk_0_12_248_12_34, List.forall_mem_cons.mpr ⟨lk_0_12_380_12_3, List.forall_mem_cons.mpr ⟨lk_7_3_52_250_2, List.forall_mem_cons.mpr ⟨lk_7_11_160_140_1, List.forall_mem_cons.mpr ⟨lk_7_12_362_146_2, List.forall_mem_cons.mpr ⟨lk_8_3_77_29_1_3, List.forall_mem_cons.mpr ⟨lk_8_5_74_57_1_5, List.forall_mem_cons.mpr ⟨lk_8_8_24_81_5_8, List.forall_mem_cons.mpr ⟨lk_8_11_134_137_2_11, List.forall_mem_cons.mpr ⟨lk_8_12_222_150_2_12, List.forall_mem_cons.mpr ⟨lk_8_12_353_186_2_12, List.forall_mem_cons.mpr ⟨lk_8_12_400_204_0_12, List.forall_mem_cons.mpr ⟨lk_0_1_42_2_0, List.forall_mem_cons.mpr ⟨lk_0_2_11_2_0, List.forall_mem_cons.mpr ⟨lk_0_3_43_3_11, List.forall_mem_cons.mpr ⟨lk_0_4_18_4_4, List.forall_mem_cons.mpr ⟨lk_0_4_36_4_7, List.forall_mem_cons.mpr ⟨lk_0_6_18_6_2, List.forall_mem_cons.mpr ⟨lk_0_6_24_6_4, List.forall_mem_cons.mpr ⟨lk_0_10_18_10_4, List.forall_mem_cons.mpr ⟨lk_0_10_84_10_10, List.forall_mem_cons.mpr ⟨lk_0_11_81_11_9, List.forall_mem_cons.mpr ⟨lk_0_11_124_3_7, List.forall_mem_cons.mpr ⟨lk_0_11_144_3_12, List.forall_mem_cons.mpr ⟨lk_0_11_157_0_0, List.forall_mem_cons.mpr ⟨lk_0_11_166_0_2, List.forall_mem_cons.mpr ⟨lk_0_11_186_1_4, List.forall_mem_cons.mpr ⟨lk_0_11_332_3_6, List.forall_mem_cons.mpr ⟨lk_0_11_398_2_2, List.forall_mem_cons.mpr ⟨lk_0_12_23_12_8, List.forall_mem_cons.mpr ⟨lk_0_12_26_12_9, List.forall_mem_cons.mpr ⟨lk_0_12_50_12_17, List.forall_mem_cons.mpr ⟨lk_0_12_53_12_18, List.forall_mem_cons.mpr ⟨lk_0_12_59_12_20, List.forall_mem_cons.mpr ⟨lk_0_12_62_12_21, List.forall_mem_cons.mpr ⟨lk_0_12_71_12_24, List.forall_mem_cons.mpr ⟨lk_0_12_74_12_25, List.forall_mem_cons.mpr ⟨lk_0_12_96_12_42, fun _ h => absurd h List.not_mem_nil⟩⟩⟩⟩⟩⟩⟩⟩⟩⟩⟩⟩⟩⟩⟩⟩⟩⟩⟩⟩⟩⟩⟩⟩⟩⟩⟩⟩⟩⟩⟩⟩⟩⟩⟩⟩⟩⟩⟩⟩
theorem lks_4 : ∀ c ∈ ([[0, 12, 105, 12, 45], [0, 12, 126, 12, 52], [0, 12, 129, 12, 53], [0, 12, 150, 12, 60], [0, 12, 165, 12, 66], [0, 12, 168, 12, 67], [0, 12, 235, 12, 28], [0, 12, 326, 12, 35], [2, 12, 432, 1000000000], [7, 3, 81, 20, 1], [7, 5, 126, 60, 1], [7, 11, 253, 143, 2], [7, 12, 394, 147, 2], [8, 1, 34, 11, 1, 1], [8, 1, 57, 10, 1, 1], [8, 4, 56, 39, 2, 4], [8, 5, 95, 55, 1, 5], [8, 5, 108, 49, 1, 5], [8, 11, 206, 134, 2, 11], [8, 11, 234, 17, 1, 2], [8, 12, 218, 152, 1, 12], [8, 12, 272, 168, 1, 12], [8, 12, 289, 172, 1, 12], [8, 12, 296, 175, 0, 12], [8, 12, 339, 187, 3, 12], [8, 12, 343, 189, 1, 12], [8, 12, 346, 188, 4, 12], [8, 12, 374, 198, 1, 12], [8, 12, 390, 202, 2, 12], [8, 12, 403, 206, 2, 12], [8, 12, 415, 210, 1, 12], [8, 12, 436, 217, 2, 12], [0, 0, 18, 0, 2], [0, 1, 26, 1, 1], [0, 2, 15, 2, 1], [0, 2, 18, 2, 2], [0, 2, 37, 2, 8], [0, 2, 53, 2, 10], [0, 3, 15, 3, 2], [0, 3, 30, 3, 7]] : List (List Nat)), pv_sem pv_prog c := List.forall_mem_cons.mpr ⟨lk_0_12_105_12_45, List.forall_mem_cons.mpr ⟨lk_0_12_126_12_52, List.forall_mem_cons.mpr ⟨lk_0_12_129_12_53, List.forall_mem_cons.mpr ⟨lk_0_12_150_12_60, List.forall_mem_cons.mpr ⟨lk_0_12_165_12_66, List.forall_mem_cons.mpr ⟨lk_0_12_168_12_67, List.forall_mem_cons.mpr ⟨lk_0_12_235_12_28, List.forall_mem_cons.mpr ⟨lk_0_12_326_12_35, List.forall_mem_cons.mpr ⟨lk_2_12_432_1000000000, List.forall_mem_cons.mpr ⟨lk_7_3_81_20_1, List.forall_mem_cons.mpr ⟨lk_7_5_126_60_1, List.forall_mem_cons.mpr ⟨lk_7_11_253_143_2, List.forall_mem_cons.mpr ⟨lk_7_12_394_147_2, List.forall_mem_cons.mpr ⟨lk_8_1_34_11_1_1, List.forall_mem_cons.mpr ⟨lk_8_1_57_10_1_1, List.forall_mem_cons.mpr ⟨lk_8_4_56_39_2_4, List.forall_mem_cons.mpr ⟨lk_8_5_95_55_1_5, List.forall_mem_cons.mpr ⟨lk_8_5_108_49_1_5, List.forall_mem_cons.mpr ⟨lk_8_11_206_134_2_11, List.forall_mem_cons.mpr ⟨lk_8_11_234_17_1_2, List.forall_mem_cons.mpr ⟨lk_8_12_218_152_1_12, List.forall_mem_cons.mpr ⟨lk_8_12_272_168_1_12, List.forall_mem_cons.mpr ⟨lk_8_12_289_172_1_12, List.forall_mem_cons.mpr ⟨lk_8_12_296_175_0_12, List.forall_mem_cons.mpr ⟨lk_8_12_339_187_3_12, List.forall_mem_cons.mpr ⟨lk_8_12_343_189_1_12, List.forall_mem_cons.mpr ⟨lk_8_12_346_188_4_12, List.forall_mem_cons.mpr ⟨lk_8_12_374_198_1_12, List.forall_mem_cons.mpr ⟨lk_8_12_390_202_2_12, List.forall_mem_cons.mpr ⟨lk_8_12_403_206_2_12, List.forall_mem_cons.mpr ⟨lk_8_12_415_210_1_12, List.forall_mem_cons.mpr ⟨lk_8_12_436_217_2_12, List.forall_mem_cons.mpr ⟨lk_0_0_18_0_2, List.forall_mem_cons.mpr ⟨lk_0_1_26_1_1, List.forall_mem_cons.mpr ⟨lk_0_2_15_2_1, List.forall_mem_cons.mpr ⟨lk_0_2_18_2_2, List.forall_mem_cons.mpr ⟨lk_0_2_37_2_8, List.forall_mem_cons.mpr ⟨lk_0_2_53_2_10, List.forall_mem_cons.mpr ⟨lk_0_3_15_3_2, List.forall_mem_cons.mpr ⟨lk_0_3_30_3_7, fun _ h => absurd h List.not_mem_nil⟩⟩⟩⟩⟩⟩⟩⟩⟩⟩⟩⟩⟩⟩⟩⟩⟩⟩⟩⟩⟩⟩⟩⟩⟩⟩⟩⟩⟩⟩⟩⟩⟩⟩⟩⟩⟩⟩⟩⟩
theorem lks_5 : ∀ c ∈ ([[0, 3, 33, 3, 8], [0, 3, 36, 3, 9], [0, 3, 40, 3, 10], [0, 3, 49, 3, 13], [0, 5, 7, 5, 0], [0, 5, 17, 5, 2], [0, 5, 92, 7, 1], [0, 6, 30, 6, 6], [0, 7, 9, 7, 0], [0, 7, 22, 7, 4], [0, 9, 9, 9, 0], [0, 10, 15, 10, 3], [0, 10, 21, 10, 5], [0, 10, 27, 10, 7], [0, 10, 30, 10, 8], [0, 11, 111, 3, 2], [0, 11, 138, 3, 10], [0, 11, 141, 3, 11], [0, 11, 172, 0, 6], [0, 11, 213, 2, 10], [0, 11, 293, 3, 9], [0, 11, 367, 10, 2], [0, 12, 68, 12, 23], [0, 12, 84, 12, 38], [0, 12, 87, 12, 39], [0, 12, 90, 12, 40], [0, 12, 93, 12, 41], [0, 12, 99, 12, 43], [0, 12, 102, 12, 44], [0, 12, 108, 12, 46], [0, 12, 138, 12, 56], [0, 12, 144, 12, 58], [0, 12, 147, 12, 59], [0, 12, 153, 12, 61], [0, 12, 156, 12, 62], [0, 12, 187, 12, 73], [0, 12, 190, 12, 74], [0, 12, 193, 12, 75], [0, 12, 242, 12, 29], [2, 6, 68, 1000000000]] : List (List Nat)), pv_sem pv_prog c := List.forall_mem_cons.mpr ⟨lk_0_3_33_3_8, List.forall_mem_cons.mpr ⟨lk_0_3_36_3_9, List.forall_mem_cons.mpr ⟨lk_0_3_40_3_10, List.forall_mem_cons.mpr ⟨lk_0_3_49_3_13, List.forall_mem_cons.mpr ⟨lk_0_5_7_5_0, List.forall_mem_cons.mpr ⟨lk_0_5_17_5_2, List.forall_mem_cons.mpr ⟨lk_0_5_92_7_1, List.forall_mem_cons.mpr ⟨lk_0_6_30_6_6, List.forall_mem_cons.mpr ⟨lk_0_7_9_7_0, List.forall_mem_cons.mpr ⟨lk_0_7_22_7_4, List.forall_mem_cons.mpr ⟨lk_0_9_9_9_0, List.forall_mem_cons.mpr ⟨lk_0_10_15_10_3, List.forall_mem_cons.mpr ⟨lk_0_10_21_10_5, List.forall_mem_cons.mpr ⟨lk_0_10_27_10_7, List.forall_mem_cons.mpr ⟨lk_0_10_30_10_8, List.forall_mem_cons.mpr ⟨lk_0_11_111_3_2, List.forall_mem_cons.mpr ⟨lk_0_11_138_3_10, List.forall_mem_cons.mpr ⟨lk_0_11_141_3_11, List.forall_mem_cons.mpr ⟨lk_0_11_172_0_6, List.forall_mem_cons.mpr ⟨lk_0_11_213_2_10, List.forall_mem_cons.mpr ⟨lk_0_11_293_3_9, List.forall_mem_cons.mpr ⟨lk_0_11_367_10_2, List.forall_mem_cons.mpr ⟨lk_0_12_68_12_23, List.forall_mem_cons.mpr ⟨lk_0_12_84_12_38, List.forall_mem_cons.mpr ⟨lk_0_12_87_12_39, List.forall_mem_cons.mpr ⟨lk_0_12_90_12_40, List.forall_mem_cons.mpr ⟨lk_0_12_93_12_41, List.forall_mem_cons.mpr ⟨lk_0_12_99_12_43, List.forall_mem_cons.mpr ⟨lk_0_12_102_12_44, List.forall_mem_cons.mpr ⟨lk_0_12_108_12_46, List.forall_mem_cons.mpr ⟨lk_0_12_138_12_56, List.forall_mem_cons.mpr ⟨lk_0_12_144_12_58, List.forall_mem_cons.mpr ⟨lk_0_12_147_12_59, List.forall_mem_cons.mpr ⟨lk_0_12_153_12_61, List.forall_mem_cons.mpr ⟨lk_0_12_156_12_62, List.forall_mem_cons.mpr ⟨lk_0_12_187_12_73, List.forall_mem_cons.mpr ⟨lk_0_12_190_12_74, List.forall_mem_cons.mpr ⟨lk_0_12_193_12_75, List.forall_mem_cons.mpr ⟨lk_0_12_242_12_29, List.forall_mem_cons.mpr ⟨lk_2_6_68_1000000000, fun _ h => absurd h List.not_mem_nil⟩⟩⟩⟩⟩⟩⟩⟩⟩⟩⟩⟩⟩⟩⟩⟩⟩⟩⟩⟩⟩⟩⟩⟩⟩⟩⟩⟩⟩⟩⟩⟩⟩⟩⟩⟩⟩⟩⟩⟩
theorem lks_6 : ∀ c ∈ ([[2, 11, 175, 65535], [2, 14, 266, 858993459], [3, 3, 90, 18446744073709551615], [3, 11, 228, 18446744073709551615], [3, 12, 406, 18446744073709551615], [3, 12, 456, 3], [3, 15, 316, 3689348814741910323], [6, 3, 84, 0], [6, 3, 96, 3], [6, 6, 45, 2], [6, 7, 48, 0], [6, 10, 41, 3], [6, 10, 59, 1], [6, 11, 338, 1], [7, 0, 36, 250, 2], [7, 6, 41, 65, 2], [7, 8, 18, 250, 2], [7, 11, 257, 142, 2], [7, 11, 343, 249, 1], [7, 12, 429, 220, 2], [7, 12, 433, 221, 2], [7, 12, 474, 237, 1], [8, 1, 60, 12, 1, 1], [8, 1, 63, 13, 1, 1], [8, 3, 92, 33, 2, 3], [8, 4, 73, 41, 2, 4], [8, 5, 80, 52, 1, 5], [8, 5, 86, 53, 1, 5], [8, 5, 89, 54, 0, 5], [8, 5, 116, 58, 1, 5], [8, 5, 121, 59, 1, 5], [8, 6, 57, 68, 1, 6], [8, 6, 69, 70, 4, 6], [8, 7, 38, 77, 3, 7], [8, 10, 53, 24, 1, 3], [8, 10, 87, 91, 2, 10], [8, 11, 130, 26, 1, 3], [8, 11, 192, 6, 1, 1], [8, 11, 196, 4, 2, 1], [8, 11, 199, 5, 1, 1]] : List (List Nat)), pv_sem pv_prog c := List.forall_mem_cons.mpr ⟨lk_2_11_175_65535, List.forall_mem_cons.mpr ⟨lk_2_14_266_858993459, List.forall_mem_cons.mpr ⟨lk_3_3_90_18446744073709551615, List.forall_mem_cons.mpr ⟨lk_3_11_228_18446744073709551615, List.forall_mem_cons.mpr ⟨lk_3_12_406_18446744073709551615, List.forall_mem_cons.mpr ⟨lk_3_12_456_3, List.forall_mem_cons.mpr ⟨lk_3_15_316_3689348814741910323, List.forall_mem_cons.mpr ⟨lk_6_3_84_0, List.forall_mem_cons.mpr ⟨lk_6_3_96_3, List.forall_mem_cons.mpr ⟨lk_6_6_45_2, List.forall_mem_cons.mpr ⟨lk_6_7_48_0, List.forall_mem_cons.mpr ⟨lk_6_10_41_3, List.forall_mem_cons.mpr ⟨lk_6_10_59_1, List.forall_mem_cons.mpr ⟨lk_6_11_338_1, List.forall_mem_cons.mpr ⟨lk_7_0_36_250_2, List.forall_mem_cons.mpr ⟨lk_7_6_41_65_2, List.forall_mem_cons.mpr ⟨lk_7_8_18_250_2, List.forall_mem_cons.mpr ⟨lk_7_11_257_142_2, List.forall_mem_cons.mpr ⟨lk_7_11_343_249_1, List.forall_mem_cons.mpr ⟨lk_7_12_429_220_2, List.forall_mem_cons.mpr ⟨lk_7_12_433_221_2, List.forall_mem_cons.mpr ⟨lk_7_12_474_237_1, List.forall_mem_cons.mpr ⟨lk_8_1_60_12_1_1, List.forall_mem_cons.mpr ⟨lk_8_1_63_13_1_1, List.forall_mem_cons.mpr ⟨lk_8_3_92_33_2_3, List.forall_mem_cons.mpr ⟨lk_8_4_73_41_2_4, List.forall_mem_cons.mpr ⟨lk_8_5_80_52_1_5, List.forall_mem_cons.mpr ⟨lk_8_5_86_53_1_5, List.forall_mem_cons.mpr ⟨lk_8_5_89_54_0_5, List.forall_mem_cons.mpr ⟨lk_8_5_116_58_1_5, List.forall_mem_cons.mpr ⟨lk_8_5_121_59_1_5, List.forall_mem_cons.mpr ⟨lk_8_6_57_68_1_6, List.forall_mem_cons.mpr ⟨lk_8_6_69_70_4_6, List.forall_mem_cons.mpr ⟨lk_8_7_38_77_3_7, List.forall_mem_cons.mpr ⟨lk_8_10_53_24_1_3, List.forall_mem_cons.mpr ⟨lk_8_10_87_91_2_10, List.forall_mem_cons.mpr ⟨lk_8_11_130_26_1_3, List.forall_mem_cons.mpr ⟨lk_8_11_192_6_1_1, List.forall_mem_cons.mpr ⟨lk_8_11_196_4_2_1, List.forall_mem_cons.mpr ⟨lk_8_11_199_5_1_1, fun _ h => absurd h List.not_mem_nil⟩⟩⟩⟩⟩⟩⟩⟩⟩⟩⟩⟩⟩⟩⟩⟩⟩⟩⟩⟩⟩⟩⟩⟩⟩⟩⟩⟩⟩⟩⟩⟩⟩⟩⟩⟩⟩⟩⟩⟩
theorem lks_7 : ∀ c ∈ ([[8, 11, 202, 128, 0, 11], [8, 11, 210, 132, 0, 11], [8, 11, 238, 136, 2, 11], [8, 11, 249, 1, 3, 0], [8, 11, 261, 63, 1, 6], [8, 11, 268, 67, 0, 6], [8, 11, 271, 72, 0, 6], [8, 11, 274, 73, 1, 6], [8, 12, 251, 163, 0, 12], [8, 12, 283, 173, 0, 12], [8, 12, 293, 174, 1, 12], [8, 12, 299, 176, 0, 12], [8, 12, 305, 177, 1, 12], [8, 12, 320, 182, 0, 12], [8, 12, 333, 185, 2, 12], [8, 12, 350, 190, 1, 12], [8, 12, 368, 195, 0, 12], [8, 12, 386, 201, 4, 12], [8, 12, 397, 205, 3, 12], [8, 12, 418, 212, 2, 12], [8, 12, 426, 218, 2, 12], [8, 12, 449, 225, 2, 12], [8, 12, 480, 239, 2, 12], [8, 12, 483, 240, 2, 12], [8, 12, 492, 246, 1, 12], [0, 0, 15, 0, 1], [0, 0, 21, 0, 3], [0, 0, 24, 0, 4], [0, 0, 27, 0, 5], [0, 0, 30, 0, 6], [0, 1, 72, 3, 2], [0, 1, 75, 3, 1], [0, 1, 78, 3, 3], [0, 1, 81, 3, 8], [0, 1, 84, 0, 8], [0, 1, 90, 0, 1], [0, 1, 96, 3, 5], [0, 1, 99, 3, 6], [0, 1, 105, 3, 9], [0, 1, 109, 2, 1]] : List (List Nat)), pv_sem pv_prog c := List.forall_mem_cons.mpr ⟨lk_8_11_202_128_0_11, List.forall_mem_cons.mpr ⟨lk_8_11_210_132_0_11, List.forall_mem_cons.mpr ⟨lk_8_11_238_136_2_11, List.forall_mem_cons.mpr ⟨lk_8_11_249_1_3_0, List.forall_mem_cons.mpr ⟨lk_8_11_261_63_1_6, List.forall_mem_cons.mpr ⟨lk_8_11_268_67_0_6, List.forall_mem_cons.mpr ⟨lk_8_11_271_72_0_6, List.forall_mem_cons.mpr ⟨lk_8_11_274_73_1_6, List.forall_mem_cons.mpr ⟨lk_8_12_251_163_0_12, List.forall_mem_cons.mpr ⟨lk_8_12_283_173_0_12, List.forall_mem_cons.mpr ⟨lk_8_12_293_174_1_12, List.forall_mem_cons.mpr ⟨lk_8_12_299_176_0_12, List.forall_mem_cons.mpr ⟨lk_8_12_305_177_1_12, List.forall_mem_cons.mpr ⟨lk_8_12_320_182_0_12, List.forall_mem_cons.mpr ⟨lk_8_12_333_185_2_12, List.forall_mem_cons.mpr ⟨lk_8_12_350_190_1_12, List.forall_mem_cons.mpr ⟨lk_8_12_368_195_0_12, List.forall_mem_cons.mpr ⟨lk_8_12_386_201_4_12, List.forall_mem_cons.mpr ⟨lk_8_12_397_205_3_12, List.forall_mem_cons.mpr ⟨lk_8_12_418_212_2_12, List.forall_mem_cons.mpr ⟨lk_8_12_426_218_2_12, List.forall_mem_cons.mpr ⟨lk_8_12_449_225_2_12, List.forall_mem_cons.mpr ⟨lk_8_12_480_239_2_12, List.forall_mem_cons.mpr ⟨lk_8_12_483_240_2_12, List.forall_mem_cons.mpr ⟨lk_8_12_492_246_1_12, List.forall_mem_cons.mpr ⟨lk_0_0_15_0_1, List.forall_mem_cons.mpr ⟨lk_0_0_21_0_3, List.forall_mem_cons.mpr ⟨lk_0_0_24_0_4, List.forall_mem_cons.mpr ⟨lk_0_0_27_0_5, List.forall_mem_cons.mpr ⟨lk_0_0_30_0_6, List.forall_mem_cons.mpr ⟨lk_0_1_72_3_2, List.forall_mem_cons.mpr ⟨lk_0_1_75_3_1, List.forall_mem_cons.mpr ⟨lk_0_1_78_3_3, List.forall_mem_cons.mpr ⟨lk_0_1_81_3_8, List.forall_mem_cons.mpr ⟨lk_0_1_84_0_8, List.forall_mem_cons.mpr ⟨lk_0_1_90_0_1, List.forall_mem_cons.mpr ⟨lk_0_1_96_3_5, List.forall_mem_cons.mpr ⟨lk_0_1_99_3_6, List.forall_mem_cons.mpr ⟨lk_0_1_105_3_9, List.forall_mem_cons.mpr ⟨lk_0_1_109_2_1, fun _ h => absurd h List.not_mem_nil⟩⟩⟩⟩⟩⟩⟩⟩⟩⟩⟩⟩⟩⟩⟩⟩⟩⟩⟩⟩⟩⟩⟩⟩⟩⟩⟩⟩⟩⟩⟩⟩⟩⟩⟩⟩⟩⟩⟩⟩
theorem lks_8 : ∀ c ∈ ([[0, 1, 110, 2, 2], [0, 1, 111, 2, 3], [0, 1, 114, 2, 4], [0, 1, 115, 2, 5], [0, 2, 21, 2, 3], [0, 2, 25, 2, 4], [0, 2, 28, 2, 5], [0, 2, 31, 2, 6], [0, 2, 44, 3, 5], [0, 2, 47, 3, 6], [0, 2, 52, 3, 9], [0, 3, 18, 3, 3], [0, 3, 21, 3, 4], [0, 3, 46, 3, 12], [0, 4, 28, 4, 1], [0, 4, 45, 3, 1], [0, 4, 66, 3, 11], [0, 4, 76, 3, 12], [0, 4, 79, 0, 2], [0, 5, 49, 9, 0], [0, 5, 68, 7, 2], [0, 5, 71, 7, 3], [0, 5, 77, 7, 4], [0, 5, 83, 7, 5], [0, 7, 16, 7, 2], [0, 7, 19, 7, 3], [0, 7, 25, 7, 5], [0, 7, 35, 7, 7], [0, 10, 37, 10, 1], [0, 10, 69, 3, 4], [0, 11, 58, 11, 6], [0, 11, 118, 3, 3], [0, 11, 121, 3, 4], [0, 11, 163, 0, 1], [0, 11, 169, 0, 5], [0, 11, 284, 8, 2], [0, 11, 287, 8, 3], [0, 11, 290, 3, 5], [0, 11, 304, 4, 7], [0, 11, 319, 10, 10]] : List (List Nat)), pv_sem pv_prog c := List.forall_mem_cons.mpr ⟨lk_0_1_110_2_2, List.forall_mem_cons.mpr ⟨lk_0_1_111_2_3, List.forall_mem_cons.mpr ⟨lk_0_1_114_2_4, List.forall_mem_cons.mpr ⟨lk_0_1_115_2_5, List.forall_mem_cons.mpr ⟨lk_0_2_21_2_3, List.forall_mem_cons.mpr ⟨lk_0_2_25_2_4, List.forall_mem_cons.mpr ⟨lk_0_2_28_2_5, List.forall_mem_cons.mpr ⟨lk_0_2_31_2_6, List.forall_mem_cons.mpr ⟨lk_0_2_44_3_5, List.forall_mem_cons.mpr ⟨lk_0_2_47_3_6, List.forall_mem_cons.mpr ⟨lk_0_2_52_3_9, List.forall_mem_cons.mpr ⟨lk_0_3_18_3_3, List.forall_mem_cons.mpr ⟨lk_0_3_21_3_4, List.forall_mem_cons.mpr ⟨lk_0_3_46_3_12, List.forall_mem_cons.mpr ⟨lk_0_4_28_4_1, List.forall_mem_cons.mpr ⟨lk_0_4_45_3_1, List.forall_mem_cons.mpr ⟨lk_0_4_66_3_11, List.forall_mem_cons.mpr ⟨lk_0_4_76_3_12, List.forall_mem_cons.mpr ⟨lk_0_4_79_0_2, List.forall_mem_cons.mpr ⟨lk_0_5_49_9_0, List.forall_mem_cons.mpr ⟨lk_0_5_68_7_2, List.forall_mem_cons.mpr ⟨lk_0_5_71_7_3, List.forall_mem_cons.mpr ⟨lk_0_5_77_7_4, List.forall_mem_cons.mpr ⟨lk_0_5_83_7_5, List.forall_mem_cons.mpr ⟨lk_0_7_16_7_2, List.forall_mem_cons.mpr ⟨lk_0_7_19_7_3, List.forall_mem_cons.mpr ⟨lk_0_7_25_7_5, List.forall_mem_cons.mpr ⟨lk_0_7_35_7_7, List.forall_mem_cons.mpr ⟨lk_0_10_37_10_1, List.forall_mem_cons.mpr ⟨lk_0_10_69_3_4, List.forall_mem_cons.mpr ⟨lk_0_11_58_11_6, List.forall_mem_cons.mpr ⟨lk_0_11_118_3_3, List.forall_mem_cons.mpr ⟨lk_0_11_121_3_4, List.forall_mem_cons.mpr ⟨lk_0_11_163_0_1, List.forall_mem_cons.mpr ⟨lk_0_11_169_0_5, List.forall_mem_cons.mpr ⟨lk_0_11_284_8_2, List.forall_mem_cons.mpr ⟨lk_0_11_287_8_3, List.forall_mem_cons.mpr ⟨lk_0_11_290_3_5, List.forall_mem_cons.mpr ⟨lk_0_11_304_4_7, List.forall_mem_cons.mpr ⟨lk_0_11_319_10_10, fun _ h => absurd h List.not_mem_nil⟩⟩⟩⟩⟩⟩⟩⟩⟩⟩⟩⟩⟩⟩⟩⟩⟩⟩⟩⟩⟩⟩⟩⟩⟩⟩⟩⟩⟩⟩⟩⟩⟩⟩⟩⟩⟩⟩⟩⟩
theorem lks_9 : ∀ c ∈ ([[0, 11, 348, 2, 9], [0, 11, 351, 7, 7], [0, 11, 364, 0, 3], [0, 11, 395, 2, 5], [0, 11, 408, 2, 1], [0, 11, 409, 0, 4], [1, 0, 9, 0, 0], [1, 0, 15, 0, 1], [1, 0, 18, 0, 2], [1, 0, 21, 0, 3], [1, 0, 24, 0, 4], [1, 0, 27, 0, 5], [1, 0, 30, 0, 6], [1, 0, 33, 0, 7], [1, 1, 11, 1, 3], [1, 1, 22, 1, 0], [1, 1, 26, 1, 1], [1, 1, 30, 1, 2], [1, 2, 11, 2, 0], [1, 2, 15, 2, 1], [1, 2, 18, 2, 2], [1, 2, 21, 2, 3], [1, 2, 25, 2, 4], [1, 2, 28, 2, 5], [1, 2, 31, 2, 6], [1, 2, 34, 2, 7], [1, 2, 37, 2, 8], [1, 3, 9, 3, 1], [1, 3, 15, 3, 2], [1, 3, 18, 3, 3], [1, 3, 21, 3, 4], [1, 3, 24, 3, 5], [1, 3, 27, 3, 6], [1, 3, 30, 3, 7], [1, 3, 33, 3, 8], [1, 3, 36, 3, 9], [1, 3, 40, 3, 10], [1, 3, 43, 3, 11], [1, 3, 46, 3, 12], [1, 3, 49, 3, 13]] : List (List Nat)), pv_sem pv_prog c := List.forall_mem_cons.mpr ⟨lk_0_11_348_2_9, List.forall_mem_cons.mpr ⟨lk_0_11_351_7_7, List.forall_mem_cons.mpr ⟨lk_0_11_364_0_3, List.forall_mem_cons.mpr ⟨lk_0_11_395_2_5, List.forall_mem_cons.mpr ⟨lk_0_11_408_2_1, List.forall_mem_cons.mpr ⟨lk_0_11_409_0_4, List.forall_mem_cons.mpr ⟨lk_1_0_9_0_0, List.forall_mem_cons.mpr ⟨lk_1_0_15_0_1, List.forall_mem_cons.mpr ⟨lk_1_0_18_0_2, List.forall_mem_cons.mpr ⟨lk_1_0_21_0_3, List.forall_mem_cons.mpr ⟨lk_1_0_24_0_4, List.forall_mem_cons.mpr ⟨lk_1_0_27_0_5, List.forall_mem_cons.mpr ⟨lk_1_0_30_0_6, List.forall_mem_cons.mpr ⟨lk_1_0_33_0_7, List.forall_mem_cons.mpr ⟨lk_1_1_11_1_3, List.forall_mem_cons.mpr ⟨lk_1_1_22_1_0, List.forall_mem_cons.mpr ⟨lk_1_1_26_1_1, List.forall_mem_cons.mpr ⟨lk_1_1_30_1_2, List.forall_mem_cons.mpr ⟨lk_1_2_11_2_0, List.forall_mem_cons.mpr ⟨lk_1_2_15_2_1, List.forall_mem_cons.mpr ⟨lk_1_2_18_2_2, List.forall_mem_cons.mpr ⟨lk_1_2_21_2_3, List.forall_mem_cons.mpr ⟨lk_1_2_25_2_4, List.forall_mem_cons.mpr ⟨lk_1_2_28_2_5, List.forall_mem_cons.mpr ⟨lk_1_2_31_2_6, List.forall_mem_cons.mpr ⟨lk_1_2_34_2_7, List.forall_mem_cons.mpr ⟨lk_1_2_37_2_8, List.forall_mem_cons.mpr ⟨lk_1_3_9_3_1, List.forall_mem_cons.mpr ⟨lk_1_3_15_3_2, List.forall_mem_cons.mpr ⟨lk_1_3_18_3_3, List.forall_mem_cons.mpr ⟨lk_1_3_21_3_4, List.forall_mem_cons.mpr ⟨lk_1_3_24_3_5, List.forall_mem_cons.mpr ⟨lk_1_3_27_3_6, List.forall_mem_cons.mpr ⟨lk_1_3_30_3_7, List.forall_mem_cons.mpr ⟨lk_1_3_33_3_8, List.forall_mem_cons.mpr ⟨lk_1_3_36_3_9, List.forall_mem_cons.mpr ⟨lk_1_3_40_3_10, List.forall_mem_cons.mpr ⟨lk_1_3_43_3_11, List.forall_mem_cons.mpr ⟨lk_1_3_46_3_12, List.forall_mem_cons.mpr ⟨lk_1_3_49_3_13, fun _ h => absurd h List.not_mem_nil⟩⟩⟩⟩⟩⟩⟩⟩⟩⟩⟩⟩⟩⟩⟩⟩⟩⟩⟩⟩⟩⟩⟩⟩⟩⟩⟩⟩⟩⟩⟩⟩⟩⟩⟩⟩⟩⟩⟩⟩
theorem lks_10 : ∀ c ∈ ([[1, 4, 9, 4, 2], [1, 4, 15, 4, 3], [1, 4, 18, 4, 4], [1, 4, 21, 4, 5], [1, 4, 24, 4, 0], [1, 4, 28, 4, 1], [1, 6, 11, 6, 0], [1, 6, 15, 6, 1], [1, 6, 18, 6, 2], [1, 6, 21, 6, 3], [1, 6, 24, 6, 4], [1, 6, 27, 6, 5], [1, 6, 30, 6, 6], [1, 7, 9, 7, 0], [1, 7, 13, 7, 1], [1, 7, 16, 7, 2], [1, 7, 19, 7, 3], [1, 7, 22, 7, 4], [1, 7, 25, 7, 5], [1, 7, 28, 7, 6], [1, 8, 11, 8, 0], [1, 8, 15, 8, 1], [1, 9, 9, 9, 0], [1, 10, 9, 10, 2], [1, 10, 15, 10, 3], [1, 10, 18, 10, 4], [1, 10, 21, 10, 5], [1, 10, 24, 10, 6], [1, 10, 27, 10, 7], [1, 10, 30, 10, 8], [1, 10, 33, 10, 0], [1, 10, 37, 10, 1], [1, 11, 12, 11, 0], [1, 11, 19, 11, 1], [1, 11, 26, 11, 2], [1, 11, 35, 11, 3], [1, 11, 44, 11, 4], [1, 11, 51, 11, 5], [1, 11, 58, 11, 6], [1, 11, 65, 11, 7]] : List (List Nat)), pv_sem pv_prog c := List.forall_mem_cons.mpr ⟨lk_1_4_9_4_2, List.forall_mem_cons.mpr ⟨lk_1_4_15_4_3, List.forall_mem_cons.mpr ⟨lk_1_4_18_4_4, List.forall_mem_cons.mpr ⟨lk_1_4_21_4_5, List.forall_mem_cons.mpr ⟨lk_1_4_24_4_0, List.forall_mem_cons.mpr ⟨lk_1_4_28_4_1, List.forall_mem_cons.mpr ⟨lk_1_6_11_6_0, List.forall_mem_cons.mpr ⟨lk_1_6_15_6_1, List.forall_mem_cons.mpr ⟨lk_1_6_18_6_2, List.forall_mem_cons.mpr ⟨lk_1_6_21_6_3, List.forall_mem_cons.mpr ⟨lk_1_6_24_6_4, List.forall_mem_cons.mpr ⟨lk_1_6_27_6_5, List.forall_mem_cons.mpr ⟨lk_1_6_30_6_6, List.forall_mem_cons.mpr ⟨lk_1_7_9_7_0, List.forall_mem_cons.mpr ⟨lk_1_7_13_7_1, List.forall_mem_cons.mpr ⟨lk_1_7_16_7_2, List.forall_mem_cons.mpr ⟨lk_1_7_19_7_3, List.forall_mem_cons.mpr ⟨lk_1_7_22_7_4, List.forall_mem_cons.mpr ⟨lk_1_7_25_7_5, List.forall_mem_cons.mpr ⟨lk_1_7_28_7_6, List.forall_mem_cons.mpr ⟨lk_1_8_11_8_0, List.forall_mem_cons.mpr ⟨lk_1_8_15_8_1, List.forall_mem_cons.mpr ⟨lk_1_9_9_9_0, List.forall_mem_cons.mpr ⟨lk_1_10_9_10_2, List.forall_mem_cons.mpr ⟨lk_1_10_15_10_3, List.forall_mem_cons.mpr ⟨lk_1_10_18_10_4, List.forall_mem_cons.mpr ⟨lk_1_10_21_10_5, List.forall_mem_cons.mpr ⟨lk_1_10_24_10_6, List.forall_mem_cons.mpr ⟨lk_1_10_27_10_7, List.forall_mem_cons.mpr ⟨lk_1_10_30_10_8, List.forall_mem_cons.mpr ⟨lk_1_10_33_10_0, List.forall_mem_cons.mpr ⟨lk_1_10_37_10_1, List.forall_mem_cons.mpr ⟨lk_1_11_12_11_0, List.forall_mem_cons.mpr ⟨lk_1_11_19_11_1, List.forall_mem_cons.mpr ⟨lk_1_11_26_11_2, List.forall_mem_cons.mpr ⟨lk_1_11_35_11_3, List.forall_mem_cons.mpr ⟨lk_1_11_44_11_4, List.forall_mem_cons.mpr ⟨lk_1_11_51_11_5, List.forall_mem_cons.mpr ⟨lk_1_11_58_11_6, List.forall_mem_cons.mpr ⟨lk_1_11_65_11_7, fun _ h => absurd h List.not_mem_nil⟩⟩⟩⟩⟩⟩⟩⟩⟩⟩⟩⟩⟩⟩⟩⟩⟩⟩⟩⟩⟩⟩⟩⟩⟩⟩⟩⟩⟩⟩⟩⟩⟩⟩⟩⟩⟩⟩⟩⟩
theorem lks_11 : ∀ c ∈ ([[1, 11, 74, 11, 8], [1, 11, 81, 11, 9], [1, 12, 7, 12, 4], [1, 12, 13, 12, 5], [1, 12, 16, 12, 6], [1, 12, 20, 12, 7], [1, 12, 23, 12, 8], [1, 12, 26, 12, 9], [1, 12, 29, 12, 10], [1, 12, 32, 12, 11], [1, 12, 35, 12, 12], [1, 12, 38, 12, 13], [1, 12, 41, 12, 14], [1, 12, 44, 12, 15], [1, 12, 47, 12, 16], [1, 12, 50, 12, 17], [1, 12, 53, 12, 18], [1, 12, 56, 12, 19], [1, 12, 59, 12, 20], [1, 12, 62, 12, 21], [1, 12, 65, 12, 22], [1, 12, 68, 12, 23], [1, 12, 71, 12, 24], [1, 12, 74, 12, 25], [1, 12, 78, 12, 36], [1, 12, 81, 12, 37], [1, 12, 84, 12, 38], [1, 12, 87, 12, 39], [1, 12, 90, 12, 40], [1, 12, 93, 12, 41], [1, 12, 96, 12, 42], [1, 12, 99, 12, 43], [1, 12, 102, 12, 44], [1, 12, 105, 12, 45], [1, 12, 108, 12, 46], [1, 12, 111, 12, 47], [1, 12, 114, 12, 48], [1, 12, 117, 12, 49], [1, 12, 120, 12, 50], [1, 12, 123, 12, 51]] : List (List Nat)), pv_sem pv_prog c := List.forall_mem_cons.mpr ⟨lk_1_11_74_11_8, List.forall_mem_cons.mpr ⟨lk_1_11_81_11_9, List.forall_mem_cons.mpr ⟨lk_1_12_7_12_4, List.forall_mem_cons.mpr ⟨lk_1_12_13_12_5, List.forall_mem_cons.mpr ⟨lk_1_12_16_12_6, List.forall_mem_cons.mpr ⟨lk_1_12_20_12_7, List.forall_mem_cons.mpr ⟨lk_1_12_23_12_8, List.forall_mem_cons.mpr ⟨lk_1_12_26_12_9, List.forall_mem_cons.mpr ⟨lk_1_12_29_12_10, List.forall_mem_cons.mpr ⟨lk_1_12_32_12_11, List.forall_mem_cons.mpr ⟨lk_1_12_35_12_12, List.forall_mem_cons.mpr ⟨lk_1_12_38_12_13, List.forall_mem_cons.mpr ⟨lk_1_12_41_12_14, List.forall_mem_cons.mpr ⟨lk_1_12_44_12_15, List.forall_mem_cons.mpr ⟨lk_1_12_47_12_16, List.forall_mem_cons.mpr ⟨lk_1_12_50_12_17, List.forall_mem_cons.mpr ⟨lk_1_12_53_12_18, List.forall_mem_cons.mpr ⟨lk_1_12_56_12_19, List.forall_mem_cons.mpr ⟨lk_1_12_59_12_20, List.forall_mem_cons.mpr ⟨lk_1_12_62_12_21, List.forall_mem_cons.mpr ⟨lk_1_12_65_12_22, List.forall_mem_cons.mpr ⟨lk_1_12_68_12_23, List.forall_mem_cons.mpr ⟨lk_1_12_71_12_24, List.forall_mem_cons.mpr ⟨lk_1_12_74_12_25, List.forall_mem_cons.mpr ⟨lk_1_12_78_12_36, List.forall_mem_cons.mpr ⟨lk_1_12_81_12_37, List.forall_mem_cons.mpr ⟨lk_1_12_84_12_38, List.forall_mem_cons.mpr ⟨lk_1_12_87_12_39, List.forall_mem_cons.mpr ⟨lk_1_12_90_12_40, List.forall_mem_cons.mpr ⟨lk_1_12_93_12_41, List.forall_mem_cons.mpr ⟨lk_1_12_96_12_42, List.forall_mem_cons.mpr ⟨lk_1_12_99_12_43, List.forall_mem_cons.mpr ⟨lk_1_12_102_12_44, List.forall_mem_cons.mpr ⟨lk_1_12_105_12_45, List.forall_mem_cons.mpr ⟨lk_1_12_108_12_46, List.forall_mem_cons.mpr ⟨lk_1_12_111_12_47, List.forall_mem_cons.mpr ⟨lk_1_12_114_12_48, List.forall_mem_cons.mpr ⟨lk_1_12_117_12_49, List.forall_mem_cons.mpr ⟨lk_1_12_120_12_50, List.forall_mem_cons.mpr ⟨lk_1_12_123_12_51, fun _ h => absurd h List.not_mem_nil⟩⟩⟩⟩⟩⟩⟩⟩⟩⟩⟩⟩⟩⟩⟩⟩⟩⟩⟩⟩⟩⟩⟩⟩⟩⟩⟩⟩⟩⟩⟩⟩⟩⟩⟩⟩⟩⟩⟩⟩
theorem lks_12 : ∀ c ∈ ([[1, 12, 126, 12, 52], [1, 12, 129, 12, 53], [1, 12, 132, 12, 54], [1, 12, 135, 12, 55], [1, 12, 138, 12, 56], [1, 12, 141, 12, 57], [1, 12, 144, 12, 58], [1, 12, 147, 12, 59], [1, 12, 150, 12, 60], [1, 12, 153, 12, 61], [1, 12, 156, 12, 62], [1, 12, 159, 12, 64], [1, 12, 162, 12, 65], [1, 12, 165, 12, 66], [1, 12, 168, 12, 67], [1, 12, 171, 12, 68], [1, 12, 175, 12, 69], [1, 12, 178, 12, 70], [1, 12, 181, 12, 71], [1, 12, 184, 12, 72], [1, 12, 187, 12, 73], [1, 12, 190, 12, 74], [1, 12, 193, 12, 75], [1, 12, 196, 12, 76], [1, 12, 199, 12, 77], [2, 12, 225, 65535], [2, 12, 411, 65536], [2, 14, 265, 1431655765], [2, 14, 267, 252645135], [3, 12, 421, 281474976710656], [3, 15, 314, 6148914691236517205], [3, 15, 318, 1085102592571150095], [4, 1, 9, 7], [4, 11, 9, 3], [4, 11, 16, 0], [4, 11, 23, 2], [4, 11, 30, 1], [4, 11, 39, 10], [4, 11, 48, 9], [4, 11, 55, 5]] : List (List Nat)), pv_sem pv_prog c := List.forall_mem_cons.mpr ⟨lk_1_12_126_12_52, List.forall_mem_cons.mpr ⟨lk_1_12_129_12_53, List.forall_mem_cons.mpr ⟨lk_1_12_132_12_54, List.forall_mem_cons.mpr ⟨lk_1_12_135_12_55, List.forall_mem_cons.mpr ⟨lk_1_12_138_12_56, List.forall_mem_cons.mpr ⟨lk_1_12_141_12_57, List.forall_mem_cons.mpr ⟨lk_1_12_144_12_58, List.forall_mem_cons.mpr ⟨lk_1_12_147_12_59, List.forall_mem_cons.mpr ⟨lk_1_12_150_12_60, List.forall_mem_cons.mpr ⟨lk_1_12_153_12_61, List.forall_mem_cons.mpr ⟨lk_1_12_156_12_62, List.forall_mem_cons.mpr ⟨lk_1_12_159_12_64, List.forall_mem_cons.mpr ⟨lk_1_12_162_12_65, List.forall_mem_cons.mpr ⟨lk_1_12_165_12_66, List.forall_mem_cons.mpr ⟨lk_1_12_168_12_67, List.forall_mem_cons.mpr ⟨lk_1_12_171_12_68, List.forall_mem_cons.mpr ⟨lk_1_12_175_12_69, List.forall_mem_cons.mpr ⟨lk_1_12_178_12_70, List.forall_mem_cons.mpr ⟨lk_1_12_181_12_71, List.forall_mem_cons.mpr ⟨lk_1_12_184_12_72, List.forall_mem_cons.mpr ⟨lk_1_12_187_12_73, List.forall_mem_cons.mpr ⟨lk_1_12_190_12_74, List.forall_mem_cons.mpr ⟨lk_1_12_193_12_75, List.forall_mem_cons.mpr ⟨lk_1_12_196_12_76, List.forall_mem_cons.mpr ⟨lk_1_12_199_12_77, List.forall_mem_cons.mpr ⟨lk_2_12_225_65535, List.forall_mem_cons.mpr ⟨lk_2_12_411_65536, List.forall_mem_cons.mpr ⟨lk_2_14_265_1431655765, List.forall_mem_cons.mpr ⟨lk_2_14_267_252645135, List.forall_mem_cons.mpr ⟨lk_3_12_421_281474976710656, List.forall_mem_cons.mpr ⟨lk_3_15_314_6148914691236517205, List.forall_mem_cons.mpr ⟨lk_3_15_318_1085102592571150095, List.forall_mem_cons.mpr ⟨lk_4_1_9_7, List.forall_mem_cons.mpr ⟨lk_4_11_9_3, List.forall_mem_cons.mpr ⟨lk_4_11_16_0, List.forall_mem_cons.mpr ⟨lk_4_11_23_2, List.forall_mem_cons.mpr ⟨lk_4_11_30_1, List.forall_mem_cons.mpr ⟨lk_4_11_39_10, List.forall_mem_cons.mpr ⟨lk_4_11_48_9, List.forall_mem_cons.mpr ⟨lk_4_11_55_5, fun _ h => absurd h List.not_mem_nil⟩⟩⟩⟩⟩⟩⟩⟩⟩⟩⟩⟩⟩⟩⟩⟩⟩⟩⟩⟩⟩⟩⟩⟩⟩⟩⟩⟩⟩⟩⟩⟩⟩⟩⟩⟩⟩⟩⟩⟩
theorem lks_13 : ∀ c ∈ ([[4, 11, 62, 6], [4, 11, 69, 4], [4, 11, 78, 8], [4, 11, 85, 7], [5, 0, 3], [5, 1, 3], [5, 2, 3], [5, 3, 3], [5, 4, 3], [5, 5, 1], [5, 6, 5], [5, 7, 1], [5, 8, 3], [5, 9, 1], [5, 10, 3], [5, 11, 3], [5, 12, 1], [6, 4, 60, 3], [6, 5, 98, 1], [6, 6, 73, 1], [6, 7, 42, 1], [6, 8, 32, 3], [6, 8, 38, 0], [6, 8, 44, 1], [6, 11, 370, 0], [7, 1, 47, 20, 1], [7, 1, 66, 250, 2], [7, 3, 66, 138, 2], [7, 4, 52, 142, 2], [7, 4, 88, 138, 2], [7, 6, 37, 142, 2], [7, 6, 51, 250, 2], [7, 6, 76, 138, 2], [7, 7, 54, 78, 3], [7, 10, 47, 250, 2], [7, 10, 106, 138, 2], [7, 11, 310, 248, 1], [7, 11, 382, 20, 1], [7, 12, 279, 170, 1], [7, 12, 286, 171, 1]] : List (List Nat)), pv_sem pv_prog c := List.forall_mem_cons.mpr ⟨lk_4_11_62_6, List.forall_mem_cons.mpr ⟨lk_4_11_69_4, List.forall_mem_cons.mpr ⟨lk_4_11_78_8, List.forall_mem_cons.mpr ⟨lk_4_11_85_7, List.forall_mem_cons.mpr ⟨lk_5_0_3, List.forall_mem_cons.mpr ⟨lk_5_1_3, List.forall_mem_cons.mpr ⟨lk_5_2_3, List.forall_mem_cons.mpr ⟨lk_5_3_3, List.forall_mem_cons.mpr ⟨lk_5_4_3, List.forall_mem_cons.mpr ⟨lk_5_5_1, List.forall_mem_cons.mpr ⟨lk_5_6_5, List.forall_mem_cons.mpr ⟨lk_5_7_1, List.forall_mem_cons.mpr ⟨lk_5_8_3, List.forall_mem_cons.mpr ⟨lk_5_9_1, List.forall_mem_cons.mpr ⟨lk_5_10_3, List.forall_mem_cons.mpr ⟨lk_5_11_3, List.forall_mem_cons.mpr ⟨lk_5_12_1, List.forall_mem_cons.mpr ⟨lk_6_4_60_3, List.forall_mem_cons.mpr ⟨lk_6_5_98_1, List.forall_mem_cons.mpr ⟨lk_6_6_73_1, List.forall_mem_cons.mpr ⟨lk_6_7_42_1, List.forall_mem_cons.mpr ⟨lk_6_8_32_3, List.forall_mem_cons.mpr ⟨lk_6_8_38_0, List.forall_mem_cons.mpr ⟨lk_6_8_44_1, List.forall_mem_cons.mpr ⟨lk_6_11_370_0, List.forall_mem_cons.mpr ⟨lk_7_1_47_20_1, List.forall_mem_cons.mpr ⟨lk_7_1_66_250_2, List.forall_mem_cons.mpr ⟨lk_7_3_66_138_2, List.forall_mem_cons.mpr ⟨lk_7_4_52_142_2, List.forall_mem_cons.mpr ⟨lk_7_4_88_138_2, List.forall_mem_cons.mpr ⟨lk_7_6_37_142_2, List.forall_mem_cons.mpr ⟨lk_7_6_51_250_2, List.forall_mem_cons.mpr ⟨lk_7_6_76_138_2, List.forall_mem_cons.mpr ⟨lk_7_7_54_78_3, List.forall_mem_cons.mpr ⟨lk_7_10_47_250_2, List.forall_mem_cons.mpr ⟨lk_7_10_106_138_2, List.forall_mem_cons.mpr ⟨lk_7_11_310_248_1, List.forall_mem_cons.mpr ⟨lk_7_11_382_20_1, List.forall_mem_cons.mpr ⟨lk_7_12_279_170_1, List.forall_mem_cons.mpr ⟨lk_7_12_286_171_1, fun _ h => absurd h List.not_mem_nil⟩⟩⟩⟩⟩⟩⟩⟩⟩⟩⟩⟩⟩⟩⟩⟩⟩⟩⟩⟩⟩⟩⟩⟩⟩⟩⟩⟩⟩⟩⟩⟩⟩⟩⟩⟩⟩⟩⟩⟩
theorem lks_14 : ∀ c ∈ ([[7, 12, 311, 181, 1], [7, 12, 329, 184, 3], [7, 12, 446, 226, 2], [7, 12, 458, 228, 2], [7, 12, 468, 236, 1], [8, 1, 53, 21, 1, 3], [8, 1, 93, 22, 1, 3], [8, 1, 102, 23, 1, 3], [8, 2, 48, 23, 1, 3], [8, 3, 73, 25, 3, 3], [8, 3, 102, 32, 2, 3], [8, 3, 105, 31, 0, 3], [8, 4, 39, 21, 1, 3], [8, 4, 48, 30, 1, 3], [8, 4, 69, 40, 2, 4], [8, 4, 84, 25, 3, 3], [8, 5, 35, 51, 0, 5], [8, 5, 111, 56, 1, 5], [8, 5, 129, 61, 0, 5], [8, 6, 60, 69, 3, 6], [8, 6, 64, 71, 1, 6], [8, 8, 50, 82, 1, 8], [8, 10, 65, 21, 1, 3], [8, 10, 72, 88, 3, 10], [8, 10, 80, 90, 1, 10], [8, 10, 91, 22, 1, 3], [8, 10, 94, 4, 2, 1], [8, 10, 99, 92, 0, 10], [8, 10, 102, 87, 2, 10], [8, 11, 150, 25, 3, 3], [8, 11, 182, 45, 3, 5], [8, 11, 189, 28, 2, 3], [8, 11, 216, 129, 0, 11], [8, 11, 219, 130, 0, 11], [8, 11, 222, 131, 0, 11], [8, 11, 230, 34, 1, 3], [8, 11, 237, 18, 2, 2], [8, 11, 248, 2, 2, 0], [8, 11, 265, 64, 1, 6], [8, 11, 277, 35, 1, 3]] : List (List Nat)), pv_sem pv_prog c := List.forall_mem_cons.mpr ⟨lk_7_12_311_181_1, List.forall_mem_cons.mpr ⟨lk_7_12_329_184_3, List.forall_mem_cons.mpr ⟨lk_7_12_446_226_2, List.forall_mem_cons.mpr ⟨lk_7_12_458_228_2, List.forall_mem_cons.mpr ⟨lk_7_12_468_236_1, List.forall_mem_cons.mpr ⟨lk_8_1_53_21_1_3, List.forall_mem_cons.mpr ⟨lk_8_1_93_22_1_3, List.forall_mem_cons.mpr ⟨lk_8_1_102_23_1_3, List.forall_mem_cons.mpr ⟨lk_8_2_48_23_1_3, List.forall_mem_cons.mpr ⟨lk_8_3_73_25_3_3, List.forall_mem_cons.mpr ⟨lk_8_3_102_32_2_3, List.forall_mem_cons.mpr ⟨lk_8_3_105_31_0_3, List.forall_mem_cons.mpr ⟨lk_8_4_39_21_1_3, List.forall_mem_cons.mpr ⟨lk_8_4_48_30_1_3, List.forall_mem_cons.mpr ⟨lk_8_4_69_40_2_4, List.forall_mem_cons.mpr ⟨lk_8_4_84_25_3_3, List.forall_mem_cons.mpr ⟨lk_8_5_35_51_0_5, List.forall_mem_cons.mpr ⟨lk_8_5_111_56_1_5, List.forall_mem_cons.mpr ⟨lk_8_5_129_61_0_5, List.forall_mem_cons.mpr ⟨lk_8_6_60_69_3_6, List.forall_mem_cons.mpr ⟨lk_8_6_64_71_1_6, List.forall_mem_cons.mpr ⟨lk_8_8_50_82_1_8, List.forall_mem_cons.mpr ⟨lk_8_10_65_21_1_3, List.forall_mem_cons.mpr ⟨lk_8_10_72_88_3_10, List.forall_mem_cons.mpr ⟨lk_8_10_80_90_1_10, List.forall_mem_cons.mpr ⟨lk_8_10_91_22_1_3, List.forall_mem_cons.mpr ⟨lk_8_10_94_4_2_1, List.forall_mem_cons.mpr ⟨lk_8_10_99_92_0_10, List.forall_mem_cons.mpr ⟨lk_8_10_102_87_2_10, List.forall_mem_cons.mpr ⟨lk_8_11_150_25_3_3, List.forall_mem_cons.mpr ⟨lk_8_11_182_45_3_5, List.forall_mem_cons.mpr ⟨lk_8_11_189_28_2_3, List.forall_mem_cons.mpr ⟨lk_8_11_216_129_0_11, List.forall_mem_cons.mpr ⟨lk_8_11_219_130_0_11, List.forall_mem_cons.mpr ⟨lk_8_11_222_131_0_11, List.forall_mem_cons.mpr ⟨lk_8_11_230_34_1_3, List.forall_mem_cons.mpr ⟨lk_8_11_237_18_2_2, List.forall_mem_cons.mpr ⟨lk_8_11_248_2_2_0, List.forall_mem_cons.mpr ⟨lk_8_11_265_64_1_6, List.forall_mem_cons.mpr ⟨lk_8_11_277_35_1_3, fun _ h => absurd h List.not_mem_nil⟩⟩⟩⟩⟩⟩⟩⟩⟩⟩⟩⟩⟩⟩⟩⟩⟩⟩⟩⟩⟩⟩⟩⟩⟩⟩⟩⟩⟩⟩⟩⟩⟩⟩⟩⟩⟩⟩⟩⟩
theorem lks_15 : ∀ c ∈ ([[8, 11, 280, 80, 4, 8], [8, 11, 297, 38, 1, 4], [8, 11, 301, 42, 0, 4], [8, 11, 307, 43, 1, 4], [8, 11, 315, 89, 2, 10], [8, 11, 322, 93, 1, 10], [8, 11, 325, 66, 1, 6], [8, 11, 329, 36, 2, 3], [8, 11, 335, 85, 1, 9], [8, 11, 354, 27, 0, 3], [8, 11, 357, 127, 1, 11], [8, 11, 360, 87, 2, 10], [8, 11, 373, 31, 0, 3], [8, 11, 376, 133, 1, 11], [8, 11, 379, 29, 1, 3], [8, 11, 385, 32, 2, 3], [8, 11, 388, 15, 3, 2], [8, 11, 392, 7, 1, 1], [8, 11, 399, 8, 1, 1], [8, 11, 402, 135, 2, 11], [8, 11, 405, 16, 0, 2], [8, 11, 412, 9, 2, 1], [8, 12, 276, 166, 0, 12], [8, 12, 302, 179, 0, 12], [8, 12, 308, 178, 1, 12], [8, 12, 317, 180, 0, 12], [8, 12, 323, 165, 1, 12], [8, 12, 365, 194, 2, 12], [8, 12, 371, 197, 1, 12], [8, 12, 383, 200, 1, 12], [8, 12, 408, 196, 0, 12], [8, 12, 412, 207, 0, 12], [8, 12, 440, 222, 0, 12], [8, 12, 443, 224, 2, 12], [8, 12, 453, 227, 0, 12], [8, 12, 462, 232, 0, 12], [8, 12, 465, 231, 0, 12], [8, 12, 471, 234, 0, 12], [8, 12, 477, 238, 1, 12], [8, 12, 486, 242, 2, 12]] : List (List Nat)), pv_sem pv_prog c := List.forall_mem_cons.mpr ⟨lk_8_11_280_80_4_8, List.forall_mem_cons.mpr ⟨lk_8_11_297_38_1_4, List.forall_mem_cons.mpr ⟨lk_8_11_301_42_0_4, List.forall_mem_cons.mpr ⟨lk_8_11_307_43_1_4, List.forall_mem_cons.mpr ⟨lk_8_11_315_89_2_10, List.forall_mem_cons.mpr ⟨lk_8_11_322_93_1_10, List.forall_mem_cons.mpr ⟨lk_8_11_325_66_1_6, List.forall_mem_cons.mpr ⟨lk_8_11_329_36_2_3, List.forall_mem_cons.mpr ⟨lk_8_11_335_85_1_9, List.forall_mem_cons.mpr ⟨lk_8_11_354_27_0_3, List.forall_mem_cons.mpr ⟨lk_8_11_357_127_1_11, List.forall_mem_cons.mpr ⟨lk_8_11_360_87_2_10, List.forall_mem_cons.mpr ⟨lk_8_11_373_31_0_3, List.forall_mem_cons.mpr ⟨lk_8_11_376_133_1_11, List.forall_mem_cons.mpr ⟨lk_8_11_379_29_1_3, List.forall_mem_cons.mpr ⟨lk_8_11_385_32_2_3, List.forall_mem_cons.mpr ⟨lk_8_11_388_15_3_2, List.forall_mem_cons.mpr ⟨lk_8_11_392_7_1_1, List.forall_mem_cons.mpr ⟨lk_8_11_399_8_1_1, List.forall_mem_cons.mpr ⟨lk_8_11_402_135_2_11, List.forall_mem_cons.mpr ⟨lk_8_11_405_16_0_2, List.forall_mem_cons.mpr ⟨lk_8_11_412_9_2_1, List.forall_mem_cons.mpr ⟨lk_8_12_276_166_0_12, List.forall_mem_cons.mpr ⟨lk_8_12_302_179_0_12, List.forall_mem_cons.mpr ⟨lk_8_12_308_178_1_12, List.forall_mem_cons.mpr ⟨lk_8_12_317_180_0_12, List.forall_mem_cons.mpr ⟨lk_8_12_323_165_1_12, List.forall_mem_cons.mpr ⟨lk_8_12_365_194_2_12, List.forall_mem_cons.mpr ⟨lk_8_12_371_197_1_12, List.forall_mem_cons.mpr ⟨lk_8_12_383_200_1_12, List.forall_mem_cons.mpr ⟨lk_8_12_408_196_0_12, List.forall_mem_cons.mpr ⟨lk_8_12_412_207_0_12, List.forall_mem_cons.mpr ⟨lk_8_12_440_222_0_12, List.forall_mem_cons.mpr ⟨lk_8_12_443_224_2_12, List.forall_mem_cons.mpr ⟨lk_8_12_453_227_0_12, List.forall_mem_cons.mpr ⟨lk_8_12_462_232_0_12, List.forall_mem_cons.mpr ⟨lk_8_12_465_231_0_12, List.forall_mem_cons.mpr ⟨lk_8_12_471_234_0_12, List.forall_mem_cons.mpr ⟨lk_8_12_477_238_1_12, List.forall_mem_cons.mpr ⟨lk_8_12_486_242_2_12, fun _ h => absurd h List.not_mem_nil⟩⟩⟩⟩⟩⟩⟩⟩⟩⟩⟩⟩⟩⟩⟩⟩⟩⟩⟩⟩⟩⟩⟩⟩⟩⟩⟩⟩⟩⟩⟩⟩⟩⟩⟩⟩⟩⟩⟩⟩
theorem lks_16 : ∀ c ∈ ([[8, 12, 489, 244, 1, 12], [9, 1, 17, 74, 0], [9, 11, 11, 19, 0], [9, 11, 18, 0, 0], [9, 11, 25, 14, 0], [9, 11, 32, 3, 3], [9, 11, 41, 86, 2], [9, 11, 50, 83, 0], [9, 11, 57, 44, 0], [9, 11, 64, 62, 0], [9, 11, 71, 37, 2], [9, 11, 80, 79, 0], [9, 11, 87, 74, 0]] : List (List Nat)), pv_sem pv_prog c := List.forall_mem_cons.mpr ⟨lk_8_12_489_244_1_12, List.forall_mem_cons.mpr ⟨lk_9_1_17_74_0, List.forall_mem_cons.mpr ⟨lk_9_11_11_19_0, List.forall_mem_cons.mpr ⟨lk_9_11_18_0_0, List.forall_mem_cons.mpr ⟨lk_9_11_25_14_0, List.forall_mem_cons.mpr ⟨lk_9_11_32_3_3, List.forall_mem_cons.mpr ⟨lk_9_11_41_86_2, List.forall_mem_cons.mpr ⟨lk_9_11_50_83_0, List.forall_mem_cons.mpr ⟨lk_9_11_57_44_0, List.forall_mem_cons.mpr ⟨lk_9_11_64_62_0, List.forall_mem_cons.mpr ⟨lk_9_11_71_37_2, List.forall_mem_cons.mpr ⟨lk_9_11_80_79_0, List.forall_mem_cons.mpr ⟨lk_9_11_87_74_0, fun _ h => absurd h List.not_mem_nil⟩⟩⟩⟩⟩⟩⟩⟩⟩⟩⟩⟩⟩
theorem mf_X0_init : pv_mf mX0_init := ⟨(pv_mT 262 (by decide +kernel)), (pv_mT 149 (by decide +kernel))⟩
theorem mf_X0_carries : pv_mf mX0_carries := ⟨(pv_mT 1099 (by decide +kernel)), (pv_mT 149 (by decide +kernel))⟩
theorem mf_X0_factOf : pv_mf mX0_factOf := ⟨(pv_mT 1091 (by decide +kernel)), (pv_mT 149 (by decide +kernel))⟩
theorem mf_X1_init : pv_mf mX1_init := ⟨(pv_mT 361 (by decide +kernel)), (pv_mT 151 (by decide +kernel))⟩
theorem mf_X1_growth : pv_mf mX1_growth := ⟨(pv_mT 924 (by decide +kernel)), (pv_mT 151 (by decide +kernel))⟩
theorem mf_X1_oddsOfFall : pv_mf mX1_oddsOfFall := ⟨(pv_mT 928 (by decide +kernel)), (pv_mT 151 (by decide +kernel))⟩
theorem mf_X1_ageing : pv_mf mX1_ageing := ⟨(pv_mT 892 (by decide +kernel)), (pv_mT 151 (by decide +kernel))⟩
theorem mf_X1_catchingLevel : pv_mf mX1_catchingLevel := ⟨(pv_mT 971 (by decide +kernel)), (pv_mT 151 (by decide +kernel))⟩
theorem mf_X1_ownerOf : pv_mf mX1_ownerOf := ⟨(pv_mT 981 (by decide +kernel)), (pv_mT 151 (by decide +kernel))⟩
theorem mf_X1_pointsOf : pv_mf mX1_pointsOf := ⟨(pv_mT 1075 (by decide +kernel)), (pv_mT 151 (by decide +kernel))⟩
theorem mf_X1_seeCell : pv_mf mX1_seeCell := ⟨(pv_mT 900 (by decide +kernel)), (pv_mT 151 (by decide +kernel))⟩
theorem mf_X1_seeCellAndCrop : pv_mf mX1_seeCellAndCrop := ⟨(pv_mT 896 (by decide +kernel)), (pv_mT 151 (by decide +kernel))⟩
theorem mf_X1_seeFallen : pv_mf mX1_seeFallen := ⟨(pv_mT 977 (by decide +kernel)), (pv_mT 151 (by decide +kernel))⟩
theorem mf_X1_seeFallFromItsCell : pv_mf mX1_seeFallFromItsCell := ⟨(pv_mT 985 (by decide +kernel)), (pv_mT 151 (by decide +kernel))⟩
theorem mf_X2_init : pv_mf mX2_init := ⟨(pv_mT 308 (by decide +kernel)), (pv_mT 150 (by decide +kernel))⟩
theorem mf_X2_open : pv_mf mX2_open := ⟨(pv_mT 966 (by decide +kernel)), (pv_mT 150 (by decide +kernel))⟩
theorem mf_X2_close : pv_mf mX2_close := ⟨(pv_mT 993 (by decide +kernel)), (pv_mT 150 (by decide +kernel))⟩
theorem mf_X2_isWritten : pv_mf mX2_isWritten := ⟨(pv_mT 1059 (by decide +kernel)), (pv_mT 150 (by decide +kernel))⟩
theorem mf_X2_factOf : pv_mf mX2_factOf := ⟨(pv_mT 1063 (by decide +kernel)), (pv_mT 150 (by decide +kernel))⟩
theorem mf_X3_init : pv_mf mX3_init := ⟨(pv_mT 181 (by decide +kernel)), (pv_mT 147 (by decide +kernel))⟩
theorem mf_X3_endOfColumn : pv_mf mX3_endOfColumn := ⟨(pv_mT 884 (by decide +kernel)), (pv_mT 147 (by decide +kernel))⟩
theorem mf_X3_hangs : pv_mf mX3_hangs := ⟨(pv_mT 643 (by decide +kernel)), (pv_mT 147 (by decide +kernel))⟩
theorem mf_X3_hasCrop : pv_mf mX3_hasCrop := ⟨(pv_mT 671 (by decide +kernel)), (pv_mT 147 (by decide +kernel))⟩
theorem mf_X3_isRipe : pv_mf mX3_isRipe := ⟨(pv_mT 906 (by decide +kernel)), (pv_mT 147 (by decide +kernel))⟩
theorem mf_X3_needOf : pv_mf mX3_needOf := ⟨(pv_mT 948 (by decide +kernel)), (pv_mT 147 (by decide +kernel))⟩
theorem mf_X3_setCrop : pv_mf mX3_setCrop := ⟨(pv_mT 651 (by decide +kernel)), (pv_mT 147 (by decide +kernel))⟩
theorem mf_X3_clearCrop : pv_mf mX3_clearCrop := ⟨(pv_mT 647 (by decide +kernel)), (pv_mT 147 (by decide +kernel))⟩
theorem mf_X3_crops : pv_mf mX3_crops := ⟨(pv_mT 1293 (by decide +kernel)), (pv_mT 147 (by decide +kernel))⟩
theorem mf_X3_factOf : pv_mf mX3_factOf := ⟨(pv_mT 877 (by decide +kernel)), (pv_mT 147 (by decide +kernel))⟩
theorem mf_X3_loadOf : pv_mf mX3_loadOf := ⟨(pv_mT 881 (by decide +kernel)), (pv_mT 147 (by decide +kernel))⟩
theorem mf_X3_ripeLoadOf : pv_mf mX3_ripeLoadOf := ⟨(pv_mT 1202 (by decide +kernel)), (pv_mT 147 (by decide +kernel))⟩
theorem mf_X3_firstOverloaded : pv_mf mX3_firstOverloaded := ⟨(pv_mT 1005 (by decide +kernel)), (pv_mT 147 (by decide +kernel))⟩
theorem mf_X3_unhang : pv_mf mX3_unhang := ⟨(pv_mT 1015 (by decide +kernel)), (pv_mT 147 (by decide +kernel))⟩
theorem mf_X3_loosen : pv_mf mX3_loosen := ⟨(pv_mT 1020 (by decide +kernel)), (pv_mT 147 (by decide +kernel))⟩
theorem mf_X3_wouldGo : pv_mf mX3_wouldGo := ⟨(pv_mT 1048 (by decide +kernel)), (pv_mT 147 (by decide +kernel))⟩
theorem mf_X3_columnsOf : pv_mf mX3_columnsOf := ⟨(pv_mT 1169 (by decide +kernel)), (pv_mT 147 (by decide +kernel))⟩
theorem mf_X3_highestFall : pv_mf mX3_highestFall := ⟨(pv_mT 1277 (by decide +kernel)), (pv_mT 147 (by decide +kernel))⟩
theorem mf_X4_init : pv_mf mX4_init := ⟨(pv_mT 539 (by decide +kernel)), (pv_mT 157 (by decide +kernel))⟩
theorem mf_X4_choose : pv_mf mX4_choose := ⟨(pv_mT 1197 (by decide +kernel)), (pv_mT 157 (by decide +kernel))⟩
theorem mf_X4_tryCell : pv_mf mX4_tryCell := ⟨(pv_mT 1207 (by decide +kernel)), (pv_mT 157 (by decide +kernel))⟩
theorem mf_X4_fits : pv_mf mX4_fits := ⟨(pv_mT 1212 (by decide +kernel)), (pv_mT 157 (by decide +kernel))⟩
theorem mf_X4_burden : pv_mf mX4_burden := ⟨(pv_mT 1216 (by decide +kernel)), (pv_mT 157 (by decide +kernel))⟩
theorem mf_X4_carryOut : pv_mf mX4_carryOut := ⟨(pv_mT 1220 (by decide +kernel)), (pv_mT 157 (by decide +kernel))⟩
theorem mf_X4_kindAt : pv_mf mX4_kindAt := ⟨(pv_mT 1225 (by decide +kernel)), (pv_mT 157 (by decide +kernel))⟩
theorem mf_X5_init : pv_mf mX5_init := ⟨(pv_mT 486 (by decide +kernel)), (pv_mT 155 (by decide +kernel))⟩
theorem mf_X5_read : pv_mf mX5_read := ⟨(pv_mT 710 (by decide +kernel)), (pv_mT 155 (by decide +kernel))⟩
theorem mf_X5_look : pv_mf mX5_look := ⟨(pv_mT 718 (by decide +kernel)), (pv_mT 155 (by decide +kernel))⟩
theorem mf_X5_fail : pv_mf mX5_fail := ⟨(pv_mT 812 (by decide +kernel)), (pv_mT 155 (by decide +kernel))⟩
theorem mf_X5_expect : pv_mf mX5_expect := ⟨(pv_mT 832 (by decide +kernel)), (pv_mT 155 (by decide +kernel))⟩
theorem mf_X5_enter : pv_mf mX5_enter := ⟨(pv_mT 828 (by decide +kernel)), (pv_mT 155 (by decide +kernel))⟩
theorem mf_X5_isOneOf : pv_mf mX5_isOneOf := ⟨(pv_mT 722 (by decide +kernel)), (pv_mT 155 (by decide +kernel))⟩
theorem mf_X5_readClause : pv_mf mX5_readClause := ⟨(pv_mT 714 (by decide +kernel)), (pv_mT 155 (by decide +kernel))⟩
theorem mf_X5_readCondition : pv_mf mX5_readCondition := ⟨(pv_mT 850 (by decide +kernel)), (pv_mT 155 (by decide +kernel))⟩
theorem mf_X5_readPart : pv_mf mX5_readPart := ⟨(pv_mT 854 (by decide +kernel)), (pv_mT 155 (by decide +kernel))⟩
theorem mf_X5_readJump : pv_mf mX5_readJump := ⟨(pv_mT 867 (by decide +kernel)), (pv_mT 155 (by decide +kernel))⟩
theorem mf_X5_readPiece : pv_mf mX5_readPiece := ⟨(pv_mT 858 (by decide +kernel)), (pv_mT 155 (by decide +kernel))⟩
theorem mf_X5_readComparison : pv_mf mX5_readComparison := ⟨(pv_mT 862 (by decide +kernel)), (pv_mT 155 (by decide +kernel))⟩
theorem mf_X5_readSum : pv_mf mX5_readSum := ⟨(pv_mT 816 (by decide +kernel)), (pv_mT 155 (by decide +kernel))⟩
theorem mf_X5_readTerm : pv_mf mX5_readTerm := ⟨(pv_mT 820 (by decide +kernel)), (pv_mT 155 (by decide +kernel))⟩
theorem mf_X5_readFactor : pv_mf mX5_readFactor := ⟨(pv_mT 824 (by decide +kernel)), (pv_mT 155 (by decide +kernel))⟩
theorem mf_X5_isDigit : pv_mf mX5_isDigit := ⟨(pv_mT 835 (by decide +kernel)), (pv_mT 155 (by decide +kernel))⟩
theorem mf_X5_readNumber : pv_mf mX5_readNumber := ⟨(pv_mT 839 (by decide +kernel)), (pv_mT 155 (by decide +kernel))⟩
theorem mf_X6_init : pv_mf mX6_init := ⟨(pv_mT 508 (by decide +kernel)), (pv_mT 156 (by decide +kernel))⟩
theorem mf_X6_tell : pv_mf mX6_tell := ⟨(pv_mT 1119 (by decide +kernel)), (pv_mT 156 (by decide +kernel))⟩
theorem mf_X6_asWork : pv_mf mX6_asWork := ⟨(pv_mT 1124 (by decide +kernel)), (pv_mT 156 (by decide +kernel))⟩
theorem mf_X6_hoursBetween : pv_mf mX6_hoursBetween := ⟨(pv_mT 1127 (by decide +kernel)), (pv_mT 156 (by decide +kernel))⟩
theorem mf_X6_asMending : pv_mf mX6_asMending := ⟨(pv_mT 1268 (by decide +kernel)), (pv_mT 156 (by decide +kernel))⟩
theorem mf_X6_solve : pv_mf mX6_solve := ⟨(pv_mT 1134 (by decide +kernel)), (pv_mT 156 (by decide +kernel))⟩
theorem mf_X6_spentOn : pv_mf mX6_spentOn := ⟨(pv_mT 1138 (by decide +kernel)), (pv_mT 156 (by decide +kernel))⟩
theorem mf_X6_leastOnward : pv_mf mX6_leastOnward := ⟨(pv_mT 1142 (by decide +kernel)), (pv_mT 156 (by decide +kernel))⟩
theorem mf_X6_costVia : pv_mf mX6_costVia := ⟨(pv_mT 1147 (by decide +kernel)), (pv_mT 156 (by decide +kernel))⟩
theorem mf_X6_findRow : pv_mf mX6_findRow := ⟨(pv_mT 1152 (by decide +kernel)), (pv_mT 156 (by decide +kernel))⟩
theorem mf_X6_least : pv_mf mX6_least := ⟨(pv_mT 1156 (by decide +kernel)), (pv_mT 156 (by decide +kernel))⟩
theorem mf_X6_cellAt : pv_mf mX6_cellAt := ⟨(pv_mT 1160 (by decide +kernel)), (pv_mT 156 (by decide +kernel))⟩
theorem mf_X7_init : pv_mf mX7_init := ⟨(pv_mT 367 (by decide +kernel)), (pv_mT 152 (by decide +kernel))⟩
theorem mf_X7_put : pv_mf mX7_put := ⟨(pv_mT 843 (by decide +kernel)), (pv_mT 152 (by decide +kernel))⟩
theorem mf_X7_answer : pv_mf mX7_answer := ⟨(pv_mT 911 (by decide +kernel)), (pv_mT 152 (by decide +kernel))⟩
theorem mf_X7_reckon : pv_mf mX7_reckon := ⟨(pv_mT 915 (by decide +kernel)), (pv_mT 152 (by decide +kernel))⟩
theorem mf_X7_joined : pv_mf mX7_joined := ⟨(pv_mT 919 (by decide +kernel)), (pv_mT 152 (by decide +kernel))⟩
theorem mf_X8_init : pv_mf mX8_init := ⟨(pv_mT 571 (by decide +kernel)), (pv_mT 158 (by decide +kernel))⟩
theorem mf_X8_fly : pv_mf mX8_fly := ⟨(pv_mT 1173 (by decide +kernel)), (pv_mT 158 (by decide +kernel))⟩
theorem mf_X8_arrive : pv_mf mX8_arrive := ⟨(pv_mT 1178 (by decide +kernel)), (pv_mT 158 (by decide +kernel))⟩
theorem mf_X8_cancel : pv_mf mX8_cancel := ⟨(pv_mT 1185 (by decide +kernel)), (pv_mT 158 (by decide +kernel))⟩
theorem mf_X9_init : pv_mf mX9_init := ⟨(pv_mT 471 (by decide +kernel)), (pv_mT 154 (by decide +kernel))⟩
theorem mf_X9_append : pv_mf mX9_append := ⟨(pv_mT 702 (by decide +kernel)), (pv_mT 154 (by decide +kernel))⟩
theorem mf_X9_numberAt : pv_mf mX9_numberAt := ⟨(pv_mT 1285 (by decide +kernel)), (pv_mT 154 (by decide +kernel))⟩
theorem mf_X10_init : pv_mf mX10_init := ⟨(pv_mT 429 (by decide +kernel)), (pv_mT 153 (by decide +kernel))⟩
theorem mf_X10_pour : pv_mf mX10_pour := ⟨(pv_mT 940 (by decide +kernel)), (pv_mT 153 (by decide +kernel))⟩
theorem mf_X10_passOn : pv_mf mX10_passOn := ⟨(pv_mT 954 (by decide +kernel)), (pv_mT 153 (by decide +kernel))⟩
theorem mf_X10_share : pv_mf mX10_share := ⟨(pv_mT 1240 (by decide +kernel)), (pv_mT 153 (by decide +kernel))⟩
theorem mf_X10_reckonGrowth : pv_mf mX10_reckonGrowth := ⟨(pv_mT 1244 (by decide +kernel)), (pv_mT 153 (by decide +kernel))⟩
theorem mf_X10_tryValve : pv_mf mX10_tryValve := ⟨(pv_mT 1250 (by decide +kernel)), (pv_mT 153 (by decide +kernel))⟩
theorem mf_X10_weighTrial : pv_mf mX10_weighTrial := ⟨(pv_mT 1254 (by decide +kernel)), (pv_mT 153 (by decide +kernel))⟩
theorem mf_X10_dropsAt : pv_mf mX10_dropsAt := ⟨(pv_mT 1259 (by decide +kernel)), (pv_mT 153 (by decide +kernel))⟩
theorem mf_X11_init : pv_mf mX11_init := ⟨(pv_mT 173 (by decide +kernel)), (pv_mT 146 (by decide +kernel))⟩
theorem mf_X11_hang : pv_mf mX11_hang := ⟨(pv_mT 630 (by decide +kernel)), (pv_mT 146 (by decide +kernel))⟩
theorem mf_X11_knot : pv_mf mX11_knot := ⟨(pv_mT 655 (by decide +kernel)), (pv_mT 146 (by decide +kernel))⟩
theorem mf_X11_kind : pv_mf mX11_kind := ⟨(pv_mT 663 (by decide +kernel)), (pv_mT 146 (by decide +kernel))⟩
theorem mf_X11_plant : pv_mf mX11_plant := ⟨(pv_mT 667 (by decide +kernel)), (pv_mT 146 (by decide +kernel))⟩
theorem mf_X11_valve : pv_mf mX11_valve := ⟨(pv_mT 678 (by decide +kernel)), (pv_mT 146 (by decide +kernel))⟩
theorem mf_X11_kitchen : pv_mf mX11_kitchen := ⟨(pv_mT 682 (by decide +kernel)), (pv_mT 146 (by decide +kernel))⟩
theorem mf_X11_rope : pv_mf mX11_rope := ⟨(pv_mT 689 (by decide +kernel)), (pv_mT 146 (by decide +kernel))⟩
theorem mf_X11_seed : pv_mf mX11_seed := ⟨(pv_mT 693 (by decide +kernel)), (pv_mT 146 (by decide +kernel))⟩
theorem mf_X11_feed : pv_mf mX11_feed := ⟨(pv_mT 698 (by decide +kernel)), (pv_mT 146 (by decide +kernel))⟩
theorem mf_X11_law : pv_mf mX11_law := ⟨(pv_mT 706 (by decide +kernel)), (pv_mT 146 (by decide +kernel))⟩
theorem mf_X11_cell : pv_mf mX11_cell := ⟨(pv_mT 873 (by decide +kernel)), (pv_mT 146 (by decide +kernel))⟩
theorem mf_X11_byLaw : pv_mf mX11_byLaw := ⟨(pv_mT 888 (by decide +kernel)), (pv_mT 146 (by decide +kernel))⟩
theorem mf_X11_water : pv_mf mX11_water := ⟨(pv_mT 932 (by decide +kernel)), (pv_mT 146 (by decide +kernel))⟩
theorem mf_X11_fall : pv_mf mX11_fall := ⟨(pv_mT 958 (by decide +kernel)), (pv_mT 146 (by decide +kernel))⟩
theorem mf_X11_go : pv_mf mX11_go := ⟨(pv_mT 997 (by decide +kernel)), (pv_mT 146 (by decide +kernel))⟩
theorem mf_X11_day : pv_mf mX11_day := ⟨(pv_mT 1025 (by decide +kernel)), (pv_mT 146 (by decide +kernel))⟩
theorem mf_X11_torn : pv_mf mX11_torn := ⟨(pv_mT 1043 (by decide +kernel)), (pv_mT 146 (by decide +kernel))⟩
theorem mf_X11_fallIs : pv_mf mX11_fallIs := ⟨(pv_mT 1055 (by decide +kernel)), (pv_mT 146 (by decide +kernel))⟩
theorem mf_X11_claimed : pv_mf mX11_claimed := ⟨(pv_mT 1067 (by decide +kernel)), (pv_mT 146 (by decide +kernel))⟩
theorem mf_X11_right : pv_mf mX11_right := ⟨(pv_mT 1079 (by decide +kernel)), (pv_mT 146 (by decide +kernel))⟩
theorem mf_X11_food : pv_mf mX11_food := ⟨(pv_mT 1083 (by decide +kernel)), (pv_mT 146 (by decide +kernel))⟩
theorem mf_X11_kitchenIs : pv_mf mX11_kitchenIs := ⟨(pv_mT 1087 (by decide +kernel)), (pv_mT 146 (by decide +kernel))⟩
theorem mf_X11_mayWork : pv_mf mX11_mayWork := ⟨(pv_mT 1095 (by decide +kernel)), (pv_mT 146 (by decide +kernel))⟩
theorem mf_X11_work : pv_mf mX11_work := ⟨(pv_mT 1103 (by decide +kernel)), (pv_mT 146 (by decide +kernel))⟩
theorem mf_X11_pollen : pv_mf mX11_pollen := ⟨(pv_mT 1165 (by decide +kernel)), (pv_mT 146 (by decide +kernel))⟩
theorem mf_X11_pollinate : pv_mf mX11_pollinate := ⟨(pv_mT 1189 (by decide +kernel)), (pv_mT 146 (by decide +kernel))⟩
theorem mf_X11_planted : pv_mf mX11_planted := ⟨(pv_mT 1193 (by decide +kernel)), (pv_mT 146 (by decide +kernel))⟩
theorem mf_X11_drought : pv_mf mX11_drought := ⟨(pv_mT 1230 (by decide +kernel)), (pv_mT 146 (by decide +kernel))⟩
theorem mf_X11_mended : pv_mf mX11_mended := ⟨(pv_mT 1264 (by decide +kernel)), (pv_mT 146 (by decide +kernel))⟩
theorem mf_X11_hail : pv_mf mX11_hail := ⟨(pv_mT 1273 (by decide +kernel)), (pv_mT 146 (by decide +kernel))⟩
theorem mf_X11_check : pv_mf mX11_check := ⟨(pv_mT 1281 (by decide +kernel)), (pv_mT 146 (by decide +kernel))⟩
theorem mf_X11_count : pv_mf mX11_count := ⟨(pv_mT 1289 (by decide +kernel)), (pv_mT 146 (by decide +kernel))⟩
theorem mf_X11_countOfRow : pv_mf mX11_countOfRow := ⟨(pv_mT 1297 (by decide +kernel)), (pv_mT 146 (by decide +kernel))⟩
theorem mf_X11_letWaterFlow : pv_mf mX11_letWaterFlow := ⟨(pv_mT 936 (by decide +kernel)), (pv_mT 146 (by decide +kernel))⟩
theorem mf_X11_letCropsGrow : pv_mf mX11_letCropsGrow := ⟨(pv_mT 1029 (by decide +kernel)), (pv_mT 146 (by decide +kernel))⟩
theorem mf_X11_letCropsFall : pv_mf mX11_letCropsFall := ⟨(pv_mT 1034 (by decide +kernel)), (pv_mT 146 (by decide +kernel))⟩
theorem mf_X11_letKnotsAge : pv_mf mX11_letKnotsAge := ⟨(pv_mT 1038 (by decide +kernel)), (pv_mT 146 (by decide +kernel))⟩
theorem mf_X11_letKnotsGo : pv_mf mX11_letKnotsGo := ⟨(pv_mT 1001 (by decide +kernel)), (pv_mT 146 (by decide +kernel))⟩
theorem mf_X11_tearDown : pv_mf mX11_tearDown := ⟨(pv_mT 1009 (by decide +kernel)), (pv_mT 146 (by decide +kernel))⟩
theorem mf_X11_dropCrop : pv_mf mX11_dropCrop := ⟨(pv_mT 962 (by decide +kernel)), (pv_mT 146 (by decide +kernel))⟩
theorem mf_X11_landInKitchen : pv_mf mX11_landInKitchen := ⟨(pv_mT 989 (by decide +kernel)), (pv_mT 146 (by decide +kernel))⟩
theorem mf_X11_claimantOf : pv_mf mX11_claimantOf := ⟨(pv_mT 1071 (by decide +kernel)), (pv_mT 146 (by decide +kernel))⟩
theorem mf_X11_hungCell : pv_mf mX11_hungCell := ⟨(pv_mT 659 (by decide +kernel)), (pv_mT 146 (by decide +kernel))⟩
theorem mf_X11_within : pv_mf mX11_within := ⟨(pv_mT 639 (by decide +kernel)), (pv_mT 146 (by decide +kernel))⟩
theorem mf_X11_isColumn : pv_mf mX11_isColumn := ⟨(pv_mT 636 (by decide +kernel)), (pv_mT 146 (by decide +kernel))⟩
theorem mf_X11_isPerson : pv_mf mX11_isPerson := ⟨(pv_mT 685 (by decide +kernel)), (pv_mT 146 (by decide +kernel))⟩
theorem mf_X11_isCell : pv_mf mX11_isCell := ⟨(pv_mT 633 (by decide +kernel)), (pv_mT 146 (by decide +kernel))⟩
theorem mf_X11_isTold : pv_mf mX11_isTold := ⟨(pv_mT 1115 (by decide +kernel)), (pv_mT 146 (by decide +kernel))⟩
theorem mf_X11_toldCells : pv_mf mX11_toldCells := ⟨(pv_mT 1106 (by decide +kernel)), (pv_mT 146 (by decide +kernel))⟩
theorem mf_X12_init : pv_mf mX12_init := ⟨(pv_mT 1302 (by decide +kernel)), (pv_mT 159 (by decide +kernel))⟩
theorem mf_X12_in : pv_mf mX12_in := ⟨(pv_mT 1549 (by decide +kernel)), (pv_mT 159 (by decide +kernel))⟩
theorem mf_X12_less : pv_mf mX12_less := ⟨(pv_mT 1737 (by decide +kernel)), (pv_mT 159 (by decide +kernel))⟩
theorem mf_X12_more : pv_mf mX12_more := ⟨(pv_mT 1784 (by decide +kernel)), (pv_mT 159 (by decide +kernel))⟩
theorem mf_X12_isCell : pv_mf mX12_isCell := ⟨(pv_mT 1546 (by decide +kernel)), (pv_mT 159 (by decide +kernel))⟩
theorem mf_X12_at : pv_mf mX12_at := ⟨(pv_mT 1552 (by decide +kernel)), (pv_mT 159 (by decide +kernel))⟩
theorem mf_X12_isHung : pv_mf mX12_isHung := ⟨(pv_mT 1564 (by decide +kernel)), (pv_mT 159 (by decide +kernel))⟩
theorem mf_X12_hang : pv_mf mX12_hang := ⟨(pv_mT 1543 (by decide +kernel)), (pv_mT 159 (by decide +kernel))⟩
theorem mf_X12_empties : pv_mf mX12_empties := ⟨(pv_mT 1556 (by decide +kernel)), (pv_mT 159 (by decide +kernel))⟩
theorem mf_X12_knot : pv_mf mX12_knot := ⟨(pv_mT 1560 (by decide +kernel)), (pv_mT 159 (by decide +kernel))⟩
theorem mf_X12_kind : pv_mf mX12_kind := ⟨(pv_mT 1568 (by decide +kernel)), (pv_mT 159 (by decide +kernel))⟩
theorem mf_X12_plant : pv_mf mX12_plant := ⟨(pv_mT 1572 (by decide +kernel)), (pv_mT 159 (by decide +kernel))⟩
theorem mf_X12_valve : pv_mf mX12_valve := ⟨(pv_mT 1576 (by decide +kernel)), (pv_mT 159 (by decide +kernel))⟩
theorem mf_X12_kitchen : pv_mf mX12_kitchen := ⟨(pv_mT 1580 (by decide +kernel)), (pv_mT 159 (by decide +kernel))⟩
theorem mf_X12_rope : pv_mf mX12_rope := ⟨(pv_mT 1584 (by decide +kernel)), (pv_mT 159 (by decide +kernel))⟩
theorem mf_X12_seed : pv_mf mX12_seed := ⟨(pv_mT 1588 (by decide +kernel)), (pv_mT 159 (by decide +kernel))⟩
theorem mf_X12_types : pv_mf mX12_types := ⟨(pv_mT 1597 (by decide +kernel)), (pv_mT 159 (by decide +kernel))⟩
theorem mf_X12_feed : pv_mf mX12_feed := ⟨(pv_mT 1593 (by decide +kernel)), (pv_mT 159 (by decide +kernel))⟩
theorem mf_X12_here : pv_mf mX12_here := ⟨(pv_mT 1609 (by decide +kernel)), (pv_mT 159 (by decide +kernel))⟩
theorem mf_X12_isDigit : pv_mf mX12_isDigit := ⟨(pv_mT 1633 (by decide +kernel)), (pv_mT 159 (by decide +kernel))⟩
theorem mf_X12_wrongAt : pv_mf mX12_wrongAt := ⟨(pv_mT 1616 (by decide +kernel)), (pv_mT 159 (by decide +kernel))⟩
theorem mf_X12_takes : pv_mf mX12_takes := ⟨(pv_mT 1683 (by decide +kernel)), (pv_mT 159 (by decide +kernel))⟩
theorem mf_X12_readsNumber : pv_mf mX12_readsNumber := ⟨(pv_mT 1637 (by decide +kernel)), (pv_mT 159 (by decide +kernel))⟩
theorem mf_X12_notes : pv_mf mX12_notes := ⟨(pv_mT 1641 (by decide +kernel)), (pv_mT 159 (by decide +kernel))⟩
theorem mf_X12_opens : pv_mf mX12_opens := ⟨(pv_mT 1628 (by decide +kernel)), (pv_mT 159 (by decide +kernel))⟩
theorem mf_X12_top : pv_mf mX12_top := ⟨(pv_mT 1655 (by decide +kernel)), (pv_mT 159 (by decide +kernel))⟩
theorem mf_X12_factOf : pv_mf mX12_factOf := ⟨(pv_mT 1644 (by decide +kernel)), (pv_mT 159 (by decide +kernel))⟩
theorem mf_X12_sumSign : pv_mf mX12_sumSign := ⟨(pv_mT 1647 (by decide +kernel)), (pv_mT 159 (by decide +kernel))⟩
theorem mf_X12_closesSums : pv_mf mX12_closesSums := ⟨(pv_mT 1651 (by decide +kernel)), (pv_mT 159 (by decide +kernel))⟩
theorem mf_X12_readsFactor : pv_mf mX12_readsFactor := ⟨(pv_mT 1624 (by decide +kernel)), (pv_mT 159 (by decide +kernel))⟩
theorem mf_X12_hasOpenSum : pv_mf mX12_hasOpenSum := ⟨(pv_mT 1659 (by decide +kernel)), (pv_mT 159 (by decide +kernel))⟩
theorem mf_X12_readsSum : pv_mf mX12_readsSum := ⟨(pv_mT 1620 (by decide +kernel)), (pv_mT 159 (by decide +kernel))⟩
theorem mf_X12_endsPiece : pv_mf mX12_endsPiece := ⟨(pv_mT 1671 (by decide +kernel)), (pv_mT 159 (by decide +kernel))⟩
theorem mf_X12_lands : pv_mf mX12_lands := ⟨(pv_mT 1675 (by decide +kernel)), (pv_mT 159 (by decide +kernel))⟩
theorem mf_X12_jumps : pv_mf mX12_jumps := ⟨(pv_mT 1679 (by decide +kernel)), (pv_mT 159 (by decide +kernel))⟩
theorem mf_X12_readsCompared : pv_mf mX12_readsCompared := ⟨(pv_mT 1667 (by decide +kernel)), (pv_mT 159 (by decide +kernel))⟩
theorem mf_X12_readsCondition : pv_mf mX12_readsCondition := ⟨(pv_mT 1663 (by decide +kernel)), (pv_mT 159 (by decide +kernel))⟩
theorem mf_X12_canBegin : pv_mf mX12_canBegin := ⟨(pv_mT 1612 (by decide +kernel)), (pv_mT 159 (by decide +kernel))⟩
theorem mf_X12_readsClause : pv_mf mX12_readsClause := ⟨(pv_mT 1605 (by decide +kernel)), (pv_mT 159 (by decide +kernel))⟩
theorem mf_X12_law : pv_mf mX12_law := ⟨(pv_mT 1601 (by decide +kernel)), (pv_mT 159 (by decide +kernel))⟩
theorem mf_X12_reckon : pv_mf mX12_reckon := ⟨(pv_mT 1718 (by decide +kernel)), (pv_mT 159 (by decide +kernel))⟩
theorem mf_X12_comesTo : pv_mf mX12_comesTo := ⟨(pv_mT 1715 (by decide +kernel)), (pv_mT 159 (by decide +kernel))⟩
theorem mf_X12_told : pv_mf mX12_told := ⟨(pv_mT 1711 (by decide +kernel)), (pv_mT 159 (by decide +kernel))⟩
theorem mf_X12_feelsCell : pv_mf mX12_feelsCell := ⟨(pv_mT 1699 (by decide +kernel)), (pv_mT 159 (by decide +kernel))⟩
theorem mf_X12_feelsCrop : pv_mf mX12_feelsCrop := ⟨(pv_mT 1707 (by decide +kernel)), (pv_mT 159 (by decide +kernel))⟩
theorem mf_X12_isRipe : pv_mf mX12_isRipe := ⟨(pv_mT 1703 (by decide +kernel)), (pv_mT 159 (by decide +kernel))⟩
theorem mf_X12_feels : pv_mf mX12_feels := ⟨(pv_mT 1695 (by decide +kernel)), (pv_mT 159 (by decide +kernel))⟩
theorem mf_X12_asked : pv_mf mX12_asked := ⟨(pv_mT 1691 (by decide +kernel)), (pv_mT 159 (by decide +kernel))⟩
theorem mf_X12_byLaw : pv_mf mX12_byLaw := ⟨(pv_mT 1687 (by decide +kernel)), (pv_mT 159 (by decide +kernel))⟩
theorem mf_X12_sends : pv_mf mX12_sends := ⟨(pv_mT 1734 (by decide +kernel)), (pv_mT 159 (by decide +kernel))⟩
theorem mf_X12_drips : pv_mf mX12_drips := ⟨(pv_mT 1730 (by decide +kernel)), (pv_mT 159 (by decide +kernel))⟩
theorem mf_X12_flows : pv_mf mX12_flows := ⟨(pv_mT 1726 (by decide +kernel)), (pv_mT 159 (by decide +kernel))⟩
theorem mf_X12_water : pv_mf mX12_water := ⟨(pv_mT 1722 (by decide +kernel)), (pv_mT 159 (by decide +kernel))⟩
theorem mf_X12_ownLoad : pv_mf mX12_ownLoad := ⟨(pv_mT 1749 (by decide +kernel)), (pv_mT 159 (by decide +kernel))⟩
theorem mf_X12_loadOf : pv_mf mX12_loadOf := ⟨(pv_mT 1745 (by decide +kernel)), (pv_mT 159 (by decide +kernel))⟩
theorem mf_X12_cell : pv_mf mX12_cell := ⟨(pv_mT 1741 (by decide +kernel)), (pv_mT 159 (by decide +kernel))⟩
theorem mf_X12_catcher : pv_mf mX12_catcher := ⟨(pv_mT 1761 (by decide +kernel)), (pv_mT 159 (by decide +kernel))⟩
theorem mf_X12_writes : pv_mf mX12_writes := ⟨(pv_mT 1765 (by decide +kernel)), (pv_mT 159 (by decide +kernel))⟩
theorem mf_X12_falls : pv_mf mX12_falls := ⟨(pv_mT 1757 (by decide +kernel)), (pv_mT 159 (by decide +kernel))⟩
theorem mf_X12_fall : pv_mf mX12_fall := ⟨(pv_mT 1753 (by decide +kernel)), (pv_mT 159 (by decide +kernel))⟩
theorem mf_X12_firstGoing : pv_mf mX12_firstGoing := ⟨(pv_mT 1773 (by decide +kernel)), (pv_mT 159 (by decide +kernel))⟩
theorem mf_X12_tears : pv_mf mX12_tears := ⟨(pv_mT 1781 (by decide +kernel)), (pv_mT 159 (by decide +kernel))⟩
theorem mf_X12_goesOff : pv_mf mX12_goesOff := ⟨(pv_mT 1777 (by decide +kernel)), (pv_mT 159 (by decide +kernel))⟩
theorem mf_X12_go : pv_mf mX12_go := ⟨(pv_mT 1769 (by decide +kernel)), (pv_mT 159 (by decide +kernel))⟩
theorem mf_X12_torn : pv_mf mX12_torn := ⟨(pv_mT 1788 (by decide +kernel)), (pv_mT 159 (by decide +kernel))⟩
theorem mf_X12_day : pv_mf mX12_day := ⟨(pv_mT 1793 (by decide +kernel)), (pv_mT 159 (by decide +kernel))⟩
theorem mf_X12_isFall : pv_mf mX12_isFall := ⟨(pv_mT 1804 (by decide +kernel)), (pv_mT 159 (by decide +kernel))⟩
theorem mf_X12_fallIs : pv_mf mX12_fallIs := ⟨(pv_mT 1800 (by decide +kernel)), (pv_mT 159 (by decide +kernel))⟩
theorem mf_X12_claimer : pv_mf mX12_claimer := ⟨(pv_mT 1812 (by decide +kernel)), (pv_mT 159 (by decide +kernel))⟩
theorem mf_X12_claimed : pv_mf mX12_claimed := ⟨(pv_mT 1808 (by decide +kernel)), (pv_mT 159 (by decide +kernel))⟩
theorem mf_X12_right : pv_mf mX12_right := ⟨(pv_mT 1816 (by decide +kernel)), (pv_mT 159 (by decide +kernel))⟩
theorem mf_X12_food : pv_mf mX12_food := ⟨(pv_mT 1820 (by decide +kernel)), (pv_mT 159 (by decide +kernel))⟩
theorem mf_X12_kitchenIs : pv_mf mX12_kitchenIs := ⟨(pv_mT 1824 (by decide +kernel)), (pv_mT 159 (by decide +kernel))⟩
theorem mf_X12_lays : pv_mf mX12_lays := ⟨(pv_mT 1840 (by decide +kernel)), (pv_mT 159 (by decide +kernel))⟩
theorem mf_X12_mayBe : pv_mf mX12_mayBe := ⟨(pv_mT 1832 (by decide +kernel)), (pv_mT 159 (by decide +kernel))⟩
theorem mf_X12_mayWork : pv_mf mX12_mayWork := ⟨(pv_mT 1828 (by decide +kernel)), (pv_mT 159 (by decide +kernel))⟩
theorem mf_X12_apart : pv_mf mX12_apart := ⟨(pv_mT 1852 (by decide +kernel)), (pv_mT 159 (by decide +kernel))⟩
theorem mf_X12_way : pv_mf mX12_way := ⟨(pv_mT 1849 (by decide +kernel)), (pv_mT 159 (by decide +kernel))⟩
theorem mf_X12_laysHours : pv_mf mX12_laysHours := ⟨(pv_mT 1845 (by decide +kernel)), (pv_mT 159 (by decide +kernel))⟩
theorem mf_X12_work : pv_mf mX12_work := ⟨(pv_mT 1836 (by decide +kernel)), (pv_mT 159 (by decide +kernel))⟩
theorem mf_X12_hasKind : pv_mf mX12_hasKind := ⟨(pv_mT 1864 (by decide +kernel)), (pv_mT 159 (by decide +kernel))⟩
theorem mf_X12_takesUp : pv_mf mX12_takesUp := ⟨(pv_mT 1860 (by decide +kernel)), (pv_mT 159 (by decide +kernel))⟩
theorem mf_X12_moved : pv_mf mX12_moved := ⟨(pv_mT 1871 (by decide +kernel)), (pv_mT 159 (by decide +kernel))⟩
theorem mf_X12_flies : pv_mf mX12_flies := ⟨(pv_mT 1868 (by decide +kernel)), (pv_mT 159 (by decide +kernel))⟩
theorem mf_X12_gcd : pv_mf mX12_gcd := ⟨(pv_mT 1875 (by decide +kernel)), (pv_mT 159 (by decide +kernel))⟩
theorem mf_X12_pollen : pv_mf mX12_pollen := ⟨(pv_mT 1856 (by decide +kernel)), (pv_mT 159 (by decide +kernel))⟩
theorem mf_X12_pollinate : pv_mf mX12_pollinate := ⟨(pv_mT 1879 (by decide +kernel)), (pv_mT 159 (by decide +kernel))⟩
theorem mf_X12_bearsAll : pv_mf mX12_bearsAll := ⟨(pv_mT 1891 (by decide +kernel)), (pv_mT 159 (by decide +kernel))⟩
theorem mf_X12_areWhole : pv_mf mX12_areWhole := ⟨(pv_mT 1887 (by decide +kernel)), (pv_mT 159 (by decide +kernel))⟩
theorem mf_X12_planted : pv_mf mX12_planted := ⟨(pv_mT 1883 (by decide +kernel)), (pv_mT 159 (by decide +kernel))⟩
theorem mf_X12_growth : pv_mf mX12_growth := ⟨(pv_mT 1902 (by decide +kernel)), (pv_mT 159 (by decide +kernel))⟩
theorem mf_X12_drought : pv_mf mX12_drought := ⟨(pv_mT 1895 (by decide +kernel)), (pv_mT 159 (by decide +kernel))⟩
theorem mf_X12_bits : pv_mf mX12_bits := ⟨(pv_mT 1898 (by decide +kernel)), (pv_mT 159 (by decide +kernel))⟩
theorem mf_X12_takesOf : pv_mf mX12_takesOf := ⟨(pv_mT 1921 (by decide +kernel)), (pv_mT 159 (by decide +kernel))⟩
theorem mf_X12_hoursOf : pv_mf mX12_hoursOf := ⟨(pv_mT 1918 (by decide +kernel)), (pv_mT 159 (by decide +kernel))⟩
theorem mf_X12_canBeNext : pv_mf mX12_canBeNext := ⟨(pv_mT 1910 (by decide +kernel)), (pv_mT 159 (by decide +kernel))⟩
theorem mf_X12_costBy : pv_mf mX12_costBy := ⟨(pv_mT 1914 (by decide +kernel)), (pv_mT 159 (by decide +kernel))⟩
theorem mf_X12_mended : pv_mf mX12_mended := ⟨(pv_mT 1906 (by decide +kernel)), (pv_mT 159 (by decide +kernel))⟩
theorem mf_X12_isHit : pv_mf mX12_isHit := ⟨(pv_mT 1929 (by decide +kernel)), (pv_mT 159 (by decide +kernel))⟩
theorem mf_X12_hail : pv_mf mX12_hail := ⟨(pv_mT 1925 (by decide +kernel)), (pv_mT 159 (by decide +kernel))⟩
theorem mf_X12_tapeNumber : pv_mf mX12_tapeNumber := ⟨(pv_mT 1937 (by decide +kernel)), (pv_mT 159 (by decide +kernel))⟩
theorem mf_X12_check : pv_mf mX12_check := ⟨(pv_mT 1933 (by decide +kernel)), (pv_mT 159 (by decide +kernel))⟩
theorem mf_X12_cells : pv_mf mX12_cells := ⟨(pv_mT 1945 (by decide +kernel)), (pv_mT 159 (by decide +kernel))⟩
theorem mf_X12_count : pv_mf mX12_count := ⟨(pv_mT 1941 (by decide +kernel)), (pv_mT 159 (by decide +kernel))⟩
theorem mf_J6_bitCount_0f7a4 : pv_mf mJ6_bitCount_0f7a4 := ⟨(pv_mT 1233 (by decide +kernel)), (pv_mT 168 (by decide +kernel))⟩
theorem mf_J13_bitCount_95d88 : pv_mf mJ13_bitCount_95d88 := ⟨(pv_mT 1109 (by decide +kernel)), (pv_mT 167 (by decide +kernel))⟩
theorem mf_J7_fill_53178 : pv_mf mJ7_fill_53178 := ⟨(pv_mT 185 (by decide +kernel)), (pv_mT 148 (by decide +kernel))⟩
end
section
theorem kX0_init : pv_okM pv_links mX0_init = true := by decide +kernel
theorem kX0_carries : pv_okM pv_links mX0_carries = true := by decide +kernel
theorem kX0_factOf : pv_okM pv_links mX0_factOf = true := by decide +kernel
theorem kX1_init : pv_okM pv_links mX1_init = true := by decide +kernel
theorem kX1_growth : pv_okM pv_links mX1_growth = true := by decide +kernel
theorem kX1_oddsOfFall : pv_okM pv_links mX1_oddsOfFall = true := by decide +kernel
theorem kX1_ageing : pv_okM pv_links mX1_ageing = true := by decide +kernel
theorem kX1_catchingLevel : pv_okM pv_links mX1_catchingLevel = true := by decide +kernel
theorem kX1_ownerOf : pv_okM pv_links mX1_ownerOf = true := by decide +kernel
theorem kX1_pointsOf : pv_okM pv_links mX1_pointsOf = true := by decide +kernel
theorem kX1_seeCell : pv_okM pv_links mX1_seeCell = true := by decide +kernel
theorem kX1_seeCellAndCrop : pv_okM pv_links mX1_seeCellAndCrop = true := by decide +kernel
theorem kX1_seeFallen : pv_okM pv_links mX1_seeFallen = true := by decide +kernel
theorem kX1_seeFallFromItsCell : pv_okM pv_links mX1_seeFallFromItsCell = true := by decide +kernel
theorem kX2_init : pv_okM pv_links mX2_init = true := by decide +kernel
theorem kX2_open : pv_okM pv_links mX2_open = true := by decide +kernel
theorem kX2_close : pv_okM pv_links mX2_close = true := by decide +kernel
theorem kX2_isWritten : pv_okM pv_links mX2_isWritten = true := by decide +kernel
theorem kX2_factOf : pv_okM pv_links mX2_factOf = true := by decide +kernel
theorem kX3_init : pv_okM pv_links mX3_init = true := by decide +kernel
theorem kX3_endOfColumn : pv_okM pv_links mX3_endOfColumn = true := by decide +kernel
theorem kX3_hangs : pv_okM pv_links mX3_hangs = true := by decide +kernel
theorem kX3_hasCrop : pv_okM pv_links mX3_hasCrop = true := by decide +kernel
theorem kX3_isRipe : pv_okM pv_links mX3_isRipe = true := by decide +kernel
theorem kX3_needOf : pv_okM pv_links mX3_needOf = true := by decide +kernel
theorem kX3_setCrop : pv_okM pv_links mX3_setCrop = true := by decide +kernel
theorem kX3_clearCrop : pv_okM pv_links mX3_clearCrop = true := by decide +kernel
theorem kX3_crops : pv_okM pv_links mX3_crops = true := by decide +kernel
theorem kX3_factOf : pv_okM pv_links mX3_factOf = true := by decide +kernel
theorem kX3_loadOf : pv_okM pv_links mX3_loadOf = true := by decide +kernel
theorem kX3_ripeLoadOf : pv_okM pv_links mX3_ripeLoadOf = true := by decide +kernel
theorem kX3_firstOverloaded : pv_okM pv_links mX3_firstOverloaded = true := by decide +kernel
theorem kX3_unhang : pv_okM pv_links mX3_unhang = true := by decide +kernel
theorem kX3_loosen : pv_okM pv_links mX3_loosen = true := by decide +kernel
theorem kX3_wouldGo : pv_okM pv_links mX3_wouldGo = true := by decide +kernel
theorem kX3_columnsOf : pv_okM pv_links mX3_columnsOf = true := by decide +kernel
theorem kX3_highestFall : pv_okM pv_links mX3_highestFall = true := by decide +kernel
theorem kX4_init : pv_okM pv_links mX4_init = true := by decide +kernel
theorem kX4_choose : pv_okM pv_links mX4_choose = true := by decide +kernel
theorem kX4_tryCell : pv_okM pv_links mX4_tryCell = true := by decide +kernel
theorem kX4_fits : pv_okM pv_links mX4_fits = true := by decide +kernel
theorem kX4_burden : pv_okM pv_links mX4_burden = true := by decide +kernel
theorem kX4_carryOut : pv_okM pv_links mX4_carryOut = true := by decide +kernel
theorem kX4_kindAt : pv_okM pv_links mX4_kindAt = true := by decide +kernel
theorem kX5_init : pv_okM pv_links mX5_init = true := by decide +kernel
theorem kX5_read : pv_okM pv_links mX5_read = true := by decide +kernel
theorem kX5_look : pv_okM pv_links mX5_look = true := by decide +kernel
theorem kX5_fail : pv_okM pv_links mX5_fail = true := by decide +kernel
theorem kX5_expect : pv_okM pv_links mX5_expect = true := by decide +kernel
theorem kX5_enter : pv_okM pv_links mX5_enter = true := by decide +kernel
theorem kX5_isOneOf : pv_okM pv_links mX5_isOneOf = true := by decide +kernel
theorem kX5_readClause : pv_okM pv_links mX5_readClause = true := by decide +kernel
theorem kX5_readCondition : pv_okM pv_links mX5_readCondition = true := by decide +kernel
theorem kX5_readPart : pv_okM pv_links mX5_readPart = true := by decide +kernel
theorem kX5_readJump : pv_okM pv_links mX5_readJump = true := by decide +kernel
theorem kX5_readPiece : pv_okM pv_links mX5_readPiece = true := by decide +kernel
theorem kX5_readComparison : pv_okM pv_links mX5_readComparison = true := by decide +kernel
theorem kX5_readSum : pv_okM pv_links mX5_readSum = true := by decide +kernel
theorem kX5_readTerm : pv_okM pv_links mX5_readTerm = true := by decide +kernel
theorem kX5_readFactor : pv_okM pv_links mX5_readFactor = true := by decide +kernel
theorem kX5_isDigit : pv_okM pv_links mX5_isDigit = true := by decide +kernel
theorem kX5_readNumber : pv_okM pv_links mX5_readNumber = true := by decide +kernel
theorem kX6_init : pv_okM pv_links mX6_init = true := by decide +kernel
theorem kX6_tell : pv_okM pv_links mX6_tell = true := by decide +kernel
theorem kX6_asWork : pv_okM pv_links mX6_asWork = true := by decide +kernel
theorem kX6_hoursBetween : pv_okM pv_links mX6_hoursBetween = true := by decide +kernel
theorem kX6_asMending : pv_okM pv_links mX6_asMending = true := by decide +kernel
theorem kX6_solve : pv_okM pv_links mX6_solve = true := by decide +kernel
theorem kX6_spentOn : pv_okM pv_links mX6_spentOn = true := by decide +kernel
theorem kX6_leastOnward : pv_okM pv_links mX6_leastOnward = true := by decide +kernel
theorem kX6_costVia : pv_okM pv_links mX6_costVia = true := by decide +kernel
theorem kX6_findRow : pv_okM pv_links mX6_findRow = true := by decide +kernel
theorem kX6_least : pv_okM pv_links mX6_least = true := by decide +kernel
theorem kX6_cellAt : pv_okM pv_links mX6_cellAt = true := by decide +kernel
theorem kX7_init : pv_okM pv_links mX7_init = true := by decide +kernel
theorem kX7_put : pv_okM pv_links mX7_put = true := by decide +kernel
theorem kX7_answer : pv_okM pv_links mX7_answer = true := by decide +kernel
theorem kX7_reckon : pv_okM pv_links mX7_reckon = true := by decide +kernel
theorem kX7_joined : pv_okM pv_links mX7_joined = true := by decide +kernel
theorem kX8_init : pv_okM pv_links mX8_init = true := by decide +kernel
theorem kX8_fly : pv_okM pv_links mX8_fly = true := by decide +kernel
theorem kX8_arrive : pv_okM pv_links mX8_arrive = true := by decide +kernel
theorem kX8_cancel : pv_okM pv_links mX8_cancel = true := by decide +kernel
theorem kX9_init : pv_okM pv_links mX9_init = true := by decide +kernel
theorem kX9_append : pv_okM pv_links mX9_append = true := by decide +kernel
theorem kX9_numberAt : pv_okM pv_links mX9_numberAt = true := by decide +kernel
theorem kX10_init : pv_okM pv_links mX10_init = true := by decide +kernel
theorem kX10_pour : pv_okM pv_links mX10_pour = true := by decide +kernel
theorem kX10_passOn : pv_okM pv_links mX10_passOn = true := by decide +kernel
theorem kX10_share : pv_okM pv_links mX10_share = true := by decide +kernel
theorem kX10_reckonGrowth : pv_okM pv_links mX10_reckonGrowth = true := by decide +kernel
theorem kX10_tryValve : pv_okM pv_links mX10_tryValve = true := by decide +kernel
theorem kX10_weighTrial : pv_okM pv_links mX10_weighTrial = true := by decide +kernel
theorem kX10_dropsAt : pv_okM pv_links mX10_dropsAt = true := by decide +kernel
theorem kX11_init : pv_okM pv_links mX11_init = true := by decide +kernel
theorem kX11_hang : pv_okM pv_links mX11_hang = true := by decide +kernel
theorem kX11_knot : pv_okM pv_links mX11_knot = true := by decide +kernel
theorem kX11_kind : pv_okM pv_links mX11_kind = true := by decide +kernel
theorem kX11_plant : pv_okM pv_links mX11_plant = true := by decide +kernel
theorem kX11_valve : pv_okM pv_links mX11_valve = true := by decide +kernel
theorem kX11_kitchen : pv_okM pv_links mX11_kitchen = true := by decide +kernel
theorem kX11_rope : pv_okM pv_links mX11_rope = true := by decide +kernel
theorem kX11_seed : pv_okM pv_links mX11_seed = true := by decide +kernel
theorem kX11_feed : pv_okM pv_links mX11_feed = true := by decide +kernel
theorem kX11_law : pv_okM pv_links mX11_law = true := by decide +kernel
theorem kX11_cell : pv_okM pv_links mX11_cell = true := by decide +kernel
theorem kX11_byLaw : pv_okM pv_links mX11_byLaw = true := by decide +kernel
theorem kX11_water : pv_okM pv_links mX11_water = true := by decide +kernel
theorem kX11_fall : pv_okM pv_links mX11_fall = true := by decide +kernel
theorem kX11_go : pv_okM pv_links mX11_go = true := by decide +kernel
theorem kX11_day : pv_okM pv_links mX11_day = true := by decide +kernel
theorem kX11_torn : pv_okM pv_links mX11_torn = true := by decide +kernel
theorem kX11_fallIs : pv_okM pv_links mX11_fallIs = true := by decide +kernel
theorem kX11_claimed : pv_okM pv_links mX11_claimed = true := by decide +kernel
theorem kX11_right : pv_okM pv_links mX11_right = true := by decide +kernel
theorem kX11_food : pv_okM pv_links mX11_food = true := by decide +kernel
theorem kX11_kitchenIs : pv_okM pv_links mX11_kitchenIs = true := by decide +kernel
theorem kX11_mayWork : pv_okM pv_links mX11_mayWork = true := by decide +kernel
theorem kX11_work : pv_okM pv_links mX11_work = true := by decide +kernel
theorem kX11_pollen : pv_okM pv_links mX11_pollen = true := by decide +kernel
theorem kX11_pollinate : pv_okM pv_links mX11_pollinate = true := by decide +kernel
theorem kX11_planted : pv_okM pv_links mX11_planted = true := by decide +kernel
theorem kX11_drought : pv_okM pv_links mX11_drought = true := by decide +kernel
theorem kX11_mended : pv_okM pv_links mX11_mended = true := by decide +kernel
theorem kX11_hail : pv_okM pv_links mX11_hail = true := by decide +kernel
theorem kX11_check : pv_okM pv_links mX11_check = true := by decide +kernel
theorem kX11_count : pv_okM pv_links mX11_count = true := by decide +kernel
theorem kX11_countOfRow : pv_okM pv_links mX11_countOfRow = true := by decide +kernel
theorem kX11_letWaterFlow : pv_okM pv_links mX11_letWaterFlow = true := by decide +kernel
theorem kX11_letCropsGrow : pv_okM pv_links mX11_letCropsGrow = true := by decide +kernel
theorem kX11_letCropsFall : pv_okM pv_links mX11_letCropsFall = true := by decide +kernel
theorem kX11_letKnotsAge : pv_okM pv_links mX11_letKnotsAge = true := by decide +kernel
theorem kX11_letKnotsGo : pv_okM pv_links mX11_letKnotsGo = true := by decide +kernel
theorem kX11_tearDown : pv_okM pv_links mX11_tearDown = true := by decide +kernel
theorem kX11_dropCrop : pv_okM pv_links mX11_dropCrop = true := by decide +kernel
theorem kX11_landInKitchen : pv_okM pv_links mX11_landInKitchen = true := by decide +kernel
theorem kX11_claimantOf : pv_okM pv_links mX11_claimantOf = true := by decide +kernel
theorem kX11_hungCell : pv_okM pv_links mX11_hungCell = true := by decide +kernel
theorem kX11_within : pv_okM pv_links mX11_within = true := by decide +kernel
theorem kX11_isColumn : pv_okM pv_links mX11_isColumn = true := by decide +kernel
theorem kX11_isPerson : pv_okM pv_links mX11_isPerson = true := by decide +kernel
theorem kX11_isCell : pv_okM pv_links mX11_isCell = true := by decide +kernel
theorem kX11_isTold : pv_okM pv_links mX11_isTold = true := by decide +kernel
theorem kX11_toldCells : pv_okM pv_links mX11_toldCells = true := by decide +kernel
theorem kX12_init : pv_okM pv_links mX12_init = true := by decide +kernel
theorem kX12_in : pv_okM pv_links mX12_in = true := by decide +kernel
theorem kX12_less : pv_okM pv_links mX12_less = true := by decide +kernel
theorem kX12_more : pv_okM pv_links mX12_more = true := by decide +kernel
theorem kX12_isCell : pv_okM pv_links mX12_isCell = true := by decide +kernel
theorem kX12_at : pv_okM pv_links mX12_at = true := by decide +kernel
theorem kX12_isHung : pv_okM pv_links mX12_isHung = true := by decide +kernel
theorem kX12_hang : pv_okM pv_links mX12_hang = true := by decide +kernel
theorem kX12_empties : pv_okM pv_links mX12_empties = true := by decide +kernel
theorem kX12_knot : pv_okM pv_links mX12_knot = true := by decide +kernel
theorem kX12_kind : pv_okM pv_links mX12_kind = true := by decide +kernel
theorem kX12_plant : pv_okM pv_links mX12_plant = true := by decide +kernel
theorem kX12_valve : pv_okM pv_links mX12_valve = true := by decide +kernel
theorem kX12_kitchen : pv_okM pv_links mX12_kitchen = true := by decide +kernel
theorem kX12_rope : pv_okM pv_links mX12_rope = true := by decide +kernel
theorem kX12_seed : pv_okM pv_links mX12_seed = true := by decide +kernel
theorem kX12_types : pv_okM pv_links mX12_types = true := by decide +kernel
theorem kX12_feed : pv_okM pv_links mX12_feed = true := by decide +kernel
theorem kX12_here : pv_okM pv_links mX12_here = true := by decide +kernel
theorem kX12_isDigit : pv_okM pv_links mX12_isDigit = true := by decide +kernel
theorem kX12_wrongAt : pv_okM pv_links mX12_wrongAt = true := by decide +kernel
theorem kX12_takes : pv_okM pv_links mX12_takes = true := by decide +kernel
theorem kX12_readsNumber : pv_okM pv_links mX12_readsNumber = true := by decide +kernel
theorem kX12_notes : pv_okM pv_links mX12_notes = true := by decide +kernel
theorem kX12_opens : pv_okM pv_links mX12_opens = true := by decide +kernel
theorem kX12_top : pv_okM pv_links mX12_top = true := by decide +kernel
theorem kX12_factOf : pv_okM pv_links mX12_factOf = true := by decide +kernel
theorem kX12_sumSign : pv_okM pv_links mX12_sumSign = true := by decide +kernel
theorem kX12_closesSums : pv_okM pv_links mX12_closesSums = true := by decide +kernel
theorem kX12_readsFactor : pv_okM pv_links mX12_readsFactor = true := by decide +kernel
theorem kX12_hasOpenSum : pv_okM pv_links mX12_hasOpenSum = true := by decide +kernel
theorem kX12_readsSum : pv_okM pv_links mX12_readsSum = true := by decide +kernel
theorem kX12_endsPiece : pv_okM pv_links mX12_endsPiece = true := by decide +kernel
theorem kX12_lands : pv_okM pv_links mX12_lands = true := by decide +kernel
theorem kX12_jumps : pv_okM pv_links mX12_jumps = true := by decide +kernel
theorem kX12_readsCompared : pv_okM pv_links mX12_readsCompared = true := by decide +kernel
theorem kX12_readsCondition : pv_okM pv_links mX12_readsCondition = true := by decide +kernel
theorem kX12_canBegin : pv_okM pv_links mX12_canBegin = true := by decide +kernel
theorem kX12_readsClause : pv_okM pv_links mX12_readsClause = true := by decide +kernel
theorem kX12_law : pv_okM pv_links mX12_law = true := by decide +kernel
theorem kX12_reckon : pv_okM pv_links mX12_reckon = true := by decide +kernel
theorem kX12_comesTo : pv_okM pv_links mX12_comesTo = true := by decide +kernel
theorem kX12_told : pv_okM pv_links mX12_told = true := by decide +kernel
theorem kX12_feelsCell : pv_okM pv_links mX12_feelsCell = true := by decide +kernel
theorem kX12_feelsCrop : pv_okM pv_links mX12_feelsCrop = true := by decide +kernel
theorem kX12_isRipe : pv_okM pv_links mX12_isRipe = true := by decide +kernel
theorem kX12_feels : pv_okM pv_links mX12_feels = true := by decide +kernel
theorem kX12_asked : pv_okM pv_links mX12_asked = true := by decide +kernel
theorem kX12_byLaw : pv_okM pv_links mX12_byLaw = true := by decide +kernel
theorem kX12_sends : pv_okM pv_links mX12_sends = true := by decide +kernel
theorem kX12_drips : pv_okM pv_links mX12_drips = true := by decide +kernel
theorem kX12_flows : pv_okM pv_links mX12_flows = true := by decide +kernel
theorem kX12_water : pv_okM pv_links mX12_water = true := by decide +kernel
theorem kX12_ownLoad : pv_okM pv_links mX12_ownLoad = true := by decide +kernel
theorem kX12_loadOf : pv_okM pv_links mX12_loadOf = true := by decide +kernel
theorem kX12_cell : pv_okM pv_links mX12_cell = true := by decide +kernel
theorem kX12_catcher : pv_okM pv_links mX12_catcher = true := by decide +kernel
theorem kX12_writes : pv_okM pv_links mX12_writes = true := by decide +kernel
theorem kX12_falls : pv_okM pv_links mX12_falls = true := by decide +kernel
theorem kX12_fall : pv_okM pv_links mX12_fall = true := by decide +kernel
theorem kX12_firstGoing : pv_okM pv_links mX12_firstGoing = true := by decide +kernel
theorem kX12_tears : pv_okM pv_links mX12_tears = true := by decide +kernel
theorem kX12_goesOff : pv_okM pv_links mX12_goesOff = true := by decide +kernel
theorem kX12_go : pv_okM pv_links mX12_go = true := by decide +kernel
theorem kX12_torn : pv_okM pv_links mX12_torn = true := by decide +kernel
theorem kX12_day : pv_okM pv_links mX12_day = true := by decide +kernel
theorem kX12_isFall : pv_okM pv_links mX12_isFall = true := by decide +kernel
theorem kX12_fallIs : pv_okM pv_links mX12_fallIs = true := by decide +kernel
theorem kX12_claimer : pv_okM pv_links mX12_claimer = true := by decide +kernel
theorem kX12_claimed : pv_okM pv_links mX12_claimed = true := by decide +kernel
theorem kX12_right : pv_okM pv_links mX12_right = true := by decide +kernel
theorem kX12_food : pv_okM pv_links mX12_food = true := by decide +kernel
theorem kX12_kitchenIs : pv_okM pv_links mX12_kitchenIs = true := by decide +kernel
theorem kX12_lays : pv_okM pv_links mX12_lays = true := by decide +kernel
theorem kX12_mayBe : pv_okM pv_links mX12_mayBe = true := by decide +kernel
theorem kX12_mayWork : pv_okM pv_links mX12_mayWork = true := by decide +kernel
theorem kX12_apart : pv_okM pv_links mX12_apart = true := by decide +kernel
theorem kX12_way : pv_okM pv_links mX12_way = true := by decide +kernel
theorem kX12_laysHours : pv_okM pv_links mX12_laysHours = true := by decide +kernel
theorem kX12_work : pv_okM pv_links mX12_work = true := by decide +kernel
theorem kX12_hasKind : pv_okM pv_links mX12_hasKind = true := by decide +kernel
theorem kX12_takesUp : pv_okM pv_links mX12_takesUp = true := by decide +kernel
theorem kX12_moved : pv_okM pv_links mX12_moved = true := by decide +kernel
theorem kX12_flies : pv_okM pv_links mX12_flies = true := by decide +kernel
theorem kX12_gcd : pv_okM pv_links mX12_gcd = true := by decide +kernel
theorem kX12_pollen : pv_okM pv_links mX12_pollen = true := by decide +kernel
theorem kX12_pollinate : pv_okM pv_links mX12_pollinate = true := by decide +kernel
theorem kX12_bearsAll : pv_okM pv_links mX12_bearsAll = true := by decide +kernel
theorem kX12_areWhole : pv_okM pv_links mX12_areWhole = true := by decide +kernel
theorem kX12_planted : pv_okM pv_links mX12_planted = true := by decide +kernel
theorem kX12_growth : pv_okM pv_links mX12_growth = true := by decide +kernel
theorem kX12_drought : pv_okM pv_links mX12_drought = true := by decide +kernel
theorem kX12_bits : pv_okM pv_links mX12_bits = true := by decide +kernel
theorem kX12_takesOf : pv_okM pv_links mX12_takesOf = true := by decide +kernel
theorem kX12_hoursOf : pv_okM pv_links mX12_hoursOf = true := by decide +kernel
theorem kX12_canBeNext : pv_okM pv_links mX12_canBeNext = true := by decide +kernel
theorem kX12_costBy : pv_okM pv_links mX12_costBy = true := by decide +kernel
theorem kX12_mended : pv_okM pv_links mX12_mended = true := by decide +kernel
theorem kX12_isHit : pv_okM pv_links mX12_isHit = true := by decide +kernel
theorem kX12_hail : pv_okM pv_links mX12_hail = true := by decide +kernel
theorem kX12_tapeNumber : pv_okM pv_links mX12_tapeNumber = true := by decide +kernel
theorem kX12_check : pv_okM pv_links mX12_check = true := by decide +kernel
theorem kX12_cells : pv_okM pv_links mX12_cells = true := by decide +kernel
theorem kX12_count : pv_okM pv_links mX12_count = true := by decide +kernel
theorem kJ6_bitCount_0f7a4 : pv_okM pv_links mJ6_bitCount_0f7a4 = true := by decide +kernel
theorem kJ13_bitCount_95d88 : pv_okM pv_links mJ13_bitCount_95d88 = true := by decide +kernel
theorem kJ7_fill_53178 : pv_okM pv_links mJ7_fill_53178 = true := by decide +kernel
end
section
/-! THE PURE MACHINE AND THE MACHINE: cell k of the list lies at address B + k -/
def pv_v (B : Nat) : Value → Value
  | .ref k => .ref (B + k)
  | v => v
def pv_e (cA : Nat → ClassId) (B : Nat) : va_E → va_E
  | .inl (t, a) => .inl (cA t, a)
  | .inr (ci, fs) => .inr (ci, fs.map (pv_v B))
def pv_w (cA : Nat → ClassId) (B : Nat) (h : pv_H) : va_W := h.mapIdx (fun k e => (B + k, pv_e cA B e))
def pv_l (B : Nat) (ls : pv_L) : pv_L := ls.map (fun q => (q.1, pv_v B q.2))
def pv_ty (cA : Nat → ClassId) : List (ClassId × FieldType) := [(cA 0, .int), (cA 1, .boolean), (cA 2, .byte), (cA 3, .long)]
def pv_K (D : va_G) (cA : Nat → ClassId) (U : State) : Prop := va_K D vwCl (pv_ty cA) U ∧ ∀ w ∈ pv_N, va_Nw w U
def pv_ce : va_E → Nat
  | .inl (_, n, _) => n
  | .inr (_, fs) => fs.length
def pv_sl (h : pv_H) : Nat := (h.map pv_ce).sum
theorem pv_v_cat (B : Nat) (v : Value) : (pv_v B v).category = v.category := by cases v <;> rfl
theorem pv_cat_map (B : Nat) (st : List Value) : ((st.map (pv_v B)).map fun v => v.category).sum = pv_cat st := by
  simp only [pv_cat, List.map_map]
  congr 1
  apply List.map_congr_left
  intro v _
  exact pv_v_cat B v
theorem pv_w_get {cA : Nat → ClassId} {B : Nat} {h : pv_H} {k : Nat} {e : va_E} (hk : h[k]? = some e) : (pv_w cA B h)[k]? = some (B + k, pv_e cA B e) := by
  simp [pv_w, List.getElem?_mapIdx, hk]
theorem pv_w_get' {cA : Nat → ClassId} {B : Nat} {h : pv_H} {k : Nat} {q : Nat × va_E} (hk : (pv_w cA B h)[k]? = some q) : q.1 = B + k ∧ k < h.length := by
  simp only [pv_w, List.getElem?_mapIdx] at hk
  cases hq : h[k]? with
  | none => rw [hq] at hk; cases hk
  | some e =>
    rw [hq] at hk
    cases hk
    exact ⟨rfl, (List.getElem?_eq_some_iff.mp hq).1⟩
theorem pv_w_set (cA : Nat → ClassId) (B : Nat) (h : pv_H) (k : Nat) (e : va_E) : pv_w cA B (h.set k e) = (pv_w cA B h).set k (B + k, pv_e cA B e) := by
  apply List.ext_getElem?
  intro i
  simp only [pv_w, List.getElem?_mapIdx, List.getElem?_set, List.length_mapIdx]
  by_cases hki : k = i
  · subst hki
    by_cases hl : k < h.length
    · simp [hl]
    · simp [hl]
  · simp [hki]
theorem pv_w_app (cA : Nat → ClassId) (B : Nat) (h : pv_H) (e : va_E) : pv_w cA B (h ++ [e]) = pv_w cA B h ++ [(B + h.length, pv_e cA B e)] := by
  simp [pv_w, List.mapIdx_append]
theorem pv_w_len (cA : Nat → ClassId) (B : Nat) (h : pv_H) : (pv_w cA B h).length = h.length := by simp [pv_w]
theorem pv_D {A : Nat → Prop} (cA : Nat → ClassId) (B : Nat) (h : pv_H) (hA : ∀ k, k < h.length → A (B + k)) : va_D A (pv_w cA B h) := by
  refine ⟨fun i j x y hi hj hxy => ?_, fun k q hk => ?_⟩
  · have h1 := (pv_w_get' hi).1
    have h2 := (pv_w_get' hj).1
    omega
  · obtain ⟨h1, h2⟩ := pv_w_get' hk
    rw [h1]
    exact hA k h2
theorem pv_l_get {B : Nat} {i : Nat} {v : Value} : ∀ {ls : pv_L}, pv_get ls i = some v → (i, pv_v B v) ∈ pv_l B ls
  | [], h => by cases h
  | (j, w) :: ls, h => by
    unfold pv_get at h
    by_cases hj : j = i
    · rw [if_pos hj] at h
      cases h
      subst hj
      exact List.mem_cons_self
    · rw [if_neg hj] at h
      exact List.mem_cons_of_mem _ (pv_l_get h)
theorem pv_l_set1 (B : Nat) (ls : pv_L) (i : Nat) (v : Value) : (i, pv_v B v) :: (pv_l B ls).filter (fun q => !(q.1 == i) && !(q.1 + 1 == i && q.2.category == 2)) = pv_l B (pv_set1 ls i v) := by
  simp only [pv_l, pv_set1, List.map_cons, List.filter_map]
  congr 2
  apply List.filter_congr
  intro q _
  simp [pv_v_cat]
theorem pv_l_set2 (B : Nat) (ls : pv_L) (i : Nat) (v : Value) : (i, pv_v B v) :: (pv_l B ls).filter (fun q => !(q.1 == i) && (!(q.1 == i + 1) && !(q.1 + 1 == i && q.2.category == 2))) = pv_l B (pv_set2 ls i v) := by
  simp only [pv_l, pv_set2, List.map_cons, List.filter_map]
  congr 2
  apply List.filter_congr
  intro q _
  simp [pv_v_cat]
theorem pv_l_args (B : Nat) : ∀ (vs : List Value) (i : Nat), lv_args i (vs.map (pv_v B)) = pv_l B (lv_args i vs)
  | [], _ => rfl
  | v :: vs, i => by
    simp only [List.map_cons, lv_args, pv_v_cat, pv_l_args B vs]
    rfl
theorem pv_sl_set {h : pv_H} {a : Nat} {e e' : va_E} (ha : h[a]? = some e) (he : pv_ce e' = pv_ce e) : pv_sl (h.set a e') = pv_sl h := by
  have : (h.set a e').map pv_ce = h.map pv_ce := by
    rw [List.map_set, he]
    apply List.ext_getElem?
    intro i
    rw [List.getElem?_set]
    by_cases hi : a = i
    · subst hi
      obtain ⟨hl, hv⟩ := List.getElem?_eq_some_iff.mp ha
      simp [hl, hv]
    · simp [hi]
  simp [pv_sl, this]
theorem pv_sl_app (h : pv_H) (e : va_E) : pv_sl (h ++ [e]) = pv_sl h + pv_ce e := by simp [pv_sl]
theorem pv_K.warm {D : va_G} {cA : Nat → ClassId} {s U : State} (hW : s.WarmedH U.vm) (h : pv_K D cA s) : pv_K D cA U := by
  refine ⟨va_K.moved hW.alike h.1, fun w hw => ?_⟩
  have h1 := h.2 w hw
  have h2 := (List.mem_filter.mp hw).2
  cases w with
  | fieldLinkNest a i b n d hh => exact va_Nw.warmF hW h1
  | methodLinkNest a i x hh => exact va_Nw.warmM hW h1
  | _ => cases h2
theorem pv_K.same {D : va_G} {cA : Nat → ClassId} {s U : State} (hv : s.vm = U.vm) (h : pv_K D cA s) : pv_K D cA U := by
  refine ⟨va_K.moved (by rw [hv]; exact Vm.Alike.refl _) h.1, fun w hw => ?_⟩
  have h1 := h.2 w hw
  have h2 := (List.mem_filter.mp hw).2
  cases w with
  | fieldLinkNest a i b n d hh => exact va_Nw.same rfl hv h1
  | methodLinkNest a i x hh => exact va_Nw.same rfl hv h1
  | _ => cases h2
/-- where the heap ends: no more cells than were counted -/
theorem pv_bound {p : Program} {l : Launch} {e : Env} {R : Room} {s : State} {m : MethodId} {args : Array Value} {below : List Frame} {meth : Method} {c : Code} {H : Heap} {locs : List Loc} {cells slots : Nat} {Q : State → Prop} {g : JFrame}
    (kk : H.size ≤ s.heap.size + cells → W p l e R s m args below meth c H locs cells slots Q g) : W p l e R s m args below meth c H locs cells slots Q g := by
  intro T hT X
  have h1 : (T.setVm s.vm).heap.size ≤ s.heap.size + cells := X.same.2.2.1
  exact kk (by rw [← hT]; exact h1) T hT X
end
section
theorem pv_nx_inv {rows : List pv_R} {k pc len L : Nat} (h : pv_nx rows k pc len L = true) : len = L ∧ pv_pc rows (k + 1) = pc + L := by
  simpa [pv_nx] using h
theorem pv_jp_inv {rows : List pv_R} {pc t : Nat} {off : Int} (h : pv_jp rows pc off t = true) : (pc : Int) + off = (pv_pc rows t : Int) := by
  simpa [pv_jp] using h
/-- the classes' fields: their words are among the tables', their types, their names apart -/
theorem pv_cl (ci : Nat) {q : vw_C} (h : vwCl[ci]? = some q) : (∀ w ∈ u_ws q.1 q.2.1 q.2.2, w ∈ pv_T) ∧ (∀ k, k < q.2.2 → parseFieldDescriptor (q.2.1 k).2.2.1 = some (pv_tyX ci k)) ∧ (∀ a, a < q.2.2 → ∀ b, b < q.2.2 → a ≠ b → (q.2.1 a).2.1 ≠ (q.2.1 b).2.1) := by
  have key : ∀ w ∈ u_ws q.1 q.2.1 q.2.2, goodWord w = true ∧ w ∈ lw_tbl → w ∈ pv_T := fun w _ hw => List.mem_filter.mpr ⟨hw.2, hw.1⟩
  match ci, h with
  | 0, h => cases h; exact ⟨fun w hw => key w hw (by revert w; decide +kernel), tyX0_ok, nmX0⟩
  | 1, h => cases h; exact ⟨fun w hw => key w hw (by revert w; decide +kernel), tyX1_ok, nmX1⟩
  | 2, h => cases h; exact ⟨fun w hw => key w hw (by revert w; decide +kernel), tyX2_ok, nmX2⟩
  | 3, h => cases h; exact ⟨fun w hw => key w hw (by revert w; decide +kernel), tyX3_ok, nmX3⟩
  | 4, h => cases h; exact ⟨fun w hw => key w hw (by revert w; decide +kernel), tyX4_ok, nmX4⟩
  | 5, h => cases h; exact ⟨fun w hw => key w hw (by revert w; decide +kernel), tyX5_ok, nmX5⟩
  | 6, h => cases h; exact ⟨fun w hw => key w hw (by revert w; decide +kernel), tyX6_ok, nmX6⟩
  | 7, h => cases h; exact ⟨fun w hw => key w hw (by revert w; decide +kernel), tyX7_ok, nmX7⟩
  | 8, h => cases h; exact ⟨fun w hw => key w hw (by revert w; decide +kernel), tyX8_ok, nmX8⟩
  | 9, h => cases h; exact ⟨fun w hw => key w hw (by revert w; decide +kernel), tyX9_ok, nmX9⟩
  | 10, h => cases h; exact ⟨fun w hw => key w hw (by revert w; decide +kernel), tyX10_ok, nmX10⟩
  | 11, h => cases h; exact ⟨fun w hw => key w hw (by revert w; decide +kernel), tyX11_ok, nmX11⟩
  | 12, h => cases h; exact ⟨fun w hw => key w hw (by revert w; decide +kernel), tyX12_ok, nmX12⟩
  | n + 13, h => simp [vwCl] at h
end
section
/-! A STEP OF THE PURE MACHINE IS A STEP OF THE MACHINE -/
def pv_St (p : Program) (s : State) (m : MethodId) (args : Array Value) (meth : Method) (c : Code) (R : Room) (cc : ByteArray) (own mn : String) (nL : Nat) (D : va_G) (cA : Nat → ClassId) (B : Nat) (A : Nat → Prop) : Prop :=
  CallFix p m c cc nL s args pv_T own ∧ meth.name = mn ∧ pv_K D cA s ∧ ((∀ q, s.heap.size ≤ q → A q) ∧ ∀ q, A q → B ≤ q) ∧ 1 ≤ R.frames ∧ 60 ≤ R.locals
def pv_I (D : va_G) (cA : Nat → ClassId) (B : Nat) (A : Nat → Prop) (s : State) (h : pv_H) (H : Heap) (locs : List Loc) : Prop := va_P D vwCl (pv_w cA B h) H ∧ va_S A s.heap H locs ∧ ∀ k, k < h.length → A (B + k)
def pv_KK (p : Program) (l : Launch) (e : Env) (R : Room) (s : State) (m : MethodId) (args : Array Value) (below : List Frame) (meth : Method) (c : Code) (cells slots : Nat) (Q : State → Prop) (rows : List pv_R) (nL : Nat) (D : va_G) (cA : Nat → ClassId) (B : Nat) (A : Nat → Prop) (h : pv_H) (c' : pv_C) : Prop :=
  ∀ (H' : Heap) (locs' : List Loc) (ls' : Array Slot) (cells' slots' pc' : Nat), pv_pc rows c'.1 = pc' → pv_I D cA B A s c'.2.2.2 H' locs' → lv_has ls' nL (pv_l B c'.2.1) → cells' + h.length = cells + c'.2.2.2.length → slots' + pv_sl h = slots + pv_sl c'.2.2.2 → W p l e R s m args below meth c H' locs' cells' slots' Q (F0 m pc' ls' (c'.2.2.1.map (pv_v B)))
theorem pv_lod0 {lo : pv_L} {i k : Nat} {st : List Value} {h : pv_H} {c' : pv_C} (hx : pv_lod lo i k 0 st h = some c') : ∃ x, pv_get lo i = some (.int x) ∧ c' = (k + 1, lo, .int x :: st, h) := by
  unfold pv_lod at hx
  cases hg : pv_get lo i with
  | none => rw [hg] at hx; cases hx
  | some v => rw [hg] at hx; cases v with
    | int x => cases hx; exact ⟨x, rfl, rfl⟩
    | _ => cases hx
theorem pv_lod1 {lo : pv_L} {i k : Nat} {st : List Value} {h : pv_H} {c' : pv_C} (hx : pv_lod lo i k 1 st h = some c') : ∃ x, pv_get lo i = some (.long x) ∧ c' = (k + 1, lo, .long x :: st, h) := by
  unfold pv_lod at hx
  cases hg : pv_get lo i with
  | none => rw [hg] at hx; cases hx
  | some v => rw [hg] at hx; cases v with
    | long x => cases hx; exact ⟨x, rfl, rfl⟩
    | _ => cases hx
theorem pv_lod2 {lo : pv_L} {i k : Nat} {st : List Value} {h : pv_H} {c' : pv_C} (hx : pv_lod lo i k 2 st h = some c') : ∃ x, pv_get lo i = some (.ref x) ∧ c' = (k + 1, lo, .ref x :: st, h) := by
  unfold pv_lod at hx
  cases hg : pv_get lo i with
  | none => rw [hg] at hx; cases hx
  | some v => rw [hg] at hx; cases v with
    | ref x => cases hx; exact ⟨x, rfl, rfl⟩
    | _ => cases hx
theorem pv_sto0 {lo : pv_L} {i k : Nat} {st : List Value} {h : pv_H} {c' : pv_C} (hx : pv_sto lo i k 0 st h = some c') : ∃ x r, st = .int x :: r ∧ c' = (k + 1, pv_set1 lo i (.int x), r, h) := by
  unfold pv_sto at hx
  cases st with
  | nil => cases hx
  | cons v r => cases v with
    | int x => cases hx; exact ⟨x, r, rfl, rfl⟩
    | _ => cases hx
theorem pv_sto1 {lo : pv_L} {i k : Nat} {st : List Value} {h : pv_H} {c' : pv_C} (hx : pv_sto lo i k 1 st h = some c') : ∃ x r, st = .long x :: r ∧ c' = (k + 1, pv_set2 lo i (.long x), r, h) := by
  unfold pv_sto at hx
  cases st with
  | nil => cases hx
  | cons v r => cases v with
    | long x => cases hx; exact ⟨x, r, rfl, rfl⟩
    | _ => cases hx
theorem pv_sto2 {lo : pv_L} {i k : Nat} {st : List Value} {h : pv_H} {c' : pv_C} (hx : pv_sto lo i k 2 st h = some c') : ∃ x r, st = .ref x :: r ∧ c' = (k + 1, pv_set1 lo i (.ref x), r, h) := by
  unfold pv_sto at hx
  cases st with
  | nil => cases hx
  | cons v r => cases v with
    | ref x => cases hx; exact ⟨x, r, rfl, rfl⟩
    | _ => cases hx
theorem pv_i2_inv {f : Int32 → Int32 → Int32} {lo : pv_L} {k : Nat} {st : List Value} {h : pv_H} {c' : pv_C} (hx : pv_i2 f k lo st h = some c') : ∃ x y r, st = .int y :: .int x :: r ∧ c' = (k + 1, lo, .int (f x y) :: r, h) := by
  unfold pv_i2 at hx
  split at hx
  · cases hx; exact ⟨_, _, _, rfl, rfl⟩
  · cases hx
theorem pv_l2_inv {f : Int64 → Int64 → Int64} {lo : pv_L} {k : Nat} {st : List Value} {h : pv_H} {c' : pv_C} (hx : pv_l2 f k lo st h = some c') : ∃ x y r, st = .long y :: .long x :: r ∧ c' = (k + 1, lo, .long (f x y) :: r, h) := by
  unfold pv_l2 at hx
  split at hx
  · cases hx; exact ⟨_, _, _, rfl, rfl⟩
  · cases hx
theorem pv_lsh_inv {f : Int64 → Int32 → Int64} {lo : pv_L} {k : Nat} {st : List Value} {h : pv_H} {c' : pv_C} (hx : pv_lsh f k lo st h = some c') : ∃ x y r, st = .int y :: .long x :: r ∧ c' = (k + 1, lo, .long (f x y) :: r, h) := by
  unfold pv_lsh at hx
  split at hx
  · cases hx; exact ⟨_, _, _, rfl, rfl⟩
  · cases hx
theorem pv_b1_inv {f : Int32 → Bool} {xs : List Nat} {lo : pv_L} {k : Nat} {st : List Value} {h : pv_H} {c' : pv_C} (hx : pv_b1 f xs k lo st h = some c') : ∃ t x r, xs = [t] ∧ st = .int x :: r ∧ c' = if f x then (t, lo, r, h) else (k + 1, lo, r, h) := by
  unfold pv_b1 at hx
  split at hx
  · next t x r =>
    refine ⟨t, x, r, rfl, rfl, ?_⟩
    by_cases hc : f x = true
    · rw [if_pos hc] at hx ⊢; cases hx; rfl
    · rw [if_neg hc] at hx ⊢; cases hx; rfl
  · cases hx
theorem pv_b2_inv {f : Int32 → Int32 → Bool} {xs : List Nat} {lo : pv_L} {k : Nat} {st : List Value} {h : pv_H} {c' : pv_C} (hx : pv_b2 f xs k lo st h = some c') : ∃ t x y r, xs = [t] ∧ st = .int y :: .int x :: r ∧ c' = if f x y then (t, lo, r, h) else (k + 1, lo, r, h) := by
  unfold pv_b2 at hx
  split at hx
  · next t y x r =>
    refine ⟨t, x, y, r, rfl, rfl, ?_⟩
    by_cases hc : f x y = true
    · rw [if_pos hc] at hx ⊢; cases hx; rfl
    · rw [if_neg hc] at hx ⊢; cases hx; rfl
  · cases hx
theorem pv_ald_inv {t : Nat} {lo : pv_L} {k : Nat} {st : List Value} {h : pv_H} {c' : pv_C} (hx : pv_ald t k lo st h = some c') : ∃ (i : Int32) (a : Nat) (r : List Value) (n : Nat) (f : Nat → Int32), st = .int i :: .ref a :: r ∧ h[a]? = some (.inl (t, n, .inl f)) ∧ vp_in i n ∧ c' = (k + 1, lo, .int (f i.toNatClampNeg) :: r, h) := by
  unfold pv_ald at hx
  split at hx
  · next i a r =>
    split at hx
    · next t' n f hh =>
      by_cases ht : t' = t
      · rw [if_pos ht] at hx
        subst ht
        by_cases hi : i < 0 ∨ n ≤ i.toNatClampNeg
        · rw [if_pos hi] at hx; cases hx
        · rw [if_neg hi] at hx; cases hx
          exact ⟨i, a, r, n, f, rfl, hh, hi, rfl⟩
      · rw [if_neg ht] at hx; cases hx
    · cases hx
  · cases hx
theorem pv_ast_inv {t : Nat} {g : Int32 → Int32} {lo : pv_L} {k : Nat} {st : List Value} {h : pv_H} {c' : pv_C} (hx : pv_ast t g k lo st h = some c') : ∃ (x i : Int32) (a : Nat) (r : List Value) (n : Nat) (f : Nat → Int32), st = .int x :: .int i :: .ref a :: r ∧ h[a]? = some (.inl (t, n, .inl f)) ∧ vp_in i n ∧ c' = (k + 1, lo, r, h.set a (.inl (t, n, .inl (upd f i.toNatClampNeg (g x))))) := by
  unfold pv_ast at hx
  split at hx
  · next x i a r =>
    split at hx
    · next t' n f hh =>
      by_cases ht : t' = t
      · rw [if_pos ht] at hx
        subst ht
        by_cases hi : i < 0 ∨ n ≤ i.toNatClampNeg
        · rw [if_pos hi] at hx; cases hx
        · rw [if_neg hi] at hx; cases hx
          exact ⟨x, i, a, r, n, f, rfl, hh, hi, rfl⟩
      · rw [if_neg ht] at hx; cases hx
    · cases hx
  · cases hx
section PVS
variable {p : Program} {l : Launch} {e : Env} {R : Room} {s : State} {m : MethodId} {args : Array Value} {below : List Frame} {meth : Method} {c : Code} {H : Heap} {locs : List Loc} {cells slots : Nat} {Q : State → Prop}
variable {LK : List (List Nat)} {pr : List pv_M} {o : Nat} {rows : List pv_R} {own mn : String} {cc : ByteArray} {nL k pc len : Nat} {xs ps : List Nat} {lo : pv_L} {st : List Value} {h : pv_H} {ls : Array Slot} {c' : pv_C} {D : va_G} {cA : Nat → ClassId} {B : Nat} {A : Nat → Prop}
/-- a branch's two ways -/
theorem pv_if (t : Nat) (b : Bool) (r : List Value) (hI : pv_I D cA B A s h H locs) (hl : lv_has ls nL (pv_l B lo)) (hn : pv_pc rows (k + 1) = pc + 3)
    (kk : pv_KK p l e R s m args below meth c cells slots Q rows nL D cA B A h (if b then (t, lo, r, h) else (k + 1, lo, r, h))) :
    (b = true → W p l e R s m args below meth c H locs cells slots Q (F0 m (pv_pc rows t) ls (r.map (pv_v B)))) ∧ (b = false → W p l e R s m args below meth c H locs cells slots Q (F0 m (pc + 3) ls (r.map (pv_v B)))) := by
  refine ⟨fun hb => ?_, fun hb => ?_⟩
  · subst hb; exact kk H locs ls cells slots _ rfl hI hl rfl rfl
  · subst hb; exact kk H locs ls cells slots _ hn hI hl rfl rfl
set_option maxHeartbeats 4000000 in
theorem pv_stepB1 (S : pv_St p s m args meth c R cc own mn nL D cA B A) (hI : pv_I D cA B A s h H locs) (hl : lv_has ls nL (pv_l B lo)) {cd : Jvm.ClassFile.Cond} {off : Int} (hd : decode cc pc = .ok (.ifCond cd off, len)) (hok : pv_okx LK rows o mn nL k pc len (.ifCond cd off) xs ps = true) (hx : pv_x (.ifCond cd off) xs k lo st h = some c') (kk : pv_KK p l e R s m args below meth c cells slots Q rows nL D cA B A h c') : W p l e R s m args below meth c H locs cells slots Q (F0 m pc ls (st.map (pv_v B))) := by
  obtain ⟨⟨hex, hb, hml, hown, hts⟩, -⟩ := S
  obtain ⟨t, x, r, rfl, rfl, rfl⟩ := pv_b1_inv hx
  have hok : (pv_nx rows k pc len 3 && pv_jp rows pc off t) = true := hok
  simp only [Bool.and_eq_true] at hok
  obtain ⟨rfl, hn⟩ := pv_nx_inv hok.1
  have hj := pv_jp_inv hok.2
  obtain ⟨k1, k2⟩ := pv_if t _ r hI hl hn kk
  cases cd with
  | eq => exact lv_if_eq hex hb hd hj (fun q => k1 (by simp [pv_cond, q])) (fun q => k2 (by simp [pv_cond, q]))
  | ne => exact lv_if_ne hex hb hd hj (fun q => k1 (by simp [pv_cond, q])) (fun q => k2 (by simp [pv_cond, q]))
  | lt => exact lv_if_lt hex hb hd hj (fun q => k1 (by simp only [pv_cond, decide_eq_true_eq]; exact q)) (fun q => k2 (by simp only [pv_cond, decide_eq_false_iff_not]; exact q))
  | ge => exact lv_if_ge hex hb hd hj (fun q => k1 (by simp only [pv_cond, decide_eq_true_eq]; exact q)) (fun q => k2 (by simp only [pv_cond, decide_eq_false_iff_not]; exact q))
  | gt => exact lv_if_gt hex hb hd hj (fun q => k1 (by simp only [pv_cond, decide_eq_true_eq]; exact q)) (fun q => k2 (by simp only [pv_cond, decide_eq_false_iff_not]; exact q))
  | le => exact lv_if_le hex hb hd hj (fun q => k1 (by simp only [pv_cond, decide_eq_true_eq]; exact q)) (fun q => k2 (by simp only [pv_cond, decide_eq_false_iff_not]; exact q))
set_option maxHeartbeats 4000000 in
theorem pv_stepB2 (S : pv_St p s m args meth c R cc own mn nL D cA B A) (hI : pv_I D cA B A s h H locs) (hl : lv_has ls nL (pv_l B lo)) {cd : Jvm.ClassFile.Cond} {off : Int} (hd : decode cc pc = .ok (.if_icmp cd off, len)) (hok : pv_okx LK rows o mn nL k pc len (.if_icmp cd off) xs ps = true) (hx : pv_x (.if_icmp cd off) xs k lo st h = some c') (kk : pv_KK p l e R s m args below meth c cells slots Q rows nL D cA B A h c') : W p l e R s m args below meth c H locs cells slots Q (F0 m pc ls (st.map (pv_v B))) := by
  obtain ⟨⟨hex, hb, hml, hown, hts⟩, -⟩ := S
  obtain ⟨t, x, y, r, rfl, rfl, rfl⟩ := pv_b2_inv hx
  have hok : (pv_nx rows k pc len 3 && pv_jp rows pc off t) = true := hok
  simp only [Bool.and_eq_true] at hok
  obtain ⟨rfl, hn⟩ := pv_nx_inv hok.1
  have hj := pv_jp_inv hok.2
  obtain ⟨k1, k2⟩ := pv_if t _ r hI hl hn kk
  cases cd with
  | eq => exact lv_icmp_eq hex hb hd hj (fun q => k1 (by simp [pv_cond, q])) (fun q => k2 (by simp [pv_cond, q]))
  | ne => exact lv_icmp_ne hex hb hd hj (fun q => k1 (by simp [pv_cond, q])) (fun q => k2 (by simp [pv_cond, q]))
  | lt => exact lv_icmp_lt hex hb hd hj (fun q => k1 (by simp only [pv_cond, decide_eq_true_eq]; exact q)) (fun q => k2 (by simp only [pv_cond, decide_eq_false_iff_not]; exact q))
  | ge => exact lv_icmp_ge hex hb hd hj (fun q => k1 (by simp only [pv_cond, decide_eq_true_eq]; exact q)) (fun q => k2 (by simp only [pv_cond, decide_eq_false_iff_not]; exact q))
  | gt => exact lv_icmp_gt hex hb hd hj (fun q => k1 (by simp only [pv_cond, decide_eq_true_eq]; exact q)) (fun q => k2 (by simp only [pv_cond, decide_eq_false_iff_not]; exact q))
  | le => exact lv_icmp_le hex hb hd hj (fun q => k1 (by simp only [pv_cond, decide_eq_true_eq]; exact q)) (fun q => k2 (by simp only [pv_cond, decide_eq_false_iff_not]; exact q))
set_option maxHeartbeats 4000000 in
theorem pv_stepGet (hLK : pv_LKs pr LK) (ho : pv_cn[o]? = some own) (S : pv_St p s m args meth c R cc own mn nL D cA B A) (hI : pv_I D cA B A s h H locs) (hl : lv_has ls nL (pv_l B lo)) {idx : Nat} (hd : decode cc pc = .ok (.getfield idx, len)) (hok : pv_okx LK rows o mn nL k pc len (.getfield idx) xs ps = true) (hx : pv_x (.getfield idx) xs k lo st h = some c') (kk : pv_KK p l e R s m args below meth c cells slots Q rows nL D cA B A h c') : W p l e R s m args below meth c H locs cells slots Q (F0 m pc ls (st.map (pv_v B))) := by
  obtain ⟨⟨hex, hb, hml, hown, hts⟩, -, hK, -⟩ := S
  obtain ⟨hP, hS, hAk⟩ := id hI
  simp only [pv_x] at hx
  split at hx
  · next ci j a r =>
    split at hx
    · next ci' fs ha =>
      by_cases hci : ci' = ci
      · rw [if_pos hci] at hx
        subst hci
        split at hx
        · next v hv =>
          cases hx
          simp only [pv_okx] at hok
          split at hok
          · next ci2 j2 p0 e1 =>
            cases e1
            simp only [Bool.and_eq_true] at hok
            obtain ⟨hnx, hok⟩ := hok
            obtain ⟨rfl, hn⟩ := pv_nx_inv hnx
            split at hok
            · next q hq =>
              simp only [Bool.and_eq_true, decide_eq_true_eq] at hok
              obtain ⟨hj, hfk⟩ := hok
              obtain ⟨hin, hty, hnm⟩ := pv_cl ci' hq
              have hw := pv_w_get (cA := cA) (B := B) ha
              have hv' : (fs.map (pv_v B))[j]? = some (pv_v B v) := by simp [hv]
              have hfk : (Cond.fieldLink own idx (q.2.1 j).1 (q.2.1 j).2.1 (q.2.1 j).2.2.1 ∈ pv_T ∨ ∃ hst, Cond.fieldLinkNest own idx (q.2.1 j).1 (q.2.1 j).2.1 (q.2.1 j).2.2.1 hst ∈ pv_N) := hLK.1 _ (pv_lk_inv hfk) own q ho hq
              rcases hfk with hf | ⟨hst, hf⟩
              · exact va_get (C := q.1) (T := q.2.1) (N := q.2.2) hex hb hts hin hown hK.1 hP a hw hq j hj (hts _ hf) (fun _ h9 => h9) hv' hd (kk H locs ls cells slots _ hn hI hl rfl rfl)
              · exact va_getN (C := q.1) (T := q.2.1) (N := q.2.2) hex hb hts hin hown hK.1 hP a hw hq j hj (va_Nw.use rfl (hK.2 _ hf)) (fun _ h9 => h9) hv' hd (kk H locs ls cells slots _ hn hI hl rfl rfl)
            · cases hok
          · cases hok
        · cases hx
      · rw [if_neg hci] at hx; cases hx
    · cases hx
  · cases hx
set_option maxHeartbeats 4000000 in
theorem pv_stepPut (hLK : pv_LKs pr LK) (ho : pv_cn[o]? = some own) (S : pv_St p s m args meth c R cc own mn nL D cA B A) (hI : pv_I D cA B A s h H locs) (hl : lv_has ls nL (pv_l B lo)) {idx : Nat} (hd : decode cc pc = .ok (.putfield idx, len)) (hok : pv_okx LK rows o mn nL k pc len (.putfield idx) xs ps = true) (hx : pv_x (.putfield idx) xs k lo st h = some c') (kk : pv_KK p l e R s m args below meth c cells slots Q rows nL D cA B A h c') : W p l e R s m args below meth c H locs cells slots Q (F0 m pc ls (st.map (pv_v B))) := by
  obtain ⟨⟨hex, hb, hml, hown, hts⟩, hmn, hK, -⟩ := S
  obtain ⟨hP, hS, hAk⟩ := id hI
  simp only [pv_x] at hx
  split at hx
  · next ci j v a r =>
    split at hx
    · next ci' fs ha =>
      split at hx
      · next hcnd =>
        obtain ⟨rfl, hjl, hnar, hfit⟩ := hcnd
        cases hx
        simp only [pv_okx] at hok
        split at hok
        · next ci2 j2 p0 e1 =>
          cases e1
          simp only [Bool.and_eq_true] at hok
          obtain ⟨hnx, hok⟩ := hok
          obtain ⟨rfl, hn⟩ := pv_nx_inv hnx
          split at hok
          · next q hq =>
            simp only [Bool.and_eq_true, decide_eq_true_eq] at hok
            obtain ⟨hj, hfk⟩ := hok
            obtain ⟨hin, hty, hnm⟩ := pv_cl ci' hq
            have hw := pv_w_get (cA := cA) (B := B) ha
            have hnar' : narrow (pv_tyX ci' j) (pv_v B v) = pv_v B v := by
              cases v <;> first | exact hnar | (cases pv_tyX ci' j <;> rfl)
            have hfit' : fits (pv_tyX ci' j) (pv_v B v) = true := by
              cases v <;> first | exact hfit | (revert hfit; cases pv_tyX ci' j <;> simp [fits, pv_v])
            have hlen : j < (fs.map (pv_v B)).length := by simpa using hjl
            have hset : (pv_w cA B h).set a (B + a, .inr (ci', (fs.map (pv_v B)).set j (pv_v B v))) = pv_w cA B (h.set a (.inr (ci', fs.set j v))) := by
              rw [pv_w_set]
              simp [pv_e, List.map_set]
            have hkk : ∀ (H1 : Heap) (locs1 : List Loc), va_P D vwCl ((pv_w cA B h).set a (B + a, .inr (ci', (fs.map (pv_v B)).set j (pv_v B v)))) H1 → va_D A ((pv_w cA B h).set a (B + a, .inr (ci', (fs.map (pv_v B)).set j (pv_v B v)))) → va_S A s.heap H1 locs1 → W p l e R s m args below meth c H1 locs1 cells slots Q (F0 m (pc + 3) ls (r.map (pv_v B))) := by
              intro H1 locs1 hP1 _ hS1
              rw [hset] at hP1
              exact kk H1 locs1 ls cells slots _ hn ⟨hP1, hS1, fun k9 h9 => hAk k9 (by simpa using h9)⟩ hl (by simp) (by rw [pv_sl_set ha (by simp [pv_ce])])
            by_cases hfin : (q.2.1 j).2.2.2 = true
            · rw [if_pos hfin] at hfk
              simp only [Bool.and_eq_true, decide_eq_true_eq] at hfk
              obtain ⟨hfp, hmn2⟩ := hfk
              have hfp : Cond.fieldLink own idx (q.2.1 j).1 (q.2.1 j).2.1 (q.2.1 j).2.2.1 ∈ pv_T ∧ (q.2.1 j).1 = own := hLK.1 _ (pv_lk_inv hfp) own q ho hq
              obtain ⟨hfp, hdecl⟩ := hfp
              exact va_putF (C := q.1) (T := q.2.1) (N := q.2.2) hex hb hts hin (pv_tyX ci') hty hnm hown hK.1 hP (pv_D cA B h hAk) hS a hw hq j hj (hts _ hfp) (fun _ h9 => h9) hfin (hmn.trans hmn2) hdecl (hty j hj) hnar' hfit' hlen hd hkk
            · rw [if_neg hfin] at hfk
              have hfin : (q.2.1 j).2.2.2 = false := by simpa using hfin
              have hfk : (Cond.fieldLink own idx (q.2.1 j).1 (q.2.1 j).2.1 (q.2.1 j).2.2.1 ∈ pv_T ∨ ∃ hst, Cond.fieldLinkNest own idx (q.2.1 j).1 (q.2.1 j).2.1 (q.2.1 j).2.2.1 hst ∈ pv_N) := hLK.1 _ (pv_lk_inv hfk) own q ho hq
              rcases hfk with hf | ⟨hst, hf⟩
              · exact va_put (C := q.1) (T := q.2.1) (N := q.2.2) hex hb hts hin (pv_tyX ci') hty hnm hown hK.1 hP (pv_D cA B h hAk) hS a hw hq j hj (hts _ hf) (fun _ h9 => h9) hfin (hty j hj) hnar' hfit' hlen hd hkk
              · exact va_putN (C := q.1) (T := q.2.1) (N := q.2.2) hex hb hts hin (pv_tyX ci') hty hnm hown hK.1 hP (pv_D cA B h hAk) hS a hw hq j hj (va_Nw.use rfl (hK.2 _ hf)) (fun _ h9 => h9) hfin (hty j hj) hnar' hfit' hlen hd hkk
          · cases hok
        · cases hok
      · cases hx
    · cases hx
  · cases hx
end PVS
end
section
section PVT
variable {p : Program} {l : Launch} {e : Env} {R : Room} {s : State} {m : MethodId} {args : Array Value} {below : List Frame} {meth : Method} {c : Code} {H : Heap} {locs : List Loc} {cells slots : Nat} {Q : State → Prop}
variable {rows : List pv_R} {own mn : String} {cc : ByteArray} {nL k pc len : Nat} {xs ps : List Nat} {lo : pv_L} {st : List Value} {h : pv_H} {ls : Array Slot} {c' : pv_C} {D : va_G} {cA : Nat → ClassId} {B : Nat} {A : Nat → Prop}
/-- a new cell lies behind the last one -/
theorem pv_next {q : Nat} {e9 : va_E} {H1 : Heap} {n : Nat} (hB : s.heap.size + n = B + h.length + 1) (hP : va_P D vwCl (pv_w cA B h ++ [(q, e9)]) H1) (hAB : ∀ q, A q → B ≤ q) (hD : va_D A (pv_w cA B h ++ [(q, e9)])) (hz : H1.size ≤ s.heap.size + n) : q = B + h.length := by
  have hlast : (pv_w cA B h ++ [(q, e9)])[(pv_w cA B h).length]? = some (q, e9) := by simp
  have h1 : q < H1.size := (hP _ _ hlast).lt
  have h2 : B ≤ q := hAB _ (hD.2 _ _ hlast)
  rcases Nat.lt_or_ge q (B + h.length) with h3 | h3
  · exfalso
    have hk : q - B < h.length := by omega
    have h4 : (pv_w cA B h)[q - B]? = some (B + (q - B), pv_e cA B h[q - B]) := pv_w_get (by simp [hk])
    have h5 : (pv_w cA B h ++ [(q, e9)])[q - B]? = some (B + (q - B), pv_e cA B h[q - B]) := by
      rw [List.getElem?_append_left (by rw [pv_w_len]; exact hk)]
      exact h4
    have h6 := hD.1 _ _ _ _ h5 hlast (by show B + (q - B) = q; omega)
    rw [pv_w_len] at h6
    omega
  · omega
theorem pv_ra {cA' : ClassId} {ty : FieldType} {t : Nat} {cA2 : ClassId} (h1 : va_RA s cA' ty) (h2 : va_RA s cA2 ty) (hp : (∃ C, ty = .object C) ∨ True) (hno : ∀ C, ty ≠ .object C) : cA' = cA2 := by
  cases ty with
  | object C => exact absurd rfl (hno C)
  | _ => exact Option.some.inj (Eq.trans (Eq.symm h1) h2)
set_option maxHeartbeats 4000000 in
theorem pv_newa (t : Nat) (ty : FieldType) (at0 : ArrayType) (a0 : Nat → vp_A) (S : pv_St p s m args meth c R cc own mn nL D cA B A) (hI : pv_I D cA B A s h H locs) (hl : lv_has ls nL (pv_l B lo)) (hat : newarray.typeOf at0 = ty) (hno : ∀ C, ty ≠ .object C) (htt : (pv_ty cA)[t]? = some (cA t, ty)) (harr : Cond.arrayClass ty ∈ pv_T)
    (ha0 : ∀ (N : Nat) (cX : ClassId), vp_cell cX (a0 N) = arrV cX N (fun _ => defaultValue ty)) (hN0 : ∀ N, (a0 N).1 = N) (hby : componentBytes ty ≤ 8) {n : Int32} {r : List Value} (hd : decode cc pc = .ok (.newarray at0, 2)) (hn : pv_pc rows (k + 1) = pc + 2) (hcn : ¬ (n < 0 ∨ 100000 < n.toNatClampNeg)) (hB : s.heap.size + cells = B + h.length)
    (hc : cells + (h ++ [Sum.inl (t, a0 n.toNatClampNeg)]).length ≤ R.cells + h.length) (hs : slots + pv_sl (h ++ [Sum.inl (t, a0 n.toNatClampNeg)]) ≤ R.slots + pv_sl h)
    (kk : pv_KK p l e R s m args below meth c cells slots Q rows nL D cA B A h (k + 1, lo, .ref h.length :: r, h ++ [.inl (t, a0 n.toNatClampNeg)])) : W p l e R s m args below meth c H locs cells slots Q (F0 m pc ls (.int n :: r.map (pv_v B))) := by
  obtain ⟨⟨hex, hb, hml, hown, hts⟩, hmn, hK, hBs, -⟩ := S
  obtain ⟨hP, hS, hAk⟩ := id hI
  have hn0 : ¬ n < 0 := fun q => hcn (Or.inl q)
  have hn1 : ¬ 100000 < n.toNatClampNeg := fun q => hcn (Or.inr q)
  have hce : pv_ce (Sum.inl (t, a0 n.toNatClampNeg)) = n.toNatClampNeg := hN0 _
  rw [List.length_append, List.length_singleton] at hc
  rw [pv_sl_app, hce] at hs
  refine va_newa (N' := n.toNatClampNeg) (a0 := a0 n.toNatClampNeg) hex hb (by rw [hat]; exact hts _ harr) hat hK.1 hP (pv_D cA B h hAk) hS hBs.1 (fun cX => ha0 _ cX) hn0 rfl (by
    have := Nat.mul_le_mul (Nat.le_of_not_lt hn1) hby
    omega) (by omega) (by omega) hd (fun q cX H1 hK1 hP1 hD1 hS1 => ?_)
  refine pv_bound (fun hz => ?_)
  have hq : q = B + h.length := pv_next (n := cells + 1) (by omega) hP1 hBs.2 hD1 hz
  subst hq
  have hcx : cX = cA t := by
    have h1 := (hK1.2 (pv_ty cA).length (cX, ty) (by simp)).2
    have h2 := (hK.1.2 t _ htt).2
    exact pv_ra (t := t) h1 h2 (Or.inr trivial) hno
  subst hcx
  have hP2 : va_P D vwCl (pv_w cA B (h ++ [.inl (t, a0 n.toNatClampNeg)])) H1 := by
    rw [pv_w_app]
    exact hP1
  refine kk H1 locs ls (cells + 1) (slots + n.toNatClampNeg) _ hn ⟨hP2, hS1, fun k9 h9 => by
    rcases Nat.lt_or_ge k9 h.length with h5 | h5
    · exact hAk k9 h5
    · exact hBs.1 _ (by omega)⟩ hl ?_ ?_
  · simp; omega
  · show _ = slots + pv_sl (h ++ [_])
    rw [pv_sl_app, hce]; omega
theorem pv_dvd (ty : FieldType) (h : pv_dv ty = defaultValue ty) : defaultValue ty = pv_dv ty := h.symm
theorem pv_fr {ci : Nat} {q : vw_C} (hq : vwCl[ci]? = some q) : ∀ j, j < q.2.2 → defaultValue (pv_tyX ci j) = vp_V ((pv_fresh ci).map (pv_v B)) j := by
  have key : ∀ j, j < q.2.2 → defaultValue (pv_tyX ci j) = pv_v B (pv_dv (pv_tyX ci j)) → defaultValue (pv_tyX ci j) = vp_V ((pv_fresh ci).map (pv_v B)) j := by
    intro j hj he
    have hN : pv_nX ci = q.2.2 := by simp [pv_nX, hq]
    simp [vp_V, pv_fresh, hN, hj, he]
  intro j hj
  refine key j hj ?_
  have ht : ∀ ty : FieldType, ty = .int ∨ ty = .long ∨ (∃ C, ty = .object C) ∨ (∃ t, ty = .array t) → defaultValue ty = pv_v B (pv_dv ty) := by
    intro ty h
    rcases h with rfl | rfl | ⟨C, rfl⟩ | ⟨t, rfl⟩ <;> rfl
  have hall : ∀ ci, ci < 13 → ∀ j, j < pv_nX ci → (match pv_tyX ci j with | .int => true | .long => true | .object _ => true | .array _ => true | _ => false) = true := by decide +kernel
  have hN : pv_nX ci = q.2.2 := by simp [pv_nX, hq]
  have hci : ci < 13 := (List.getElem?_eq_some_iff.mp hq).1
  have h1 := hall ci hci j (by omega)
  apply ht
  revert h1
  cases pv_tyX ci j <;> simp
theorem pv_frl {ci : Nat} {q : vw_C} (hq : vwCl[ci]? = some q) : (pv_fresh ci).length = q.2.2 := by
  simp [pv_fresh, pv_nX, hq]
set_option maxHeartbeats 4000000 in
theorem pv_new (S : pv_St p s m args meth c R cc own mn nL D cA B A) (hI : pv_I D cA B A s h H locs) (hl : lv_has ls nL (pv_l B lo)) {idx ci : Nat} {q : vw_C} (hq : vwCl[ci]? = some q) (hd : decode cc pc = .ok (.new idx, 3)) (hn : pv_pc rows (k + 1) = pc + 3) (w1 : Cond.classLink own idx q.1 ∈ pv_T) (w2 : Cond.instantiable q.1 q.2.2 ∈ pv_T) (w3 : Cond.initialized q.1 ∈ pv_T) (hB : s.heap.size + cells = B + h.length)
    (hc : cells + (h ++ [Sum.inr (ci, pv_fresh ci)]).length ≤ R.cells + h.length) (hs : slots + pv_sl (h ++ [Sum.inr (ci, pv_fresh ci)]) ≤ R.slots + pv_sl h)
    (kk : pv_KK p l e R s m args below meth c cells slots Q rows nL D cA B A h (k + 1, lo, .ref h.length :: st, h ++ [.inr (ci, pv_fresh ci)])) : W p l e R s m args below meth c H locs cells slots Q (F0 m pc ls (st.map (pv_v B))) := by
  obtain ⟨⟨hex, hb, hml, hown, hts⟩, hmn, hK, hBs, -⟩ := S
  obtain ⟨hP, hS, hAk⟩ := id hI
  have hce : pv_ce (Sum.inr (ci, pv_fresh ci)) = q.2.2 := pv_frl hq
  rw [List.length_append, List.length_singleton] at hc
  rw [pv_sl_app, hce] at hs
  obtain ⟨hin, hty, hnm⟩ := pv_cl ci hq
  refine va_new (C := q.1) (T := q.2.1) (N := q.2.2) (ci := ci) (fs := (pv_fresh ci).map (pv_v B)) hex hb hts hin (pv_tyX ci) hty hown (hts _ w1) (hts _ w2) (hts _ w3) hK.1 hP (pv_D cA B h hAk) hS hBs.1 hq (pv_fr hq) (by omega) (by omega) hd (fun a H1 hP1 hD1 hS1 => ?_)
  refine pv_bound (fun hz => ?_)
  have ha : a = B + h.length := pv_next (n := cells + 1) (by omega) hP1 hBs.2 hD1 hz
  subst ha
  have hP2 : va_P D vwCl (pv_w cA B (h ++ [.inr (ci, pv_fresh ci)])) H1 := by
    rw [pv_w_app]
    exact hP1
  refine kk H1 locs ls (cells + 1) (slots + q.2.2) _ hn ⟨hP2, hS1, fun k9 h9 => by
    rcases Nat.lt_or_ge k9 h.length with h5 | h5
    · exact hAk k9 h5
    · exact hBs.1 _ (by omega)⟩ hl ?_ ?_
  · simp; omega
  · show _ = slots + pv_sl (h ++ [_])
    rw [pv_sl_app, hce]; omega
set_option maxHeartbeats 4000000 in
theorem pv_stepAst (t : Nat) (g : Int32 → Int32) {i9 : Instr} (hI : pv_I D cA B A s h H locs) (hl : lv_has ls nL (pv_l B lo)) (hn : pv_pc rows (k + 1) = pc + 1) (hx : pv_ast t g k lo st h = some c')
    (row : ∀ (x i : Int32) (a : Nat) (r : List Value) (n : Nat) (f : Nat → Int32), (pv_w cA B h)[a]? = some (B + a, .inl (cA t, n, .inl f)) → vp_in i n → (∀ (H1 : Heap) (locs1 : List Loc), va_P D vwCl ((pv_w cA B h).set a (B + a, .inl (cA t, n, .inl (upd f i.toNatClampNeg (g x))))) H1 → va_D A ((pv_w cA B h).set a (B + a, .inl (cA t, n, .inl (upd f i.toNatClampNeg (g x))))) → va_S A s.heap H1 locs1 → W p l e R s m args below meth c H1 locs1 cells slots Q (F0 m (pc + 1) ls r)) → W p l e R s m args below meth c H locs cells slots Q (F0 m pc ls (.int x :: .int i :: .ref (B + a) :: r)))
    (kk : pv_KK p l e R s m args below meth c cells slots Q rows nL D cA B A h c') : W p l e R s m args below meth c H locs cells slots Q (F0 m pc ls (st.map (pv_v B))) := by
  obtain ⟨x, i, a, r, n, f, rfl, ha, hin, rfl⟩ := pv_ast_inv hx
  have hAk := hI.2.2
  refine row x i a (r.map (pv_v B)) n f (pv_w_get ha) hin (fun H1 locs1 hP1 _ hS1 => ?_)
  have hset : (pv_w cA B h).set a (B + a, .inl (cA t, n, .inl (upd f i.toNatClampNeg (g x)))) = pv_w cA B (h.set a (.inl (t, n, .inl (upd f i.toNatClampNeg (g x))))) := by
    rw [pv_w_set]; rfl
  rw [hset] at hP1
  exact kk H1 locs1 ls cells slots _ hn ⟨hP1, hS1, fun k9 h9 => hAk k9 (by simpa using h9)⟩ hl (by simp) (by rw [pv_sl_set ha (by rfl)])
end PVT
end
section
section PVU
variable {p : Program} {l : Launch} {e : Env} {R : Room} {s : State} {m : MethodId} {args : Array Value} {below : List Frame} {meth : Method} {c : Code} {H : Heap} {locs : List Loc} {cells slots : Nat} {Q : State → Prop}
variable {LK : List (List Nat)} {pr : List pv_M} {o : Nat} {rows : List pv_R} {own mn : String} {cc : ByteArray} {nL k pc len : Nat} {xs ps : List Nat} {lo : pv_L} {st : List Value} {h : pv_H} {ls : Array Slot} {c' : pv_C} {D : va_G} {cA : Nat → ClassId} {B : Nat} {A : Nat → Prop}
theorem pv_arr : Cond.arrayClass .int ∈ pv_T ∧ Cond.arrayClass .boolean ∈ pv_T ∧ Cond.arrayClass .byte ∈ pv_T ∧ Cond.arrayClass .long ∈ pv_T := by
  refine ⟨List.mem_filter.mpr ⟨?_, rfl⟩, List.mem_filter.mpr ⟨?_, rfl⟩, List.mem_filter.mpr ⟨?_, rfl⟩, List.mem_filter.mpr ⟨?_, rfl⟩⟩ <;> decide +kernel
set_option maxHeartbeats 8000000 in
theorem pv_step {i : Instr} (hLK : pv_LKs pr LK) (ho : pv_cn[o]? = some own) (S : pv_St p s m args meth c R cc own mn nL D cA B A) (hI : pv_I D cA B A s h H locs) (hl : lv_has ls nL (pv_l B lo)) (hd : decode cc pc = .ok (i, len)) (hok : pv_okx LK rows o mn nL k pc len i xs ps = true) (hx : pv_x i xs k lo st h = some c') (hB : h.length < c'.2.2.2.length → s.heap.size + cells = B + h.length) (hc : cells + c'.2.2.2.length ≤ R.cells + h.length) (hs : slots + pv_sl c'.2.2.2 ≤ R.slots + pv_sl h) (kk : pv_KK p l e R s m args below meth c cells slots Q rows nL D cA B A h c') : W p l e R s m args below meth c H locs cells slots Q (F0 m pc ls (st.map (pv_v B))) := by
  obtain ⟨⟨hex, hb, hml, hown, hts⟩, hmn, hK, hBs, hfr, hlo⟩ := id S
  obtain ⟨hP, hS, hAk⟩ := id hI
  cases i with
  | iconst n =>
    have hok : pv_nx rows k pc len 1 = true := hok
    obtain ⟨rfl, hn⟩ := pv_nx_inv hok
    obtain rfl : ((k + 1, lo, .int (Int32.ofInt n) :: st, h) : pv_C) = c' := Option.some.inj hx
    exact lv_iconst hex hb hd rfl (kk H locs ls cells slots _ hn hI hl rfl rfl)
  | bipush n =>
    have hok : pv_nx rows k pc len 2 = true := hok
    obtain ⟨rfl, hn⟩ := pv_nx_inv hok
    obtain rfl : ((k + 1, lo, .int (Int8.ofInt n).toInt32 :: st, h) : pv_C) = c' := Option.some.inj hx
    exact lv_bipush hex hb hd rfl (kk H locs ls cells slots _ hn hI hl rfl rfl)
  | sipush n =>
    have hok : pv_nx rows k pc len 3 = true := hok
    obtain ⟨rfl, hn⟩ := pv_nx_inv hok
    obtain rfl : ((k + 1, lo, .int (Int16.ofInt n).toInt32 :: st, h) : pv_C) = c' := Option.some.inj hx
    exact lv_sipush hex hb hd rfl (kk H locs ls cells slots _ hn hI hl rfl rfl)
  | lconst n =>
    have hok : pv_nx rows k pc len 1 = true := hok
    obtain ⟨rfl, hn⟩ := pv_nx_inv hok
    obtain rfl : ((k + 1, lo, .long (Int64.ofNat n) :: st, h) : pv_C) = c' := Option.some.inj hx
    exact lv_lconst hex hb hd rfl (kk H locs ls cells slots _ hn hI hl rfl rfl)
  | ldc idx =>
    simp only [pv_x] at hx
    split at hx
    · next v =>
      cases hx
      simp only [pv_okx] at hok
      split at hok
      · next v2 p0 e1 =>
        cases e1
        simp only [Bool.and_eq_true] at hok
        obtain ⟨rfl, hn⟩ := pv_nx_inv hok.1
        exact lv_ldc hex hb hown (hts _ (hLK.1 _ (pv_lk_inv hok.2) own ho)) hd (kk H locs ls cells slots _ hn hI hl rfl rfl)
      · cases hok
    · cases hx
  | ldc_w idx =>
    simp only [pv_x] at hx
    split at hx
    · next v =>
      cases hx
      simp only [pv_okx] at hok
      split at hok
      · next v2 p0 e1 =>
        cases e1
        simp only [Bool.and_eq_true] at hok
        obtain ⟨rfl, hn⟩ := pv_nx_inv hok.1
        exact lv_ldcw hex hb hown (hts _ (hLK.1 _ (pv_lk_inv hok.2) own ho)) hd (kk H locs ls cells slots _ hn hI hl rfl rfl)
      · cases hok
    · cases hx
  | ldc2_w idx =>
    simp only [pv_x] at hx
    split at hx
    · next v =>
      cases hx
      simp only [pv_okx] at hok
      split at hok
      · next v2 p0 e1 =>
        cases e1
        simp only [Bool.and_eq_true] at hok
        obtain ⟨rfl, hn⟩ := pv_nx_inv hok.1
        exact lv_ldc2 hex hb hown (hts _ (hLK.1 _ (pv_lk_inv hok.2) own ho)) hd (kk H locs ls cells slots _ hn hI hl rfl rfl)
      · cases hok
    · cases hx
  | iload i =>
    have hok : pv_nx rows k pc len 2 = true := hok
    obtain ⟨rfl, hn⟩ := pv_nx_inv hok
    obtain ⟨x, hg, rfl⟩ := pv_lod0 hx
    exact lv_iload hex hb hd (hl.2.2 _ (pv_l_get hg)) (kk H locs ls cells slots _ hn hI hl rfl rfl)
  | iload_n i =>
    have hok : pv_nx rows k pc len 1 = true := hok
    obtain ⟨rfl, hn⟩ := pv_nx_inv hok
    obtain ⟨x, hg, rfl⟩ := pv_lod0 hx
    exact lv_iload_n hex hb hd rfl (hl.2.2 _ (pv_l_get hg)) (kk H locs ls cells slots _ hn hI hl rfl rfl)
  | lload i =>
    have hok : pv_nx rows k pc len 2 = true := hok
    obtain ⟨rfl, hn⟩ := pv_nx_inv hok
    obtain ⟨x, hg, rfl⟩ := pv_lod1 hx
    exact lv_lload hex hb hd (hl.2.2 _ (pv_l_get hg)) (kk H locs ls cells slots _ hn hI hl rfl rfl)
  | lload_n i =>
    have hok : pv_nx rows k pc len 1 = true := hok
    obtain ⟨rfl, hn⟩ := pv_nx_inv hok
    obtain ⟨x, hg, rfl⟩ := pv_lod1 hx
    exact lv_lload_n hex hb hd rfl (hl.2.2 _ (pv_l_get hg)) (kk H locs ls cells slots _ hn hI hl rfl rfl)
  | aload i =>
    have hok : pv_nx rows k pc len 2 = true := hok
    obtain ⟨rfl, hn⟩ := pv_nx_inv hok
    obtain ⟨x, hg, rfl⟩ := pv_lod2 hx
    exact lv_aload hex hb hd (hl.2.2 _ (pv_l_get hg)) (kk H locs ls cells slots _ hn hI hl rfl rfl)
  | aload_n i =>
    have hok : pv_nx rows k pc len 1 = true := hok
    obtain ⟨rfl, hn⟩ := pv_nx_inv hok
    obtain ⟨x, hg, rfl⟩ := pv_lod2 hx
    exact lv_aload_n hex hb hd rfl (hl.2.2 _ (pv_l_get hg)) (kk H locs ls cells slots _ hn hI hl rfl rfl)
  | istore i =>
    have hok : (pv_nx rows k pc len 2 && decide (i < nL)) = true := hok
    simp only [Bool.and_eq_true, decide_eq_true_eq] at hok
    obtain ⟨rfl, hn⟩ := pv_nx_inv hok.1
    obtain ⟨x, r, rfl, rfl⟩ := pv_sto0 hx
    exact lv_istore hex hb hd hl hok.2 (pv_l_set1 B lo i (.int x)) (fun ls9 hl9 => kk H locs ls9 cells slots _ hn hI hl9 rfl rfl)
  | istore_n i =>
    have hok : (pv_nx rows k pc len 1 && decide (i.val < nL)) = true := hok
    simp only [Bool.and_eq_true, decide_eq_true_eq] at hok
    obtain ⟨rfl, hn⟩ := pv_nx_inv hok.1
    obtain ⟨x, r, rfl, rfl⟩ := pv_sto0 hx
    exact lv_istore_n hex hb hd rfl hl hok.2 (pv_l_set1 B lo i (.int x)) (fun ls9 hl9 => kk H locs ls9 cells slots _ hn hI hl9 rfl rfl)
  | lstore i =>
    have hok : (pv_nx rows k pc len 2 && decide (i + 1 < nL)) = true := hok
    simp only [Bool.and_eq_true, decide_eq_true_eq] at hok
    obtain ⟨rfl, hn⟩ := pv_nx_inv hok.1
    obtain ⟨x, r, rfl, rfl⟩ := pv_sto1 hx
    exact lv_lstore hex hb hd hl hok.2 (pv_l_set2 B lo i (.long x)) (fun ls9 hl9 => kk H locs ls9 cells slots _ hn hI hl9 rfl rfl)
  | lstore_n i =>
    have hok : (pv_nx rows k pc len 1 && decide (i.val + 1 < nL)) = true := hok
    simp only [Bool.and_eq_true, decide_eq_true_eq] at hok
    obtain ⟨rfl, hn⟩ := pv_nx_inv hok.1
    obtain ⟨x, r, rfl, rfl⟩ := pv_sto1 hx
    exact lv_lstore_n hex hb hd rfl hl hok.2 (pv_l_set2 B lo i (.long x)) (fun ls9 hl9 => kk H locs ls9 cells slots _ hn hI hl9 rfl rfl)
  | astore i =>
    have hok : (pv_nx rows k pc len 2 && decide (i < nL)) = true := hok
    simp only [Bool.and_eq_true, decide_eq_true_eq] at hok
    obtain ⟨rfl, hn⟩ := pv_nx_inv hok.1
    obtain ⟨x, r, rfl, rfl⟩ := pv_sto2 hx
    exact lv_astore hex hb hd hl hok.2 (pv_l_set1 B lo i (.ref x)) (fun ls9 hl9 => kk H locs ls9 cells slots _ hn hI hl9 rfl rfl)
  | astore_n i =>
    have hok : (pv_nx rows k pc len 1 && decide (i.val < nL)) = true := hok
    simp only [Bool.and_eq_true, decide_eq_true_eq] at hok
    obtain ⟨rfl, hn⟩ := pv_nx_inv hok.1
    obtain ⟨x, r, rfl, rfl⟩ := pv_sto2 hx
    exact lv_astore_n hex hb hd rfl hl hok.2 (pv_l_set1 B lo i (.ref x)) (fun ls9 hl9 => kk H locs ls9 cells slots _ hn hI hl9 rfl rfl)
  | iinc i n =>
    have hok : (pv_nx rows k pc len 3 && decide (i < nL)) = true := hok
    simp only [Bool.and_eq_true, decide_eq_true_eq] at hok
    obtain ⟨rfl, hn⟩ := pv_nx_inv hok.1
    simp only [pv_x] at hx
    split at hx
    · next x hg =>
      cases hx
      obtain ⟨k0, hk0⟩ := List.getElem?_of_mem (pv_l_get (B := B) hg)
      exact lv_iinc hex hb hd hl hk0 rfl hok.2 (pv_l_set1 B lo i (.int (x + Int32.ofInt n))) (fun ls9 hl9 => kk H locs ls9 cells slots _ hn hI hl9 rfl rfl)
    · cases hx
  | iadd =>
    have hok : pv_nx rows k pc len 1 = true := hok
    obtain ⟨rfl, hn⟩ := pv_nx_inv hok
    obtain ⟨x, y, r, rfl, rfl⟩ := pv_i2_inv hx
    exact lv_iadd hex hb hd (kk H locs ls cells slots _ hn hI hl rfl rfl)
  | isub =>
    have hok : pv_nx rows k pc len 1 = true := hok
    obtain ⟨rfl, hn⟩ := pv_nx_inv hok
    obtain ⟨x, y, r, rfl, rfl⟩ := pv_i2_inv hx
    exact lv_isub hex hb hd (kk H locs ls cells slots _ hn hI hl rfl rfl)
  | imul =>
    have hok : pv_nx rows k pc len 1 = true := hok
    obtain ⟨rfl, hn⟩ := pv_nx_inv hok
    obtain ⟨x, y, r, rfl, rfl⟩ := pv_i2_inv hx
    exact lv_imul hex hb hd (kk H locs ls cells slots _ hn hI hl rfl rfl)
  | iand =>
    have hok : pv_nx rows k pc len 1 = true := hok
    obtain ⟨rfl, hn⟩ := pv_nx_inv hok
    obtain ⟨x, y, r, rfl, rfl⟩ := pv_i2_inv hx
    exact lv_iand hex hb hd (kk H locs ls cells slots _ hn hI hl rfl rfl)
  | ior =>
    have hok : pv_nx rows k pc len 1 = true := hok
    obtain ⟨rfl, hn⟩ := pv_nx_inv hok
    obtain ⟨x, y, r, rfl, rfl⟩ := pv_i2_inv hx
    exact lv_ior hex hb hd (kk H locs ls cells slots _ hn hI hl rfl rfl)
  | ixor =>
    have hok : pv_nx rows k pc len 1 = true := hok
    obtain ⟨rfl, hn⟩ := pv_nx_inv hok
    obtain ⟨x, y, r, rfl, rfl⟩ := pv_i2_inv hx
    exact lv_ixor hex hb hd (kk H locs ls cells slots _ hn hI hl rfl rfl)
  | ishl =>
    have hok : pv_nx rows k pc len 1 = true := hok
    obtain ⟨rfl, hn⟩ := pv_nx_inv hok
    obtain ⟨x, y, r, rfl, rfl⟩ := pv_i2_inv hx
    exact lv_ishl hex hb hd (kk H locs ls cells slots _ hn hI hl rfl rfl)
  | ishr =>
    have hok : pv_nx rows k pc len 1 = true := hok
    obtain ⟨rfl, hn⟩ := pv_nx_inv hok
    obtain ⟨x, y, r, rfl, rfl⟩ := pv_i2_inv hx
    exact lv_ishr hex hb hd (kk H locs ls cells slots _ hn hI hl rfl rfl)
  | iushr =>
    have hok : pv_nx rows k pc len 1 = true := hok
    obtain ⟨rfl, hn⟩ := pv_nx_inv hok
    obtain ⟨x, y, r, rfl, rfl⟩ := pv_i2_inv hx
    exact lv_iushr hex hb hd rfl (kk H locs ls cells slots _ hn hI hl rfl rfl)
  | ladd =>
    have hok : pv_nx rows k pc len 1 = true := hok
    obtain ⟨rfl, hn⟩ := pv_nx_inv hok
    obtain ⟨x, y, r, rfl, rfl⟩ := pv_l2_inv hx
    exact lv_ladd hex hb hd (kk H locs ls cells slots _ hn hI hl rfl rfl)
  | lsub =>
    have hok : pv_nx rows k pc len 1 = true := hok
    obtain ⟨rfl, hn⟩ := pv_nx_inv hok
    obtain ⟨x, y, r, rfl, rfl⟩ := pv_l2_inv hx
    exact lv_lsub hex hb hd (kk H locs ls cells slots _ hn hI hl rfl rfl)
  | lmul =>
    have hok : pv_nx rows k pc len 1 = true := hok
    obtain ⟨rfl, hn⟩ := pv_nx_inv hok
    obtain ⟨x, y, r, rfl, rfl⟩ := pv_l2_inv hx
    exact lv_lmul hex hb hd (kk H locs ls cells slots _ hn hI hl rfl rfl)
  | land =>
    have hok : pv_nx rows k pc len 1 = true := hok
    obtain ⟨rfl, hn⟩ := pv_nx_inv hok
    obtain ⟨x, y, r, rfl, rfl⟩ := pv_l2_inv hx
    exact lv_land hex hb hd (kk H locs ls cells slots _ hn hI hl rfl rfl)
  | lor =>
    have hok : pv_nx rows k pc len 1 = true := hok
    obtain ⟨rfl, hn⟩ := pv_nx_inv hok
    obtain ⟨x, y, r, rfl, rfl⟩ := pv_l2_inv hx
    exact lv_lor hex hb hd (kk H locs ls cells slots _ hn hI hl rfl rfl)
  | lxor =>
    have hok : pv_nx rows k pc len 1 = true := hok
    obtain ⟨rfl, hn⟩ := pv_nx_inv hok
    obtain ⟨x, y, r, rfl, rfl⟩ := pv_l2_inv hx
    exact lv_lxor hex hb hd (kk H locs ls cells slots _ hn hI hl rfl rfl)
  | lshl =>
    have hok : pv_nx rows k pc len 1 = true := hok
    obtain ⟨rfl, hn⟩ := pv_nx_inv hok
    obtain ⟨x, y, r, rfl, rfl⟩ := pv_lsh_inv hx
    exact lv_lshl hex hb hd rfl (kk H locs ls cells slots _ hn hI hl rfl rfl)
  | lshr =>
    have hok : pv_nx rows k pc len 1 = true := hok
    obtain ⟨rfl, hn⟩ := pv_nx_inv hok
    obtain ⟨x, y, r, rfl, rfl⟩ := pv_lsh_inv hx
    exact lv_lshr hex hb hd rfl (kk H locs ls cells slots _ hn hI hl rfl rfl)
  | lushr =>
    have hok : pv_nx rows k pc len 1 = true := hok
    obtain ⟨rfl, hn⟩ := pv_nx_inv hok
    obtain ⟨x, y, r, rfl, rfl⟩ := pv_lsh_inv hx
    exact lv_lushr hex hb hd rfl (kk H locs ls cells slots _ hn hI hl rfl rfl)
  | idiv =>
    have hok : pv_nx rows k pc len 1 = true := hok
    obtain ⟨rfl, hn⟩ := pv_nx_inv hok
    simp only [pv_x] at hx
    split at hx
    · next y x r =>
      by_cases hy : y = 0
      · rw [if_pos hy] at hx; cases hx
      · rw [if_neg hy] at hx; cases hx
        exact lv_idiv hex hb hd hy (kk H locs ls cells slots _ hn hI hl rfl rfl)
    · cases hx
  | irem =>
    have hok : pv_nx rows k pc len 1 = true := hok
    obtain ⟨rfl, hn⟩ := pv_nx_inv hok
    simp only [pv_x] at hx
    split at hx
    · next y x r =>
      by_cases hy : y = 0
      · rw [if_pos hy] at hx; cases hx
      · rw [if_neg hy] at hx; cases hx
        exact lv_irem hex hb hd hy (kk H locs ls cells slots _ hn hI hl rfl rfl)
    · cases hx
  | ldiv =>
    have hok : pv_nx rows k pc len 1 = true := hok
    obtain ⟨rfl, hn⟩ := pv_nx_inv hok
    simp only [pv_x] at hx
    split at hx
    · next y x r =>
      by_cases hy : y = 0
      · rw [if_pos hy] at hx; cases hx
      · rw [if_neg hy] at hx; cases hx
        exact lv_ldiv hex hb hd hy (kk H locs ls cells slots _ hn hI hl rfl rfl)
    · cases hx
  | lrem =>
    have hok : pv_nx rows k pc len 1 = true := hok
    obtain ⟨rfl, hn⟩ := pv_nx_inv hok
    simp only [pv_x] at hx
    split at hx
    · next y x r =>
      by_cases hy : y = 0
      · rw [if_pos hy] at hx; cases hx
      · rw [if_neg hy] at hx; cases hx
        exact lv_lrem hex hb hd hy (kk H locs ls cells slots _ hn hI hl rfl rfl)
    · cases hx
  | ineg =>
    have hok : pv_nx rows k pc len 1 = true := hok
    obtain ⟨rfl, hn⟩ := pv_nx_inv hok
    simp only [pv_x] at hx
    split at hx
    · next x r =>
      cases hx
      exact lv_ineg hex hb hd (kk H locs ls cells slots _ hn hI hl rfl rfl)
    · cases hx
  | i2l =>
    have hok : pv_nx rows k pc len 1 = true := hok
    obtain ⟨rfl, hn⟩ := pv_nx_inv hok
    simp only [pv_x] at hx
    split at hx
    · next x r =>
      cases hx
      exact lv_i2l hex hb hd rfl (kk H locs ls cells slots _ hn hI hl rfl rfl)
    · cases hx
  | l2i =>
    have hok : pv_nx rows k pc len 1 = true := hok
    obtain ⟨rfl, hn⟩ := pv_nx_inv hok
    simp only [pv_x] at hx
    split at hx
    · next x r =>
      cases hx
      exact lv_l2i hex hb hd rfl (kk H locs ls cells slots _ hn hI hl rfl rfl)
    · cases hx
  | i2b =>
    have hok : pv_nx rows k pc len 1 = true := hok
    obtain ⟨rfl, hn⟩ := pv_nx_inv hok
    simp only [pv_x] at hx
    split at hx
    · next x r =>
      cases hx
      exact lv_i2b hex hb hd rfl (kk H locs ls cells slots _ hn hI hl rfl rfl)
    · cases hx
  | i2c =>
    have hok : pv_nx rows k pc len 1 = true := hok
    obtain ⟨rfl, hn⟩ := pv_nx_inv hok
    simp only [pv_x] at hx
    split at hx
    · next x r =>
      cases hx
      exact lv_i2c hex hb hd rfl (kk H locs ls cells slots _ hn hI hl rfl rfl)
    · cases hx
  | lcmp =>
    have hok : pv_nx rows k pc len 1 = true := hok
    obtain ⟨rfl, hn⟩ := pv_nx_inv hok
    simp only [pv_x] at hx
    split at hx
    · next y x r =>
      cases hx
      exact W.lcmp hex hb hd (kk H locs ls cells slots _ hn hI hl rfl rfl)
    · cases hx
  | dup =>
    have hok : pv_nx rows k pc len 1 = true := hok
    obtain ⟨rfl, hn⟩ := pv_nx_inv hok
    simp only [pv_x] at hx
    split at hx
    · next v r =>
      by_cases hv : v.category = 1
      · rw [if_pos hv] at hx; cases hx
        exact lv_dup hex hb hd ((pv_v_cat B v).trans hv) (kk H locs ls cells slots _ hn hI hl rfl rfl)
      · rw [if_neg hv] at hx; cases hx
    · cases hx
  | pop =>
    have hok : pv_nx rows k pc len 1 = true := hok
    obtain ⟨rfl, hn⟩ := pv_nx_inv hok
    simp only [pv_x] at hx
    split at hx
    · next v r =>
      by_cases hv : v.category = 1
      · rw [if_pos hv] at hx; cases hx
        exact lv_pop hex hb hd ((pv_v_cat B v).trans hv) (kk H locs ls cells slots _ hn hI hl rfl rfl)
      · rw [if_neg hv] at hx; cases hx
    · cases hx
  | dup2 =>
    have hok : pv_nx rows k pc len 1 = true := hok
    obtain ⟨rfl, hn⟩ := pv_nx_inv hok
    simp only [pv_x] at hx
    split at hx
    · next v w r =>
      by_cases hv : v.category = 1 ∧ w.category = 1
      · rw [if_pos hv] at hx; cases hx
        exact lv_dup2_11 hex hb hd ((pv_v_cat B v).trans hv.1) ((pv_v_cat B w).trans hv.2) (kk H locs ls cells slots _ hn hI hl rfl rfl)
      · rw [if_neg hv] at hx; cases hx
    · cases hx
  | goto off =>
    simp only [pv_x] at hx
    split at hx
    · next t =>
      cases hx
      have hok : (len == 3 && pv_jp rows pc off t) = true := hok
      simp only [Bool.and_eq_true, beq_iff_eq] at hok
      obtain ⟨rfl, hj⟩ := hok
      exact lv_goto hex hb hd (pv_jp_inv hj) (kk H locs ls cells slots _ rfl hI hl rfl rfl)
    · cases hx
  | ifCond cd off =>
    exact pv_stepB1 S hI hl hd hok hx kk
  | if_icmp cd off =>
    exact pv_stepB2 S hI hl hd hok hx kk
  | getfield idx =>
    exact pv_stepGet hLK ho S hI hl hd hok hx kk
  | putfield idx =>
    exact pv_stepPut hLK ho S hI hl hd hok hx kk
  | tableswitch d lo9 hi9 offs =>
    simp only [pv_x] at hx
    split at hx
    · next t ts x r =>
      have hok : (pv_jp rows pc d t && decide (ts.length = offs.size) && (offs.toList.zip ts).all (fun q => pv_jp rows pc q.1 q.2)) = true := hok
      simp only [Bool.and_eq_true, decide_eq_true_eq] at hok
      obtain ⟨⟨hj, hsz⟩, hal⟩ := hok
      by_cases hr9 : x.toInt < lo9 ∨ hi9 < x.toInt
      · rw [if_pos hr9] at hx; cases hx
        exact lv_tableOut hex hb hd hr9 (pv_jp_inv hj) (kk H locs ls cells slots _ rfl hI hl rfl rfl)
      · rw [if_neg hr9] at hx
        split at hx
        · next t1 ht1 =>
          cases hx
          have hlt : (x.toInt - lo9).toNat < ts.length := (List.getElem?_eq_some_iff.mp ht1).1
          have hlt2 : (x.toInt - lo9).toNat < offs.size := by omega
          have hmem : (offs[(x.toInt - lo9).toNat], t1) ∈ offs.toList.zip ts := by
            apply List.mem_of_getElem? (i := (x.toInt - lo9).toNat)
            rw [List.getElem?_zip_eq_some]
            exact ⟨by simp [hlt2], ht1⟩
          have hj1 := pv_jp_inv (List.all_eq_true.mp hal _ hmem)
          exact lv_tableIn hex hb hd (fun q => hr9 (Or.inl q)) (fun q => hr9 (Or.inr q)) (by simp [hlt2]) hj1 (kk H locs ls cells slots _ rfl hI hl rfl rfl)
        · cases hx
    · cases hx
  | iaload =>
    have hok : pv_nx rows k pc len 1 = true := hok
    obtain ⟨rfl, hn⟩ := pv_nx_inv hok
    obtain ⟨i, a, r, n, f, rfl, ha, hin, rfl⟩ := pv_ald_inv hx
    exact va_iald hex hb hK.1 hP a 0 (pv_w_get ha) rfl hin hd (kk H locs ls cells slots _ hn hI hl rfl rfl)
  | baload =>
    have hok : pv_nx rows k pc len 1 = true := hok
    obtain ⟨rfl, hn⟩ := pv_nx_inv hok
    simp only [pv_x] at hx
    split at hx
    · next t =>
      by_cases ht : t = 1 ∨ t = 2
      · rw [if_pos ht] at hx
        obtain ⟨i, a, r, n, f, rfl, ha, hin, rfl⟩ := pv_ald_inv hx
        rcases ht with rfl | rfl
        · exact va_zald hex hb hK.1 hP a 1 (pv_w_get ha) rfl hin hd (kk H locs ls cells slots _ hn hI hl rfl rfl)
        · exact va_bald hex hb hK.1 hP a 2 (pv_w_get ha) rfl hin hd (kk H locs ls cells slots _ hn hI hl rfl rfl)
      · rw [if_neg ht] at hx; cases hx
    · cases hx
  | iastore =>
    have hok : pv_nx rows k pc len 1 = true := hok
    obtain ⟨rfl, hn⟩ := pv_nx_inv hok
    exact pv_stepAst (i9 := .iastore) 0 (fun x => x) hI hl hn hx (fun x i a r n f ha hin k9 => va_iast hex hb hK.1 hP (pv_D cA B h hAk) hS a 0 ha rfl hin hd k9) kk
  | bastore =>
    have hok : pv_nx rows k pc len 1 = true := hok
    obtain ⟨rfl, hn⟩ := pv_nx_inv hok
    simp only [pv_x] at hx
    split at hx
    · exact pv_stepAst (i9 := .bastore) 1 (vp_nar .boolean) hI hl hn hx (fun x i a r n f ha hin k9 => va_zast hex hb hK.1 hP (pv_D cA B h hAk) hS a 1 ha rfl hin hd k9) kk
    · exact pv_stepAst (i9 := .bastore) 2 (vp_nar .byte) hI hl hn hx (fun x i a r n f ha hin k9 => va_bast hex hb hK.1 hP (pv_D cA B h hAk) hS a 2 ha rfl hin hd k9) kk
    · cases hx
  | laload =>
    have hok : pv_nx rows k pc len 1 = true := hok
    obtain ⟨rfl, hn⟩ := pv_nx_inv hok
    simp only [pv_x] at hx
    split at hx
    · next i a r =>
      split at hx
      · next t9 n f ha =>
        by_cases ht : t9 = 3
        · rw [if_pos ht] at hx
          subst ht
          by_cases hi : i < 0 ∨ n ≤ i.toNatClampNeg
          · rw [if_pos hi] at hx; cases hx
          · rw [if_neg hi] at hx; cases hx
            exact va_lald hex hb hK.1 hP a 3 (pv_w_get ha) rfl hi hd (kk H locs ls cells slots _ hn hI hl rfl rfl)
        · rw [if_neg ht] at hx; cases hx
      · cases hx
    · cases hx
  | lastore =>
    have hok : pv_nx rows k pc len 1 = true := hok
    obtain ⟨rfl, hn⟩ := pv_nx_inv hok
    simp only [pv_x] at hx
    split at hx
    · next x i a r =>
      split at hx
      · next t9 n f ha =>
        by_cases ht : t9 = 3
        · rw [if_pos ht] at hx
          subst ht
          by_cases hi : i < 0 ∨ n ≤ i.toNatClampNeg
          · rw [if_pos hi] at hx; cases hx
          · rw [if_neg hi] at hx; cases hx
            refine va_last hex hb hK.1 hP (pv_D cA B h hAk) hS a 3 (pv_w_get ha) rfl hi hd (fun H1 locs1 hP1 _ hS1 => ?_)
            have hset : (pv_w cA B h).set a (B + a, .inl (cA 3, n, .inr (.inl (vp_updL f i.toNatClampNeg x)))) = pv_w cA B (h.set a (.inl (3, n, .inr (.inl (vp_updL f i.toNatClampNeg x))))) := by
              rw [pv_w_set]; rfl
            rw [hset] at hP1
            exact kk H1 locs1 ls cells slots _ hn ⟨hP1, hS1, fun k9 h9 => hAk k9 (by simpa using h9)⟩ hl (by simp) (by rw [pv_sl_set ha (by rfl)])
        · rw [if_neg ht] at hx; cases hx
      · cases hx
    · cases hx
  | arraylength =>
    have hok : pv_nx rows k pc len 1 = true := hok
    obtain ⟨rfl, hn⟩ := pv_nx_inv hok
    simp only [pv_x] at hx
    split at hx
    · next a r =>
      split at hx
      · next t9 n f ha =>
        by_cases ht : t9 < 4
        · rw [if_pos ht] at hx; cases hx
          have h4 : ∃ ty, (pv_ty cA)[t9]? = some (cA t9, ty) := by
            match t9, ht with
            | 0, _ => exact ⟨_, rfl⟩
            | 1, _ => exact ⟨_, rfl⟩
            | 2, _ => exact ⟨_, rfl⟩
            | 3, _ => exact ⟨_, rfl⟩
          obtain ⟨ty, hty⟩ := h4
          exact va_alen hex hb hK.1 hP a t9 (x := (n, f)) (pv_w_get ha) hty rfl hd (kk H locs ls cells slots _ hn hI hl rfl rfl)
        · rw [if_neg ht] at hx; cases hx
      · cases hx
    · cases hx
  | newarray ty9 =>
    have hok : pv_nx rows k pc len 2 = true := hok
    obtain ⟨rfl, hn⟩ := pv_nx_inv hok
    simp only [pv_x] at hx
    split at hx
    · next n r =>
      by_cases hcn : n < 0 ∨ 100000 < n.toNatClampNeg
      · rw [if_pos hcn] at hx; cases hx
      · rw [if_neg hcn] at hx; cases hx
        exact pv_newa 0 .int .int (fun N => (N, .inl (fun _ => 0))) S hI hl rfl (fun C q => by cases q) rfl pv_arr.1 (fun N cX => rfl) (fun N => rfl) (by decide) hd hn hcn (hB (by simp)) hc hs kk
    · next n r =>
      by_cases hcn : n < 0 ∨ 100000 < n.toNatClampNeg
      · rw [if_pos hcn] at hx; cases hx
      · rw [if_neg hcn] at hx; cases hx
        exact pv_newa 1 .boolean .boolean (fun N => (N, .inl (fun _ => 0))) S hI hl rfl (fun C q => by cases q) rfl pv_arr.2.1 (fun N cX => rfl) (fun N => rfl) (by decide) hd hn hcn (hB (by simp)) hc hs kk
    · next n r =>
      by_cases hcn : n < 0 ∨ 100000 < n.toNatClampNeg
      · rw [if_pos hcn] at hx; cases hx
      · rw [if_neg hcn] at hx; cases hx
        exact pv_newa 2 .byte .byte (fun N => (N, .inl (fun _ => 0))) S hI hl rfl (fun C q => by cases q) rfl pv_arr.2.2.1 (fun N cX => rfl) (fun N => rfl) (by decide) hd hn hcn (hB (by simp)) hc hs kk
    · next n r =>
      by_cases hcn : n < 0 ∨ 100000 < n.toNatClampNeg
      · rw [if_pos hcn] at hx; cases hx
      · rw [if_neg hcn] at hx; cases hx
        exact pv_newa 3 .long .long (fun N => (N, .inr (.inl (fun _ => 0)))) S hI hl rfl (fun C q => by cases q) rfl pv_arr.2.2.2 (fun N cX => rfl) (fun N => rfl) (by decide) hd hn hcn (hB (by simp)) hc hs kk
    · cases hx
  | new idx =>
    simp only [pv_x] at hx
    split at hx
    · next ci =>
      cases hx
      simp only [pv_okx] at hok
      split at hok
      · next ci2 p0 e1 =>
        cases e1
        simp only [Bool.and_eq_true] at hok
        obtain ⟨rfl, hn⟩ := pv_nx_inv hok.1
        replace hok := hok.2
        split at hok
        · next q hq =>
          obtain ⟨w1, w2, w3⟩ : Cond.classLink own idx q.1 ∈ pv_T ∧ Cond.instantiable q.1 q.2.2 ∈ pv_T ∧ Cond.initialized q.1 ∈ pv_T := hLK.1 _ (pv_lk_inv hok) own q ho hq
          exact pv_new S hI hl hq hd hn w1 w2 w3 (hB (by simp)) hc hs kk
        · cases hok
      · cases hok
    · cases hx
  | invokespecial idx =>
    simp only [pv_x] at hx
    split at hx
    · next a r =>
      by_cases hr9 : pv_cat r ≤ 8
      · rw [if_pos hr9] at hx; cases hx
        simp only [pv_okx] at hok
        split at hok
        · next p0 e1 =>
          simp only [Bool.and_eq_true] at hok
          obtain ⟨hnx, hlk⟩ := hok
          obtain ⟨rfl, hn⟩ := pv_nx_inv hnx
          obtain ⟨w1, w2, w3⟩ : Cond.methodLink own idx Lib.objectInit ∈ pv_T ∧ Cond.instanceMethod Lib.objectInit ∈ pv_T ∧ Cond.code Lib.objectInit ⟨#[0xb1]⟩ 1 none ∈ pv_T := hLK.1 _ (pv_lk_inv hlk) own ho
          refine W.objInit hex hb hown (hts _ w1) (hts _ w2) (hts _ w3) rfl (by rw [hml]; exact hl.1) rfl hd hfr ?_ ?_
          · show 2 * 0 + (((r.map (pv_v B)).map fun v => v.category)).sum + 12 ≤ R.locals
            rw [pv_cat_map]; omega
          · exact W.eq (g2 := F0 m (pc + 3) ls (r.map (pv_v B))) rfl (kk H locs ls cells slots _ hn hI hl rfl rfl)
        · cases hok
      · rw [if_neg hr9] at hx; cases hx
    · cases hx
  | invokestatic idx =>
    simp only [pv_x] at hx
    split at hx
    · next y x r =>
      by_cases hr9 : pv_cat r ≤ 8
      · rw [if_pos hr9] at hx; cases hx
        rcases ps with _ | ⟨p0, _ | ⟨p1, pr9⟩⟩ <;> try (cases hok; done)
        have hok : (pv_nx rows k pc len 3 && pv_lk LK p0 [6, o, idx, 0]) = true := hok
        dsimp only at hc hs
        simp only [Bool.and_eq_true] at hok
        obtain ⟨hnx, hlk⟩ := hok
        obtain ⟨rfl, hn⟩ := pv_nx_inv hnx
        obtain ⟨w1, w2, w3, w4⟩ : Cond.methodLink own idx Lib.Math.max.name ∈ pv_T ∧ Cond.static Lib.Math.max.name ∈ pv_T ∧ Cond.initialized "java/lang/Math" ∈ pv_T ∧ Cond.code Lib.Math.max.name Lib.Math.max.code 2 (some .int) ∈ pv_T := hLK.1 _ (pv_lk_inv hlk) own ho
        exact va_mmax hex hb (by rw [hml]; exact hl.1.symm) hown (hts _ w1) (hts _ w2) (hts _ w3) (hts _ w4) hfr (by rw [pv_cat_map]; omega) (by omega) (by omega) hd (kk H locs ls cells slots _ hn hI hl rfl rfl)
      · rw [if_neg hr9] at hx; cases hx
    · next y x r =>
      by_cases hr9 : pv_cat r ≤ 8
      · rw [if_pos hr9] at hx; cases hx
        rcases ps with _ | ⟨p0, _ | ⟨p1, pr9⟩⟩ <;> try (cases hok; done)
        have hok : (pv_nx rows k pc len 3 && pv_lk LK p0 [6, o, idx, 1]) = true := hok
        dsimp only at hc hs
        simp only [Bool.and_eq_true] at hok
        obtain ⟨hnx, hlk⟩ := hok
        obtain ⟨rfl, hn⟩ := pv_nx_inv hnx
        obtain ⟨w1, w2, w3, w4⟩ : Cond.methodLink own idx Lib.Math.min.name ∈ pv_T ∧ Cond.static Lib.Math.min.name ∈ pv_T ∧ Cond.initialized "java/lang/Math" ∈ pv_T ∧ Cond.code Lib.Math.min.name Lib.Math.min.code 2 (some .int) ∈ pv_T := hLK.1 _ (pv_lk_inv hlk) own ho
        exact va_mmin hex hb (by rw [hml]; exact hl.1.symm) hown (hts _ w1) (hts _ w2) (hts _ w3) (hts _ w4) hfr (by rw [pv_cat_map]; omega) (by omega) (by omega) hd (kk H locs ls cells slots _ hn hI hl rfl rfl)
      · rw [if_neg hr9] at hx; cases hx
    · next x r =>
      by_cases hr9 : pv_cat r ≤ 8
      · rw [if_pos hr9] at hx; cases hx
        rcases ps with _ | ⟨p0, _ | ⟨p1, pr9⟩⟩ <;> try (cases hok; done)
        have hok : (pv_nx rows k pc len 3 && pv_lk LK p0 [6, o, idx, 2]) = true := hok
        dsimp only at hc hs
        simp only [Bool.and_eq_true] at hok
        obtain ⟨hnx, hlk⟩ := hok
        obtain ⟨rfl, hn⟩ := pv_nx_inv hnx
        obtain ⟨w1, w2, w3, w4⟩ : Cond.methodLink own idx Lib.Math.abs.name ∈ pv_T ∧ Cond.static Lib.Math.abs.name ∈ pv_T ∧ Cond.initialized "java/lang/Math" ∈ pv_T ∧ Cond.code Lib.Math.abs.name Lib.Math.abs.code 1 (some .int) ∈ pv_T := hLK.1 _ (pv_lk_inv hlk) own ho
        exact va_mabs hex hb (by rw [hml]; exact hl.1.symm) hown (hts _ w1) (hts _ w2) (hts _ w3) (hts _ w4) hfr (by rw [pv_cat_map]; omega) (by omega) (by omega) hd (kk H locs ls cells slots _ hn hI hl rfl rfl)
      · rw [if_neg hr9] at hx; cases hx
    · next n dp a sp a0 r =>
      split at hx
      · next t0 n0 f t1 n1 g ha0 ha1 =>
        split at hx
        · next hq =>
          obtain ⟨rfl, rfl, hr9, h1, h2, h3, h4, h5⟩ := hq
          cases hx
          rcases ps with _ | ⟨p0, _ | ⟨p1, pr9⟩⟩ <;> try (cases hok; done)
          have hok : (pv_nx rows k pc len 3 && pv_lk LK p0 [6, o, idx, 3]) = true := hok
          simp only [Bool.and_eq_true] at hok
          obtain ⟨hnx, hlk⟩ := hok
          obtain ⟨rfl, hn⟩ := pv_nx_inv hnx
          obtain ⟨w1, w2, w3, w4⟩ : Cond.methodLink own idx arraycopyName ∈ pv_T ∧ Cond.static arraycopyName ∈ pv_T ∧ Cond.initialized "java/lang/System" ∈ pv_T ∧ Cond.native arraycopyName ∈ pv_T := hLK.1 _ (pv_lk_inv hlk) own ho
          refine va_copyi (ty := .int) hex hb (by rw [hml]; exact hl.1.symm) hown (hts _ w1) (hts _ w4) (hts _ w2) (hts _ w3) hK.1 hP (pv_D cA B h hAk) hS a0 a 0 0 (pv_w_get ha0) (pv_w_get ha1) rfl rfl rfl h1 h2 h3 h4 h5 (fun _ _ => rfl) hfr ?_ hd (fun H1 locs1 hP1 _ hS1 => ?_)
          · rw [pv_cat_map]
            have : nativeFrameWords "java/lang/System" "arraycopy" 5 ≤ 30 := by decide +kernel
            omega
          · have hset : (pv_w cA B h).set a (B + a, .inl (cA 0, n1, .inl (va_cpy f g sp.toNatClampNeg dp.toNatClampNeg n.toNatClampNeg))) = pv_w cA B (h.set a (.inl (0, n1, .inl (va_cpy f g sp.toNatClampNeg dp.toNatClampNeg n.toNatClampNeg)))) := by
              rw [pv_w_set]; rfl
            rw [hset] at hP1
            exact kk H1 locs1 ls cells slots _ hn ⟨hP1, hS1, fun k9 h9 => hAk k9 (by simpa using h9)⟩ hl (by simp) (by rw [pv_sl_set ha1 (by rfl)])
        · cases hx
      · cases hx
    · cases hx
  | _ =>
    cases hx
end PVU
end
section
theorem pv_okM_row {LK : List (List Nat)} {M : pv_M} (h : pv_okM LK M = true) : ∃ o, pv_cn[o]? = some M.1.cls ∧ ∀ (k : Nat) (r : pv_R), M.2.2.2.2[k]? = some r → r.2.1 = .nop ∨ pv_okR LK M o k r = true := by
  simp only [pv_okM, Bool.and_eq_true] at h
  obtain ⟨o, -, ho⟩ := List.any_eq_true.mp h.2
  simp only [Bool.and_eq_true, decide_eq_true_eq] at ho
  refine ⟨o, ho.1, fun k r hk => ?_⟩
  have h1 := List.all_eq_true.mp ho.2 k (List.mem_range.mpr (List.getElem?_eq_some_iff.mp hk).1)
  rw [hk] at h1
  simpa using h1
theorem pv_ret_is {i : Instr} {xs : List Nat} {st : List Value} {v : Option Value} (h : pv_ret i xs st = some v) : pv_isR i = true := by
  unfold pv_ret at h
  split at h <;> first | rfl | cases h
theorem pv_inv_is {i : Instr} {xs : List Nat} {st : List Value} {h : pv_H} {v : Nat × List Value × List Value} (hx : pv_inv i xs st h = some v) : pv_isR i = false ∧ pv_isC i xs = true := by
  unfold pv_inv at hx
  split at hx <;> first | exact ⟨rfl, rfl⟩ | cases hx
theorem pv_x_is {i : Instr} {xs : List Nat} {k : Nat} {lo : pv_L} {st : List Value} {h : pv_H} {c' : pv_C} (hx : pv_x i xs k lo st h = some c') : pv_isR i = false ∧ pv_isC i xs = false := by
  cases i with
  | invokestatic idx =>
    simp only [pv_x] at hx
    split at hx <;> first | exact ⟨rfl, rfl⟩ | cases hx
  | invokespecial idx =>
    simp only [pv_x] at hx
    split at hx <;> first | exact ⟨rfl, rfl⟩ | cases hx
  | invokevirtual idx => cases hx
  | ireturn => cases hx
  | lreturn => cases hx
  | return_ => cases hx
  | _ => exact ⟨rfl, rfl⟩
set_option maxHeartbeats 8000000 in
theorem pv_x_len {i : Instr} {xs : List Nat} {k : Nat} {lo : pv_L} {st : List Value} {h : pv_H} {c' : pv_C} (hx : pv_x i xs k lo st h = some c') : h.length ≤ c'.2.2.2.length ∧ pv_sl h ≤ pv_sl c'.2.2.2 := by
  have same : ∀ {k' : Nat} {l' : pv_L} {s' : List Value}, c' = (k', l', s', h) → h.length ≤ c'.2.2.2.length ∧ pv_sl h ≤ pv_sl c'.2.2.2 := by
    intro k' l' s' e; subst e; exact ⟨Nat.le_refl _, Nat.le_refl _⟩
  have put : ∀ {k' : Nat} {l' : pv_L} {s' : List Value} {a : Nat} {e1 e2 : va_E}, h[a]? = some e1 → pv_ce e2 = pv_ce e1 → c' = (k', l', s', h.set a e2) → h.length ≤ c'.2.2.2.length ∧ pv_sl h ≤ pv_sl c'.2.2.2 := by
    intro k' l' s' a e1 e2 h1 h2 e; subst e; exact ⟨by simp, by rw [pv_sl_set h1 h2]; exact Nat.le_refl _⟩
  have app : ∀ {k' : Nat} {l' : pv_L} {s' : List Value} {e2 : va_E}, c' = (k', l', s', h ++ [e2]) → h.length ≤ c'.2.2.2.length ∧ pv_sl h ≤ pv_sl c'.2.2.2 := by
    intro k' l' s' e2 e; subst e; exact ⟨by simp, by rw [pv_sl_app]; omega⟩
  cases i with
  | iload i => obtain ⟨_, _, e⟩ := pv_lod0 hx; exact same e
  | iload_n i => obtain ⟨_, _, e⟩ := pv_lod0 hx; exact same e
  | lload i => obtain ⟨_, _, e⟩ := pv_lod1 hx; exact same e
  | lload_n i => obtain ⟨_, _, e⟩ := pv_lod1 hx; exact same e
  | aload i => obtain ⟨_, _, e⟩ := pv_lod2 hx; exact same e
  | aload_n i => obtain ⟨_, _, e⟩ := pv_lod2 hx; exact same e
  | istore i => obtain ⟨_, _, _, e⟩ := pv_sto0 hx; exact same e
  | istore_n i => obtain ⟨_, _, _, e⟩ := pv_sto0 hx; exact same e
  | lstore i => obtain ⟨_, _, _, e⟩ := pv_sto1 hx; exact same e
  | lstore_n i => obtain ⟨_, _, _, e⟩ := pv_sto1 hx; exact same e
  | astore i => obtain ⟨_, _, _, e⟩ := pv_sto2 hx; exact same e
  | astore_n i => obtain ⟨_, _, _, e⟩ := pv_sto2 hx; exact same e
  | ifCond cd off =>
    obtain ⟨t, x, r, _, _, e⟩ := pv_b1_inv hx
    split at e <;> exact same e
  | if_icmp cd off =>
    obtain ⟨t, x, y, r, _, _, e⟩ := pv_b2_inv hx
    split at e <;> exact same e
  | iaload => obtain ⟨_, _, _, _, _, _, _, _, e⟩ := pv_ald_inv hx; exact same e
  | iastore => obtain ⟨_, _, _, _, _, _, _, ha, _, e⟩ := pv_ast_inv hx; exact put ha (by rfl) e
  | baload =>
    simp only [pv_x] at hx
    split at hx
    · split at hx
      · obtain ⟨_, _, _, _, _, _, _, _, e⟩ := pv_ald_inv hx; exact same e
      · cases hx
    · cases hx
  | bastore =>
    simp only [pv_x] at hx
    split at hx
    · obtain ⟨_, _, _, _, _, _, _, ha, _, e⟩ := pv_ast_inv hx; exact put ha (by rfl) e
    · obtain ⟨_, _, _, _, _, _, _, ha, _, e⟩ := pv_ast_inv hx; exact put ha (by rfl) e
    · cases hx
  | _ =>
    simp only [pv_x, pv_i2, pv_l2, pv_lsh] at hx
    repeat' split at hx
    all_goals first
      | (cases hx; done)
      | (cases hx; exact same rfl)
      | (cases hx; exact app rfl)
      | (cases hx; exact put (by assumption) (by first | rfl | simp [pv_ce]) rfl)
theorem pv_go_len {call : Nat → List Value → pv_H → Option (Option Value × pv_H)} (hcall : ∀ j as h v h', call j as h = some (v, h') → h.length ≤ h'.length ∧ pv_sl h ≤ pv_sl h') {rows : List pv_R} : ∀ (f k : Nat) (lo : pv_L) (st : List Value) (h : pv_H) (v : Option Value) (h' : pv_H), pv_go call rows f k lo st h = some (v, h') → h.length ≤ h'.length ∧ pv_sl h ≤ pv_sl h' := by
  intro f
  induction f with
  | zero => intro k lo st h v h' hx; cases hx
  | succ f ih =>
    intro k lo st h v h' hx
    simp only [pv_go] at hx
    split at hx
    · cases hx
    · split at hx
      · cases hx; exact ⟨Nat.le_refl _, Nat.le_refl _⟩
      · split at hx
        · split at hx
          · next v1 h1 hc =>
            have a1 := hcall _ _ _ _ _ hc
            have a2 := ih _ _ _ _ _ _ hx
            exact ⟨Nat.le_trans a1.1 a2.1, Nat.le_trans a1.2 a2.2⟩
          · cases hx
        · split at hx
          · next hc =>
            have a1 := pv_x_len hc
            have a2 := ih _ _ _ _ _ _ hx
            exact ⟨Nat.le_trans a1.1 a2.1, Nat.le_trans a1.2 a2.2⟩
          · cases hx
theorem pv_run_len {pr : List pv_M} {F : Nat} : ∀ (d j : Nat) (as : List Value) (h : pv_H) (v : Option Value) (h' : pv_H), pv_run pr F d j as h = some (v, h') → h.length ≤ h'.length ∧ pv_sl h ≤ pv_sl h' := by
  intro d
  induction d with
  | zero => intro j as h v h' hx; cases hx
  | succ d ih =>
    intro j as h v h' hx
    simp only [pv_run] at hx
    split at hx
    · split at hx
      · exact pv_go_len ih _ _ _ _ _ _ _ hx
      · cases hx
    · cases hx
end
section
/-! WHAT THE PURE MACHINE ANSWERS, THE MACHINE ANSWERS -/
def pv_A (B n z : Nat) : Nat → Prop := fun q => (B ≤ q ∧ q < B + n) ∨ z ≤ q
def pv_Qc (D : va_G) (cA : Nat → ClassId) (B : Nat) (A : Nat → Prop) (v : Option Value) (h' : pv_H) : Array Value → State → Outcome → State → Prop := fun _ st o t =>
  o = .returned (v.map (pv_v B)) ∧ pv_K D cA t ∧ va_P D vwCl (pv_w cA B h') t.heap ∧ va_F A st t
def pv_Pc (D : va_G) (cA : Nat → ClassId) (B sz : Nat) (as : List Value) (h : pv_H) : Array Value → State → Prop :=
  va_Pc (as.map (pv_v B)) (fun U => U.heap.size = sz ∧ pv_K D cA U ∧ va_P D vwCl (pv_w cA B h) U.heap)
def pv_rm (d : Nat) (h h' : pv_H) : Room := { frames := d, cells := h'.length - h.length, slots := pv_sl h' - pv_sl h, locals := 60 * d }
def pv_ws (M : pv_M) : List Cond := Cond.code M.1 M.2.1 M.2.2.1 M.2.2.2.1 :: pv_T
def pv_Met (l : Launch) (D : va_G) (cA : Nat → ClassId) (B sz : Nat) (pr : List pv_M) (d j : Nat) (as : List Value) (h : pv_H) (v : Option Value) (h' : pv_H) : Prop :=
  ∃ M, pr[j]? = some M ∧ Met l M.1 (pv_ws M) (pv_rm d h h') (pv_Pc D cA B sz as h) (pv_Qc D cA B (pv_A B h.length sz) v h') (h'.length - h.length) (pv_sl h' - pv_sl h) (pv_A B h.length sz)
theorem pv_blind (D : va_G) (cA : Nat → ClassId) (B sz : Nat) (as : List Value) (h : pv_H) : FrameBlind (pv_Pc D cA B sz as h) :=
  fun _ U g mk q => ⟨q.1, q.2.1, pv_K.same (s := U) rfl q.2.2.1, q.2.2.2⟩
theorem pv_goodT (M : pv_M) (hc : Cond.code M.1 M.2.1 M.2.2.1 M.2.2.2.1 ∈ pv_T) : GoodIn pv_T (pv_ws M) := by
  intro w hw
  rcases List.mem_cons.mp hw with rfl | hw
  · exact ⟨hc, good_of_word (List.mem_filter.mp hc).2⟩
  · exact ⟨hw, good_of_word (List.mem_filter.mp hw).2⟩
theorem pv_low {D : va_G} {cA : Nat → ClassId} {B : Nat} {A : Nat → Prop} {s : State} {h : pv_H} {H : Heap} {locs : List Loc} (hI : pv_I D cA B A s h H locs) (hBs : (∀ q, s.heap.size ≤ q → A q) ∧ ∀ q, A q → B ≤ q) : B + h.length ≤ H.size := by
  rcases Nat.eq_zero_or_pos h.length with h0 | h0
  · have := hBs.2 _ (hBs.1 _ hI.2.1.1)
    omega
  · have hk : h.length - 1 < h.length := by omega
    have h2 : (pv_w cA B h)[h.length - 1]? = some (B + (h.length - 1), pv_e cA B h[h.length - 1]) := pv_w_get (by simp [hk])
    have h4 : B + (h.length - 1) < H.size := (hI.1 _ _ h2).lt
    omega
section PVV
variable {p : Program} {l : Launch} {e : Env} {R : Room} {s : State} {m : MethodId} {args : Array Value} {below : List Frame} {meth : Method} {c : Code} {H : Heap} {locs : List Loc} {cells slots : Nat} {Q : State → Prop}
variable {D : va_G} {cA : Nat → ClassId} {B : Nat} {A A1 : Nat → Prop}
/-- behind a call -/
theorem pv_after {mc ms pc : Nat} {ls : Array Slot} {st0 rest : List Value} {v : Option Value} {h1 : pv_H} {a : Array Value} (hr : va_Run p l e R s m args below meth c H locs cells slots mc ms (F0 m pc ls st0) rest (pv_Qc D cA B A1 v h1 a) A1) (hS : va_S A s.heap H locs) (hAA : ∀ q, A1 q → A q) (hAk : ∀ k, k < h1.length → A (B + k))
    (kk : ∀ (H1 : Heap) (locs1 : List Loc), pv_I D cA B A s h1 H1 locs1 → W p l e R s m args below meth c H1 locs1 (cells + mc) (slots + ms) Q (F0 m (pc + 3) ls ((v.map (pv_v B)).toList ++ rest))) : W p l e R s m args below meth c H locs cells slots Q (F0 m pc ls st0) := by
  intro T hT X
  obtain ⟨v', st₀, t, T', L, h0, X', hL, e1, e2, ⟨hv, hKt, hPt, hz, hk⟩, st⟩ := hr T hT X
  cases hv
  rw [h0] at hz hk
  obtain ⟨t2, a1, b1⟩ := kk T'.heap (locs ++ L) ⟨by rw [e1]; exact hPt, ⟨Nat.le_trans hS.1 (by rw [e1]; exact hz), fun q h1 h2 => by
    rw [e1, hk q (Nat.lt_of_lt_of_le h1 hS.1) (fun z => h2 (hAA q z))]; exact hS.2.1 q h1 h2, fun q hq => by
      rcases List.mem_append.mp hq with h | h
      · exact hS.2.2 q h
      · exact hAA _ (hL q h)⟩, hAk⟩ T' rfl X'
  exact ⟨t2, st t2 a1, b1⟩
theorem pv_lsl (B : Nat) (vs : List Value) : (lg_sl (vs.map (pv_v B))).length = pv_cat vs := by
  induction vs with
  | nil => rfl
  | cons v vs ih =>
    simp only [lg_sl, pv_cat, List.map_cons, List.flatMap_cons, List.length_append, List.sum_cons] at ih ⊢
    rw [ih, pv_v_cat]
    rcases lv_cat v with h | h <;> simp [h]
theorem pv_okc_s {LK : List (List Nat)} {o idx j n : Nat} {ps : List Nat} (h : pv_okc LK o (.invokestatic idx) [j, n] ps = true) : [7, o, idx, j, n] ∈ LK := by
  rcases ps with _ | ⟨p0, _ | ⟨p1, pr9⟩⟩ <;> try (cases h; done)
  have h : pv_lk LK p0 [7, o, idx, j, n] = true := h
  exact pv_lk_inv h
theorem pv_okc_v {LK : List (List Nat)} {o idx j n ci : Nat} {ps : List Nat} (h : pv_okc LK o (.invokevirtual idx) [j, n, ci] ps = true) : [8, o, idx, j, n, ci] ∈ LK ∧ ci < 13 := by
  rcases ps with _ | ⟨p0, _ | ⟨p1, pr9⟩⟩ <;> try (cases h; done)
  have h : (pv_lk LK p0 [8, o, idx, j, n, ci] && decide (ci < 13)) = true := h
  simp only [Bool.and_eq_true, decide_eq_true_eq] at h
  exact ⟨pv_lk_inv h.1, h.2⟩
theorem pv_okc_i {LK : List (List Nat)} {o idx j n z : Nat} {ps : List Nat} (h : pv_okc LK o (.invokespecial idx) [j, n, z] ps = true) : [9, o, idx, j, n] ∈ LK := by
  rcases ps with _ | ⟨p0, _ | ⟨p1, pr9⟩⟩ <;> try (cases h; done)
  have h : pv_lk LK p0 [9, o, idx, j, n] = true := h
  exact pv_lk_inv h
set_option maxHeartbeats 8000000 in
/-- a call -/
theorem pv_call {rows : List pv_R} {own mn : String} {cc : ByteArray} {nL k pc len d j : Nat} {i : Instr} {xs ps : List Nat} {lo : pv_L} {st as rest : List Value} {h h1 : pv_H} {v : Option Value} {ls : Array Slot} {pr : List pv_M} {LK : List (List Nat)} {o : Nat} (hLK : pv_LKs pr LK) (ho : pv_cn[o]? = some own)
    (S : pv_St p s m args meth c R cc own mn nL D cA B A) (hI : pv_I D cA B A s h H locs) (hl : lv_has ls nL (pv_l B lo)) (hd : decode cc pc = .ok (i, 3)) (hok : pv_okc LK o i xs ps = true) (hx : pv_inv i xs st h = some (j, as, rest)) (hM : ∀ sz, B + h.length ≤ sz → (h.length < h1.length → sz = B + h.length) → pv_Met l D cA B sz pr d j as h v h1) (hlen1 : h.length ≤ h1.length) (hB : h.length < h1.length → s.heap.size + cells = B + h.length) (hRf : d + 1 ≤ R.frames) (hRl : 60 * (d + 1) ≤ R.locals) (hm30 : ∀ M, pr[j]? = some M → M.2.2.1 ≤ 30) (hRc : cells + (h1.length - h.length) ≤ R.cells) (hRs : slots + (pv_sl h1 - pv_sl h) ≤ R.slots)
    (kk : ∀ (H1 : Heap) (locs1 : List Loc), pv_I D cA B A s h1 H1 locs1 → W p l e R s m args below meth c H1 locs1 (cells + (h1.length - h.length)) (slots + (pv_sl h1 - pv_sl h)) Q (F0 m (pc + 3) ls ((v.toList ++ rest).map (pv_v B)))) : W p l e R s m args below meth c H locs cells slots Q (F0 m pc ls (st.map (pv_v B))) := by
  obtain ⟨hF, hmn, hK, hBs, hfr, hlo⟩ := id S
  obtain ⟨hex, hb, hml, hown, hts⟩ := id hF
  obtain ⟨hP, hS, hAk⟩ := id hI
  have kk2 : ∀ (H1 : Heap) (locs1 : List Loc), pv_I D cA B A s h1 H1 locs1 → W p l e R s m args below meth c H1 locs1 (cells + (h1.length - h.length)) (slots + (pv_sl h1 - pv_sl h)) Q (F0 m (pc + 3) ls ((v.map (pv_v B)).toList ++ rest.map (pv_v B))) := by
    intro H1 locs1 hI1
    have h9 := kk H1 locs1 hI1
    have e9 : (v.toList ++ rest).map (pv_v B) = (v.map (pv_v B)).toList ++ rest.map (pv_v B) := by cases v <;> simp
    rw [e9] at h9
    exact h9
  refine pv_bound (fun hz => ?_)
  have hlow := pv_low hI hBs
  have hsz : h.length < h1.length → H.size = B + h.length := fun q => by have := hB q; omega
  obtain ⟨M, hj, hMet⟩ := hM H.size hlow hsz
  have w5 := hm30 M hj
  obtain ⟨w3, w2⟩ := hLK.2 j M hj
  have hAA : ∀ q, pv_A B h.length H.size q → A q := by
    intro q hq
    rcases hq with ⟨q1, q2⟩ | q1
    · have h5 := hAk (q - B) (by omega)
      rw [show B + (q - B) = q by omega] at h5
      exact h5
    · exact hBs.1 _ (Nat.le_trans hS.1 q1)
  have hAk1 : ∀ k, k < h1.length → A (B + k) := by
    intro k9 h9
    rcases Nat.lt_or_ge k9 h.length with h5 | h5
    · exact hAk k9 h5
    · have := hsz (by omega)
      exact hBs.1 _ (by have := hS.1; omega)
  have hpre : ∀ U : State, U.heap = H → s.WarmedH U.vm → pv_Pc D cA B H.size as h (as.map (pv_v B)).toArray U := fun U hU hW => ⟨rfl, by rw [hU], pv_K.warm hW hK, by rw [hU]; exact hP⟩
  unfold pv_inv at hx
  split at hx
  · next idx j2 n =>
    split at hx
    · next hcn =>
      cases hx
      obtain ⟨w0, w1, w4⟩ : (Cond.methodLink own idx M.1 ∈ pv_T ∨ ∃ hst, Cond.methodLinkNest own idx M.1 hst ∈ pv_N) ∧ Cond.static M.1 ∈ pv_T ∧ pv_my M.1 n = true := hLK.1 _ (pv_okc_s hok) own M ho hj
      · skip
        have hG := pv_goodT M w3
        simp only [pv_my, decide_eq_true_eq] at w4
        have hn9 : ((st.take n).reverse.map (pv_v B)).length = n := by simp; omega
        have hst9 : st.map (pv_v B) = ((st.take n).reverse.map (pv_v B)).reverse ++ (st.drop n).map (pv_v B) := by
          rw [← List.map_reverse, List.reverse_reverse, ← List.map_append, List.take_append_drop]
        have hW9 : 2 * (F0 m pc ls (st.map (pv_v B))).monitorRoom + (((st.drop n).map (pv_v B)).map fun v => v.category).sum ≤ 8 := lv_room (by rw [pv_cat_map]; exact hcn.2)
        rcases w0 with hl9 | ⟨hst, hl9⟩
        · exact pv_after (va_runS (As := (st.take n).reverse.map (pv_v B)) (rest := (st.drop n).map (pv_v B)) hF hMet ⟨callB_of n hts hG rfl rfl rfl (hts _ w2) (hts _ hl9) w4 ⟨hRf, by show 8 + (M.2.2.1 + 11) + 60 * d ≤ R.locals; omega⟩, hts _ w1⟩ ⟨pv_blind D cA B _ _ h, hpre⟩ rfl hn9 hl.1 hst9 hW9 hd ⟨hRc, hRs⟩) hS hAA hAk1 kk2
        · exact pv_after (va_runSN (As := (st.take n).reverse.map (pv_v B)) (rest := (st.drop n).map (pv_v B)) hF hMet ⟨va_cnB n hts hG rfl rfl rfl (hK.2 _ hl9) (hts _ w2) w4 ⟨hRf, by show 8 + (M.2.2.1 + 11) + 60 * d ≤ R.locals; omega⟩, hts _ w1, trivial⟩ ⟨pv_blind D cA B _ _ h, hpre⟩ rfl hn9 hl.1 hst9 hW9 hd ⟨hRc, hRs⟩) hS hAA hAk1 kk2
    · cases hx
  · next idx j2 n ci =>
    split at hx
    · next b r hdrop =>
      split at hx
      · next ci2 fs hb9 =>
        split at hx
        · next hcn =>
          obtain ⟨rfl, hcat⟩ := hcn
          cases hx
          obtain ⟨hok8, hci⟩ := pv_okc_v hok
          obtain ⟨q, hq⟩ : ∃ q, vwCl[ci2]? = some q := ⟨_, List.getElem?_eq_getElem (by exact hci)⟩
          obtain ⟨w0, w1, w6, w4, w7⟩ : (Cond.methodLink own idx M.1 ∈ pv_T ∨ ∃ hst, Cond.methodLinkNest own idx M.1 hst ∈ pv_N) ∧ Cond.instanceMethod M.1 ∈ pv_T ∧ Cond.selects M.1.cls M.1 M.1 ∈ pv_T ∧ pv_my M.1 n = true ∧ q.1 = M.1.cls := hLK.1 _ hok8 own M q ho hj hq
          · · skip
              have hG := pv_goodT M w3
              simp only [pv_my, decide_eq_true_eq] at w4
              have hlen : n ≤ st.length := by
                rcases Nat.lt_or_ge st.length n with h5 | h5
                · rw [List.drop_eq_nil_of_le (by omega)] at hdrop; cases hdrop
                · exact h5
              have hn9 : ((st.take n).reverse.map (pv_v B)).length = n := by simp; omega
              have hst9 : st.map (pv_v B) = ((st.take n).reverse.map (pv_v B)).reverse ++ .ref (B + b) :: rest.map (pv_v B) := by
                have h5 : st = st.take n ++ (.ref b :: rest) := by rw [← hdrop, List.take_append_drop]
                rw [← List.map_reverse, List.reverse_reverse]
                conv => lhs; rw [h5]
                rw [List.map_append]
                rfl
              have hW9 : 2 * (F0 m pc ls (st.map (pv_v B))).monitorRoom + ((rest.map (pv_v B)).map fun v => v.category).sum ≤ 8 := lv_room (by rw [pv_cat_map]; exact hcat)
              have hrec := va_recv hK.1 hP hq (pv_w_get hb9)
              rw [w7] at hrec
              rcases w0 with hl9 | ⟨hst, hl9⟩
              · exact pv_after (va_runV (C := M.1.cls) (As := (st.take n).reverse.map (pv_v B)) (rest := rest.map (pv_v B)) hF hMet ⟨callB_of n hts hG rfl rfl rfl (hts _ w2) (hts _ hl9) w4 ⟨hRf, by show 8 + (M.2.2.1 + 11) + 60 * d ≤ R.locals; omega⟩, hts _ w1, hts _ w6⟩ ⟨pv_blind D cA B _ _ h, hrec, hpre⟩ rfl hn9 hl.1 hst9 hW9 hd ⟨hRc, hRs⟩) hS hAA hAk1 kk2
              · exact pv_after (va_runVN (C := M.1.cls) (As := (st.take n).reverse.map (pv_v B)) (rest := rest.map (pv_v B)) hF hMet ⟨va_cnB n hts hG rfl rfl rfl (hK.2 _ hl9) (hts _ w2) w4 ⟨hRf, by show 8 + (M.2.2.1 + 11) + 60 * d ≤ R.locals; omega⟩, hts _ w1, hts _ w6⟩ ⟨pv_blind D cA B _ _ h, hrec, hpre⟩ rfl hn9 hl.1 hst9 hW9 hd ⟨hRc, hRs⟩) hS hAA hAk1 kk2
        · cases hx
      · cases hx
    · cases hx
  · next idx j2 n z =>
    split at hx
    · next b r hdrop =>
      split at hx
      · next hcat =>
        cases hx
        obtain ⟨w0, w1, w4, w6, w7⟩ : (Cond.methodLink own idx M.1 ∈ pv_T ∨ ∃ hst, Cond.methodLinkNest own idx M.1 hst ∈ pv_N) ∧ Cond.instanceMethod M.1 ∈ pv_T ∧ pv_my M.1 n = true ∧ M.1.name = "<init>" ∧ M.2.2.2.1 = none := hLK.1 _ (pv_okc_i hok) own M ho hj
        · skip
          have hG := pv_goodT M w3
          simp only [pv_my, decide_eq_true_eq] at w4
          have hlen : n ≤ st.length := by
            rcases Nat.lt_or_ge st.length n with h5 | h5
            · rw [List.drop_eq_nil_of_le (by omega)] at hdrop; cases hdrop
            · exact h5
          have hn9 : ((st.take n).reverse.map (pv_v B)).length = n := by simp; omega
          have hst9 : st.map (pv_v B) = ((st.take n).reverse.map (pv_v B)).reverse ++ .ref (B + b) :: rest.map (pv_v B) := by
            have h5 : st = st.take n ++ (.ref b :: rest) := by rw [← hdrop, List.take_append_drop]
            rw [← List.map_reverse, List.reverse_reverse]
            conv => lhs; rw [h5]
            rw [List.map_append]
            rfl
          have hW9 : 2 * (F0 m pc ls (st.map (pv_v B))).monitorRoom + ((rest.map (pv_v B)).map fun v => v.category).sum ≤ 8 := lv_room (by rw [pv_cat_map]; exact hcat)
          have hwM : pv_ws M = Cond.code M.1 M.2.1 M.2.2.1 none :: pv_T := by unfold pv_ws; rw [w7]
          rcases w0 with hl9 | ⟨hst, hl9⟩
          · exact pv_after (va_runI (As := (st.take n).reverse.map (pv_v B)) (rest := rest.map (pv_v B)) hF hMet (cwI n hts hG hwM rfl rfl (hts _ w2) (hts _ hl9) (hts _ w1) w6 w4 ⟨hRf, by show 8 + (M.2.2.1 + 11) + 60 * d ≤ R.locals; omega⟩) ⟨pv_blind D cA B _ _ h, hpre⟩ rfl hn9 hl.1 hst9 hW9 hd ⟨hRc, hRs⟩) hS hAA hAk1 kk2
          · exact pv_after (va_runIN (As := (st.take n).reverse.map (pv_v B)) (rest := rest.map (pv_v B)) hF hMet ⟨va_cnB n hts hG hwM rfl rfl (hK.2 _ hl9) (hts _ w2) w4 ⟨hRf, by show 8 + (M.2.2.1 + 11) + 60 * d ≤ R.locals; omega⟩, w6, hts _ w1⟩ ⟨pv_blind D cA B _ _ h, hpre⟩ rfl hn9 hl.1 hst9 hW9 hd ⟨hRc, hRs⟩) hS hAA hAk1 kk2
      · cases hx
    · cases hx
  · cases hx
end PVV
end
section
/-! WHOLE METHODS -/
section PVX
variable {p : Program} {l : Launch} {e : Env} {R : Room} {s : State} {m : MethodId} {args : Array Value} {below : List Frame} {meth : Method} {c : Code}
variable {D : va_G} {cA : Nat → ClassId} {B : Nat} {A : Nat → Prop}
set_option maxHeartbeats 8000000 in
theorem pv_goW {call : Nat → List Value → pv_H → Option (Option Value × pv_H)} {pr : List pv_M} {LK : List (List Nat)} (hLK : pv_LKs pr LK) (hm30 : ∀ (j : Nat) (M : pv_M), pr[j]? = some M → M.2.2.1 ≤ 30) {d : Nat} (hcall : ∀ j as h v h', call j as h = some (v, h') → ∀ sz, B + h.length ≤ sz → (h.length < h'.length → sz = B + h.length) → pv_Met l D cA B sz pr d j as h v h') (hlen : ∀ j as h v h', call j as h = some (v, h') → h.length ≤ h'.length ∧ pv_sl h ≤ pv_sl h')
    {M : pv_M} (hM : pv_okM LK M = true) (S : pv_St p s m args meth c R M.2.1 M.1.cls M.1.name M.2.2.1 D cA B A) (hr : meth.sig.returnType = M.2.2.2.1) (hlocks : meth.locks = false) {v : Option Value} {h' : pv_H} {n0 s0 : Nat} (hs0 : n0 < h'.length → s.heap.size = B + n0) (hRf : d + 1 ≤ R.frames) (hRl : 60 * (d + 1) ≤ R.locals) (hRc : R.cells + n0 = h'.length) (hRs : R.slots + s0 = pv_sl h') :
    ∀ (f k : Nat) (lo : pv_L) (st : List Value) (h : pv_H), pv_go call M.2.2.2.2 f k lo st h = some (v, h') → ∀ (H : Heap) (locs : List Loc) (ls : Array Slot) (cells slots pc : Nat), pv_pc M.2.2.2.2 k = pc → pv_I D cA B A s h H locs → lv_has ls M.2.2.1 (pv_l B lo) → cells + n0 = h.length → slots + s0 = pv_sl h → W p l e R s m args below meth c H locs cells slots (MQ below (pv_Qc D cA B A v h') args s R.cells R.slots A) (F0 m pc ls (st.map (pv_v B))) := by
  obtain ⟨o, ho, hrows⟩ := pv_okM_row hM
  intro f
  induction f with
  | zero => intro k lo st h hx; cases hx
  | succ f ih =>
    intro k lo st h hx H locs ls cells slots pc hpc hI hl hcn hsn
    obtain ⟨hF, hmn, hK, hBs, hfr, hlo⟩ := id S
    obtain ⟨hex, hb, hml, hown, hts⟩ := id hF
    simp only [pv_go] at hx
    split at hx
    · cases hx
    · next r hrow =>
      have hpc' : r.1 = pc := by rw [← hpc]; simp [pv_pc, hrow]
      rcases hrows _ _ hrow with hnop | hok
      · exfalso
        rw [hnop] at hx
        simp [pv_ret, pv_inv, pv_x] at hx
      simp only [pv_okR, Bool.and_eq_true, decide_eq_true_eq] at hok
      obtain ⟨hdec, hok⟩ := hok
      rw [hpc'] at hdec hok
      split at hx
      · next v9 hret =>
        cases hx
        rw [if_pos (pv_ret_is hret)] at hok
        simp only [Bool.and_eq_true, beq_iff_eq] at hok
        obtain ⟨hokr, hlen1⟩ := hok
        rw [hlen1] at hdec
        have hc9 : R.cells = cells := by omega
        have hs9 : R.slots = slots := by omega
        rw [hc9, hs9]
        have hq : ∀ (v9 : Option Value), ∀ t : State, t.heap = H → s.WarmedH t.vm → pv_Qc D cA B A v9 h' args s (.returned (v9.map (pv_v B))) t := fun v9 t ht hW => ⟨rfl, pv_K.warm hW hK, by rw [ht]; exact hI.1, hI.2.1.F ht⟩
        obtain ⟨rpc, ri, rlen, rxs, rps⟩ := r
        dsimp only at hret hokr hdec
        unfold pv_ret at hret
        split at hret
        · next z =>
          split at hret
          · cases hret
            have hokr : decide (M.2.2.2.1 = some .int) = true := hokr
            exact W.iret hex hb (hr.trans (of_decide_eq_true hokr)) (hq (some (.int z))) hI.2.1.2.2 hdec hlocks
          · split at hret
            · next hz =>
              cases hret
              have hokr : decide (M.2.2.2.1 = some .boolean) = true := hokr
              exact W.zret (ty := .boolean) hex hb (hr.trans (of_decide_eq_true hokr)) (by rcases hz with rfl | rfl <;> rfl) (hq (some (.int z))) hI.2.1.2.2 hdec hlocks
            · cases hret
          · cases hret
        · next z =>
          cases hret
          have hokr : decide (M.2.2.2.1 = some .long) = true := hokr
          exact W.lret hex hb (hr.trans (of_decide_eq_true hokr)) (hq (some (.long z))) hI.2.1.2.2 hdec hlocks
        · cases hret
          have hokr : decide (M.2.2.2.1 = none) = true := hokr
          exact W.vret hex hb (hr.trans (of_decide_eq_true hokr)) (hq none) hI.2.1.2.2 hdec hlocks
        · cases hret
      · split at hx
        · next j as rest hinv =>
          obtain ⟨i1, i2⟩ := pv_inv_is hinv
          rw [if_neg (by rw [i1]; decide), if_pos i2] at hok
          simp only [Bool.and_eq_true] at hok
          obtain ⟨hokc, hnx⟩ := hok
          obtain ⟨hl3, hn⟩ := pv_nx_inv hnx
          rw [hl3] at hdec
          split at hx
          · next v1 h1 hc =>
            have a1 := hlen _ _ _ _ _ hc
            have a2 := pv_go_len hlen _ _ _ _ _ _ _ hx
            refine pv_call (rows := M.2.2.2.2) (k := k) (len := 3) hLK ho S hI hl hdec hokc hinv (hcall _ _ _ _ _ hc) a1.1 (fun q => by have := hs0 (by omega); omega) hRf hRl (fun M9 h9 => hm30 _ M9 h9) (by omega) (by omega) (fun H1 locs1 hI1 => ?_)
            exact ih _ _ _ _ hx H1 locs1 ls _ _ _ hn hI1 hl (by omega) (by omega)
          · cases hx
        · split at hx
          · next k1 lo1 st1 h1 hc =>
            obtain ⟨i1, i2⟩ := pv_x_is hc
            rw [if_neg (by rw [i1]; decide), if_neg (by rw [i2]; decide)] at hok
            have a1 := pv_x_len hc
            have a2 := pv_go_len hlen _ _ _ _ _ _ _ hx
            dsimp only at a1
            refine pv_step hLK ho S hI hl hdec hok hc (fun q => by have q : h.length < h1.length := q; have := hs0 (by omega); omega) (by dsimp only; omega) (by dsimp only; omega) (fun H1 locs1 ls1 cells1 slots1 pc1 hp1 hI1 hl1 e1 e2 => ?_)
            dsimp only at e1 e2 hp1 hI1 hl1
            exact ih _ _ _ _ hx H1 locs1 ls1 cells1 slots1 pc1 hp1 hI1 hl1 (by omega) (by omega)
          · cases hx
end PVX
set_option maxHeartbeats 8000000 in
theorem pv_runMet {l : Launch} {D : va_G} {cA : Nat → ClassId} {B : Nat} {pr : List pv_M} {LK : List (List Nat)} (hLK : pv_LKs pr LK) (hpr : ∀ (j : Nat) (M : pv_M), pr[j]? = some M → pv_okM LK M = true) (F : Nat) : ∀ (d j : Nat) (as : List Value) (h : pv_H) (v : Option Value) (h' : pv_H), pv_run pr F d j as h = some (v, h') → ∀ sz, B + h.length ≤ sz → (h.length < h'.length → sz = B + h.length) → pv_Met l D cA B sz pr d j as h v h' := by
  have hm30 : ∀ (j : Nat) (M : pv_M), pr[j]? = some M → M.2.2.1 ≤ 30 := by
    intro j M hj
    have h1 := hpr j M hj
    simp only [pv_okM, Bool.and_eq_true, decide_eq_true_eq] at h1
    exact h1.1.2
  intro d
  induction d with
  | zero => intro j as h v h' hx; cases hx
  | succ d ih =>
    intro j as h v h' hx sz hsz0 hsz1
    simp only [pv_run] at hx
    split at hx
    · next M hj =>
      split at hx
      · next hcat =>
        refine ⟨M, hj, ?_⟩
        have hM := hpr j M hj
        have hM2 := hM
        simp only [pv_okM, Bool.and_eq_true, beq_iff_eq, decide_eq_true_eq] at hM2
        have hlen := pv_go_len (pv_run_len d) _ _ _ _ _ _ _ hx
        refine Met.ofW (cc := M.2.1) (maxL := M.2.2.1) (ret := M.2.2.2.1) hM2.1.1.1 rfl ?_
        intro p e s m args below meth c s₁ BB hml hv
        obtain ⟨rfl, hsz, hK, hP⟩ := hv
        have hts := atoms_spec (ws := pv_ws M) BB.pre
        have hown : s.vm.findClass M.1.cls = some m.cls := findClass_of_methodNamed BB.named
        have hin : meth.name = M.1.name := (name_of_methodNamed BB.named BB.method).1
        have S : pv_St p s m (as.map (pv_v B)).toArray meth c (headSpec (pv_ws M) (pv_rm (d + 1) h h')).room M.2.1 M.1.cls M.1.name M.2.2.1 D cA B (pv_A B h.length sz) := by
          refine ⟨⟨BB.exec, BB.bytes, hml, hown, fun w hw => hts w (List.mem_cons_of_mem _ hw)⟩, hin, hK, ⟨fun q hq => Or.inr (by rw [← hsz]; exact hq), fun q hq => by rcases hq with hq | hq <;> omega⟩, ?_, ?_⟩
          · show 1 ≤ d + 1
            omega
          · show 60 ≤ 60 * (d + 1)
            omega
        have hl := lv_entry (as.map (pv_v B)) (n := M.2.2.1) (by rw [pv_lsl]; exact hcat)
        rw [pv_l_args] at hl
        rw [lg_entry_eq]
        exact pv_goW (R := (headSpec (pv_ws M) (pv_rm (d + 1) h h')).room) hLK hm30 (d := d) ih (pv_run_len d) hM S BB.returns BB.notSynchronized (n0 := h.length) (s0 := pv_sl h) (fun q => by rw [hsz]; exact hsz1 q) (Nat.le_refl _) (Nat.le_refl _) (by show h'.length - h.length + h.length = _; omega) (by show pv_sl h' - pv_sl h + pv_sl h = _; omega) F 0 (lv_args 0 as) [] h hx s.heap [] _ 0 0 0 hM2.1.1.2 ⟨hP, va_S.rf, fun k9 h9 => Or.inl ⟨by omega, by omega⟩⟩ hl (by omega) (by omega)
      · cases hx
    · cases hx
end
section
set_option maxRecDepth 100000 in
theorem lks_all : ∀ c ∈ pv_links, pv_sem pv_prog c := by
  intro c h
  have e : pv_links = ([[0, 11, 12, 11, 0], [7, 12, 206, 145, 3], [0, 12, 232, 12, 27], [0, 12, 7, 12, 4], [0, 12, 29, 12, 10], [0, 1, 11, 1, 3], [0, 12, 262, 12, 32], [0, 11, 26, 11, 2], [0, 12, 423, 12, 63], [0, 5, 21, 5, 3], [0, 11, 19, 11, 1], [7, 11, 100, 138, 2], [0, 5, 13, 5, 1], [0, 12, 159, 12, 64], [8, 12, 238, 162, 0, 12], [0, 7, 51, 7, 9], [7, 12, 214, 149, 2], [0, 12, 114, 12, 48], [8, 5, 39, 46, 0, 5], [0, 12, 32, 12, 11], [0, 11, 51, 11, 5], [0, 12, 377, 12, 2], [0, 6, 33, 6, 7], [0, 11, 35, 11, 3], [0, 12, 16, 12, 6], [0, 2, 40, 2, 9], [0, 12, 259, 12, 30], [0, 12, 314, 12, 33], [2, 12, 258, 1048576], [0, 1, 22, 1, 0], [0, 11, 65, 11, 7], [0, 12, 226, 12, 26], [0, 12, 255, 12, 31], [7, 11, 154, 139, 1], [8, 12, 245, 164, 2, 12], [0, 3, 24, 3, 5], [0, 6, 11, 6, 0], [0, 7, 28, 7, 6], [0, 12, 38, 12, 13], [0, 12, 111, 12, 47]] : List (List Nat)) ++ ([[0, 12, 162, 12, 65], [8, 11, 103, 21, 1, 3], [8, 11, 147, 22, 1, 3], [0, 1, 30, 1, 2], [0, 10, 9, 10, 2], [0, 12, 44, 12, 15], [8, 12, 265, 169, 0, 12], [0, 1, 18, 1, 4], [0, 4, 32, 4, 6], [0, 5, 32, 7, 8], [0, 10, 76, 10, 9], [0, 11, 176, 9, 1], [0, 12, 13, 12, 5], [0, 12, 65, 12, 22], [0, 12, 117, 12, 49], [0, 12, 175, 12, 69], [8, 5, 53, 47, 1, 5], [8, 5, 104, 75, 2, 7], [8, 12, 356, 191, 3, 12], [0, 3, 9, 3, 1], [0, 3, 58, 3, 0], [0, 4, 24, 4, 0], [0, 8, 47, 8, 2], [0, 11, 44, 11, 4], [0, 11, 92, 11, 11], [0, 11, 247, 2, 7], [0, 12, 35, 12, 12], [0, 12, 56, 12, 19], [0, 12, 81, 12, 37], [0, 12, 135, 12, 55], [0, 12, 199, 12, 77], [0, 12, 202, 12, 1], [8, 1, 38, 76, 3, 7], [8, 3, 70, 22, 1, 3], [8, 12, 268, 167, 2, 12], [8, 12, 359, 193, 3, 12], [0, 3, 27, 3, 6], [0, 4, 15, 4, 3], [0, 5, 27, 7, 7], [0, 7, 31, 7, 8]] : List (List Nat)) ++ ([[0, 8, 11, 8, 0], [0, 8, 28, 8, 3], [0, 10, 33, 10, 0], [0, 11, 241, 2, 6], [0, 12, 20, 12, 7], [0, 12, 47, 12, 16], [0, 12, 123, 12, 51], [0, 12, 171, 12, 68], [0, 12, 336, 12, 0], [7, 5, 64, 50, 2], [7, 11, 96, 141, 2], [7, 12, 210, 148, 2], [8, 3, 62, 21, 1, 3], [8, 5, 43, 48, 1, 5], [8, 11, 179, 84, 1, 9], [8, 12, 229, 160, 1, 12], [0, 4, 9, 4, 2], [0, 4, 21, 4, 5], [0, 5, 24, 5, 4], [0, 6, 15, 6, 1], [0, 6, 21, 6, 3], [0, 6, 27, 6, 5], [0, 7, 13, 7, 1], [0, 8, 15, 8, 1], [0, 9, 13, 9, 1], [0, 10, 24, 10, 6], [0, 11, 74, 11, 8], [0, 11, 88, 11, 10], [0, 11, 107, 3, 0], [0, 11, 115, 3, 1], [0, 11, 127, 3, 8], [0, 11, 225, 0, 8], [0, 11, 244, 0, 7], [0, 12, 41, 12, 14], [0, 12, 78, 12, 36], [0, 12, 120, 12, 50], [0, 12, 132, 12, 54], [0, 12, 141, 12, 57], [0, 12, 178, 12, 70], [0, 12, 181, 12, 71]] : List (List Nat)) ++ ([[0, 12, 184, 12, 72], [0, 12, 196, 12, 76], [0, 12, 248, 12, 34], [0, 12, 380, 12, 3], [7, 3, 52, 250, 2], [7, 11, 160, 140, 1], [7, 12, 362, 146, 2], [8, 3, 77, 29, 1, 3], [8, 5, 74, 57, 1, 5], [8, 8, 24, 81, 5, 8], [8, 11, 134, 137, 2, 11], [8, 12, 222, 150, 2, 12], [8, 12, 353, 186, 2, 12], [8, 12, 400, 204, 0, 12], [0, 1, 42, 2, 0], [0, 2, 11, 2, 0], [0, 3, 43, 3, 11], [0, 4, 18, 4, 4], [0, 4, 36, 4, 7], [0, 6, 18, 6, 2], [0, 6, 24, 6, 4], [0, 10, 18, 10, 4], [0, 10, 84, 10, 10], [0, 11, 81, 11, 9], [0, 11, 124, 3, 7], [0, 11, 144, 3, 12], [0, 11, 157, 0, 0], [0, 11, 166, 0, 2], [0, 11, 186, 1, 4], [0, 11, 332, 3, 6], [0, 11, 398, 2, 2], [0, 12, 23, 12, 8], [0, 12, 26, 12, 9], [0, 12, 50, 12, 17], [0, 12, 53, 12, 18], [0, 12, 59, 12, 20], [0, 12, 62, 12, 21], [0, 12, 71, 12, 24], [0, 12, 74, 12, 25], [0, 12, 96, 12, 42]] : List (List Nat)) ++ ([[0, 12, 105, 12, 45], [0, 12, 126, 12, 52], [0, 12, 129, 12, 53], [0, 12, 150, 12, 60], [0, 12, 165, 12, 66], [0, 12, 168, 12, 67], [0, 12, 235, 12, 28], [0, 12, 326, 12, 35], [2, 12, 432, 1000000000], [7, 3, 81, 20, 1], [7, 5, 126, 60, 1], [7, 11, 253, 143, 2], [7, 12, 394, 147, 2], [8, 1, 34, 11, 1, 1], [8, 1, 57, 10, 1, 1], [8, 4, 56, 39, 2, 4], [8, 5, 95, 55, 1, 5], [8, 5, 108, 49, 1, 5], [8, 11, 206, 134, 2, 11], [8, 11, 234, 17, 1, 2], [8, 12, 218, 152, 1, 12], [8, 12, 272, 168, 1, 12], [8, 12, 289, 172, 1, 12], [8, 12, 296, 175, 0, 12], [8, 12, 339, 187, 3, 12], [8, 12, 343, 189, 1, 12], [8, 12, 346, 188, 4, 12], [8, 12, 374, 198, 1, 12], [8, 12, 390, 202, 2, 12], [8, 12, 403, 206, 2, 12], [8, 12, 415, 210, 1, 12], [8, 12, 436, 217, 2, 12], [0, 0, 18, 0, 2], [0, 1, 26, 1, 1], [0, 2, 15, 2, 1], [0, 2, 18, 2, 2], [0, 2, 37, 2, 8], [0, 2, 53, 2, 10], [0, 3, 15, 3, 2], [0, 3, 30, 3, 7]] : List (List Nat)) ++ ([[0, 3, 33, 3, 8], [0, 3, 36, 3, 9], [0, 3, 40, 3, 10], [0, 3, 49, 3, 13], [0, 5, 7, 5, 0], [0, 5, 17, 5, 2], [0, 5, 92, 7, 1], [0, 6, 30, 6, 6], [0, 7, 9, 7, 0], [0, 7, 22, 7, 4], [0, 9, 9, 9, 0], [0, 10, 15, 10, 3], [0, 10, 21, 10, 5], [0, 10, 27, 10, 7], [0, 10, 30, 10, 8], [0, 11, 111, 3, 2], [0, 11, 138, 3, 10], [0, 11, 141, 3, 11], [0, 11, 172, 0, 6], [0, 11, 213, 2, 10], [0, 11, 293, 3, 9], [0, 11, 367, 10, 2], [0, 12, 68, 12, 23], [0, 12, 84, 12, 38], [0, 12, 87, 12, 39], [0, 12, 90, 12, 40], [0, 12, 93, 12, 41], [0, 12, 99, 12, 43], [0, 12, 102, 12, 44], [0, 12, 108, 12, 46], [0, 12, 138, 12, 56], [0, 12, 144, 12, 58], [0, 12, 147, 12, 59], [0, 12, 153, 12, 61], [0, 12, 156, 12, 62], [0, 12, 187, 12, 73], [0, 12, 190, 12, 74], [0, 12, 193, 12, 75], [0, 12, 242, 12, 29], [2, 6, 68, 1000000000]] : List (List Nat)) ++ ([[2, 11, 175, 65535], [2, 14, 266, 858993459], [3, 3, 90, 18446744073709551615], [3, 11, 228, 18446744073709551615], [3, 12, 406, 18446744073709551615], [3, 12, 456, 3], [3, 15, 316, 3689348814741910323], [6, 3, 84, 0], [6, 3, 96, 3], [6, 6, 45, 2], [6, 7, 48, 0], [6, 10, 41, 3], [6, 10, 59, 1], [6, 11, 338, 1], [7, 0, 36, 250, 2], [7, 6, 41, 65, 2], [7, 8, 18, 250, 2], [7, 11, 257, 142, 2], [7, 11, 343, 249, 1], [7, 12, 429, 220, 2], [7, 12, 433, 221, 2], [7, 12, 474, 237, 1], [8, 1, 60, 12, 1, 1], [8, 1, 63, 13, 1, 1], [8, 3, 92, 33, 2, 3], [8, 4, 73, 41, 2, 4], [8, 5, 80, 52, 1, 5], [8, 5, 86, 53, 1, 5], [8, 5, 89, 54, 0, 5], [8, 5, 116, 58, 1, 5], [8, 5, 121, 59, 1, 5], [8, 6, 57, 68, 1, 6], [8, 6, 69, 70, 4, 6], [8, 7, 38, 77, 3, 7], [8, 10, 53, 24, 1, 3], [8, 10, 87, 91, 2, 10], [8, 11, 130, 26, 1, 3], [8, 11, 192, 6, 1, 1], [8, 11, 196, 4, 2, 1], [8, 11, 199, 5, 1, 1]] : List (List Nat)) ++ ([[8, 11, 202, 128, 0, 11], [8, 11, 210, 132, 0, 11], [8, 11, 238, 136, 2, 11], [8, 11, 249, 1, 3, 0], [8, 11, 261, 63, 1, 6], [8, 11, 268, 67, 0, 6], [8, 11, 271, 72, 0, 6], [8, 11, 274, 73, 1, 6], [8, 12, 251, 163, 0, 12], [8, 12, 283, 173, 0, 12], [8, 12, 293, 174, 1, 12], [8, 12, 299, 176, 0, 12], [8, 12, 305, 177, 1, 12], [8, 12, 320, 182, 0, 12], [8, 12, 333, 185, 2, 12], [8, 12, 350, 190, 1, 12], [8, 12, 368, 195, 0, 12], [8, 12, 386, 201, 4, 12], [8, 12, 397, 205, 3, 12], [8, 12, 418, 212, 2, 12], [8, 12, 426, 218, 2, 12], [8, 12, 449, 225, 2, 12], [8, 12, 480, 239, 2, 12], [8, 12, 483, 240, 2, 12], [8, 12, 492, 246, 1, 12], [0, 0, 15, 0, 1], [0, 0, 21, 0, 3], [0, 0, 24, 0, 4], [0, 0, 27, 0, 5], [0, 0, 30, 0, 6], [0, 1, 72, 3, 2], [0, 1, 75, 3, 1], [0, 1, 78, 3, 3], [0, 1, 81, 3, 8], [0, 1, 84, 0, 8], [0, 1, 90, 0, 1], [0, 1, 96, 3, 5], [0, 1, 99, 3, 6], [0, 1, 105, 3, 9], [0, 1, 109, 2, 1]] : List (List Nat)) ++ ([[0, 1, 110, 2, 2], [0, 1, 111, 2, 3], [0, 1, 114, 2, 4], [0, 1, 115, 2, 5], [0, 2, 21, 2, 3], [0, 2, 25, 2, 4], [0, 2, 28, 2, 5], [0, 2, 31, 2, 6], [0, 2, 44, 3, 5], [0, 2, 47, 3, 6], [0, 2, 52, 3, 9], [0, 3, 18, 3, 3], [0, 3, 21, 3, 4], [0, 3, 46, 3, 12], [0, 4, 28, 4, 1], [0, 4, 45, 3, 1], [0, 4, 66, 3, 11], [0, 4, 76, 3, 12], [0, 4, 79, 0, 2], [0, 5, 49, 9, 0], [0, 5, 68, 7, 2], [0, 5, 71, 7, 3], [0, 5, 77, 7, 4], [0, 5, 83, 7, 5], [0, 7, 16, 7, 2], [0, 7, 19, 7, 3], [0, 7, 25, 7, 5], [0, 7, 35, 7, 7], [0, 10, 37, 10, 1], [0, 10, 69, 3, 4], [0, 11, 58, 11, 6], [0, 11, 118, 3, 3], [0, 11, 121, 3, 4], [0, 11, 163, 0, 1], [0, 11, 169, 0, 5], [0, 11, 284, 8, 2], [0, 11, 287, 8, 3], [0, 11, 290, 3, 5], [0, 11, 304, 4, 7], [0, 11, 319, 10, 10]] : List (List Nat)) ++ ([[0, 11, 348, 2, 9], [0, 11, 351, 7, 7], [0, 11, 364, 0, 3], [0, 11, 395, 2, 5], [0, 11, 408, 2, 1], [0, 11, 409, 0, 4], [1, 0, 9, 0, 0], [1, 0, 15, 0, 1], [1, 0, 18, 0, 2], [1, 0, 21, 0, 3], [1, 0, 24, 0, 4], [1, 0, 27, 0, 5], [1, 0, 30, 0, 6], [1, 0, 33, 0, 7], [1, 1, 11, 1, 3], [1, 1, 22, 1, 0], [1, 1, 26, 1, 1], [1, 1, 30, 1, 2], [1, 2, 11, 2, 0], [1, 2, 15, 2, 1], [1, 2, 18, 2, 2], [1, 2, 21, 2, 3], [1, 2, 25, 2, 4], [1, 2, 28, 2, 5], [1, 2, 31, 2, 6], [1, 2, 34, 2, 7], [1, 2, 37, 2, 8], [1, 3, 9, 3, 1], [1, 3, 15, 3, 2], [1, 3, 18, 3, 3], [1, 3, 21, 3, 4], [1, 3, 24, 3, 5], [1, 3, 27, 3, 6], [1, 3, 30, 3, 7], [1, 3, 33, 3, 8], [1, 3, 36, 3, 9], [1, 3, 40, 3, 10], [1, 3, 43, 3, 11], [1, 3, 46, 3, 12], [1, 3, 49, 3, 13]] : List (List Nat)) ++ ([[1, 4, 9, 4, 2], [1, 4, 15, 4, 3], [1, 4, 18, 4, 4], [1, 4, 21, 4, 5], [1, 4, 24, 4, 0], [1, 4, 28, 4, 1], [1, 6, 11, 6, 0], [1, 6, 15, 6, 1], [1, 6, 18, 6, 2], [1, 6, 21, 6, 3], [1, 6, 24, 6, 4], [1, 6, 27, 6, 5], [1, 6, 30, 6, 6], [1, 7, 9, 7, 0], [1, 7, 13, 7, 1], [1, 7, 16, 7, 2], [1, 7, 19, 7, 3], [1, 7, 22, 7, 4], [1, 7, 25, 7, 5], [1, 7, 28, 7, 6], [1, 8, 11, 8, 0], [1, 8, 15, 8, 1], [1, 9, 9, 9, 0], [1, 10, 9, 10, 2], [1, 10, 15, 10, 3], [1, 10, 18, 10, 4], [1, 10, 21, 10, 5], [1, 10, 24, 10, 6], [1, 10, 27, 10, 7], [1, 10, 30, 10, 8], [1, 10, 33, 10, 0], [1, 10, 37, 10, 1], [1, 11, 12, 11, 0], [1, 11, 19, 11, 1], [1, 11, 26, 11, 2], [1, 11, 35, 11, 3], [1, 11, 44, 11, 4], [1, 11, 51, 11, 5], [1, 11, 58, 11, 6], [1, 11, 65, 11, 7]] : List (List Nat)) ++ ([[1, 11, 74, 11, 8], [1, 11, 81, 11, 9], [1, 12, 7, 12, 4], [1, 12, 13, 12, 5], [1, 12, 16, 12, 6], [1, 12, 20, 12, 7], [1, 12, 23, 12, 8], [1, 12, 26, 12, 9], [1, 12, 29, 12, 10], [1, 12, 32, 12, 11], [1, 12, 35, 12, 12], [1, 12, 38, 12, 13], [1, 12, 41, 12, 14], [1, 12, 44, 12, 15], [1, 12, 47, 12, 16], [1, 12, 50, 12, 17], [1, 12, 53, 12, 18], [1, 12, 56, 12, 19], [1, 12, 59, 12, 20], [1, 12, 62, 12, 21], [1, 12, 65, 12, 22], [1, 12, 68, 12, 23], [1, 12, 71, 12, 24], [1, 12, 74, 12, 25], [1, 12, 78, 12, 36], [1, 12, 81, 12, 37], [1, 12, 84, 12, 38], [1, 12, 87, 12, 39], [1, 12, 90, 12, 40], [1, 12, 93, 12, 41], [1, 12, 96, 12, 42], [1, 12, 99, 12, 43], [1, 12, 102, 12, 44], [1, 12, 105, 12, 45], [1, 12, 108, 12, 46], [1, 12, 111, 12, 47], [1, 12, 114, 12, 48], [1, 12, 117, 12, 49], [1, 12, 120, 12, 50], [1, 12, 123, 12, 51]] : List (List Nat)) ++ ([[1, 12, 126, 12, 52], [1, 12, 129, 12, 53], [1, 12, 132, 12, 54], [1, 12, 135, 12, 55], [1, 12, 138, 12, 56], [1, 12, 141, 12, 57], [1, 12, 144, 12, 58], [1, 12, 147, 12, 59], [1, 12, 150, 12, 60], [1, 12, 153, 12, 61], [1, 12, 156, 12, 62], [1, 12, 159, 12, 64], [1, 12, 162, 12, 65], [1, 12, 165, 12, 66], [1, 12, 168, 12, 67], [1, 12, 171, 12, 68], [1, 12, 175, 12, 69], [1, 12, 178, 12, 70], [1, 12, 181, 12, 71], [1, 12, 184, 12, 72], [1, 12, 187, 12, 73], [1, 12, 190, 12, 74], [1, 12, 193, 12, 75], [1, 12, 196, 12, 76], [1, 12, 199, 12, 77], [2, 12, 225, 65535], [2, 12, 411, 65536], [2, 14, 265, 1431655765], [2, 14, 267, 252645135], [3, 12, 421, 281474976710656], [3, 15, 314, 6148914691236517205], [3, 15, 318, 1085102592571150095], [4, 1, 9, 7], [4, 11, 9, 3], [4, 11, 16, 0], [4, 11, 23, 2], [4, 11, 30, 1], [4, 11, 39, 10], [4, 11, 48, 9], [4, 11, 55, 5]] : List (List Nat)) ++ ([[4, 11, 62, 6], [4, 11, 69, 4], [4, 11, 78, 8], [4, 11, 85, 7], [5, 0, 3], [5, 1, 3], [5, 2, 3], [5, 3, 3], [5, 4, 3], [5, 5, 1], [5, 6, 5], [5, 7, 1], [5, 8, 3], [5, 9, 1], [5, 10, 3], [5, 11, 3], [5, 12, 1], [6, 4, 60, 3], [6, 5, 98, 1], [6, 6, 73, 1], [6, 7, 42, 1], [6, 8, 32, 3], [6, 8, 38, 0], [6, 8, 44, 1], [6, 11, 370, 0], [7, 1, 47, 20, 1], [7, 1, 66, 250, 2], [7, 3, 66, 138, 2], [7, 4, 52, 142, 2], [7, 4, 88, 138, 2], [7, 6, 37, 142, 2], [7, 6, 51, 250, 2], [7, 6, 76, 138, 2], [7, 7, 54, 78, 3], [7, 10, 47, 250, 2], [7, 10, 106, 138, 2], [7, 11, 310, 248, 1], [7, 11, 382, 20, 1], [7, 12, 279, 170, 1], [7, 12, 286, 171, 1]] : List (List Nat)) ++ ([[7, 12, 311, 181, 1], [7, 12, 329, 184, 3], [7, 12, 446, 226, 2], [7, 12, 458, 228, 2], [7, 12, 468, 236, 1], [8, 1, 53, 21, 1, 3], [8, 1, 93, 22, 1, 3], [8, 1, 102, 23, 1, 3], [8, 2, 48, 23, 1, 3], [8, 3, 73, 25, 3, 3], [8, 3, 102, 32, 2, 3], [8, 3, 105, 31, 0, 3], [8, 4, 39, 21, 1, 3], [8, 4, 48, 30, 1, 3], [8, 4, 69, 40, 2, 4], [8, 4, 84, 25, 3, 3], [8, 5, 35, 51, 0, 5], [8, 5, 111, 56, 1, 5], [8, 5, 129, 61, 0, 5], [8, 6, 60, 69, 3, 6], [8, 6, 64, 71, 1, 6], [8, 8, 50, 82, 1, 8], [8, 10, 65, 21, 1, 3], [8, 10, 72, 88, 3, 10], [8, 10, 80, 90, 1, 10], [8, 10, 91, 22, 1, 3], [8, 10, 94, 4, 2, 1], [8, 10, 99, 92, 0, 10], [8, 10, 102, 87, 2, 10], [8, 11, 150, 25, 3, 3], [8, 11, 182, 45, 3, 5], [8, 11, 189, 28, 2, 3], [8, 11, 216, 129, 0, 11], [8, 11, 219, 130, 0, 11], [8, 11, 222, 131, 0, 11], [8, 11, 230, 34, 1, 3], [8, 11, 237, 18, 2, 2], [8, 11, 248, 2, 2, 0], [8, 11, 265, 64, 1, 6], [8, 11, 277, 35, 1, 3]] : List (List Nat)) ++ ([[8, 11, 280, 80, 4, 8], [8, 11, 297, 38, 1, 4], [8, 11, 301, 42, 0, 4], [8, 11, 307, 43, 1, 4], [8, 11, 315, 89, 2, 10], [8, 11, 322, 93, 1, 10], [8, 11, 325, 66, 1, 6], [8, 11, 329, 36, 2, 3], [8, 11, 335, 85, 1, 9], [8, 11, 354, 27, 0, 3], [8, 11, 357, 127, 1, 11], [8, 11, 360, 87, 2, 10], [8, 11, 373, 31, 0, 3], [8, 11, 376, 133, 1, 11], [8, 11, 379, 29, 1, 3], [8, 11, 385, 32, 2, 3], [8, 11, 388, 15, 3, 2], [8, 11, 392, 7, 1, 1], [8, 11, 399, 8, 1, 1], [8, 11, 402, 135, 2, 11], [8, 11, 405, 16, 0, 2], [8, 11, 412, 9, 2, 1], [8, 12, 276, 166, 0, 12], [8, 12, 302, 179, 0, 12], [8, 12, 308, 178, 1, 12], [8, 12, 317, 180, 0, 12], [8, 12, 323, 165, 1, 12], [8, 12, 365, 194, 2, 12], [8, 12, 371, 197, 1, 12], [8, 12, 383, 200, 1, 12], [8, 12, 408, 196, 0, 12], [8, 12, 412, 207, 0, 12], [8, 12, 440, 222, 0, 12], [8, 12, 443, 224, 2, 12], [8, 12, 453, 227, 0, 12], [8, 12, 462, 232, 0, 12], [8, 12, 465, 231, 0, 12], [8, 12, 471, 234, 0, 12], [8, 12, 477, 238, 1, 12], [8, 12, 486, 242, 2, 12]] : List (List Nat)) ++ ([[8, 12, 489, 244, 1, 12], [9, 1, 17, 74, 0], [9, 11, 11, 19, 0], [9, 11, 18, 0, 0], [9, 11, 25, 14, 0], [9, 11, 32, 3, 3], [9, 11, 41, 86, 2], [9, 11, 50, 83, 0], [9, 11, 57, 44, 0], [9, 11, 64, 62, 0], [9, 11, 71, 37, 2], [9, 11, 80, 79, 0], [9, 11, 87, 74, 0]] : List (List Nat)) := by decide +kernel
  rw [e] at h
  simp only [List.mem_append] at h
  rcases h with ((((((((((((((((h) | h) | h) | h) | h) | h) | h) | h) | h) | h) | h) | h) | h) | h) | h) | h) | h
  · exact lks_0 c h
  · exact lks_1 c h
  · exact lks_2 c h
  · exact lks_3 c h
  · exact lks_4 c h
  · exact lks_5 c h
  · exact lks_6 c h
  · exact lks_7 c h
  · exact lks_8 c h
  · exact lks_9 c h
  · exact lks_10 c h
  · exact lks_11 c h
  · exact lks_12 c h
  · exact lks_13 c h
  · exact lks_14 c h
  · exact lks_15 c h
  · exact lks_16 c h
theorem kms_0 : ∀ M ∈ ([mX0_init, mX0_carries, mX0_factOf, mX1_init, mX1_growth, mX1_oddsOfFall, mX1_ageing, mX1_catchingLevel, mX1_ownerOf, mX1_pointsOf, mX1_seeCell, mX1_seeCellAndCrop, mX1_seeFallen, mX1_seeFallFromItsCell, mX2_init, mX2_open, mX2_close, mX2_isWritten, mX2_factOf, mX3_init, mX3_endOfColumn, mX3_hangs, mX3_hasCrop, mX3_isRipe, mX3_needOf, mX3_setCrop, mX3_clearCrop, mX3_crops, mX3_factOf, mX3_loadOf, mX3_ripeLoadOf, mX3_firstOverloaded, mX3_unhang, mX3_loosen, mX3_wouldGo, mX3_columnsOf, mX3_highestFall, mX4_init, mX4_choose, mX4_tryCell] : List pv_M), pv_mf M ∧ pv_okM pv_links M = true := List.forall_mem_cons.mpr ⟨⟨mf_X0_init, kX0_init⟩, List.forall_mem_cons.mpr ⟨⟨mf_X0_carries, kX0_carries⟩, List.forall_mem_cons.mpr ⟨⟨mf_X0_factOf, kX0_factOf⟩, List.forall_mem_cons.mpr ⟨⟨mf_X1_init, kX1_init⟩, List.forall_mem_cons.mpr ⟨⟨mf_X1_growth, kX1_growth⟩, List.forall_mem_cons.mpr ⟨⟨mf_X1_oddsOfFall, kX1_oddsOfFall⟩, List.forall_mem_cons.mpr ⟨⟨mf_X1_ageing, kX1_ageing⟩, List.forall_mem_cons.mpr ⟨⟨mf_X1_catchingLevel, kX1_catchingLevel⟩, List.forall_mem_cons.mpr ⟨⟨mf_X1_ownerOf, kX1_ownerOf⟩, List.forall_mem_cons.mpr ⟨⟨mf_X1_pointsOf, kX1_pointsOf⟩, List.forall_mem_cons.mpr ⟨⟨mf_X1_seeCell, kX1_seeCell⟩, List.forall_mem_cons.mpr ⟨⟨mf_X1_seeCellAndCrop, kX1_seeCellAndCrop⟩, List.forall_mem_cons.mpr ⟨⟨mf_X1_seeFallen, kX1_seeFallen⟩, List.forall_mem_cons.mpr ⟨⟨mf_X1_seeFallFromItsCell, kX1_seeFallFromItsCell⟩, List.forall_mem_cons.mpr ⟨⟨mf_X2_init, kX2_init⟩, List.forall_mem_cons.mpr ⟨⟨mf_X2_open, kX2_open⟩, List.forall_mem_cons.mpr ⟨⟨mf_X2_close, kX2_close⟩, List.forall_mem_cons.mpr ⟨⟨mf_X2_isWritten, kX2_isWritten⟩, List.forall_mem_cons.mpr ⟨⟨mf_X2_factOf, kX2_factOf⟩, List.forall_mem_cons.mpr ⟨⟨mf_X3_init, kX3_init⟩, List.forall_mem_cons.mpr ⟨⟨mf_X3_endOfColumn, kX3_endOfColumn⟩, List.forall_mem_cons.mpr ⟨⟨mf_X3_hangs, kX3_hangs⟩, List.forall_mem_cons.mpr ⟨⟨mf_X3_hasCrop, kX3_hasCrop⟩, List.forall_mem_cons.mpr ⟨⟨mf_X3_isRipe, kX3_isRipe⟩, List.forall_mem_cons.mpr ⟨⟨mf_X3_needOf, kX3_needOf⟩, List.forall_mem_cons.mpr ⟨⟨mf_X3_setCrop, kX3_setCrop⟩, List.forall_mem_cons.mpr ⟨⟨mf_X3_clearCrop, kX3_clearCrop⟩, List.forall_mem_cons.mpr ⟨⟨mf_X3_crops, kX3_crops⟩, List.forall_mem_cons.mpr ⟨⟨mf_X3_factOf, kX3_factOf⟩, List.forall_mem_cons.mpr ⟨⟨mf_X3_loadOf, kX3_loadOf⟩, List.forall_mem_cons.mpr ⟨⟨mf_X3_ripeLoadOf, kX3_ripeLoadOf⟩, List.forall_mem_cons.mpr ⟨⟨mf_X3_firstOverloaded, kX3_firstOverloaded⟩, List.forall_mem_cons.mpr ⟨⟨mf_X3_unhang, kX3_unhang⟩, List.forall_mem_cons.mpr ⟨⟨mf_X3_loosen, kX3_loosen⟩, List.forall_mem_cons.mpr ⟨⟨mf_X3_wouldGo, kX3_wouldGo⟩, List.forall_mem_cons.mpr ⟨⟨mf_X3_columnsOf, kX3_columnsOf⟩, List.forall_mem_cons.mpr ⟨⟨mf_X3_highestFall, kX3_highestFall⟩, List.forall_mem_cons.mpr ⟨⟨mf_X4_init, kX4_init⟩, List.forall_mem_cons.mpr ⟨⟨mf_X4_choose, kX4_choose⟩, List.forall_mem_cons.mpr ⟨⟨mf_X4_tryCell, kX4_tryCell⟩, fun _ h => absurd h List.not_mem_nil⟩⟩⟩⟩⟩⟩⟩⟩⟩⟩⟩⟩⟩⟩⟩⟩⟩⟩⟩⟩⟩⟩⟩⟩⟩⟩⟩⟩⟩⟩⟩⟩⟩⟩⟩⟩⟩⟩⟩⟩
theorem kms_1 : ∀ M ∈ ([mX4_fits, mX4_burden, mX4_carryOut, mX4_kindAt, mX5_init, mX5_read, mX5_look, mX5_fail, mX5_expect, mX5_enter, mX5_isOneOf, mX5_readClause, mX5_readCondition, mX5_readPart, mX5_readJump, mX5_readPiece, mX5_readComparison, mX5_readSum, mX5_readTerm, mX5_readFactor, mX5_isDigit, mX5_readNumber, mX6_init, mX6_tell, mX6_asWork, mX6_hoursBetween, mX6_asMending, mX6_solve, mX6_spentOn, mX6_leastOnward, mX6_costVia, mX6_findRow, mX6_least, mX6_cellAt, mX7_init, mX7_put, mX7_answer, mX7_reckon, mX7_joined, mX8_init] : List pv_M), pv_mf M ∧ pv_okM pv_links M = true := List.forall_mem_cons.mpr ⟨⟨mf_X4_fits, kX4_fits⟩, List.forall_mem_cons.mpr ⟨⟨mf_X4_burden, kX4_burden⟩, List.forall_mem_cons.mpr ⟨⟨mf_X4_carryOut, kX4_carryOut⟩, List.forall_mem_cons.mpr ⟨⟨mf_X4_kindAt, kX4_kindAt⟩, List.forall_mem_cons.mpr ⟨⟨mf_X5_init, kX5_init⟩, List.forall_mem_cons.mpr ⟨⟨mf_X5_read, kX5_read⟩, List.forall_mem_cons.mpr ⟨⟨mf_X5_look, kX5_look⟩, List.forall_mem_cons.mpr ⟨⟨mf_X5_fail, kX5_fail⟩, List.forall_mem_cons.mpr ⟨⟨mf_X5_expect, kX5_expect⟩, List.forall_mem_cons.mpr ⟨⟨mf_X5_enter, kX5_enter⟩, List.forall_mem_cons.mpr ⟨⟨mf_X5_isOneOf, kX5_isOneOf⟩, List.forall_mem_cons.mpr ⟨⟨mf_X5_readClause, kX5_readClause⟩, List.forall_mem_cons.mpr ⟨⟨mf_X5_readCondition, kX5_readCondition⟩, List.forall_mem_cons.mpr ⟨⟨mf_X5_readPart, kX5_readPart⟩, List.forall_mem_cons.mpr ⟨⟨mf_X5_readJump, kX5_readJump⟩, List.forall_mem_cons.mpr ⟨⟨mf_X5_readPiece, kX5_readPiece⟩, List.forall_mem_cons.mpr ⟨⟨mf_X5_readComparison, kX5_readComparison⟩, List.forall_mem_cons.mpr ⟨⟨mf_X5_readSum, kX5_readSum⟩, List.forall_mem_cons.mpr ⟨⟨mf_X5_readTerm, kX5_readTerm⟩, List.forall_mem_cons.mpr ⟨⟨mf_X5_readFactor, kX5_readFactor⟩, List.forall_mem_cons.mpr ⟨⟨mf_X5_isDigit, kX5_isDigit⟩, List.forall_mem_cons.mpr ⟨⟨mf_X5_readNumber, kX5_readNumber⟩, List.forall_mem_cons.mpr ⟨⟨mf_X6_init, kX6_init⟩, List.forall_mem_cons.mpr ⟨⟨mf_X6_tell, kX6_tell⟩, List.forall_mem_cons.mpr ⟨⟨mf_X6_asWork, kX6_asWork⟩, List.forall_mem_cons.mpr ⟨⟨mf_X6_hoursBetween, kX6_hoursBetween⟩, List.forall_mem_cons.mpr ⟨⟨mf_X6_asMending, kX6_asMending⟩, List.forall_mem_cons.mpr ⟨⟨mf_X6_solve, kX6_solve⟩, List.forall_mem_cons.mpr ⟨⟨mf_X6_spentOn, kX6_spentOn⟩, List.forall_mem_cons.mpr ⟨⟨mf_X6_leastOnward, kX6_leastOnward⟩, List.forall_mem_cons.mpr ⟨⟨mf_X6_costVia, kX6_costVia⟩, List.forall_mem_cons.mpr ⟨⟨mf_X6_findRow, kX6_findRow⟩, List.forall_mem_cons.mpr ⟨⟨mf_X6_least, kX6_least⟩, List.forall_mem_cons.mpr ⟨⟨mf_X6_cellAt, kX6_cellAt⟩, List.forall_mem_cons.mpr ⟨⟨mf_X7_init, kX7_init⟩, List.forall_mem_cons.mpr ⟨⟨mf_X7_put, kX7_put⟩, List.forall_mem_cons.mpr ⟨⟨mf_X7_answer, kX7_answer⟩, List.forall_mem_cons.mpr ⟨⟨mf_X7_reckon, kX7_reckon⟩, List.forall_mem_cons.mpr ⟨⟨mf_X7_joined, kX7_joined⟩, List.forall_mem_cons.mpr ⟨⟨mf_X8_init, kX8_init⟩, fun _ h => absurd h List.not_mem_nil⟩⟩⟩⟩⟩⟩⟩⟩⟩⟩⟩⟩⟩⟩⟩⟩⟩⟩⟩⟩⟩⟩⟩⟩⟩⟩⟩⟩⟩⟩⟩⟩⟩⟩⟩⟩⟩⟩⟩⟩
theorem kms_2 : ∀ M ∈ ([mX8_fly, mX8_arrive, mX8_cancel, mX9_init, mX9_append, mX9_numberAt, mX10_init, mX10_pour, mX10_passOn, mX10_share, mX10_reckonGrowth, mX10_tryValve, mX10_weighTrial, mX10_dropsAt, mX11_init, mX11_hang, mX11_knot, mX11_kind, mX11_plant, mX11_valve, mX11_kitchen, mX11_rope, mX11_seed, mX11_feed, mX11_law, mX11_cell, mX11_byLaw, mX11_water, mX11_fall, mX11_go, mX11_day, mX11_torn, mX11_fallIs, mX11_claimed, mX11_right, mX11_food, mX11_kitchenIs, mX11_mayWork, mX11_work, mX11_pollen] : List pv_M), pv_mf M ∧ pv_okM pv_links M = true := List.forall_mem_cons.mpr ⟨⟨mf_X8_fly, kX8_fly⟩, List.forall_mem_cons.mpr ⟨⟨mf_X8_arrive, kX8_arrive⟩, List.forall_mem_cons.mpr ⟨⟨mf_X8_cancel, kX8_cancel⟩, List.forall_mem_cons.mpr ⟨⟨mf_X9_init, kX9_init⟩, List.forall_mem_cons.mpr ⟨⟨mf_X9_append, kX9_append⟩, List.forall_mem_cons.mpr ⟨⟨mf_X9_numberAt, kX9_numberAt⟩, List.forall_mem_cons.mpr ⟨⟨mf_X10_init, kX10_init⟩, List.forall_mem_cons.mpr ⟨⟨mf_X10_pour, kX10_pour⟩, List.forall_mem_cons.mpr ⟨⟨mf_X10_passOn, kX10_passOn⟩, List.forall_mem_cons.mpr ⟨⟨mf_X10_share, kX10_share⟩, List.forall_mem_cons.mpr ⟨⟨mf_X10_reckonGrowth, kX10_reckonGrowth⟩, List.forall_mem_cons.mpr ⟨⟨mf_X10_tryValve, kX10_tryValve⟩, List.forall_mem_cons.mpr ⟨⟨mf_X10_weighTrial, kX10_weighTrial⟩, List.forall_mem_cons.mpr ⟨⟨mf_X10_dropsAt, kX10_dropsAt⟩, List.forall_mem_cons.mpr ⟨⟨mf_X11_init, kX11_init⟩, List.forall_mem_cons.mpr ⟨⟨mf_X11_hang, kX11_hang⟩, List.forall_mem_cons.mpr ⟨⟨mf_X11_knot, kX11_knot⟩, List.forall_mem_cons.mpr ⟨⟨mf_X11_kind, kX11_kind⟩, List.forall_mem_cons.mpr ⟨⟨mf_X11_plant, kX11_plant⟩, List.forall_mem_cons.mpr ⟨⟨mf_X11_valve, kX11_valve⟩, List.forall_mem_cons.mpr ⟨⟨mf_X11_kitchen, kX11_kitchen⟩, List.forall_mem_cons.mpr ⟨⟨mf_X11_rope, kX11_rope⟩, List.forall_mem_cons.mpr ⟨⟨mf_X11_seed, kX11_seed⟩, List.forall_mem_cons.mpr ⟨⟨mf_X11_feed, kX11_feed⟩, List.forall_mem_cons.mpr ⟨⟨mf_X11_law, kX11_law⟩, List.forall_mem_cons.mpr ⟨⟨mf_X11_cell, kX11_cell⟩, List.forall_mem_cons.mpr ⟨⟨mf_X11_byLaw, kX11_byLaw⟩, List.forall_mem_cons.mpr ⟨⟨mf_X11_water, kX11_water⟩, List.forall_mem_cons.mpr ⟨⟨mf_X11_fall, kX11_fall⟩, List.forall_mem_cons.mpr ⟨⟨mf_X11_go, kX11_go⟩, List.forall_mem_cons.mpr ⟨⟨mf_X11_day, kX11_day⟩, List.forall_mem_cons.mpr ⟨⟨mf_X11_torn, kX11_torn⟩, List.forall_mem_cons.mpr ⟨⟨mf_X11_fallIs, kX11_fallIs⟩, List.forall_mem_cons.mpr ⟨⟨mf_X11_claimed, kX11_claimed⟩, List.forall_mem_cons.mpr ⟨⟨mf_X11_right, kX11_right⟩, List.forall_mem_cons.mpr ⟨⟨mf_X11_food, kX11_food⟩, List.forall_mem_cons.mpr ⟨⟨mf_X11_kitchenIs, kX11_kitchenIs⟩, List.forall_mem_cons.mpr ⟨⟨mf_X11_mayWork, kX11_mayWork⟩, List.forall_mem_cons.mpr ⟨⟨mf_X11_work, kX11_work⟩, List.forall_mem_cons.mpr ⟨⟨mf_X11_pollen, kX11_pollen⟩, fun _ h => absurd h List.not_mem_nil⟩⟩⟩⟩⟩⟩⟩⟩⟩⟩⟩⟩⟩⟩⟩⟩⟩⟩⟩⟩⟩⟩⟩⟩⟩⟩⟩⟩⟩⟩⟩⟩⟩⟩⟩⟩⟩⟩⟩⟩
theorem kms_3 : ∀ M ∈ ([mX11_pollinate, mX11_planted, mX11_drought, mX11_mended, mX11_hail, mX11_check, mX11_count, mX11_countOfRow, mX11_letWaterFlow, mX11_letCropsGrow, mX11_letCropsFall, mX11_letKnotsAge, mX11_letKnotsGo, mX11_tearDown, mX11_dropCrop, mX11_landInKitchen, mX11_claimantOf, mX11_hungCell, mX11_within, mX11_isColumn, mX11_isPerson, mX11_isCell, mX11_isTold, mX11_toldCells, mX12_init, mX12_in, mX12_less, mX12_more, mX12_isCell, mX12_at, mX12_isHung, mX12_hang, mX12_empties, mX12_knot, mX12_kind, mX12_plant, mX12_valve, mX12_kitchen, mX12_rope, mX12_seed] : List pv_M), pv_mf M ∧ pv_okM pv_links M = true := List.forall_mem_cons.mpr ⟨⟨mf_X11_pollinate, kX11_pollinate⟩, List.forall_mem_cons.mpr ⟨⟨mf_X11_planted, kX11_planted⟩, List.forall_mem_cons.mpr ⟨⟨mf_X11_drought, kX11_drought⟩, List.forall_mem_cons.mpr ⟨⟨mf_X11_mended, kX11_mended⟩, List.forall_mem_cons.mpr ⟨⟨mf_X11_hail, kX11_hail⟩, List.forall_mem_cons.mpr ⟨⟨mf_X11_check, kX11_check⟩, List.forall_mem_cons.mpr ⟨⟨mf_X11_count, kX11_count⟩, List.forall_mem_cons.mpr ⟨⟨mf_X11_countOfRow, kX11_countOfRow⟩, List.forall_mem_cons.mpr ⟨⟨mf_X11_letWaterFlow, kX11_letWaterFlow⟩, List.forall_mem_cons.mpr ⟨⟨mf_X11_letCropsGrow, kX11_letCropsGrow⟩, List.forall_mem_cons.mpr ⟨⟨mf_X11_letCropsFall, kX11_letCropsFall⟩, List.forall_mem_cons.mpr ⟨⟨mf_X11_letKnotsAge, kX11_letKnotsAge⟩, List.forall_mem_cons.mpr ⟨⟨mf_X11_letKnotsGo, kX11_letKnotsGo⟩, List.forall_mem_cons.mpr ⟨⟨mf_X11_tearDown, kX11_tearDown⟩, List.forall_mem_cons.mpr ⟨⟨mf_X11_dropCrop, kX11_dropCrop⟩, List.forall_mem_cons.mpr ⟨⟨mf_X11_landInKitchen, kX11_landInKitchen⟩, List.forall_mem_cons.mpr ⟨⟨mf_X11_claimantOf, kX11_claimantOf⟩, List.forall_mem_cons.mpr ⟨⟨mf_X11_hungCell, kX11_hungCell⟩, List.forall_mem_cons.mpr ⟨⟨mf_X11_within, kX11_within⟩, List.forall_mem_cons.mpr ⟨⟨mf_X11_isColumn, kX11_isColumn⟩, List.forall_mem_cons.mpr ⟨⟨mf_X11_isPerson, kX11_isPerson⟩, List.forall_mem_cons.mpr ⟨⟨mf_X11_isCell, kX11_isCell⟩, List.forall_mem_cons.mpr ⟨⟨mf_X11_isTold, kX11_isTold⟩, List.forall_mem_cons.mpr ⟨⟨mf_X11_toldCells, kX11_toldCells⟩, List.forall_mem_cons.mpr ⟨⟨mf_X12_init, kX12_init⟩, List.forall_mem_cons.mpr ⟨⟨mf_X12_in, kX12_in⟩, List.forall_mem_cons.mpr ⟨⟨mf_X12_less, kX12_less⟩, List.forall_mem_cons.mpr ⟨⟨mf_X12_more, kX12_more⟩, List.forall_mem_cons.mpr ⟨⟨mf_X12_isCell, kX12_isCell⟩, List.forall_mem_cons.mpr ⟨⟨mf_X12_at, kX12_at⟩, List.forall_mem_cons.mpr ⟨⟨mf_X12_isHung, kX12_isHung⟩, List.forall_mem_cons.mpr ⟨⟨mf_X12_hang, kX12_hang⟩, List.forall_mem_cons.mpr ⟨⟨mf_X12_empties, kX12_empties⟩, List.forall_mem_cons.mpr ⟨⟨mf_X12_knot, kX12_knot⟩, List.forall_mem_cons.mpr ⟨⟨mf_X12_kind, kX12_kind⟩, List.forall_mem_cons.mpr ⟨⟨mf_X12_plant, kX12_plant⟩, List.forall_mem_cons.mpr ⟨⟨mf_X12_valve, kX12_valve⟩, List.forall_mem_cons.mpr ⟨⟨mf_X12_kitchen, kX12_kitchen⟩, List.forall_mem_cons.mpr ⟨⟨mf_X12_rope, kX12_rope⟩, List.forall_mem_cons.mpr ⟨⟨mf_X12_seed, kX12_seed⟩, fun _ h => absurd h List.not_mem_nil⟩⟩⟩⟩⟩⟩⟩⟩⟩⟩⟩⟩⟩⟩⟩⟩⟩⟩⟩⟩⟩⟩⟩⟩⟩⟩⟩⟩⟩⟩⟩⟩⟩⟩⟩⟩⟩⟩⟩⟩
theorem kms_4 : ∀ M ∈ ([mX12_types, mX12_feed, mX12_here, mX12_isDigit, mX12_wrongAt, mX12_takes, mX12_readsNumber, mX12_notes, mX12_opens, mX12_top, mX12_factOf, mX12_sumSign, mX12_closesSums, mX12_readsFactor, mX12_hasOpenSum, mX12_readsSum, mX12_endsPiece, mX12_lands, mX12_jumps, mX12_readsCompared, mX12_readsCondition, mX12_canBegin, mX12_readsClause, mX12_law, mX12_reckon, mX12_comesTo, mX12_told, mX12_feelsCell, mX12_feelsCrop, mX12_isRipe, mX12_feels, mX12_asked, mX12_byLaw, mX12_sends, mX12_drips, mX12_flows, mX12_water, mX12_ownLoad, mX12_loadOf, mX12_cell] : List pv_M), pv_mf M ∧ pv_okM pv_links M = true := List.forall_mem_cons.mpr ⟨⟨mf_X12_types, kX12_types⟩, List.forall_mem_cons.mpr ⟨⟨mf_X12_feed, kX12_feed⟩, List.forall_mem_cons.mpr ⟨⟨mf_X12_here, kX12_here⟩, List.forall_mem_cons.mpr ⟨⟨mf_X12_isDigit, kX12_isDigit⟩, List.forall_mem_cons.mpr ⟨⟨mf_X12_wrongAt, kX12_wrongAt⟩, List.forall_mem_cons.mpr ⟨⟨mf_X12_takes, kX12_takes⟩, List.forall_mem_cons.mpr ⟨⟨mf_X12_readsNumber, kX12_readsNumber⟩, List.forall_mem_cons.mpr ⟨⟨mf_X12_notes, kX12_notes⟩, List.forall_mem_cons.mpr ⟨⟨mf_X12_opens, kX12_opens⟩, List.forall_mem_cons.mpr ⟨⟨mf_X12_top, kX12_top⟩, List.forall_mem_cons.mpr ⟨⟨mf_X12_factOf, kX12_factOf⟩, List.forall_mem_cons.mpr ⟨⟨mf_X12_sumSign, kX12_sumSign⟩, List.forall_mem_cons.mpr ⟨⟨mf_X12_closesSums, kX12_closesSums⟩, List.forall_mem_cons.mpr ⟨⟨mf_X12_readsFactor, kX12_readsFactor⟩, List.forall_mem_cons.mpr ⟨⟨mf_X12_hasOpenSum, kX12_hasOpenSum⟩, List.forall_mem_cons.mpr ⟨⟨mf_X12_readsSum, kX12_readsSum⟩, List.forall_mem_cons.mpr ⟨⟨mf_X12_endsPiece, kX12_endsPiece⟩, List.forall_mem_cons.mpr ⟨⟨mf_X12_lands, kX12_lands⟩, List.forall_mem_cons.mpr ⟨⟨mf_X12_jumps, kX12_jumps⟩, List.forall_mem_cons.mpr ⟨⟨mf_X12_readsCompared, kX12_readsCompared⟩, List.forall_mem_cons.mpr ⟨⟨mf_X12_readsCondition, kX12_readsCondition⟩, List.forall_mem_cons.mpr ⟨⟨mf_X12_canBegin, kX12_canBegin⟩, List.forall_mem_cons.mpr ⟨⟨mf_X12_readsClause, kX12_readsClause⟩, List.forall_mem_cons.mpr ⟨⟨mf_X12_law, kX12_law⟩, List.forall_mem_cons.mpr ⟨⟨mf_X12_reckon, kX12_reckon⟩, List.forall_mem_cons.mpr ⟨⟨mf_X12_comesTo, kX12_comesTo⟩, List.forall_mem_cons.mpr ⟨⟨mf_X12_told, kX12_told⟩, List.forall_mem_cons.mpr ⟨⟨mf_X12_feelsCell, kX12_feelsCell⟩, List.forall_mem_cons.mpr ⟨⟨mf_X12_feelsCrop, kX12_feelsCrop⟩, List.forall_mem_cons.mpr ⟨⟨mf_X12_isRipe, kX12_isRipe⟩, List.forall_mem_cons.mpr ⟨⟨mf_X12_feels, kX12_feels⟩, List.forall_mem_cons.mpr ⟨⟨mf_X12_asked, kX12_asked⟩, List.forall_mem_cons.mpr ⟨⟨mf_X12_byLaw, kX12_byLaw⟩, List.forall_mem_cons.mpr ⟨⟨mf_X12_sends, kX12_sends⟩, List.forall_mem_cons.mpr ⟨⟨mf_X12_drips, kX12_drips⟩, List.forall_mem_cons.mpr ⟨⟨mf_X12_flows, kX12_flows⟩, List.forall_mem_cons.mpr ⟨⟨mf_X12_water, kX12_water⟩, List.forall_mem_cons.mpr ⟨⟨mf_X12_ownLoad, kX12_ownLoad⟩, List.forall_mem_cons.mpr ⟨⟨mf_X12_loadOf, kX12_loadOf⟩, List.forall_mem_cons.mpr ⟨⟨mf_X12_cell, kX12_cell⟩, fun _ h => absurd h List.not_mem_nil⟩⟩⟩⟩⟩⟩⟩⟩⟩⟩⟩⟩⟩⟩⟩⟩⟩⟩⟩⟩⟩⟩⟩⟩⟩⟩⟩⟩⟩⟩⟩⟩⟩⟩⟩⟩⟩⟩⟩⟩
theorem kms_5 : ∀ M ∈ ([mX12_catcher, mX12_writes, mX12_falls, mX12_fall, mX12_firstGoing, mX12_tears, mX12_goesOff, mX12_go, mX12_torn, mX12_day, mX12_isFall, mX12_fallIs, mX12_claimer, mX12_claimed, mX12_right, mX12_food, mX12_kitchenIs, mX12_lays, mX12_mayBe, mX12_mayWork, mX12_apart, mX12_way, mX12_laysHours, mX12_work, mX12_hasKind, mX12_takesUp, mX12_moved, mX12_flies, mX12_gcd, mX12_pollen, mX12_pollinate, mX12_bearsAll, mX12_areWhole, mX12_planted, mX12_growth, mX12_drought, mX12_bits, mX12_takesOf, mX12_hoursOf, mX12_canBeNext] : List pv_M), pv_mf M ∧ pv_okM pv_links M = true := List.forall_mem_cons.mpr ⟨⟨mf_X12_catcher, kX12_catcher⟩, List.forall_mem_cons.mpr ⟨⟨mf_X12_writes, kX12_writes⟩, List.forall_mem_cons.mpr ⟨⟨mf_X12_falls, kX12_falls⟩, List.forall_mem_cons.mpr ⟨⟨mf_X12_fall, kX12_fall⟩, List.forall_mem_cons.mpr ⟨⟨mf_X12_firstGoing, kX12_firstGoing⟩, List.forall_mem_cons.mpr ⟨⟨mf_X12_tears, kX12_tears⟩, List.forall_mem_cons.mpr ⟨⟨mf_X12_goesOff, kX12_goesOff⟩, List.forall_mem_cons.mpr ⟨⟨mf_X12_go, kX12_go⟩, List.forall_mem_cons.mpr ⟨⟨mf_X12_torn, kX12_torn⟩, List.forall_mem_cons.mpr ⟨⟨mf_X12_day, kX12_day⟩, List.forall_mem_cons.mpr ⟨⟨mf_X12_isFall, kX12_isFall⟩, List.forall_mem_cons.mpr ⟨⟨mf_X12_fallIs, kX12_fallIs⟩, List.forall_mem_cons.mpr ⟨⟨mf_X12_claimer, kX12_claimer⟩, List.forall_mem_cons.mpr ⟨⟨mf_X12_claimed, kX12_claimed⟩, List.forall_mem_cons.mpr ⟨⟨mf_X12_right, kX12_right⟩, List.forall_mem_cons.mpr ⟨⟨mf_X12_food, kX12_food⟩, List.forall_mem_cons.mpr ⟨⟨mf_X12_kitchenIs, kX12_kitchenIs⟩, List.forall_mem_cons.mpr ⟨⟨mf_X12_lays, kX12_lays⟩, List.forall_mem_cons.mpr ⟨⟨mf_X12_mayBe, kX12_mayBe⟩, List.forall_mem_cons.mpr ⟨⟨mf_X12_mayWork, kX12_mayWork⟩, List.forall_mem_cons.mpr ⟨⟨mf_X12_apart, kX12_apart⟩, List.forall_mem_cons.mpr ⟨⟨mf_X12_way, kX12_way⟩, List.forall_mem_cons.mpr ⟨⟨mf_X12_laysHours, kX12_laysHours⟩, List.forall_mem_cons.mpr ⟨⟨mf_X12_work, kX12_work⟩, List.forall_mem_cons.mpr ⟨⟨mf_X12_hasKind, kX12_hasKind⟩, List.forall_mem_cons.mpr ⟨⟨mf_X12_takesUp, kX12_takesUp⟩, List.forall_mem_cons.mpr ⟨⟨mf_X12_moved, kX12_moved⟩, List.forall_mem_cons.mpr ⟨⟨mf_X12_flies, kX12_flies⟩, List.forall_mem_cons.mpr ⟨⟨mf_X12_gcd, kX12_gcd⟩, List.forall_mem_cons.mpr ⟨⟨mf_X12_pollen, kX12_pollen⟩, List.forall_mem_cons.mpr ⟨⟨mf_X12_pollinate, kX12_pollinate⟩, List.forall_mem_cons.mpr ⟨⟨mf_X12_bearsAll, kX12_bearsAll⟩, List.forall_mem_cons.mpr ⟨⟨mf_X12_areWhole, kX12_areWhole⟩, List.forall_mem_cons.mpr ⟨⟨mf_X12_planted, kX12_planted⟩, List.forall_mem_cons.mpr ⟨⟨mf_X12_growth, kX12_growth⟩, List.forall_mem_cons.mpr ⟨⟨mf_X12_drought, kX12_drought⟩, List.forall_mem_cons.mpr ⟨⟨mf_X12_bits, kX12_bits⟩, List.forall_mem_cons.mpr ⟨⟨mf_X12_takesOf, kX12_takesOf⟩, List.forall_mem_cons.mpr ⟨⟨mf_X12_hoursOf, kX12_hoursOf⟩, List.forall_mem_cons.mpr ⟨⟨mf_X12_canBeNext, kX12_canBeNext⟩, fun _ h => absurd h List.not_mem_nil⟩⟩⟩⟩⟩⟩⟩⟩⟩⟩⟩⟩⟩⟩⟩⟩⟩⟩⟩⟩⟩⟩⟩⟩⟩⟩⟩⟩⟩⟩⟩⟩⟩⟩⟩⟩⟩⟩⟩⟩
theorem kms_6 : ∀ M ∈ ([mX12_costBy, mX12_mended, mX12_isHit, mX12_hail, mX12_tapeNumber, mX12_check, mX12_cells, mX12_count, mJ6_bitCount_0f7a4, mJ13_bitCount_95d88, mJ7_fill_53178] : List pv_M), pv_mf M ∧ pv_okM pv_links M = true := List.forall_mem_cons.mpr ⟨⟨mf_X12_costBy, kX12_costBy⟩, List.forall_mem_cons.mpr ⟨⟨mf_X12_mended, kX12_mended⟩, List.forall_mem_cons.mpr ⟨⟨mf_X12_isHit, kX12_isHit⟩, List.forall_mem_cons.mpr ⟨⟨mf_X12_hail, kX12_hail⟩, List.forall_mem_cons.mpr ⟨⟨mf_X12_tapeNumber, kX12_tapeNumber⟩, List.forall_mem_cons.mpr ⟨⟨mf_X12_check, kX12_check⟩, List.forall_mem_cons.mpr ⟨⟨mf_X12_cells, kX12_cells⟩, List.forall_mem_cons.mpr ⟨⟨mf_X12_count, kX12_count⟩, List.forall_mem_cons.mpr ⟨⟨mf_J6_bitCount_0f7a4, kJ6_bitCount_0f7a4⟩, List.forall_mem_cons.mpr ⟨⟨mf_J13_bitCount_95d88, kJ13_bitCount_95d88⟩, List.forall_mem_cons.mpr ⟨⟨mf_J7_fill_53178, kJ7_fill_53178⟩, fun _ h => absurd h List.not_mem_nil⟩⟩⟩⟩⟩⟩⟩⟩⟩⟩⟩
set_option maxRecDepth 100000 in
theorem kms_all : ∀ M ∈ pv_prog, pv_mf M ∧ pv_okM pv_links M = true := by
  intro c hc
  have h : c ∈ ([mX0_init, mX0_carries, mX0_factOf, mX1_init, mX1_growth, mX1_oddsOfFall, mX1_ageing, mX1_catchingLevel, mX1_ownerOf, mX1_pointsOf, mX1_seeCell, mX1_seeCellAndCrop, mX1_seeFallen, mX1_seeFallFromItsCell, mX2_init, mX2_open, mX2_close, mX2_isWritten, mX2_factOf, mX3_init, mX3_endOfColumn, mX3_hangs, mX3_hasCrop, mX3_isRipe, mX3_needOf, mX3_setCrop, mX3_clearCrop, mX3_crops, mX3_factOf, mX3_loadOf, mX3_ripeLoadOf, mX3_firstOverloaded, mX3_unhang, mX3_loosen, mX3_wouldGo, mX3_columnsOf, mX3_highestFall, mX4_init, mX4_choose, mX4_tryCell] : List pv_M) ++ ([mX4_fits, mX4_burden, mX4_carryOut, mX4_kindAt, mX5_init, mX5_read, mX5_look, mX5_fail, mX5_expect, mX5_enter, mX5_isOneOf, mX5_readClause, mX5_readCondition, mX5_readPart, mX5_readJump, mX5_readPiece, mX5_readComparison, mX5_readSum, mX5_readTerm, mX5_readFactor, mX5_isDigit, mX5_readNumber, mX6_init, mX6_tell, mX6_asWork, mX6_hoursBetween, mX6_asMending, mX6_solve, mX6_spentOn, mX6_leastOnward, mX6_costVia, mX6_findRow, mX6_least, mX6_cellAt, mX7_init, mX7_put, mX7_answer, mX7_reckon, mX7_joined, mX8_init] : List pv_M) ++ ([mX8_fly, mX8_arrive, mX8_cancel, mX9_init, mX9_append, mX9_numberAt, mX10_init, mX10_pour, mX10_passOn, mX10_share, mX10_reckonGrowth, mX10_tryValve, mX10_weighTrial, mX10_dropsAt, mX11_init, mX11_hang, mX11_knot, mX11_kind, mX11_plant, mX11_valve, mX11_kitchen, mX11_rope, mX11_seed, mX11_feed, mX11_law, mX11_cell, mX11_byLaw, mX11_water, mX11_fall, mX11_go, mX11_day, mX11_torn, mX11_fallIs, mX11_claimed, mX11_right, mX11_food, mX11_kitchenIs, mX11_mayWork, mX11_work, mX11_pollen] : List pv_M) ++ ([mX11_pollinate, mX11_planted, mX11_drought, mX11_mended, mX11_hail, mX11_check, mX11_count, mX11_countOfRow, mX11_letWaterFlow, mX11_letCropsGrow, mX11_letCropsFall, mX11_letKnotsAge, mX11_letKnotsGo, mX11_tearDown, mX11_dropCrop, mX11_landInKitchen, mX11_claimantOf, mX11_hungCell, mX11_within, mX11_isColumn, mX11_isPerson, mX11_isCell, mX11_isTold, mX11_toldCells, mX12_init, mX12_in, mX12_less, mX12_more, mX12_isCell, mX12_at, mX12_isHung, mX12_hang, mX12_empties, mX12_knot, mX12_kind, mX12_plant, mX12_valve, mX12_kitchen, mX12_rope, mX12_seed] : List pv_M) ++ ([mX12_types, mX12_feed, mX12_here, mX12_isDigit, mX12_wrongAt, mX12_takes, mX12_readsNumber, mX12_notes, mX12_opens, mX12_top, mX12_factOf, mX12_sumSign, mX12_closesSums, mX12_readsFactor, mX12_hasOpenSum, mX12_readsSum, mX12_endsPiece, mX12_lands, mX12_jumps, mX12_readsCompared, mX12_readsCondition, mX12_canBegin, mX12_readsClause, mX12_law, mX12_reckon, mX12_comesTo, mX12_told, mX12_feelsCell, mX12_feelsCrop, mX12_isRipe, mX12_feels, mX12_asked, mX12_byLaw, mX12_sends, mX12_drips, mX12_flows, mX12_water, mX12_ownLoad, mX12_loadOf, mX12_cell] : List pv_M) ++ ([mX12_catcher, mX12_writes, mX12_falls, mX12_fall, mX12_firstGoing, mX12_tears, mX12_goesOff, mX12_go, mX12_torn, mX12_day, mX12_isFall, mX12_fallIs, mX12_claimer, mX12_claimed, mX12_right, mX12_food, mX12_kitchenIs, mX12_lays, mX12_mayBe, mX12_mayWork, mX12_apart, mX12_way, mX12_laysHours, mX12_work, mX12_hasKind, mX12_takesUp, mX12_moved, mX12_flies, mX12_gcd, mX12_pollen, mX12_pollinate, mX12_bearsAll, mX12_areWhole, mX12_planted, mX12_growth, mX12_drought, mX12_bits, mX12_takesOf, mX12_hoursOf, mX12_canBeNext] : List pv_M) ++ ([mX12_costBy, mX12_mended, mX12_isHit, mX12_hail, mX12_tapeNumber, mX12_check, mX12_cells, mX12_count, mJ6_bitCount_0f7a4, mJ13_bitCount_95d88, mJ7_fill_53178] : List pv_M) := hc
  simp only [List.mem_append] at h
  rcases h with ((((((h) | h) | h) | h) | h) | h) | h
  · exact kms_0 c h
  · exact kms_1 c h
  · exact kms_2 c h
  · exact kms_3 c h
  · exact kms_4 c h
  · exact kms_5 c h
  · exact kms_6 c h
theorem pv_all : pv_LKs pv_prog pv_links := ⟨lks_all, fun j M h => (kms_all M (List.mem_of_getElem? h)).1⟩
theorem pv_runs {l : Launch} {D : va_G} {cA : Nat → ClassId} {B sz : Nat} (F d j : Nat) (as : List Value) (h : pv_H) (v : Option Value) (h' : pv_H) (hx : pv_run pv_prog F d j as h = some (v, h')) (hz : B + h.length ≤ sz) (hz1 : h.length < h'.length → sz = B + h.length) : pv_Met l D cA B sz pv_prog d j as h v h' := pv_runMet pv_all (fun j M h => (kms_all M (List.mem_of_getElem? h)).2) F d j as h v h' hx sz hz hz1
end
section
/-! A CALCULUS FOR THE PURE MACHINE -/
theorem pv_go_mono {call call' : Nat → List Value → pv_H → Option (Option Value × pv_H)} (hc : ∀ j as h r, call j as h = some r → call' j as h = some r) {rows : List pv_R} : ∀ (f f' k : Nat) (lo : pv_L) (st : List Value) (h : pv_H) (r : Option Value × pv_H), f ≤ f' → pv_go call rows f k lo st h = some r → pv_go call' rows f' k lo st h = some r := by
  intro f
  induction f with
  | zero => intro f' k lo st h r _ hx; cases hx
  | succ f ih =>
    intro f' k lo st h r hf hx
    obtain ⟨g, rfl⟩ : ∃ g, f' = g + 1 := ⟨f' - 1, by omega⟩
    simp only [pv_go] at hx ⊢
    split at hx
    · cases hx
    · next rr hr =>
      split at hx
      · next v hv => exact hx
      · next hv =>
        split at hx
        · next j as rest hi =>
          split at hx
          · next v1 h1 hcl =>
            rw [hc _ _ _ _ hcl]
            exact ih g _ _ _ _ _ (by omega) hx
          · cases hx
        · next hi =>
          split at hx
          · next k1 l1 s1 h1 hx1 => exact ih g _ _ _ _ _ (by omega) hx
          · cases hx
theorem pv_run_mono {pr : List pv_M} {F F' : Nat} (hF : F ≤ F') : ∀ (d j : Nat) (as : List Value) (h : pv_H) (r : Option Value × pv_H), pv_run pr F d j as h = some r → pv_run pr F' d j as h = some r := by
  intro d
  induction d with
  | zero => intro j as h r hx; cases hx
  | succ d ih =>
    intro j as h r hx
    simp only [pv_run] at hx ⊢
    split at hx
    · next M hj =>
      split at hx
      · next hcat =>
        rw [if_pos hcat]
        exact pv_go_mono ih _ _ _ _ _ _ _ hF hx
      · cases hx
    · cases hx
/-- method j, at depth d, comes to an end that Q holds of -/
def wR (d j : Nat) (as : List Value) (h : pv_H) (Q : Option Value → pv_H → Prop) : Prop := ∃ (F : Nat) (v : Option Value) (h' : pv_H), pv_run pv_prog F d j as h = some (v, h') ∧ Q v h'
/-- a body, from row k on -/
def wG (d : Nat) (rows : List pv_R) (k : Nat) (lo : pv_L) (st : List Value) (h : pv_H) (Q : Option Value → pv_H → Prop) : Prop := ∃ (F f : Nat) (v : Option Value) (h' : pv_H), f ≤ F ∧ pv_go (pv_run pv_prog F d) rows f k lo st h = some (v, h') ∧ Q v h'
theorem wR_in {d j : Nat} {as : List Value} {h : pv_H} {Q : Option Value → pv_H → Prop} {M : pv_M} (hM : pv_prog[j]? = some M) (hc : pv_cat as ≤ M.2.2.1) (k : wG d M.2.2.2.2 0 (lv_args 0 as) [] h Q) : wR (d + 1) j as h Q := by
  obtain ⟨F, f, v, h', hf, hg, hq⟩ := k
  refine ⟨F, v, h', ?_, hq⟩
  simp only [pv_run, hM, if_pos hc]
  exact pv_go_mono (fun _ _ _ _ h => h) _ _ _ _ _ _ _ hf hg
theorem wR_mono {d j : Nat} {as : List Value} {h : pv_H} {Q Q' : Option Value → pv_H → Prop} (hq : ∀ v h, Q v h → Q' v h) (k : wR d j as h Q) : wR d j as h Q' := by
  obtain ⟨F, v, h', h1, h2⟩ := k
  exact ⟨F, v, h', h1, hq _ _ h2⟩
theorem wG_mono {d : Nat} {rows : List pv_R} {k : Nat} {lo : pv_L} {st : List Value} {h : pv_H} {Q Q' : Option Value → pv_H → Prop} (hq : ∀ v h, Q v h → Q' v h) (kk : wG d rows k lo st h Q) : wG d rows k lo st h Q' := by
  obtain ⟨F, f, v, h', h0, h1, h2⟩ := kk
  exact ⟨F, f, v, h', h0, h1, hq _ _ h2⟩
section WG
variable {d : Nat} {rows : List pv_R} {k : Nat} {lo : pv_L} {st : List Value} {h : pv_H} {Q : Option Value → pv_H → Prop}
theorem wG_ret {r : pv_R} {v : Option Value} (hr : rows[k]? = some r) (hv : pv_ret r.2.1 r.2.2.2.1 st = some v) (hq : Q v h) : wG d rows k lo st h Q :=
  ⟨1, 1, v, h, Nat.le_refl _, by simp only [pv_go, hr, hv], hq⟩
theorem wG_step {r : pv_R} {k' : Nat} {lo' : pv_L} {st' : List Value} {h1 : pv_H} (hr : rows[k]? = some r) (hv : pv_ret r.2.1 r.2.2.2.1 st = none) (hi : pv_inv r.2.1 r.2.2.2.1 st h = none) (hx : pv_x r.2.1 r.2.2.2.1 k lo st h = some (k', lo', st', h1)) (kk : wG d rows k' lo' st' h1 Q) : wG d rows k lo st h Q := by
  obtain ⟨F, f, v, h', hf, hg, hq⟩ := kk
  refine ⟨F + 1, f + 1, v, h', by omega, ?_, hq⟩
  simp only [pv_go, hr, hv, hi, hx]
  exact pv_go_mono (fun _ _ _ _ h => pv_run_mono (by omega) _ _ _ _ _ h) _ _ _ _ _ _ _ (Nat.le_refl _) hg
theorem wG_call {r : pv_R} {j : Nat} {as rest : List Value} (hr : rows[k]? = some r) (hv : pv_ret r.2.1 r.2.2.2.1 st = none) (hi : pv_inv r.2.1 r.2.2.2.1 st h = some (j, as, rest)) (kk : wR d j as h (fun v h1 => wG d rows (k + 1) lo (v.toList ++ rest) h1 Q)) : wG d rows k lo st h Q := by
  obtain ⟨F1, v1, h1, hrun, F, f, v, h', hf, hg, hq⟩ := kk
  refine ⟨F1 + F + 1, f + 1, v, h', by omega, ?_, hq⟩
  have hrun' := pv_run_mono (F' := F1 + F + 1) (by omega) _ _ _ _ _ hrun
  simp only [pv_go, hr, hv, hi, hrun']
  exact pv_go_mono (fun _ _ _ _ h => pv_run_mono (by omega) _ _ _ _ _ h) _ _ _ _ _ _ _ (Nat.le_refl _) hg
/-- a branch -/
theorem wG_b2 {pc len t : Nat} {ps : List Nat} {cd : Jvm.ClassFile.Cond} {off : Int} {x y : Int32} {r : List Value} (hr : rows[k]? = some (pc, .if_icmp cd off, len, [t], ps)) (k1 : pv_cond cd x y = true → wG d rows t lo r h Q) (k2 : pv_cond cd x y = false → wG d rows (k + 1) lo r h Q) : wG d rows k lo (.int y :: .int x :: r) h Q := by
  cases hc : pv_cond cd x y with
  | true => exact wG_step (k' := t) (lo' := lo) (st' := r) (h1 := h) hr rfl rfl (by simp [pv_x, pv_b2, hc]) (k1 hc)
  | false => exact wG_step (k' := k + 1) (lo' := lo) (st' := r) (h1 := h) hr rfl rfl (by simp [pv_x, pv_b2, hc]) (k2 hc)
theorem wG_b1 {pc len t : Nat} {ps : List Nat} {cd : Jvm.ClassFile.Cond} {off : Int} {x : Int32} {r : List Value} (hr : rows[k]? = some (pc, .ifCond cd off, len, [t], ps)) (k1 : pv_cond cd x 0 = true → wG d rows t lo r h Q) (k2 : pv_cond cd x 0 = false → wG d rows (k + 1) lo r h Q) : wG d rows k lo (.int x :: r) h Q := by
  cases hc : pv_cond cd x 0 with
  | true => exact wG_step (k' := t) (lo' := lo) (st' := r) (h1 := h) hr rfl rfl (by simp [pv_x, pv_b1, hc]) (k1 hc)
  | false => exact wG_step (k' := k + 1) (lo' := lo) (st' := r) (h1 := h) hr rfl rfl (by simp [pv_x, pv_b1, hc]) (k2 hc)
end WG
end
section
section WG2
variable {d : Nat} {rows : List pv_R} {k : Nat} {lo : pv_L} {st : List Value} {h : pv_H} {Q : Option Value → pv_H → Prop}
theorem wG_put {pc idx len ci j a : Nat} {ps : List Nat} {v : Value} {r fs : List Value} (hr : rows[k]? = some (pc, .putfield idx, len, [ci, j], ps)) (ha : h[a]? = some (.inr (ci, fs))) (hj : j < fs.length) (hn : narrow (pv_tyX ci j) v = v) (hf : fits (pv_tyX ci j) v = true) (kk : wG d rows (k + 1) lo r (h.set a (.inr (ci, fs.set j v))) Q) : wG d rows k lo (v :: .ref a :: r) h Q :=
  wG_step hr rfl rfl (by simp [pv_x, ha, hj, hn, hf]) kk
theorem wG_ild {pc len a n : Nat} {xs ps : List Nat} {i : Int32} {f : Nat → Int32} {r : List Value} (hr : rows[k]? = some (pc, .iaload, len, xs, ps)) (ha : h[a]? = some (.inl (0, n, .inl f))) (hi : vp_in i n) (kk : wG d rows (k + 1) lo (.int (f i.toNatClampNeg) :: r) h Q) : wG d rows k lo (.int i :: .ref a :: r) h Q := by
  have hi' : ¬ (i < 0 ∨ n ≤ i.toNatClampNeg) := hi
  exact wG_step hr rfl rfl (by simp only [pv_x, pv_ald, ha, if_true, if_neg hi']) kk
theorem wG_bld {pc len a n t : Nat} {ps : List Nat} {i : Int32} {f : Nat → Int32} {r : List Value} (hr : rows[k]? = some (pc, .baload, len, [t], ps)) (ht : t = 1 ∨ t = 2) (ha : h[a]? = some (.inl (t, n, .inl f))) (hi : vp_in i n) (kk : wG d rows (k + 1) lo (.int (f i.toNatClampNeg) :: r) h Q) : wG d rows k lo (.int i :: .ref a :: r) h Q := by
  have hi' : ¬ (i < 0 ∨ n ≤ i.toNatClampNeg) := hi
  exact wG_step hr rfl rfl (by simp only [pv_x, if_pos ht, pv_ald, ha, if_true, if_neg hi']) kk
theorem wG_ist {pc len a n : Nat} {xs ps : List Nat} {i x : Int32} {f : Nat → Int32} {r : List Value} (hr : rows[k]? = some (pc, .iastore, len, xs, ps)) (ha : h[a]? = some (.inl (0, n, .inl f))) (hi : vp_in i n) (kk : wG d rows (k + 1) lo r (h.set a (.inl (0, n, .inl (upd f i.toNatClampNeg x)))) Q) : wG d rows k lo (.int x :: .int i :: .ref a :: r) h Q := by
  have hi' : ¬ (i < 0 ∨ n ≤ i.toNatClampNeg) := hi
  exact wG_step hr rfl rfl (by simp only [pv_x, pv_ast, ha, if_true, if_neg hi']) kk
theorem wG_zst {pc len a n : Nat} {ps : List Nat} {i x : Int32} {f : Nat → Int32} {r : List Value} (hr : rows[k]? = some (pc, .bastore, len, [1], ps)) (ha : h[a]? = some (.inl (1, n, .inl f))) (hi : vp_in i n) (kk : wG d rows (k + 1) lo r (h.set a (.inl (1, n, .inl (upd f i.toNatClampNeg (vp_nar .boolean x))))) Q) : wG d rows k lo (.int x :: .int i :: .ref a :: r) h Q := by
  have hi' : ¬ (i < 0 ∨ n ≤ i.toNatClampNeg) := hi
  exact wG_step hr rfl rfl (by simp only [pv_x, pv_ast, ha, if_true, if_neg hi']) kk
end WG2
theorem pc_lt (x y : Int32) : (pv_cond .lt x y = true) = (x.toInt < y.toInt) := by simp [pv_cond, Int32.lt_iff_toInt_lt]
theorem pc_nlt (x y : Int32) : (pv_cond .lt x y = false) = (y.toInt ≤ x.toInt) := by simp [pv_cond, Int32.lt_iff_toInt_lt]
theorem pc_ge (x y : Int32) : (pv_cond .ge x y = true) = (y.toInt ≤ x.toInt) := by simp [pv_cond, Int32.le_iff_toInt_le]
theorem pc_nge (x y : Int32) : (pv_cond .ge x y = false) = (x.toInt < y.toInt) := by simp [pv_cond, Int32.le_iff_toInt_le]
theorem pc_gt (x y : Int32) : (pv_cond .gt x y = true) = (y.toInt < x.toInt) := by simp [pv_cond, Int32.lt_iff_toInt_lt]
theorem pc_ngt (x y : Int32) : (pv_cond .gt x y = false) = (x.toInt ≤ y.toInt) := by simp [pv_cond, Int32.lt_iff_toInt_lt]
theorem pc_le (x y : Int32) : (pv_cond .le x y = true) = (x.toInt ≤ y.toInt) := by simp [pv_cond, Int32.le_iff_toInt_le]
theorem pc_nle (x y : Int32) : (pv_cond .le x y = false) = (y.toInt < x.toInt) := by simp [pv_cond, Int32.le_iff_toInt_le]
theorem pc_eq (x y : Int32) : (pv_cond .eq x y = true) = (x.toInt = y.toInt) := by simp [pv_cond, Int32.toInt_inj]
theorem pc_neq (x y : Int32) : (pv_cond .eq x y = false) = (x.toInt ≠ y.toInt) := by simp [pv_cond, Int32.toInt_inj]
theorem pc_ne (x y : Int32) : (pv_cond .ne x y = true) = (x.toInt ≠ y.toInt) := by simp [pv_cond, Int32.toInt_inj]
theorem pc_nne (x y : Int32) : (pv_cond .ne x y = false) = (x.toInt = y.toInt) := by simp [pv_cond, Int32.toInt_inj]
end
section
/-! THE TWO FRESH HEAPS -/
def fr_sh : va_E → Nat × Nat × Nat × List Value
  | .inl (t, n, .inl _) => (0, t, n, [])
  | .inl (t, n, .inr (.inl _)) => (1, t, n, [])
  | .inl (t, n, _) => (3, t, n, [])
  | .inr (ci, fs) => (2, ci, 0, fs)
def fr_f (h : pv_H) (a : Nat) : Nat → Int32 := match h[a]? with
  | some (.inl (_, _, .inl f)) => f
  | _ => fun _ => 0
def fr_g (h : pv_H) (a : Nat) : Nat → Int64 := match h[a]? with
  | some (.inl (_, _, .inr (.inl f))) => f
  | _ => fun _ => 0
def fr_ce (k : Nat) (s : Nat × Nat × Nat × List Value) (f : Nat → Nat → Int32) (g : Nat → Nat → Int64) : va_E := match s with
  | (0, t, n, _) => .inl (t, n, .inl (f k))
  | (1, t, n, _) => .inl (t, n, .inr (.inl (g k)))
  | (2, ci, _, fs) => .inr (ci, fs)
  | (_, t, n, _) => .inl (t, n, .inl (f k))
def fr_re (k : Nat) : List (Nat × Nat × Nat × List Value) → (Nat → Nat → Int32) → (Nat → Nat → Int64) → pv_H
  | [], _, _ => []
  | s :: L, f, g => fr_ce k s f g :: fr_re (k + 1) L f g
theorem fr_ce_eq {e : va_E} {k : Nat} {f : Nat → Nat → Int32} {g : Nat → Nat → Int64} (h3 : (fr_sh e).1 ≠ 3) (hf : ∀ t n f0, e = .inl (t, n, .inl f0) → f k = f0) (hg : ∀ t n f0, e = .inl (t, n, .inr (.inl f0)) → g k = f0) : fr_ce k (fr_sh e) f g = e := by
  cases e with
  | inr o => rfl
  | inl a =>
    obtain ⟨t, n, x⟩ := a
    cases x with
    | inl f0 => show Sum.inl (t, n, Sum.inl (f k)) = _; rw [hf t n f0 rfl]
    | inr y => cases y with
      | inl f0 => show Sum.inl (t, n, Sum.inr (Sum.inl (g k))) = _; rw [hg t n f0 rfl]
      | inr z => exact absurd rfl h3
theorem fr_re_gen {f : Nat → Nat → Int32} {g : Nat → Nat → Int64} : ∀ (h : pv_H) (k : Nat), (∀ e ∈ h, (fr_sh e).1 ≠ 3) → (∀ (i : Nat) (t n : Nat) (f0 : Nat → Int32), h[i]? = some (.inl (t, n, .inl f0)) → f (k + i) = f0) → (∀ (i : Nat) (t n : Nat) (f0 : Nat → Int64), h[i]? = some (.inl (t, n, .inr (.inl f0))) → g (k + i) = f0) → h = fr_re k (h.map fr_sh) f g
  | [], _, _, _, _ => rfl
  | e :: h, k, h3, hf, hg => by
    show e :: h = fr_ce k (fr_sh e) f g :: fr_re (k + 1) (h.map fr_sh) f g
    rw [fr_ce_eq (k := k) (h3 e List.mem_cons_self) (fun t n f0 q => hf 0 t n f0 (by rw [q]; rfl)) (fun t n f0 q => hg 0 t n f0 (by rw [q]; rfl)), ← fr_re_gen h (k + 1) (fun e he => h3 e (List.mem_cons_of_mem _ he)) (fun i t n f0 q => by
      have := hf (i + 1) t n f0 (by simpa using q)
      rw [← this]; congr 1; omega) (fun i t n f0 q => by
      have := hg (i + 1) t n f0 (by simpa using q)
      rw [← this]; congr 1; omega)]
theorem fr_re_eq {h : pv_H} {L : List (Nat × Nat × Nat × List Value)} (hs : h.map fr_sh = L) (h3 : (L.all fun s => decide (s.1 ≠ 3)) = true := by decide +kernel) : h = fr_re 0 L (fr_f h) (fr_g h) := by
  subst hs
  refine fr_re_gen h 0 (fun e he => ?_) (fun i t n f0 q => ?_) (fun i t n f0 q => ?_)
  · have h1 := List.all_eq_true.mp h3 (fr_sh e) (List.mem_map_of_mem he)
    exact of_decide_eq_true h1
  · simp [fr_f, q]
  · simp [fr_g, q]
def shC : List (Nat × Nat × Nat × List Value) := [(2, 11, 0, [.ref 1, .ref 15, .ref 24, .ref 34, .ref 44, .ref 52, .ref 54, .ref 55, .ref 63, .ref 68, .ref 71, .int 1]),
  (2, 3, 0, [.long 0, .ref 2, .ref 3, .ref 4, .ref 5, .ref 6, .ref 7, .ref 8, .ref 9, .ref 10, .ref 11, .ref 12, .ref 13, .ref 14]),
  (0, 0, 48, []),
  (0, 0, 48, []),
  (0, 0, 48, []),
  (0, 0, 48, []),
  (0, 0, 48, []),
  (0, 0, 48, []),
  (0, 0, 48, []),
  (0, 0, 48, []),
  (0, 1, 48, []),
  (0, 0, 6, []),
  (0, 0, 6, []),
  (0, 0, 6, []),
  (0, 0, 48, []),
  (2, 0, 0, [.ref 16, .ref 17, .ref 18, .ref 19, .ref 20, .ref 21, .ref 22, .ref 23, .int 0]),
  (0, 0, 8, []),
  (0, 0, 8, []),
  (0, 0, 8, []),
  (0, 0, 8, []),
  (0, 0, 8, []),
  (0, 0, 8, []),
  (0, 0, 8, []),
  (0, 0, 8, []),
  (2, 2, 0, [.ref 25, .ref 26, .ref 27, .ref 28, .ref 29, .ref 30, .ref 31, .ref 32, .ref 33, .int 0, .int 0]),
  (0, 0, 61, []),
  (0, 0, 61, []),
  (0, 0, 61, []),
  (0, 1, 61, []),
  (0, 1, 61, []),
  (0, 0, 61, []),
  (0, 0, 61, []),
  (0, 0, 61, []),
  (0, 0, 61, []),
  (2, 1, 0, [.ref 1, .ref 15, .ref 24, .ref 35, .ref 36]),
  (0, 0, 14, []),
  (2, 7, 0, [.ref 37, .ref 38, .ref 39, .ref 40, .ref 41, .ref 42, .ref 43, .int 0, .int 0, .int 0]),
  (0, 0, 200, []),
  (0, 0, 200, []),
  (0, 0, 14, []),
  (0, 0, 14, []),
  (0, 0, 14, []),
  (0, 0, 14, []),
  (0, 0, 40, []),
  (2, 10, 0, [.ref 1, .ref 34, .ref 45, .ref 46, .ref 47, .ref 48, .ref 49, .ref 50, .ref 51, .int 0, .int 0]),
  (0, 0, 8, []),
  (0, 0, 8, []),
  (0, 0, 4, []),
  (0, 0, 4, []),
  (0, 0, 8, []),
  (0, 0, 48, []),
  (0, 0, 1008, []),
  (2, 9, 0, [.ref 53, .int 0]),
  (0, 0, 220, []),
  (2, 5, 0, [.null, .null, .int 0, .int 0, .int 0]),
  (2, 6, 0, [.ref 56, .ref 57, .ref 58, .ref 59, .ref 60, .ref 61, .ref 62, .int 0]),
  (0, 0, 8, []),
  (0, 0, 72, []),
  (0, 0, 8, []),
  (0, 0, 8, []),
  (0, 0, 8, []),
  (0, 0, 2304, []),
  (0, 0, 8, []),
  (2, 4, 0, [.ref 1, .ref 15, .ref 64, .ref 65, .ref 66, .ref 67, .int 0, .int 0]),
  (0, 0, 48, []),
  (0, 0, 5, []),
  (0, 0, 5, []),
  (0, 0, 5, []),
  (2, 8, 0, [.ref 69, .ref 70, .int 0, .int 0]),
  (0, 0, 24, []),
  (0, 0, 24, []),
  (2, 7, 0, [.ref 72, .ref 73, .ref 74, .ref 75, .ref 76, .ref 77, .ref 78, .int 0, .int 0, .int 0]),
  (0, 0, 200, []),
  (0, 0, 200, []),
  (0, 0, 14, []),
  (0, 0, 14, []),
  (0, 0, 14, []),
  (0, 0, 14, []),
  (0, 0, 40, [])]
/-- the heap behind CliffGarden(), its arrays' contents f (ints), g (longs) -/
def gC (f : Nat → Nat → Int32) (g : Nat → Nat → Int64) : pv_H := [.inr (11, [.ref 1, .ref 15, .ref 24, .ref 34, .ref 44, .ref 52, .ref 54, .ref 55, .ref 63, .ref 68, .ref 71, .int 1]),
  .inr (3, [.long 0, .ref 2, .ref 3, .ref 4, .ref 5, .ref 6, .ref 7, .ref 8, .ref 9, .ref 10, .ref 11, .ref 12, .ref 13, .ref 14]),
  .inl (0, 48, .inl (f 2)),
  .inl (0, 48, .inl (f 3)),
  .inl (0, 48, .inl (f 4)),
  .inl (0, 48, .inl (f 5)),
  .inl (0, 48, .inl (f 6)),
  .inl (0, 48, .inl (f 7)),
  .inl (0, 48, .inl (f 8)),
  .inl (0, 48, .inl (f 9)),
  .inl (1, 48, .inl (f 10)),
  .inl (0, 6, .inl (f 11)),
  .inl (0, 6, .inl (f 12)),
  .inl (0, 6, .inl (f 13)),
  .inl (0, 48, .inl (f 14)),
  .inr (0, [.ref 16, .ref 17, .ref 18, .ref 19, .ref 20, .ref 21, .ref 22, .ref 23, .int 0]),
  .inl (0, 8, .inl (f 16)),
  .inl (0, 8, .inl (f 17)),
  .inl (0, 8, .inl (f 18)),
  .inl (0, 8, .inl (f 19)),
  .inl (0, 8, .inl (f 20)),
  .inl (0, 8, .inl (f 21)),
  .inl (0, 8, .inl (f 22)),
  .inl (0, 8, .inl (f 23)),
  .inr (2, [.ref 25, .ref 26, .ref 27, .ref 28, .ref 29, .ref 30, .ref 31, .ref 32, .ref 33, .int 0, .int 0]),
  .inl (0, 61, .inl (f 25)),
  .inl (0, 61, .inl (f 26)),
  .inl (0, 61, .inl (f 27)),
  .inl (1, 61, .inl (f 28)),
  .inl (1, 61, .inl (f 29)),
  .inl (0, 61, .inl (f 30)),
  .inl (0, 61, .inl (f 31)),
  .inl (0, 61, .inl (f 32)),
  .inl (0, 61, .inl (f 33)),
  .inr (1, [.ref 1, .ref 15, .ref 24, .ref 35, .ref 36]),
  .inl (0, 14, .inl (f 35)),
  .inr (7, [.ref 37, .ref 38, .ref 39, .ref 40, .ref 41, .ref 42, .ref 43, .int 0, .int 0, .int 0]),
  .inl (0, 200, .inl (f 37)),
  .inl (0, 200, .inl (f 38)),
  .inl (0, 14, .inl (f 39)),
  .inl (0, 14, .inl (f 40)),
  .inl (0, 14, .inl (f 41)),
  .inl (0, 14, .inl (f 42)),
  .inl (0, 40, .inl (f 43)),
  .inr (10, [.ref 1, .ref 34, .ref 45, .ref 46, .ref 47, .ref 48, .ref 49, .ref 50, .ref 51, .int 0, .int 0]),
  .inl (0, 8, .inl (f 45)),
  .inl (0, 8, .inl (f 46)),
  .inl (0, 4, .inl (f 47)),
  .inl (0, 4, .inl (f 48)),
  .inl (0, 8, .inl (f 49)),
  .inl (0, 48, .inl (f 50)),
  .inl (0, 1008, .inl (f 51)),
  .inr (9, [.ref 53, .int 0]),
  .inl (0, 220, .inl (f 53)),
  .inr (5, [.null, .null, .int 0, .int 0, .int 0]),
  .inr (6, [.ref 56, .ref 57, .ref 58, .ref 59, .ref 60, .ref 61, .ref 62, .int 0]),
  .inl (0, 8, .inl (f 56)),
  .inl (0, 72, .inl (f 57)),
  .inl (0, 8, .inl (f 58)),
  .inl (0, 8, .inl (f 59)),
  .inl (0, 8, .inl (f 60)),
  .inl (0, 2304, .inl (f 61)),
  .inl (0, 8, .inl (f 62)),
  .inr (4, [.ref 1, .ref 15, .ref 64, .ref 65, .ref 66, .ref 67, .int 0, .int 0]),
  .inl (0, 48, .inl (f 64)),
  .inl (0, 5, .inl (f 65)),
  .inl (0, 5, .inl (f 66)),
  .inl (0, 5, .inl (f 67)),
  .inr (8, [.ref 69, .ref 70, .int 0, .int 0]),
  .inl (0, 24, .inl (f 69)),
  .inl (0, 24, .inl (f 70)),
  .inr (7, [.ref 72, .ref 73, .ref 74, .ref 75, .ref 76, .ref 77, .ref 78, .int 0, .int 0, .int 0]),
  .inl (0, 200, .inl (f 72)),
  .inl (0, 200, .inl (f 73)),
  .inl (0, 14, .inl (f 74)),
  .inl (0, 14, .inl (f 75)),
  .inl (0, 14, .inl (f 76)),
  .inl (0, 14, .inl (f 77)),
  .inl (0, 40, .inl (f 78))]
def vlC : List (Nat × Nat × Int32) := [(2, 48, 0), (3, 48, 0), (4, 48, 0), (5, 48, 0), (6, 48, (-1)), (7, 48, 0), (8, 48, 0), (9, 48, 0), (10, 48, 0), (11, 6, 1), (12, 6, 50), (13, 6, 1), (14, 48, 0), (16, 8, 0), (17, 8, 0), (18, 8, 9999), (19, 8, 0), (20, 8, 0), (21, 8, 0), (22, 8, 1), (23, 8, 0), (25, 61, 0), (26, 61, 0), (27, 61, 0), (28, 61, 0), (29, 61, 0), (30, 61, 0), (31, 61, 0), (32, 61, 0), (33, 61, 0), (35, 14, 0), (37, 200, 0), (38, 200, 0), (39, 14, 0), (40, 14, 0), (41, 14, 0), (42, 14, 0), (43, 40, 0), (45, 8, 0), (46, 8, 0), (47, 4, 0), (48, 4, 0), (49, 8, 0), (50, 48, 0), (51, 1008, 0), (53, 220, 0), (56, 8, 0), (57, 72, 0), (58, 8, 0), (59, 8, 0), (60, 8, 0), (61, 2304, 0), (62, 8, 0), (64, 48, 0), (65, 5, 0), (66, 5, 0), (67, 5, 0), (69, 24, 0), (70, 24, 0), (72, 200, 0), (73, 200, 0), (74, 14, 0), (75, 14, 0), (76, 14, 0), (77, 14, 0), (78, 40, 0)]
def nC : pv_H := match pv_run pv_prog 3000 12 94 [.ref 0] [.inr (11, pv_fresh 11)] with
  | some (_, h) => h
  | none => []
theorem nC_run : (match pv_run pv_prog 3000 12 94 [.ref 0] [.inr (11, pv_fresh 11)] with
  | some (none, _) => true
  | _ => false) = true := by decide +kernel
theorem nC_shape : nC.map fr_sh = shC := by decide +kernel
theorem nC_vals : (vlC.all fun t => (List.range t.2.1).all fun j => decide (fr_f nC t.1 j = t.2.2)) = true := by decide +kernel
theorem gC_eq (f : Nat → Nat → Int32) (g : Nat → Nat → Int64) : fr_re 0 shC f g = gC f g := rfl
/-- the fresh heap of CliffGarden: which contents its arrays may have -/
def FrC (f : Nat → Nat → Int32) : Prop := ∀ t ∈ vlC, ∀ j, j < t.2.1 → f t.1 j = t.2.2
theorem nC_new : ∃ f g, pv_run pv_prog 3000 12 94 [.ref 0] [.inr (11, pv_fresh 11)] = some (none, gC f g) ∧ FrC f := by
  refine ⟨fr_f nC, fr_g nC, ?_, ?_⟩
  · have h1 := nC_run
    have h2 : nC = gC (fr_f nC) (fr_g nC) := by rw [← gC_eq]; exact fr_re_eq nC_shape
    rw [← h2]
    unfold nC
    split at h1
    · next h hh => rw [hh]
    · cases h1
  · intro t ht j hj
    have h1 := List.all_eq_true.mp nC_vals t ht
    have h2 := List.all_eq_true.mp h1 j (List.mem_range.mpr hj)
    exact of_decide_eq_true h2
def shM : List (Nat × Nat × Nat × List Value) := [(2, 12, 0, [.int 0, .int 1, .int 0, .int 0, .ref 1, .ref 2, .ref 3, .ref 4, .ref 5, .ref 6, .ref 7, .ref 8, .ref 9, .ref 10, .ref 11, .ref 12, .ref 13, .ref 14, .ref 15, .ref 16, .ref 17, .ref 18, .ref 19, .ref 20, .ref 21, .ref 22, .int 0, .int 0, .int 0, .int 0, .int 0, .int 0, .int 0, .int 0, .int 0, .int 0, .ref 23, .ref 24, .ref 25, .ref 26, .ref 27, .ref 28, .ref 29, .ref 30, .ref 31, .ref 32, .ref 33, .ref 34, .ref 35, .ref 36, .ref 37, .ref 38, .ref 39, .ref 40, .ref 41, .ref 42, .ref 43, .ref 44, .ref 45, .ref 46, .ref 47, .ref 48, .ref 49, .int 0, .ref 50, .ref 51, .ref 52, .ref 53, .ref 54, .ref 55, .ref 56, .ref 57, .ref 58, .ref 59, .ref 60, .ref 61, .ref 62, .ref 63]),
  (0, 1, 48, []),
  (0, 1, 48, []),
  (0, 0, 48, []),
  (0, 0, 48, []),
  (0, 0, 48, []),
  (0, 0, 48, []),
  (0, 0, 48, []),
  (0, 0, 48, []),
  (0, 0, 48, []),
  (0, 0, 48, []),
  (0, 0, 6, []),
  (0, 0, 6, []),
  (0, 0, 6, []),
  (0, 0, 8, []),
  (0, 0, 8, []),
  (0, 0, 8, []),
  (0, 0, 8, []),
  (0, 0, 8, []),
  (0, 0, 8, []),
  (0, 0, 8, []),
  (0, 0, 8, []),
  (0, 2, 220, []),
  (0, 0, 220, []),
  (0, 0, 220, []),
  (0, 0, 14, []),
  (0, 0, 14, []),
  (0, 0, 14, []),
  (0, 0, 14, []),
  (0, 0, 220, []),
  (0, 0, 14, []),
  (0, 0, 14, []),
  (0, 0, 14, []),
  (0, 0, 14, []),
  (0, 0, 220, []),
  (0, 0, 14, []),
  (0, 0, 8, []),
  (0, 0, 8, []),
  (0, 0, 60, []),
  (0, 0, 60, []),
  (0, 0, 60, []),
  (0, 0, 60, []),
  (0, 0, 60, []),
  (0, 0, 60, []),
  (0, 0, 60, []),
  (0, 1, 60, []),
  (0, 1, 60, []),
  (0, 1, 48, []),
  (0, 0, 48, []),
  (0, 0, 48, []),
  (0, 0, 8, []),
  (0, 0, 8, []),
  (0, 0, 8, []),
  (0, 0, 2048, []),
  (1, 3, 8, []),
  (1, 3, 8, []),
  (1, 3, 8, []),
  (1, 3, 8, []),
  (0, 0, 48, []),
  (0, 0, 48, []),
  (0, 0, 4, []),
  (0, 0, 4, []),
  (0, 0, 4, []),
  (0, 0, 256, [])]
/-- the heap behind CliffGardenModel(), its arrays' contents f (ints), g (longs) -/
def gM (f : Nat → Nat → Int32) (g : Nat → Nat → Int64) : pv_H := [.inr (12, [.int 0, .int 1, .int 0, .int 0, .ref 1, .ref 2, .ref 3, .ref 4, .ref 5, .ref 6, .ref 7, .ref 8, .ref 9, .ref 10, .ref 11, .ref 12, .ref 13, .ref 14, .ref 15, .ref 16, .ref 17, .ref 18, .ref 19, .ref 20, .ref 21, .ref 22, .int 0, .int 0, .int 0, .int 0, .int 0, .int 0, .int 0, .int 0, .int 0, .int 0, .ref 23, .ref 24, .ref 25, .ref 26, .ref 27, .ref 28, .ref 29, .ref 30, .ref 31, .ref 32, .ref 33, .ref 34, .ref 35, .ref 36, .ref 37, .ref 38, .ref 39, .ref 40, .ref 41, .ref 42, .ref 43, .ref 44, .ref 45, .ref 46, .ref 47, .ref 48, .ref 49, .int 0, .ref 50, .ref 51, .ref 52, .ref 53, .ref 54, .ref 55, .ref 56, .ref 57, .ref 58, .ref 59, .ref 60, .ref 61, .ref 62, .ref 63]),
  .inl (1, 48, .inl (f 1)),
  .inl (1, 48, .inl (f 2)),
  .inl (0, 48, .inl (f 3)),
  .inl (0, 48, .inl (f 4)),
  .inl (0, 48, .inl (f 5)),
  .inl (0, 48, .inl (f 6)),
  .inl (0, 48, .inl (f 7)),
  .inl (0, 48, .inl (f 8)),
  .inl (0, 48, .inl (f 9)),
  .inl (0, 48, .inl (f 10)),
  .inl (0, 6, .inl (f 11)),
  .inl (0, 6, .inl (f 12)),
  .inl (0, 6, .inl (f 13)),
  .inl (0, 8, .inl (f 14)),
  .inl (0, 8, .inl (f 15)),
  .inl (0, 8, .inl (f 16)),
  .inl (0, 8, .inl (f 17)),
  .inl (0, 8, .inl (f 18)),
  .inl (0, 8, .inl (f 19)),
  .inl (0, 8, .inl (f 20)),
  .inl (0, 8, .inl (f 21)),
  .inl (2, 220, .inl (f 22)),
  .inl (0, 220, .inl (f 23)),
  .inl (0, 220, .inl (f 24)),
  .inl (0, 14, .inl (f 25)),
  .inl (0, 14, .inl (f 26)),
  .inl (0, 14, .inl (f 27)),
  .inl (0, 14, .inl (f 28)),
  .inl (0, 220, .inl (f 29)),
  .inl (0, 14, .inl (f 30)),
  .inl (0, 14, .inl (f 31)),
  .inl (0, 14, .inl (f 32)),
  .inl (0, 14, .inl (f 33)),
  .inl (0, 220, .inl (f 34)),
  .inl (0, 14, .inl (f 35)),
  .inl (0, 8, .inl (f 36)),
  .inl (0, 8, .inl (f 37)),
  .inl (0, 60, .inl (f 38)),
  .inl (0, 60, .inl (f 39)),
  .inl (0, 60, .inl (f 40)),
  .inl (0, 60, .inl (f 41)),
  .inl (0, 60, .inl (f 42)),
  .inl (0, 60, .inl (f 43)),
  .inl (0, 60, .inl (f 44)),
  .inl (1, 60, .inl (f 45)),
  .inl (1, 60, .inl (f 46)),
  .inl (1, 48, .inl (f 47)),
  .inl (0, 48, .inl (f 48)),
  .inl (0, 48, .inl (f 49)),
  .inl (0, 8, .inl (f 50)),
  .inl (0, 8, .inl (f 51)),
  .inl (0, 8, .inl (f 52)),
  .inl (0, 2048, .inl (f 53)),
  .inl (3, 8, .inr (.inl (g 54))),
  .inl (3, 8, .inr (.inl (g 55))),
  .inl (3, 8, .inr (.inl (g 56))),
  .inl (3, 8, .inr (.inl (g 57))),
  .inl (0, 48, .inl (f 58)),
  .inl (0, 48, .inl (f 59)),
  .inl (0, 4, .inl (f 60)),
  .inl (0, 4, .inl (f 61)),
  .inl (0, 4, .inl (f 62)),
  .inl (0, 256, .inl (f 63))]
def vlM : List (Nat × Nat × Int32) := [(1, 48, 0), (2, 48, 0), (3, 48, 0), (4, 48, 0), (5, 48, 0), (6, 48, 0), (7, 48, (-1)), (8, 48, 0), (9, 48, 0), (10, 48, 0), (11, 6, 1), (12, 6, 50), (13, 6, 1), (14, 8, 0), (15, 8, 0), (16, 8, 9999), (17, 8, 0), (18, 8, 0), (19, 8, 0), (20, 8, 0), (21, 8, 1), (22, 220, 0), (23, 220, 0), (24, 220, 0), (25, 14, 0), (26, 14, 0), (27, 14, 0), (28, 14, 0), (29, 220, 0), (30, 14, 0), (31, 14, 0), (32, 14, 0), (33, 14, 0), (34, 220, 0), (35, 14, 0), (36, 8, 0), (37, 8, 0), (38, 60, 0), (39, 60, 0), (40, 60, 0), (41, 60, 0), (42, 60, 0), (43, 60, 0), (44, 60, 0), (45, 60, 0), (46, 60, 0), (47, 48, 0), (48, 48, 0), (49, 48, 0), (50, 8, 0), (51, 8, 0), (52, 8, 0), (53, 2048, 0), (58, 48, 0), (59, 48, 0), (60, 4, 0), (61, 4, 0), (62, 4, 0), (63, 256, 0)]
def nM : pv_H := match pv_run pv_prog 3000 12 144 [.ref 0] [.inr (12, pv_fresh 12)] with
  | some (_, h) => h
  | none => []
theorem nM_run : (match pv_run pv_prog 3000 12 144 [.ref 0] [.inr (12, pv_fresh 12)] with
  | some (none, _) => true
  | _ => false) = true := by decide +kernel
theorem nM_shape : nM.map fr_sh = shM := by decide +kernel
theorem nM_vals : (vlM.all fun t => (List.range t.2.1).all fun j => decide (fr_f nM t.1 j = t.2.2)) = true := by decide +kernel
theorem gM_eq (f : Nat → Nat → Int32) (g : Nat → Nat → Int64) : fr_re 0 shM f g = gM f g := rfl
/-- the fresh heap of CliffGardenModel: which contents its arrays may have -/
def FrM (f : Nat → Nat → Int32) : Prop := ∀ t ∈ vlM, ∀ j, j < t.2.1 → f t.1 j = t.2.2
theorem nM_new : ∃ f g, pv_run pv_prog 3000 12 144 [.ref 0] [.inr (12, pv_fresh 12)] = some (none, gM f g) ∧ FrM f := by
  refine ⟨fr_f nM, fr_g nM, ?_, ?_⟩
  · have h1 := nM_run
    have h2 : nM = gM (fr_f nM) (fr_g nM) := by rw [← gM_eq]; exact fr_re_eq nM_shape
    rw [← h2]
    unfold nM
    split at h1
    · next h hh => rw [hh]
    · cases h1
  · intro t ht j hj
    have h1 := List.all_eq_true.mp nM_vals t ht
    have h2 := List.all_eq_true.mp h1 j (List.mem_range.mpr hj)
    exact of_decide_eq_true h2
end
section
def fr_len (vl : List (Nat × Nat × Int32)) (a : Nat) : Nat := match vl.find? (fun t => t.1 == a) with
  | some t => t.2.1
  | none => 0
def fr_val (vl : List (Nat × Nat × Int32)) (a : Nat) : Int32 := match vl.find? (fun t => t.1 == a) with
  | some t => t.2.2
  | none => 0
def fr_ok (vl : List (Nat × Nat × Int32)) (f : Nat → Nat → Int32) : Prop := ∀ a j, j < fr_len vl a → f a j = fr_val vl a
theorem fr_at {vl : List (Nat × Nat × Int32)} {f : Nat → Nat → Int32} (h : ∀ t ∈ vl, ∀ j, j < t.2.1 → f t.1 j = t.2.2) : fr_ok vl f := by
  intro a j hj
  unfold fr_len at hj
  unfold fr_val
  split at hj
  · next t ht =>
    have h1 := List.mem_of_find?_eq_some ht
    have h2 := List.find?_some ht
    simp only [beq_iff_eq] at h2
    rw [← h2]
    exact h t h1 j hj
  · omega
section WG3
variable {d : Nat} {rows : List pv_R} {k : Nat} {lo : pv_L} {st : List Value} {h : pv_H} {Q : Option Value → pv_H → Prop} {vl : List (Nat × Nat × Int32)} {F : Nat → Nat → Int32}
theorem wG_ildF (hF : fr_ok vl F) {pc len a b n : Nat} {xs ps : List Nat} {i : Int32} {r : List Value} (hr : rows[k]? = some (pc, .iaload, len, xs, ps)) (ha : h[a]? = some (.inl (0, n, .inl (F b)))) (hn : fr_len vl b = n) (hi : vp_in i n) (kk : wG d rows (k + 1) lo (.int (fr_val vl b) :: r) h Q) : wG d rows k lo (.int i :: .ref a :: r) h Q := by
  have hlt : i.toNatClampNeg < fr_len vl b := by rw [hn]; exact Nat.not_le.mp fun q => hi (Or.inr q)
  refine wG_ild hr ha hi ?_
  rw [hF b _ hlt]
  exact kk
theorem wG_bldF (hF : fr_ok vl F) {pc len a b n t : Nat} {ps : List Nat} {i : Int32} {r : List Value} (hr : rows[k]? = some (pc, .baload, len, [t], ps)) (ht : t = 1 ∨ t = 2) (ha : h[a]? = some (.inl (t, n, .inl (F b)))) (hn : fr_len vl b = n) (hi : vp_in i n) (kk : wG d rows (k + 1) lo (.int (fr_val vl b) :: r) h Q) : wG d rows k lo (.int i :: .ref a :: r) h Q := by
  have hlt : i.toNatClampNeg < fr_len vl b := by rw [hn]; exact Nat.not_le.mp fun q => hi (Or.inr q)
  refine wG_bld hr ht ha hi ?_
  rw [hF b _ hlt]
  exact kk
/-- a switch, by its ways -/
theorem wG_tsw {pc len dd : Nat} {ts ps : List Nat} {df lo9 hi9 : Int} {offs : Array Int} {x : Int32} {r : List Value} (hr : rows[k]? = some (pc, .tableswitch df lo9 hi9 offs, len, dd :: ts, ps)) (hlen : hi9 - lo9 < (ts.length : Int)) (k1 : x.toInt < lo9 ∨ hi9 < x.toInt → wG d rows dd lo r h Q) (k2 : ∀ (n t : Nat), ts[n]? = some t → x.toInt = lo9 + n → lo9 + n ≤ hi9 → wG d rows t lo r h Q) : wG d rows k lo (.int x :: r) h Q := by
  by_cases hx : x.toInt < lo9 ∨ hi9 < x.toInt
  · exact wG_step hr rfl rfl (by simp only [pv_x, if_pos hx]) (k1 hx)
  · have hlt : (x.toInt - lo9).toNat < ts.length := by omega
    have ht : ts[(x.toInt - lo9).toNat]? = some ts[(x.toInt - lo9).toNat] := List.getElem?_eq_getElem hlt
    exact wG_step hr rfl rfl (by simp only [pv_x, if_neg hx, ht]) (k2 _ _ ht (by omega) (by omega))
end WG3
theorem li_hz (y : UInt64) (z : Int64) : lg_cmp (((0 : Int64).toUInt64 >>> y).toInt64 &&& z) (Int64.ofNat ((0 : Fin 2) : Nat)) = 0 := by
  have h0 : ((0 : Int64).toUInt64 >>> y).toInt64 = 0 := by
    apply Int64.toBitVec_inj.mp
    simp
  rw [h0]
  have h1 : (0 : Int64) &&& z = 0 := by
    apply Int64.toBitVec_inj.mp
    simp
  rw [h1]
  decide
theorem i_add {a b : Int32} (h1 : -2147483648 ≤ a.toInt + b.toInt) (h2 : a.toInt + b.toInt ≤ 2147483647) : (a + b).toInt = a.toInt + b.toInt := by
  rw [Int32.toInt_add]
  exact Int.bmod_eq_of_le (by omega) (by omega)
theorem i_sub {a b : Int32} (h1 : -2147483648 ≤ a.toInt - b.toInt) (h2 : a.toInt - b.toInt ≤ 2147483647) : (a - b).toInt = a.toInt - b.toInt := by
  rw [Int32.toInt_sub]
  exact Int.bmod_eq_of_le (by omega) (by omega)
theorem i_mul {a b : Int32} (h1 : -2147483648 ≤ a.toInt * b.toInt) (h2 : a.toInt * b.toInt ≤ 2147483647) : (a * b).toInt = a.toInt * b.toInt := by
  rw [Int32.toInt_mul]
  exact Int.bmod_eq_of_le (by omega) (by omega)
/-- a CELL's number, as the two write it -/
theorem i_at1 (a b : Int32) : 0 ≤ a.toInt → a.toInt ≤ 7 → 0 ≤ b.toInt → b.toInt ≤ 5 → (a * (Int8.ofInt 6).toInt32 + b).toInt = 6 * a.toInt + b.toInt := by
  intro h1 h2 h3 h4
  have e : ((Int8.ofInt 6).toInt32).toInt = 6 := by decide
  have m : (a * (Int8.ofInt 6).toInt32).toInt = a.toInt * 6 := by rw [i_mul] <;> rw [e] <;> omega
  rw [i_add] <;> rw [m] <;> omega
theorem i_at2 (a b : Int32) : 0 ≤ a.toInt → a.toInt ≤ 7 → 0 ≤ b.toInt → b.toInt ≤ 5 → ((Int8.ofInt 6).toInt32 * a + b).toInt = 6 * a.toInt + b.toInt := by
  intro h1 h2 h3 h4
  have e : ((Int8.ofInt 6).toInt32).toInt = 6 := by decide
  have m : ((Int8.ofInt 6).toInt32 * a).toInt = 6 * a.toInt := by rw [i_mul] <;> rw [e] <;> omega
  rw [i_add] <;> rw [m] <;> omega
end
section
section WG4
variable {d : Nat} {rows : List pv_R} {k : Nat} {lo : pv_L} {st : List Value} {h : pv_H} {Q : Option Value → pv_H → Prop}
theorem wG_b2t {pc len t : Nat} {ps : List Nat} {cd : Jvm.ClassFile.Cond} {off : Int} {x y : Int32} {r : List Value} (hr : rows[k]? = some (pc, .if_icmp cd off, len, [t], ps)) (hc : pv_cond cd x y = true) (k1 : wG d rows t lo r h Q) : wG d rows k lo (.int y :: .int x :: r) h Q := wG_b2 hr (fun _ => k1) (fun q => absurd (hc.symm.trans q) (by decide))
theorem wG_b2f {pc len t : Nat} {ps : List Nat} {cd : Jvm.ClassFile.Cond} {off : Int} {x y : Int32} {r : List Value} (hr : rows[k]? = some (pc, .if_icmp cd off, len, [t], ps)) (hc : pv_cond cd x y = false) (k1 : wG d rows (k + 1) lo r h Q) : wG d rows k lo (.int y :: .int x :: r) h Q := wG_b2 hr (fun q => absurd (hc.symm.trans q) (by decide)) (fun _ => k1)
theorem wG_b1t {pc len t : Nat} {ps : List Nat} {cd : Jvm.ClassFile.Cond} {off : Int} {x : Int32} {r : List Value} (hr : rows[k]? = some (pc, .ifCond cd off, len, [t], ps)) (hc : pv_cond cd x 0 = true) (k1 : wG d rows t lo r h Q) : wG d rows k lo (.int x :: r) h Q := wG_b1 hr (fun _ => k1) (fun q => absurd (hc.symm.trans q) (by decide))
theorem wG_b1f {pc len t : Nat} {ps : List Nat} {cd : Jvm.ClassFile.Cond} {off : Int} {x : Int32} {r : List Value} (hr : rows[k]? = some (pc, .ifCond cd off, len, [t], ps)) (hc : pv_cond cd x 0 = false) (k1 : wG d rows (k + 1) lo r h Q) : wG d rows k lo (.int x :: r) h Q := wG_b1 hr (fun q => absurd (hc.symm.trans q) (by decide)) (fun _ => k1)
end WG4
end
section
theorem li_bipush_m3 : ((Int8.ofInt (-3)).toInt32).toInt = (-3) := by decide
theorem li_bipush_m2 : ((Int8.ofInt (-2)).toInt32).toInt = (-2) := by decide
theorem li_bipush_6 : ((Int8.ofInt 6).toInt32).toInt = 6 := by decide
theorem li_bipush_7 : ((Int8.ofInt 7).toInt32).toInt = 7 := by decide
theorem li_bipush_8 : ((Int8.ofInt 8).toInt32).toInt = 8 := by decide
theorem li_bipush_9 : ((Int8.ofInt 9).toInt32).toInt = 9 := by decide
theorem li_bipush_10 : ((Int8.ofInt 10).toInt32).toInt = 10 := by decide
theorem li_bipush_11 : ((Int8.ofInt 11).toInt32).toInt = 11 := by decide
theorem li_bipush_12 : ((Int8.ofInt 12).toInt32).toInt = 12 := by decide
theorem li_bipush_13 : ((Int8.ofInt 13).toInt32).toInt = 13 := by decide
theorem li_bipush_14 : ((Int8.ofInt 14).toInt32).toInt = 14 := by decide
theorem li_bipush_16 : ((Int8.ofInt 16).toInt32).toInt = 16 := by decide
theorem li_bipush_17 : ((Int8.ofInt 17).toInt32).toInt = 17 := by decide
theorem li_bipush_18 : ((Int8.ofInt 18).toInt32).toInt = 18 := by decide
theorem li_bipush_20 : ((Int8.ofInt 20).toInt32).toInt = 20 := by decide
theorem li_bipush_21 : ((Int8.ofInt 21).toInt32).toInt = 21 := by decide
theorem li_bipush_24 : ((Int8.ofInt 24).toInt32).toInt = 24 := by decide
theorem li_bipush_32 : ((Int8.ofInt 32).toInt32).toInt = 32 := by decide
theorem li_bipush_33 : ((Int8.ofInt 33).toInt32).toInt = 33 := by decide
theorem li_bipush_36 : ((Int8.ofInt 36).toInt32).toInt = 36 := by decide
theorem li_bipush_37 : ((Int8.ofInt 37).toInt32).toInt = 37 := by decide
theorem li_bipush_38 : ((Int8.ofInt 38).toInt32).toInt = 38 := by decide
theorem li_bipush_40 : ((Int8.ofInt 40).toInt32).toInt = 40 := by decide
theorem li_bipush_41 : ((Int8.ofInt 41).toInt32).toInt = 41 := by decide
theorem li_bipush_42 : ((Int8.ofInt 42).toInt32).toInt = 42 := by decide
theorem li_bipush_43 : ((Int8.ofInt 43).toInt32).toInt = 43 := by decide
theorem li_bipush_45 : ((Int8.ofInt 45).toInt32).toInt = 45 := by decide
theorem li_bipush_47 : ((Int8.ofInt 47).toInt32).toInt = 47 := by decide
theorem li_bipush_48 : ((Int8.ofInt 48).toInt32).toInt = 48 := by decide
theorem li_bipush_50 : ((Int8.ofInt 50).toInt32).toInt = 50 := by decide
theorem li_bipush_57 : ((Int8.ofInt 57).toInt32).toInt = 57 := by decide
theorem li_bipush_59 : ((Int8.ofInt 59).toInt32).toInt = 59 := by decide
theorem li_bipush_60 : ((Int8.ofInt 60).toInt32).toInt = 60 := by decide
theorem li_bipush_61 : ((Int8.ofInt 61).toInt32).toInt = 61 := by decide
theorem li_bipush_62 : ((Int8.ofInt 62).toInt32).toInt = 62 := by decide
theorem li_bipush_63 : ((Int8.ofInt 63).toInt32).toInt = 63 := by decide
theorem li_bipush_64 : ((Int8.ofInt 64).toInt32).toInt = 64 := by decide
theorem li_bipush_72 : ((Int8.ofInt 72).toInt32).toInt = 72 := by decide
theorem li_bipush_91 : ((Int8.ofInt 91).toInt32).toInt = 91 := by decide
theorem li_bipush_93 : ((Int8.ofInt 93).toInt32).toInt = 93 := by decide
theorem li_bipush_97 : ((Int8.ofInt 97).toInt32).toInt = 97 := by decide
theorem li_bipush_99 : ((Int8.ofInt 99).toInt32).toInt = 99 := by decide
theorem li_bipush_102 : ((Int8.ofInt 102).toInt32).toInt = 102 := by decide
theorem li_bipush_103 : ((Int8.ofInt 103).toInt32).toInt = 103 := by decide
theorem li_bipush_107 : ((Int8.ofInt 107).toInt32).toInt = 107 := by decide
theorem li_bipush_111 : ((Int8.ofInt 111).toInt32).toInt = 111 := by decide
theorem li_bipush_113 : ((Int8.ofInt 113).toInt32).toInt = 113 := by decide
theorem li_bipush_124 : ((Int8.ofInt 124).toInt32).toInt = 124 := by decide
theorem li_bipush_127 : ((Int8.ofInt 127).toInt32).toInt = 127 := by decide
theorem li_iconst_m1 : (Int32.ofInt (-1)).toInt = (-1) := by decide
theorem li_iconst_0 : (Int32.ofInt 0).toInt = 0 := by decide
theorem li_iconst_1 : (Int32.ofInt 1).toInt = 1 := by decide
theorem li_iconst_2 : (Int32.ofInt 2).toInt = 2 := by decide
theorem li_iconst_3 : (Int32.ofInt 3).toInt = 3 := by decide
theorem li_iconst_4 : (Int32.ofInt 4).toInt = 4 := by decide
theorem li_iconst_5 : (Int32.ofInt 5).toInt = 5 := by decide
theorem li_sipush_m1000 : ((Int16.ofInt (-1000)).toInt32).toInt = (-1000) := by decide
theorem li_sipush_199 : ((Int16.ofInt 199).toInt32).toInt = 199 := by decide
theorem li_sipush_200 : ((Int16.ofInt 200).toInt32).toInt = 200 := by decide
theorem li_sipush_220 : ((Int16.ofInt 220).toInt32).toInt = 220 := by decide
theorem li_sipush_255 : ((Int16.ofInt 255).toInt32).toInt = 255 := by decide
theorem li_sipush_256 : ((Int16.ofInt 256).toInt32).toInt = 256 := by decide
theorem li_sipush_999 : ((Int16.ofInt 999).toInt32).toInt = 999 := by decide
theorem li_sipush_1000 : ((Int16.ofInt 1000).toInt32).toInt = 1000 := by decide
theorem li_sipush_1008 : ((Int16.ofInt 1008).toInt32).toInt = 1008 := by decide
theorem li_sipush_2048 : ((Int16.ofInt 2048).toInt32).toInt = 2048 := by decide
theorem li_sipush_2304 : ((Int16.ofInt 2304).toInt32).toInt = 2304 := by decide
theorem li_sipush_9999 : ((Int16.ofInt 9999).toInt32).toInt = 9999 := by decide
theorem li_sipush_13849 : ((Int16.ofInt 13849).toInt32).toInt = 13849 := by decide
theorem li_sipush_25173 : ((Int16.ofInt 25173).toInt32).toInt = 25173 := by decide
theorem li_ldc_65535 : (Int32.ofNat 65535).toInt = 65535 := by decide
theorem li_ldc_65536 : (Int32.ofNat 65536).toInt = 65536 := by decide
theorem li_ldc_1048576 : (Int32.ofNat 1048576).toInt = 1048576 := by decide
theorem li_ldc_252645135 : (Int32.ofNat 252645135).toInt = 252645135 := by decide
theorem li_ldc_858993459 : (Int32.ofNat 858993459).toInt = 858993459 := by decide
theorem li_ldc_1000000000 : (Int32.ofNat 1000000000).toInt = 1000000000 := by decide
theorem li_ldc_1431655765 : (Int32.ofNat 1431655765).toInt = 1431655765 := by decide
theorem li_0 : (0 : Int32).toInt = 0 := by decide
set_option maxHeartbeats 800000 in
set_option maxRecDepth 20000 in
theorem an_seedC (x : Int32) (f : Nat → Nat → Int32) (g : Nat → Nat → Int64) (hF : fr_ok vlC f) : wR 12 102 [.ref 0, .int x] (gC f g) (fun v h => v = some (.int (if 0 ≤ x.toInt ∧ x.toInt ≤ 65535 then 1 else 0)) ∧ h.length = 79) := by
  refine wR_in rfl (Nat.le_of_ble_eq_true rfl) ?_
  repeat' (first | refine wG_b1t rfl (by decide) ?_ | refine wG_b1f rfl (by decide) ?_ | refine wG_b2t rfl (by decide) ?_ | refine wG_b2f rfl (by decide) ?_ | (refine wG_b1 rfl (fun _ => ?_) (fun _ => ?_) <;> try (exfalso; simp only [li_hz, pc_lt, pc_nlt, pc_ge, pc_nge, pc_gt, pc_ngt, pc_le, pc_nle, pc_eq, pc_neq, pc_ne, pc_nne, li_bipush_m3, li_bipush_m2, li_bipush_6, li_bipush_7, li_bipush_8, li_bipush_9, li_bipush_10, li_bipush_11, li_bipush_12, li_bipush_13, li_bipush_14, li_bipush_16, li_bipush_17, li_bipush_18, li_bipush_20, li_bipush_21, li_bipush_24, li_bipush_32, li_bipush_33, li_bipush_36, li_bipush_37, li_bipush_38, li_bipush_40, li_bipush_41, li_bipush_42, li_bipush_43, li_bipush_45, li_bipush_47, li_bipush_48, li_bipush_50, li_bipush_57, li_bipush_59, li_bipush_60, li_bipush_61, li_bipush_62, li_bipush_63, li_bipush_64, li_bipush_72, li_bipush_91, li_bipush_93, li_bipush_97, li_bipush_99, li_bipush_102, li_bipush_103, li_bipush_107, li_bipush_111, li_bipush_113, li_bipush_124, li_bipush_127, li_iconst_m1, li_iconst_0, li_iconst_1, li_iconst_2, li_iconst_3, li_iconst_4, li_iconst_5, li_sipush_m1000, li_sipush_199, li_sipush_200, li_sipush_220, li_sipush_255, li_sipush_256, li_sipush_999, li_sipush_1000, li_sipush_1008, li_sipush_2048, li_sipush_2304, li_sipush_9999, li_sipush_13849, li_sipush_25173, li_ldc_65535, li_ldc_65536, li_ldc_1048576, li_ldc_252645135, li_ldc_858993459, li_ldc_1000000000, li_ldc_1431655765, li_0] at *; omega)) | (refine wG_b2 rfl (fun _ => ?_) (fun _ => ?_) <;> try (exfalso; simp only [li_hz, pc_lt, pc_nlt, pc_ge, pc_nge, pc_gt, pc_ngt, pc_le, pc_nle, pc_eq, pc_neq, pc_ne, pc_nne, li_bipush_m3, li_bipush_m2, li_bipush_6, li_bipush_7, li_bipush_8, li_bipush_9, li_bipush_10, li_bipush_11, li_bipush_12, li_bipush_13, li_bipush_14, li_bipush_16, li_bipush_17, li_bipush_18, li_bipush_20, li_bipush_21, li_bipush_24, li_bipush_32, li_bipush_33, li_bipush_36, li_bipush_37, li_bipush_38, li_bipush_40, li_bipush_41, li_bipush_42, li_bipush_43, li_bipush_45, li_bipush_47, li_bipush_48, li_bipush_50, li_bipush_57, li_bipush_59, li_bipush_60, li_bipush_61, li_bipush_62, li_bipush_63, li_bipush_64, li_bipush_72, li_bipush_91, li_bipush_93, li_bipush_97, li_bipush_99, li_bipush_102, li_bipush_103, li_bipush_107, li_bipush_111, li_bipush_113, li_bipush_124, li_bipush_127, li_iconst_m1, li_iconst_0, li_iconst_1, li_iconst_2, li_iconst_3, li_iconst_4, li_iconst_5, li_sipush_m1000, li_sipush_199, li_sipush_200, li_sipush_220, li_sipush_255, li_sipush_256, li_sipush_999, li_sipush_1000, li_sipush_1008, li_sipush_2048, li_sipush_2304, li_sipush_9999, li_sipush_13849, li_sipush_25173, li_ldc_65535, li_ldc_65536, li_ldc_1048576, li_ldc_252645135, li_ldc_858993459, li_ldc_1000000000, li_ldc_1431655765, li_0] at *; omega)) | refine wG_put rfl rfl (Nat.le_of_ble_eq_true rfl) rfl rfl ?_ | refine wG_ildF hF rfl rfl rfl ?_ ?_ | refine wG_bldF hF rfl (Or.inl rfl) rfl rfl ?_ ?_ | refine wG_ild rfl rfl ?_ ?_ | refine wG_ist rfl rfl ?_ ?_ | refine wG_bld rfl (Or.inl rfl) rfl ?_ ?_ | refine wG_zst rfl rfl ?_ ?_ | refine wG_call rfl rfl rfl (wR_in rfl (Nat.le_of_ble_eq_true rfl) ?_) | refine wG_ret rfl rfl ?_ | refine wG_step rfl rfl rfl rfl ?_)
  all_goals (try simp only [li_hz, pc_lt, pc_nlt, pc_ge, pc_nge, pc_gt, pc_ngt, pc_le, pc_nle, pc_eq, pc_neq, pc_ne, pc_nne, li_bipush_m3, li_bipush_m2, li_bipush_6, li_bipush_7, li_bipush_8, li_bipush_9, li_bipush_10, li_bipush_11, li_bipush_12, li_bipush_13, li_bipush_14, li_bipush_16, li_bipush_17, li_bipush_18, li_bipush_20, li_bipush_21, li_bipush_24, li_bipush_32, li_bipush_33, li_bipush_36, li_bipush_37, li_bipush_38, li_bipush_40, li_bipush_41, li_bipush_42, li_bipush_43, li_bipush_45, li_bipush_47, li_bipush_48, li_bipush_50, li_bipush_57, li_bipush_59, li_bipush_60, li_bipush_61, li_bipush_62, li_bipush_63, li_bipush_64, li_bipush_72, li_bipush_91, li_bipush_93, li_bipush_97, li_bipush_99, li_bipush_102, li_bipush_103, li_bipush_107, li_bipush_111, li_bipush_113, li_bipush_124, li_bipush_127, li_iconst_m1, li_iconst_0, li_iconst_1, li_iconst_2, li_iconst_3, li_iconst_4, li_iconst_5, li_sipush_m1000, li_sipush_199, li_sipush_200, li_sipush_220, li_sipush_255, li_sipush_256, li_sipush_999, li_sipush_1000, li_sipush_1008, li_sipush_2048, li_sipush_2304, li_sipush_9999, li_sipush_13849, li_sipush_25173, li_ldc_65535, li_ldc_65536, li_ldc_1048576, li_ldc_252645135, li_ldc_858993459, li_ldc_1000000000, li_ldc_1431655765, li_0] at *)
  all_goals first
    | (exfalso; omega)
    | (rw [vp_in_iff]; omega)
    | (refine ⟨?_, by simp [gC]⟩; first | (rw [if_pos (by omega)]; rfl) | (rw [if_neg (by omega)]; rfl))

set_option maxHeartbeats 800000 in
set_option maxRecDepth 20000 in
theorem an_seedM (x : Int32) (f : Nat → Nat → Int32) (g : Nat → Nat → Int64) (hF : fr_ok vlM f) : wR 12 159 [.ref 0, .int x] (gM f g) (fun v h => v = some (.int (if 0 ≤ x.toInt ∧ x.toInt ≤ 65535 then 1 else 0)) ∧ h.length = 64) := by
  refine wR_in rfl (Nat.le_of_ble_eq_true rfl) ?_
  repeat' (first | refine wG_b1t rfl (by decide) ?_ | refine wG_b1f rfl (by decide) ?_ | refine wG_b2t rfl (by decide) ?_ | refine wG_b2f rfl (by decide) ?_ | (refine wG_b1 rfl (fun _ => ?_) (fun _ => ?_) <;> try (exfalso; simp only [li_hz, pc_lt, pc_nlt, pc_ge, pc_nge, pc_gt, pc_ngt, pc_le, pc_nle, pc_eq, pc_neq, pc_ne, pc_nne, li_bipush_m3, li_bipush_m2, li_bipush_6, li_bipush_7, li_bipush_8, li_bipush_9, li_bipush_10, li_bipush_11, li_bipush_12, li_bipush_13, li_bipush_14, li_bipush_16, li_bipush_17, li_bipush_18, li_bipush_20, li_bipush_21, li_bipush_24, li_bipush_32, li_bipush_33, li_bipush_36, li_bipush_37, li_bipush_38, li_bipush_40, li_bipush_41, li_bipush_42, li_bipush_43, li_bipush_45, li_bipush_47, li_bipush_48, li_bipush_50, li_bipush_57, li_bipush_59, li_bipush_60, li_bipush_61, li_bipush_62, li_bipush_63, li_bipush_64, li_bipush_72, li_bipush_91, li_bipush_93, li_bipush_97, li_bipush_99, li_bipush_102, li_bipush_103, li_bipush_107, li_bipush_111, li_bipush_113, li_bipush_124, li_bipush_127, li_iconst_m1, li_iconst_0, li_iconst_1, li_iconst_2, li_iconst_3, li_iconst_4, li_iconst_5, li_sipush_m1000, li_sipush_199, li_sipush_200, li_sipush_220, li_sipush_255, li_sipush_256, li_sipush_999, li_sipush_1000, li_sipush_1008, li_sipush_2048, li_sipush_2304, li_sipush_9999, li_sipush_13849, li_sipush_25173, li_ldc_65535, li_ldc_65536, li_ldc_1048576, li_ldc_252645135, li_ldc_858993459, li_ldc_1000000000, li_ldc_1431655765, li_0] at *; omega)) | (refine wG_b2 rfl (fun _ => ?_) (fun _ => ?_) <;> try (exfalso; simp only [li_hz, pc_lt, pc_nlt, pc_ge, pc_nge, pc_gt, pc_ngt, pc_le, pc_nle, pc_eq, pc_neq, pc_ne, pc_nne, li_bipush_m3, li_bipush_m2, li_bipush_6, li_bipush_7, li_bipush_8, li_bipush_9, li_bipush_10, li_bipush_11, li_bipush_12, li_bipush_13, li_bipush_14, li_bipush_16, li_bipush_17, li_bipush_18, li_bipush_20, li_bipush_21, li_bipush_24, li_bipush_32, li_bipush_33, li_bipush_36, li_bipush_37, li_bipush_38, li_bipush_40, li_bipush_41, li_bipush_42, li_bipush_43, li_bipush_45, li_bipush_47, li_bipush_48, li_bipush_50, li_bipush_57, li_bipush_59, li_bipush_60, li_bipush_61, li_bipush_62, li_bipush_63, li_bipush_64, li_bipush_72, li_bipush_91, li_bipush_93, li_bipush_97, li_bipush_99, li_bipush_102, li_bipush_103, li_bipush_107, li_bipush_111, li_bipush_113, li_bipush_124, li_bipush_127, li_iconst_m1, li_iconst_0, li_iconst_1, li_iconst_2, li_iconst_3, li_iconst_4, li_iconst_5, li_sipush_m1000, li_sipush_199, li_sipush_200, li_sipush_220, li_sipush_255, li_sipush_256, li_sipush_999, li_sipush_1000, li_sipush_1008, li_sipush_2048, li_sipush_2304, li_sipush_9999, li_sipush_13849, li_sipush_25173, li_ldc_65535, li_ldc_65536, li_ldc_1048576, li_ldc_252645135, li_ldc_858993459, li_ldc_1000000000, li_ldc_1431655765, li_0] at *; omega)) | refine wG_put rfl rfl (Nat.le_of_ble_eq_true rfl) rfl rfl ?_ | refine wG_ildF hF rfl rfl rfl ?_ ?_ | refine wG_bldF hF rfl (Or.inl rfl) rfl rfl ?_ ?_ | refine wG_ild rfl rfl ?_ ?_ | refine wG_ist rfl rfl ?_ ?_ | refine wG_bld rfl (Or.inl rfl) rfl ?_ ?_ | refine wG_zst rfl rfl ?_ ?_ | refine wG_call rfl rfl rfl (wR_in rfl (Nat.le_of_ble_eq_true rfl) ?_) | refine wG_ret rfl rfl ?_ | refine wG_step rfl rfl rfl rfl ?_)
  all_goals (try simp only [li_hz, pc_lt, pc_nlt, pc_ge, pc_nge, pc_gt, pc_ngt, pc_le, pc_nle, pc_eq, pc_neq, pc_ne, pc_nne, li_bipush_m3, li_bipush_m2, li_bipush_6, li_bipush_7, li_bipush_8, li_bipush_9, li_bipush_10, li_bipush_11, li_bipush_12, li_bipush_13, li_bipush_14, li_bipush_16, li_bipush_17, li_bipush_18, li_bipush_20, li_bipush_21, li_bipush_24, li_bipush_32, li_bipush_33, li_bipush_36, li_bipush_37, li_bipush_38, li_bipush_40, li_bipush_41, li_bipush_42, li_bipush_43, li_bipush_45, li_bipush_47, li_bipush_48, li_bipush_50, li_bipush_57, li_bipush_59, li_bipush_60, li_bipush_61, li_bipush_62, li_bipush_63, li_bipush_64, li_bipush_72, li_bipush_91, li_bipush_93, li_bipush_97, li_bipush_99, li_bipush_102, li_bipush_103, li_bipush_107, li_bipush_111, li_bipush_113, li_bipush_124, li_bipush_127, li_iconst_m1, li_iconst_0, li_iconst_1, li_iconst_2, li_iconst_3, li_iconst_4, li_iconst_5, li_sipush_m1000, li_sipush_199, li_sipush_200, li_sipush_220, li_sipush_255, li_sipush_256, li_sipush_999, li_sipush_1000, li_sipush_1008, li_sipush_2048, li_sipush_2304, li_sipush_9999, li_sipush_13849, li_sipush_25173, li_ldc_65535, li_ldc_65536, li_ldc_1048576, li_ldc_252645135, li_ldc_858993459, li_ldc_1000000000, li_ldc_1431655765, li_0] at *)
  all_goals first
    | (exfalso; omega)
    | (rw [vp_in_iff]; omega)
    | (refine ⟨?_, by simp [gM]⟩; first | (rw [if_pos (by omega)]; rfl) | (rw [if_neg (by omega)]; rfl))

set_option maxHeartbeats 800000 in
set_option maxRecDepth 20000 in
theorem an_valveC (a b : Int32) (f : Nat → Nat → Int32) (g : Nat → Nat → Int64) (hF : fr_ok vlC f) : wR 12 99 [.ref 0, .int a, .int b] (gC f g) (fun v h => v = some (.int (if 0 ≤ a.toInt ∧ a.toInt ≤ 7 ∧ 0 ≤ b.toInt ∧ b.toInt ≤ 99 then 1 else 0)) ∧ h.length = 79) := by
  refine wR_in rfl (Nat.le_of_ble_eq_true rfl) ?_
  repeat' (first | refine wG_b1t rfl (by decide) ?_ | refine wG_b1f rfl (by decide) ?_ | refine wG_b2t rfl (by decide) ?_ | refine wG_b2f rfl (by decide) ?_ | (refine wG_b1 rfl (fun _ => ?_) (fun _ => ?_) <;> try (exfalso; simp only [li_hz, pc_lt, pc_nlt, pc_ge, pc_nge, pc_gt, pc_ngt, pc_le, pc_nle, pc_eq, pc_neq, pc_ne, pc_nne, li_bipush_m3, li_bipush_m2, li_bipush_6, li_bipush_7, li_bipush_8, li_bipush_9, li_bipush_10, li_bipush_11, li_bipush_12, li_bipush_13, li_bipush_14, li_bipush_16, li_bipush_17, li_bipush_18, li_bipush_20, li_bipush_21, li_bipush_24, li_bipush_32, li_bipush_33, li_bipush_36, li_bipush_37, li_bipush_38, li_bipush_40, li_bipush_41, li_bipush_42, li_bipush_43, li_bipush_45, li_bipush_47, li_bipush_48, li_bipush_50, li_bipush_57, li_bipush_59, li_bipush_60, li_bipush_61, li_bipush_62, li_bipush_63, li_bipush_64, li_bipush_72, li_bipush_91, li_bipush_93, li_bipush_97, li_bipush_99, li_bipush_102, li_bipush_103, li_bipush_107, li_bipush_111, li_bipush_113, li_bipush_124, li_bipush_127, li_iconst_m1, li_iconst_0, li_iconst_1, li_iconst_2, li_iconst_3, li_iconst_4, li_iconst_5, li_sipush_m1000, li_sipush_199, li_sipush_200, li_sipush_220, li_sipush_255, li_sipush_256, li_sipush_999, li_sipush_1000, li_sipush_1008, li_sipush_2048, li_sipush_2304, li_sipush_9999, li_sipush_13849, li_sipush_25173, li_ldc_65535, li_ldc_65536, li_ldc_1048576, li_ldc_252645135, li_ldc_858993459, li_ldc_1000000000, li_ldc_1431655765, li_0] at *; omega)) | (refine wG_b2 rfl (fun _ => ?_) (fun _ => ?_) <;> try (exfalso; simp only [li_hz, pc_lt, pc_nlt, pc_ge, pc_nge, pc_gt, pc_ngt, pc_le, pc_nle, pc_eq, pc_neq, pc_ne, pc_nne, li_bipush_m3, li_bipush_m2, li_bipush_6, li_bipush_7, li_bipush_8, li_bipush_9, li_bipush_10, li_bipush_11, li_bipush_12, li_bipush_13, li_bipush_14, li_bipush_16, li_bipush_17, li_bipush_18, li_bipush_20, li_bipush_21, li_bipush_24, li_bipush_32, li_bipush_33, li_bipush_36, li_bipush_37, li_bipush_38, li_bipush_40, li_bipush_41, li_bipush_42, li_bipush_43, li_bipush_45, li_bipush_47, li_bipush_48, li_bipush_50, li_bipush_57, li_bipush_59, li_bipush_60, li_bipush_61, li_bipush_62, li_bipush_63, li_bipush_64, li_bipush_72, li_bipush_91, li_bipush_93, li_bipush_97, li_bipush_99, li_bipush_102, li_bipush_103, li_bipush_107, li_bipush_111, li_bipush_113, li_bipush_124, li_bipush_127, li_iconst_m1, li_iconst_0, li_iconst_1, li_iconst_2, li_iconst_3, li_iconst_4, li_iconst_5, li_sipush_m1000, li_sipush_199, li_sipush_200, li_sipush_220, li_sipush_255, li_sipush_256, li_sipush_999, li_sipush_1000, li_sipush_1008, li_sipush_2048, li_sipush_2304, li_sipush_9999, li_sipush_13849, li_sipush_25173, li_ldc_65535, li_ldc_65536, li_ldc_1048576, li_ldc_252645135, li_ldc_858993459, li_ldc_1000000000, li_ldc_1431655765, li_0] at *; omega)) | refine wG_put rfl rfl (Nat.le_of_ble_eq_true rfl) rfl rfl ?_ | refine wG_ildF hF rfl rfl rfl ?_ ?_ | refine wG_bldF hF rfl (Or.inl rfl) rfl rfl ?_ ?_ | refine wG_ild rfl rfl ?_ ?_ | refine wG_ist rfl rfl ?_ ?_ | refine wG_bld rfl (Or.inl rfl) rfl ?_ ?_ | refine wG_zst rfl rfl ?_ ?_ | refine wG_call rfl rfl rfl (wR_in rfl (Nat.le_of_ble_eq_true rfl) ?_) | refine wG_ret rfl rfl ?_ | refine wG_step rfl rfl rfl rfl ?_)
  all_goals (try simp only [li_hz, pc_lt, pc_nlt, pc_ge, pc_nge, pc_gt, pc_ngt, pc_le, pc_nle, pc_eq, pc_neq, pc_ne, pc_nne, li_bipush_m3, li_bipush_m2, li_bipush_6, li_bipush_7, li_bipush_8, li_bipush_9, li_bipush_10, li_bipush_11, li_bipush_12, li_bipush_13, li_bipush_14, li_bipush_16, li_bipush_17, li_bipush_18, li_bipush_20, li_bipush_21, li_bipush_24, li_bipush_32, li_bipush_33, li_bipush_36, li_bipush_37, li_bipush_38, li_bipush_40, li_bipush_41, li_bipush_42, li_bipush_43, li_bipush_45, li_bipush_47, li_bipush_48, li_bipush_50, li_bipush_57, li_bipush_59, li_bipush_60, li_bipush_61, li_bipush_62, li_bipush_63, li_bipush_64, li_bipush_72, li_bipush_91, li_bipush_93, li_bipush_97, li_bipush_99, li_bipush_102, li_bipush_103, li_bipush_107, li_bipush_111, li_bipush_113, li_bipush_124, li_bipush_127, li_iconst_m1, li_iconst_0, li_iconst_1, li_iconst_2, li_iconst_3, li_iconst_4, li_iconst_5, li_sipush_m1000, li_sipush_199, li_sipush_200, li_sipush_220, li_sipush_255, li_sipush_256, li_sipush_999, li_sipush_1000, li_sipush_1008, li_sipush_2048, li_sipush_2304, li_sipush_9999, li_sipush_13849, li_sipush_25173, li_ldc_65535, li_ldc_65536, li_ldc_1048576, li_ldc_252645135, li_ldc_858993459, li_ldc_1000000000, li_ldc_1431655765, li_0] at *)
  all_goals first
    | (exfalso; omega)
    | (rw [vp_in_iff]; omega)
    | (refine ⟨?_, by simp [gC]⟩; first | (rw [if_pos (by omega)]; rfl) | (rw [if_neg (by omega)]; rfl))

set_option maxHeartbeats 800000 in
set_option maxRecDepth 20000 in
theorem an_valveM (a b : Int32) (f : Nat → Nat → Int32) (g : Nat → Nat → Int64) (hF : fr_ok vlM f) : wR 12 156 [.ref 0, .int a, .int b] (gM f g) (fun v h => v = some (.int (if 0 ≤ a.toInt ∧ a.toInt ≤ 7 ∧ 0 ≤ b.toInt ∧ b.toInt ≤ 99 then 1 else 0)) ∧ h.length = 64) := by
  refine wR_in rfl (Nat.le_of_ble_eq_true rfl) ?_
  repeat' (first | refine wG_b1t rfl (by decide) ?_ | refine wG_b1f rfl (by decide) ?_ | refine wG_b2t rfl (by decide) ?_ | refine wG_b2f rfl (by decide) ?_ | (refine wG_b1 rfl (fun _ => ?_) (fun _ => ?_) <;> try (exfalso; simp only [li_hz, pc_lt, pc_nlt, pc_ge, pc_nge, pc_gt, pc_ngt, pc_le, pc_nle, pc_eq, pc_neq, pc_ne, pc_nne, li_bipush_m3, li_bipush_m2, li_bipush_6, li_bipush_7, li_bipush_8, li_bipush_9, li_bipush_10, li_bipush_11, li_bipush_12, li_bipush_13, li_bipush_14, li_bipush_16, li_bipush_17, li_bipush_18, li_bipush_20, li_bipush_21, li_bipush_24, li_bipush_32, li_bipush_33, li_bipush_36, li_bipush_37, li_bipush_38, li_bipush_40, li_bipush_41, li_bipush_42, li_bipush_43, li_bipush_45, li_bipush_47, li_bipush_48, li_bipush_50, li_bipush_57, li_bipush_59, li_bipush_60, li_bipush_61, li_bipush_62, li_bipush_63, li_bipush_64, li_bipush_72, li_bipush_91, li_bipush_93, li_bipush_97, li_bipush_99, li_bipush_102, li_bipush_103, li_bipush_107, li_bipush_111, li_bipush_113, li_bipush_124, li_bipush_127, li_iconst_m1, li_iconst_0, li_iconst_1, li_iconst_2, li_iconst_3, li_iconst_4, li_iconst_5, li_sipush_m1000, li_sipush_199, li_sipush_200, li_sipush_220, li_sipush_255, li_sipush_256, li_sipush_999, li_sipush_1000, li_sipush_1008, li_sipush_2048, li_sipush_2304, li_sipush_9999, li_sipush_13849, li_sipush_25173, li_ldc_65535, li_ldc_65536, li_ldc_1048576, li_ldc_252645135, li_ldc_858993459, li_ldc_1000000000, li_ldc_1431655765, li_0] at *; omega)) | (refine wG_b2 rfl (fun _ => ?_) (fun _ => ?_) <;> try (exfalso; simp only [li_hz, pc_lt, pc_nlt, pc_ge, pc_nge, pc_gt, pc_ngt, pc_le, pc_nle, pc_eq, pc_neq, pc_ne, pc_nne, li_bipush_m3, li_bipush_m2, li_bipush_6, li_bipush_7, li_bipush_8, li_bipush_9, li_bipush_10, li_bipush_11, li_bipush_12, li_bipush_13, li_bipush_14, li_bipush_16, li_bipush_17, li_bipush_18, li_bipush_20, li_bipush_21, li_bipush_24, li_bipush_32, li_bipush_33, li_bipush_36, li_bipush_37, li_bipush_38, li_bipush_40, li_bipush_41, li_bipush_42, li_bipush_43, li_bipush_45, li_bipush_47, li_bipush_48, li_bipush_50, li_bipush_57, li_bipush_59, li_bipush_60, li_bipush_61, li_bipush_62, li_bipush_63, li_bipush_64, li_bipush_72, li_bipush_91, li_bipush_93, li_bipush_97, li_bipush_99, li_bipush_102, li_bipush_103, li_bipush_107, li_bipush_111, li_bipush_113, li_bipush_124, li_bipush_127, li_iconst_m1, li_iconst_0, li_iconst_1, li_iconst_2, li_iconst_3, li_iconst_4, li_iconst_5, li_sipush_m1000, li_sipush_199, li_sipush_200, li_sipush_220, li_sipush_255, li_sipush_256, li_sipush_999, li_sipush_1000, li_sipush_1008, li_sipush_2048, li_sipush_2304, li_sipush_9999, li_sipush_13849, li_sipush_25173, li_ldc_65535, li_ldc_65536, li_ldc_1048576, li_ldc_252645135, li_ldc_858993459, li_ldc_1000000000, li_ldc_1431655765, li_0] at *; omega)) | refine wG_put rfl rfl (Nat.le_of_ble_eq_true rfl) rfl rfl ?_ | refine wG_ildF hF rfl rfl rfl ?_ ?_ | refine wG_bldF hF rfl (Or.inl rfl) rfl rfl ?_ ?_ | refine wG_ild rfl rfl ?_ ?_ | refine wG_ist rfl rfl ?_ ?_ | refine wG_bld rfl (Or.inl rfl) rfl ?_ ?_ | refine wG_zst rfl rfl ?_ ?_ | refine wG_call rfl rfl rfl (wR_in rfl (Nat.le_of_ble_eq_true rfl) ?_) | refine wG_ret rfl rfl ?_ | refine wG_step rfl rfl rfl rfl ?_)
  all_goals (try simp only [li_hz, pc_lt, pc_nlt, pc_ge, pc_nge, pc_gt, pc_ngt, pc_le, pc_nle, pc_eq, pc_neq, pc_ne, pc_nne, li_bipush_m3, li_bipush_m2, li_bipush_6, li_bipush_7, li_bipush_8, li_bipush_9, li_bipush_10, li_bipush_11, li_bipush_12, li_bipush_13, li_bipush_14, li_bipush_16, li_bipush_17, li_bipush_18, li_bipush_20, li_bipush_21, li_bipush_24, li_bipush_32, li_bipush_33, li_bipush_36, li_bipush_37, li_bipush_38, li_bipush_40, li_bipush_41, li_bipush_42, li_bipush_43, li_bipush_45, li_bipush_47, li_bipush_48, li_bipush_50, li_bipush_57, li_bipush_59, li_bipush_60, li_bipush_61, li_bipush_62, li_bipush_63, li_bipush_64, li_bipush_72, li_bipush_91, li_bipush_93, li_bipush_97, li_bipush_99, li_bipush_102, li_bipush_103, li_bipush_107, li_bipush_111, li_bipush_113, li_bipush_124, li_bipush_127, li_iconst_m1, li_iconst_0, li_iconst_1, li_iconst_2, li_iconst_3, li_iconst_4, li_iconst_5, li_sipush_m1000, li_sipush_199, li_sipush_200, li_sipush_220, li_sipush_255, li_sipush_256, li_sipush_999, li_sipush_1000, li_sipush_1008, li_sipush_2048, li_sipush_2304, li_sipush_9999, li_sipush_13849, li_sipush_25173, li_ldc_65535, li_ldc_65536, li_ldc_1048576, li_ldc_252645135, li_ldc_858993459, li_ldc_1000000000, li_ldc_1431655765, li_0] at *)
  all_goals first
    | (exfalso; omega)
    | (rw [vp_in_iff]; omega)
    | (refine ⟨?_, by simp [gM]⟩; first | (rw [if_pos (by omega)]; rfl) | (rw [if_neg (by omega)]; rfl))

set_option maxHeartbeats 800000 in
set_option maxRecDepth 20000 in
theorem an_kitchenC (a b c : Int32) (f : Nat → Nat → Int32) (g : Nat → Nat → Int64) (hF : fr_ok vlC f) : wR 12 100 [.ref 0, .int a, .int b, .int c] (gC f g) (fun v h => v = some (.int (if 0 ≤ a.toInt ∧ a.toInt ≤ 7 ∧ 0 ≤ b.toInt ∧ b.toInt ≤ 7 ∧ 0 ≤ c.toInt ∧ c.toInt ≤ 9999 then 1 else 0)) ∧ h.length = 79) := by
  refine wR_in rfl (Nat.le_of_ble_eq_true rfl) ?_
  repeat' (first | refine wG_b1t rfl (by decide) ?_ | refine wG_b1f rfl (by decide) ?_ | refine wG_b2t rfl (by decide) ?_ | refine wG_b2f rfl (by decide) ?_ | (refine wG_b1 rfl (fun _ => ?_) (fun _ => ?_) <;> try (exfalso; simp only [li_hz, pc_lt, pc_nlt, pc_ge, pc_nge, pc_gt, pc_ngt, pc_le, pc_nle, pc_eq, pc_neq, pc_ne, pc_nne, li_bipush_m3, li_bipush_m2, li_bipush_6, li_bipush_7, li_bipush_8, li_bipush_9, li_bipush_10, li_bipush_11, li_bipush_12, li_bipush_13, li_bipush_14, li_bipush_16, li_bipush_17, li_bipush_18, li_bipush_20, li_bipush_21, li_bipush_24, li_bipush_32, li_bipush_33, li_bipush_36, li_bipush_37, li_bipush_38, li_bipush_40, li_bipush_41, li_bipush_42, li_bipush_43, li_bipush_45, li_bipush_47, li_bipush_48, li_bipush_50, li_bipush_57, li_bipush_59, li_bipush_60, li_bipush_61, li_bipush_62, li_bipush_63, li_bipush_64, li_bipush_72, li_bipush_91, li_bipush_93, li_bipush_97, li_bipush_99, li_bipush_102, li_bipush_103, li_bipush_107, li_bipush_111, li_bipush_113, li_bipush_124, li_bipush_127, li_iconst_m1, li_iconst_0, li_iconst_1, li_iconst_2, li_iconst_3, li_iconst_4, li_iconst_5, li_sipush_m1000, li_sipush_199, li_sipush_200, li_sipush_220, li_sipush_255, li_sipush_256, li_sipush_999, li_sipush_1000, li_sipush_1008, li_sipush_2048, li_sipush_2304, li_sipush_9999, li_sipush_13849, li_sipush_25173, li_ldc_65535, li_ldc_65536, li_ldc_1048576, li_ldc_252645135, li_ldc_858993459, li_ldc_1000000000, li_ldc_1431655765, li_0] at *; omega)) | (refine wG_b2 rfl (fun _ => ?_) (fun _ => ?_) <;> try (exfalso; simp only [li_hz, pc_lt, pc_nlt, pc_ge, pc_nge, pc_gt, pc_ngt, pc_le, pc_nle, pc_eq, pc_neq, pc_ne, pc_nne, li_bipush_m3, li_bipush_m2, li_bipush_6, li_bipush_7, li_bipush_8, li_bipush_9, li_bipush_10, li_bipush_11, li_bipush_12, li_bipush_13, li_bipush_14, li_bipush_16, li_bipush_17, li_bipush_18, li_bipush_20, li_bipush_21, li_bipush_24, li_bipush_32, li_bipush_33, li_bipush_36, li_bipush_37, li_bipush_38, li_bipush_40, li_bipush_41, li_bipush_42, li_bipush_43, li_bipush_45, li_bipush_47, li_bipush_48, li_bipush_50, li_bipush_57, li_bipush_59, li_bipush_60, li_bipush_61, li_bipush_62, li_bipush_63, li_bipush_64, li_bipush_72, li_bipush_91, li_bipush_93, li_bipush_97, li_bipush_99, li_bipush_102, li_bipush_103, li_bipush_107, li_bipush_111, li_bipush_113, li_bipush_124, li_bipush_127, li_iconst_m1, li_iconst_0, li_iconst_1, li_iconst_2, li_iconst_3, li_iconst_4, li_iconst_5, li_sipush_m1000, li_sipush_199, li_sipush_200, li_sipush_220, li_sipush_255, li_sipush_256, li_sipush_999, li_sipush_1000, li_sipush_1008, li_sipush_2048, li_sipush_2304, li_sipush_9999, li_sipush_13849, li_sipush_25173, li_ldc_65535, li_ldc_65536, li_ldc_1048576, li_ldc_252645135, li_ldc_858993459, li_ldc_1000000000, li_ldc_1431655765, li_0] at *; omega)) | refine wG_put rfl rfl (Nat.le_of_ble_eq_true rfl) rfl rfl ?_ | refine wG_ildF hF rfl rfl rfl ?_ ?_ | refine wG_bldF hF rfl (Or.inl rfl) rfl rfl ?_ ?_ | refine wG_ild rfl rfl ?_ ?_ | refine wG_ist rfl rfl ?_ ?_ | refine wG_bld rfl (Or.inl rfl) rfl ?_ ?_ | refine wG_zst rfl rfl ?_ ?_ | refine wG_call rfl rfl rfl (wR_in rfl (Nat.le_of_ble_eq_true rfl) ?_) | refine wG_ret rfl rfl ?_ | refine wG_step rfl rfl rfl rfl ?_)
  all_goals (try simp only [li_hz, pc_lt, pc_nlt, pc_ge, pc_nge, pc_gt, pc_ngt, pc_le, pc_nle, pc_eq, pc_neq, pc_ne, pc_nne, li_bipush_m3, li_bipush_m2, li_bipush_6, li_bipush_7, li_bipush_8, li_bipush_9, li_bipush_10, li_bipush_11, li_bipush_12, li_bipush_13, li_bipush_14, li_bipush_16, li_bipush_17, li_bipush_18, li_bipush_20, li_bipush_21, li_bipush_24, li_bipush_32, li_bipush_33, li_bipush_36, li_bipush_37, li_bipush_38, li_bipush_40, li_bipush_41, li_bipush_42, li_bipush_43, li_bipush_45, li_bipush_47, li_bipush_48, li_bipush_50, li_bipush_57, li_bipush_59, li_bipush_60, li_bipush_61, li_bipush_62, li_bipush_63, li_bipush_64, li_bipush_72, li_bipush_91, li_bipush_93, li_bipush_97, li_bipush_99, li_bipush_102, li_bipush_103, li_bipush_107, li_bipush_111, li_bipush_113, li_bipush_124, li_bipush_127, li_iconst_m1, li_iconst_0, li_iconst_1, li_iconst_2, li_iconst_3, li_iconst_4, li_iconst_5, li_sipush_m1000, li_sipush_199, li_sipush_200, li_sipush_220, li_sipush_255, li_sipush_256, li_sipush_999, li_sipush_1000, li_sipush_1008, li_sipush_2048, li_sipush_2304, li_sipush_9999, li_sipush_13849, li_sipush_25173, li_ldc_65535, li_ldc_65536, li_ldc_1048576, li_ldc_252645135, li_ldc_858993459, li_ldc_1000000000, li_ldc_1431655765, li_0] at *)
  all_goals first
    | (exfalso; omega)
    | (rw [vp_in_iff]; omega)
    | (refine ⟨?_, by simp [gC]⟩; first | (rw [if_pos (by omega)]; rfl) | (rw [if_neg (by omega)]; rfl))

set_option maxHeartbeats 800000 in
set_option maxRecDepth 20000 in
theorem an_kitchenM (a b c : Int32) (f : Nat → Nat → Int32) (g : Nat → Nat → Int64) (hF : fr_ok vlM f) : wR 12 157 [.ref 0, .int a, .int b, .int c] (gM f g) (fun v h => v = some (.int (if 0 ≤ a.toInt ∧ a.toInt ≤ 7 ∧ 0 ≤ b.toInt ∧ b.toInt ≤ 7 ∧ 0 ≤ c.toInt ∧ c.toInt ≤ 9999 then 1 else 0)) ∧ h.length = 64) := by
  refine wR_in rfl (Nat.le_of_ble_eq_true rfl) ?_
  repeat' (first | refine wG_b1t rfl (by decide) ?_ | refine wG_b1f rfl (by decide) ?_ | refine wG_b2t rfl (by decide) ?_ | refine wG_b2f rfl (by decide) ?_ | (refine wG_b1 rfl (fun _ => ?_) (fun _ => ?_) <;> try (exfalso; simp only [li_hz, pc_lt, pc_nlt, pc_ge, pc_nge, pc_gt, pc_ngt, pc_le, pc_nle, pc_eq, pc_neq, pc_ne, pc_nne, li_bipush_m3, li_bipush_m2, li_bipush_6, li_bipush_7, li_bipush_8, li_bipush_9, li_bipush_10, li_bipush_11, li_bipush_12, li_bipush_13, li_bipush_14, li_bipush_16, li_bipush_17, li_bipush_18, li_bipush_20, li_bipush_21, li_bipush_24, li_bipush_32, li_bipush_33, li_bipush_36, li_bipush_37, li_bipush_38, li_bipush_40, li_bipush_41, li_bipush_42, li_bipush_43, li_bipush_45, li_bipush_47, li_bipush_48, li_bipush_50, li_bipush_57, li_bipush_59, li_bipush_60, li_bipush_61, li_bipush_62, li_bipush_63, li_bipush_64, li_bipush_72, li_bipush_91, li_bipush_93, li_bipush_97, li_bipush_99, li_bipush_102, li_bipush_103, li_bipush_107, li_bipush_111, li_bipush_113, li_bipush_124, li_bipush_127, li_iconst_m1, li_iconst_0, li_iconst_1, li_iconst_2, li_iconst_3, li_iconst_4, li_iconst_5, li_sipush_m1000, li_sipush_199, li_sipush_200, li_sipush_220, li_sipush_255, li_sipush_256, li_sipush_999, li_sipush_1000, li_sipush_1008, li_sipush_2048, li_sipush_2304, li_sipush_9999, li_sipush_13849, li_sipush_25173, li_ldc_65535, li_ldc_65536, li_ldc_1048576, li_ldc_252645135, li_ldc_858993459, li_ldc_1000000000, li_ldc_1431655765, li_0] at *; omega)) | (refine wG_b2 rfl (fun _ => ?_) (fun _ => ?_) <;> try (exfalso; simp only [li_hz, pc_lt, pc_nlt, pc_ge, pc_nge, pc_gt, pc_ngt, pc_le, pc_nle, pc_eq, pc_neq, pc_ne, pc_nne, li_bipush_m3, li_bipush_m2, li_bipush_6, li_bipush_7, li_bipush_8, li_bipush_9, li_bipush_10, li_bipush_11, li_bipush_12, li_bipush_13, li_bipush_14, li_bipush_16, li_bipush_17, li_bipush_18, li_bipush_20, li_bipush_21, li_bipush_24, li_bipush_32, li_bipush_33, li_bipush_36, li_bipush_37, li_bipush_38, li_bipush_40, li_bipush_41, li_bipush_42, li_bipush_43, li_bipush_45, li_bipush_47, li_bipush_48, li_bipush_50, li_bipush_57, li_bipush_59, li_bipush_60, li_bipush_61, li_bipush_62, li_bipush_63, li_bipush_64, li_bipush_72, li_bipush_91, li_bipush_93, li_bipush_97, li_bipush_99, li_bipush_102, li_bipush_103, li_bipush_107, li_bipush_111, li_bipush_113, li_bipush_124, li_bipush_127, li_iconst_m1, li_iconst_0, li_iconst_1, li_iconst_2, li_iconst_3, li_iconst_4, li_iconst_5, li_sipush_m1000, li_sipush_199, li_sipush_200, li_sipush_220, li_sipush_255, li_sipush_256, li_sipush_999, li_sipush_1000, li_sipush_1008, li_sipush_2048, li_sipush_2304, li_sipush_9999, li_sipush_13849, li_sipush_25173, li_ldc_65535, li_ldc_65536, li_ldc_1048576, li_ldc_252645135, li_ldc_858993459, li_ldc_1000000000, li_ldc_1431655765, li_0] at *; omega)) | refine wG_put rfl rfl (Nat.le_of_ble_eq_true rfl) rfl rfl ?_ | refine wG_ildF hF rfl rfl rfl ?_ ?_ | refine wG_bldF hF rfl (Or.inl rfl) rfl rfl ?_ ?_ | refine wG_ild rfl rfl ?_ ?_ | refine wG_ist rfl rfl ?_ ?_ | refine wG_bld rfl (Or.inl rfl) rfl ?_ ?_ | refine wG_zst rfl rfl ?_ ?_ | refine wG_call rfl rfl rfl (wR_in rfl (Nat.le_of_ble_eq_true rfl) ?_) | refine wG_ret rfl rfl ?_ | refine wG_step rfl rfl rfl rfl ?_)
  all_goals (try simp only [li_hz, pc_lt, pc_nlt, pc_ge, pc_nge, pc_gt, pc_ngt, pc_le, pc_nle, pc_eq, pc_neq, pc_ne, pc_nne, li_bipush_m3, li_bipush_m2, li_bipush_6, li_bipush_7, li_bipush_8, li_bipush_9, li_bipush_10, li_bipush_11, li_bipush_12, li_bipush_13, li_bipush_14, li_bipush_16, li_bipush_17, li_bipush_18, li_bipush_20, li_bipush_21, li_bipush_24, li_bipush_32, li_bipush_33, li_bipush_36, li_bipush_37, li_bipush_38, li_bipush_40, li_bipush_41, li_bipush_42, li_bipush_43, li_bipush_45, li_bipush_47, li_bipush_48, li_bipush_50, li_bipush_57, li_bipush_59, li_bipush_60, li_bipush_61, li_bipush_62, li_bipush_63, li_bipush_64, li_bipush_72, li_bipush_91, li_bipush_93, li_bipush_97, li_bipush_99, li_bipush_102, li_bipush_103, li_bipush_107, li_bipush_111, li_bipush_113, li_bipush_124, li_bipush_127, li_iconst_m1, li_iconst_0, li_iconst_1, li_iconst_2, li_iconst_3, li_iconst_4, li_iconst_5, li_sipush_m1000, li_sipush_199, li_sipush_200, li_sipush_220, li_sipush_255, li_sipush_256, li_sipush_999, li_sipush_1000, li_sipush_1008, li_sipush_2048, li_sipush_2304, li_sipush_9999, li_sipush_13849, li_sipush_25173, li_ldc_65535, li_ldc_65536, li_ldc_1048576, li_ldc_252645135, li_ldc_858993459, li_ldc_1000000000, li_ldc_1431655765, li_0] at *)
  all_goals first
    | (exfalso; omega)
    | (rw [vp_in_iff]; omega)
    | (refine ⟨?_, by simp [gM]⟩; first | (rw [if_pos (by omega)]; rfl) | (rw [if_neg (by omega)]; rfl))

set_option maxHeartbeats 800000 in
set_option maxRecDepth 20000 in
theorem an_ropeC (a b c : Int32) (f : Nat → Nat → Int32) (g : Nat → Nat → Int64) (hF : fr_ok vlC f) : wR 12 101 [.ref 0, .int a, .int b, .int c] (gC f g) (fun v h => v = some (.int (if 0 ≤ a.toInt ∧ a.toInt ≤ 7 ∧ 0 ≤ b.toInt ∧ b.toInt ≤ 999 ∧ 0 ≤ c.toInt ∧ c.toInt ≤ 99 then 1 else 0)) ∧ h.length = 79) := by
  refine wR_in rfl (Nat.le_of_ble_eq_true rfl) ?_
  repeat' (first | refine wG_b1t rfl (by decide) ?_ | refine wG_b1f rfl (by decide) ?_ | refine wG_b2t rfl (by decide) ?_ | refine wG_b2f rfl (by decide) ?_ | (refine wG_b1 rfl (fun _ => ?_) (fun _ => ?_) <;> try (exfalso; simp only [li_hz, pc_lt, pc_nlt, pc_ge, pc_nge, pc_gt, pc_ngt, pc_le, pc_nle, pc_eq, pc_neq, pc_ne, pc_nne, li_bipush_m3, li_bipush_m2, li_bipush_6, li_bipush_7, li_bipush_8, li_bipush_9, li_bipush_10, li_bipush_11, li_bipush_12, li_bipush_13, li_bipush_14, li_bipush_16, li_bipush_17, li_bipush_18, li_bipush_20, li_bipush_21, li_bipush_24, li_bipush_32, li_bipush_33, li_bipush_36, li_bipush_37, li_bipush_38, li_bipush_40, li_bipush_41, li_bipush_42, li_bipush_43, li_bipush_45, li_bipush_47, li_bipush_48, li_bipush_50, li_bipush_57, li_bipush_59, li_bipush_60, li_bipush_61, li_bipush_62, li_bipush_63, li_bipush_64, li_bipush_72, li_bipush_91, li_bipush_93, li_bipush_97, li_bipush_99, li_bipush_102, li_bipush_103, li_bipush_107, li_bipush_111, li_bipush_113, li_bipush_124, li_bipush_127, li_iconst_m1, li_iconst_0, li_iconst_1, li_iconst_2, li_iconst_3, li_iconst_4, li_iconst_5, li_sipush_m1000, li_sipush_199, li_sipush_200, li_sipush_220, li_sipush_255, li_sipush_256, li_sipush_999, li_sipush_1000, li_sipush_1008, li_sipush_2048, li_sipush_2304, li_sipush_9999, li_sipush_13849, li_sipush_25173, li_ldc_65535, li_ldc_65536, li_ldc_1048576, li_ldc_252645135, li_ldc_858993459, li_ldc_1000000000, li_ldc_1431655765, li_0] at *; omega)) | (refine wG_b2 rfl (fun _ => ?_) (fun _ => ?_) <;> try (exfalso; simp only [li_hz, pc_lt, pc_nlt, pc_ge, pc_nge, pc_gt, pc_ngt, pc_le, pc_nle, pc_eq, pc_neq, pc_ne, pc_nne, li_bipush_m3, li_bipush_m2, li_bipush_6, li_bipush_7, li_bipush_8, li_bipush_9, li_bipush_10, li_bipush_11, li_bipush_12, li_bipush_13, li_bipush_14, li_bipush_16, li_bipush_17, li_bipush_18, li_bipush_20, li_bipush_21, li_bipush_24, li_bipush_32, li_bipush_33, li_bipush_36, li_bipush_37, li_bipush_38, li_bipush_40, li_bipush_41, li_bipush_42, li_bipush_43, li_bipush_45, li_bipush_47, li_bipush_48, li_bipush_50, li_bipush_57, li_bipush_59, li_bipush_60, li_bipush_61, li_bipush_62, li_bipush_63, li_bipush_64, li_bipush_72, li_bipush_91, li_bipush_93, li_bipush_97, li_bipush_99, li_bipush_102, li_bipush_103, li_bipush_107, li_bipush_111, li_bipush_113, li_bipush_124, li_bipush_127, li_iconst_m1, li_iconst_0, li_iconst_1, li_iconst_2, li_iconst_3, li_iconst_4, li_iconst_5, li_sipush_m1000, li_sipush_199, li_sipush_200, li_sipush_220, li_sipush_255, li_sipush_256, li_sipush_999, li_sipush_1000, li_sipush_1008, li_sipush_2048, li_sipush_2304, li_sipush_9999, li_sipush_13849, li_sipush_25173, li_ldc_65535, li_ldc_65536, li_ldc_1048576, li_ldc_252645135, li_ldc_858993459, li_ldc_1000000000, li_ldc_1431655765, li_0] at *; omega)) | refine wG_put rfl rfl (Nat.le_of_ble_eq_true rfl) rfl rfl ?_ | refine wG_ildF hF rfl rfl rfl ?_ ?_ | refine wG_bldF hF rfl (Or.inl rfl) rfl rfl ?_ ?_ | refine wG_ild rfl rfl ?_ ?_ | refine wG_ist rfl rfl ?_ ?_ | refine wG_bld rfl (Or.inl rfl) rfl ?_ ?_ | refine wG_zst rfl rfl ?_ ?_ | refine wG_call rfl rfl rfl (wR_in rfl (Nat.le_of_ble_eq_true rfl) ?_) | refine wG_ret rfl rfl ?_ | refine wG_step rfl rfl rfl rfl ?_)
  all_goals (try simp only [li_hz, pc_lt, pc_nlt, pc_ge, pc_nge, pc_gt, pc_ngt, pc_le, pc_nle, pc_eq, pc_neq, pc_ne, pc_nne, li_bipush_m3, li_bipush_m2, li_bipush_6, li_bipush_7, li_bipush_8, li_bipush_9, li_bipush_10, li_bipush_11, li_bipush_12, li_bipush_13, li_bipush_14, li_bipush_16, li_bipush_17, li_bipush_18, li_bipush_20, li_bipush_21, li_bipush_24, li_bipush_32, li_bipush_33, li_bipush_36, li_bipush_37, li_bipush_38, li_bipush_40, li_bipush_41, li_bipush_42, li_bipush_43, li_bipush_45, li_bipush_47, li_bipush_48, li_bipush_50, li_bipush_57, li_bipush_59, li_bipush_60, li_bipush_61, li_bipush_62, li_bipush_63, li_bipush_64, li_bipush_72, li_bipush_91, li_bipush_93, li_bipush_97, li_bipush_99, li_bipush_102, li_bipush_103, li_bipush_107, li_bipush_111, li_bipush_113, li_bipush_124, li_bipush_127, li_iconst_m1, li_iconst_0, li_iconst_1, li_iconst_2, li_iconst_3, li_iconst_4, li_iconst_5, li_sipush_m1000, li_sipush_199, li_sipush_200, li_sipush_220, li_sipush_255, li_sipush_256, li_sipush_999, li_sipush_1000, li_sipush_1008, li_sipush_2048, li_sipush_2304, li_sipush_9999, li_sipush_13849, li_sipush_25173, li_ldc_65535, li_ldc_65536, li_ldc_1048576, li_ldc_252645135, li_ldc_858993459, li_ldc_1000000000, li_ldc_1431655765, li_0] at *)
  all_goals first
    | (exfalso; omega)
    | (rw [vp_in_iff]; omega)
    | (refine ⟨?_, by simp [gC]⟩; first | (rw [if_pos (by omega)]; rfl) | (rw [if_neg (by omega)]; rfl))

set_option maxHeartbeats 800000 in
set_option maxRecDepth 20000 in
theorem an_ropeM (a b c : Int32) (f : Nat → Nat → Int32) (g : Nat → Nat → Int64) (hF : fr_ok vlM f) : wR 12 158 [.ref 0, .int a, .int b, .int c] (gM f g) (fun v h => v = some (.int (if 0 ≤ a.toInt ∧ a.toInt ≤ 7 ∧ 0 ≤ b.toInt ∧ b.toInt ≤ 999 ∧ 0 ≤ c.toInt ∧ c.toInt ≤ 99 then 1 else 0)) ∧ h.length = 64) := by
  refine wR_in rfl (Nat.le_of_ble_eq_true rfl) ?_
  repeat' (first | refine wG_b1t rfl (by decide) ?_ | refine wG_b1f rfl (by decide) ?_ | refine wG_b2t rfl (by decide) ?_ | refine wG_b2f rfl (by decide) ?_ | (refine wG_b1 rfl (fun _ => ?_) (fun _ => ?_) <;> try (exfalso; simp only [li_hz, pc_lt, pc_nlt, pc_ge, pc_nge, pc_gt, pc_ngt, pc_le, pc_nle, pc_eq, pc_neq, pc_ne, pc_nne, li_bipush_m3, li_bipush_m2, li_bipush_6, li_bipush_7, li_bipush_8, li_bipush_9, li_bipush_10, li_bipush_11, li_bipush_12, li_bipush_13, li_bipush_14, li_bipush_16, li_bipush_17, li_bipush_18, li_bipush_20, li_bipush_21, li_bipush_24, li_bipush_32, li_bipush_33, li_bipush_36, li_bipush_37, li_bipush_38, li_bipush_40, li_bipush_41, li_bipush_42, li_bipush_43, li_bipush_45, li_bipush_47, li_bipush_48, li_bipush_50, li_bipush_57, li_bipush_59, li_bipush_60, li_bipush_61, li_bipush_62, li_bipush_63, li_bipush_64, li_bipush_72, li_bipush_91, li_bipush_93, li_bipush_97, li_bipush_99, li_bipush_102, li_bipush_103, li_bipush_107, li_bipush_111, li_bipush_113, li_bipush_124, li_bipush_127, li_iconst_m1, li_iconst_0, li_iconst_1, li_iconst_2, li_iconst_3, li_iconst_4, li_iconst_5, li_sipush_m1000, li_sipush_199, li_sipush_200, li_sipush_220, li_sipush_255, li_sipush_256, li_sipush_999, li_sipush_1000, li_sipush_1008, li_sipush_2048, li_sipush_2304, li_sipush_9999, li_sipush_13849, li_sipush_25173, li_ldc_65535, li_ldc_65536, li_ldc_1048576, li_ldc_252645135, li_ldc_858993459, li_ldc_1000000000, li_ldc_1431655765, li_0] at *; omega)) | (refine wG_b2 rfl (fun _ => ?_) (fun _ => ?_) <;> try (exfalso; simp only [li_hz, pc_lt, pc_nlt, pc_ge, pc_nge, pc_gt, pc_ngt, pc_le, pc_nle, pc_eq, pc_neq, pc_ne, pc_nne, li_bipush_m3, li_bipush_m2, li_bipush_6, li_bipush_7, li_bipush_8, li_bipush_9, li_bipush_10, li_bipush_11, li_bipush_12, li_bipush_13, li_bipush_14, li_bipush_16, li_bipush_17, li_bipush_18, li_bipush_20, li_bipush_21, li_bipush_24, li_bipush_32, li_bipush_33, li_bipush_36, li_bipush_37, li_bipush_38, li_bipush_40, li_bipush_41, li_bipush_42, li_bipush_43, li_bipush_45, li_bipush_47, li_bipush_48, li_bipush_50, li_bipush_57, li_bipush_59, li_bipush_60, li_bipush_61, li_bipush_62, li_bipush_63, li_bipush_64, li_bipush_72, li_bipush_91, li_bipush_93, li_bipush_97, li_bipush_99, li_bipush_102, li_bipush_103, li_bipush_107, li_bipush_111, li_bipush_113, li_bipush_124, li_bipush_127, li_iconst_m1, li_iconst_0, li_iconst_1, li_iconst_2, li_iconst_3, li_iconst_4, li_iconst_5, li_sipush_m1000, li_sipush_199, li_sipush_200, li_sipush_220, li_sipush_255, li_sipush_256, li_sipush_999, li_sipush_1000, li_sipush_1008, li_sipush_2048, li_sipush_2304, li_sipush_9999, li_sipush_13849, li_sipush_25173, li_ldc_65535, li_ldc_65536, li_ldc_1048576, li_ldc_252645135, li_ldc_858993459, li_ldc_1000000000, li_ldc_1431655765, li_0] at *; omega)) | refine wG_put rfl rfl (Nat.le_of_ble_eq_true rfl) rfl rfl ?_ | refine wG_ildF hF rfl rfl rfl ?_ ?_ | refine wG_bldF hF rfl (Or.inl rfl) rfl rfl ?_ ?_ | refine wG_ild rfl rfl ?_ ?_ | refine wG_ist rfl rfl ?_ ?_ | refine wG_bld rfl (Or.inl rfl) rfl ?_ ?_ | refine wG_zst rfl rfl ?_ ?_ | refine wG_call rfl rfl rfl (wR_in rfl (Nat.le_of_ble_eq_true rfl) ?_) | refine wG_ret rfl rfl ?_ | refine wG_step rfl rfl rfl rfl ?_)
  all_goals (try simp only [li_hz, pc_lt, pc_nlt, pc_ge, pc_nge, pc_gt, pc_ngt, pc_le, pc_nle, pc_eq, pc_neq, pc_ne, pc_nne, li_bipush_m3, li_bipush_m2, li_bipush_6, li_bipush_7, li_bipush_8, li_bipush_9, li_bipush_10, li_bipush_11, li_bipush_12, li_bipush_13, li_bipush_14, li_bipush_16, li_bipush_17, li_bipush_18, li_bipush_20, li_bipush_21, li_bipush_24, li_bipush_32, li_bipush_33, li_bipush_36, li_bipush_37, li_bipush_38, li_bipush_40, li_bipush_41, li_bipush_42, li_bipush_43, li_bipush_45, li_bipush_47, li_bipush_48, li_bipush_50, li_bipush_57, li_bipush_59, li_bipush_60, li_bipush_61, li_bipush_62, li_bipush_63, li_bipush_64, li_bipush_72, li_bipush_91, li_bipush_93, li_bipush_97, li_bipush_99, li_bipush_102, li_bipush_103, li_bipush_107, li_bipush_111, li_bipush_113, li_bipush_124, li_bipush_127, li_iconst_m1, li_iconst_0, li_iconst_1, li_iconst_2, li_iconst_3, li_iconst_4, li_iconst_5, li_sipush_m1000, li_sipush_199, li_sipush_200, li_sipush_220, li_sipush_255, li_sipush_256, li_sipush_999, li_sipush_1000, li_sipush_1008, li_sipush_2048, li_sipush_2304, li_sipush_9999, li_sipush_13849, li_sipush_25173, li_ldc_65535, li_ldc_65536, li_ldc_1048576, li_ldc_252645135, li_ldc_858993459, li_ldc_1000000000, li_ldc_1431655765, li_0] at *)
  all_goals first
    | (exfalso; omega)
    | (rw [vp_in_iff]; omega)
    | (refine ⟨?_, by simp [gM]⟩; first | (rw [if_pos (by omega)]; rfl) | (rw [if_neg (by omega)]; rfl))

set_option maxHeartbeats 800000 in
set_option maxRecDepth 20000 in
theorem an_kindC (a b c e : Int32) (f : Nat → Nat → Int32) (g : Nat → Nat → Int64) (hF : fr_ok vlC f) : wR 12 97 [.ref 0, .int a, .int b, .int c, .int e] (gC f g) (fun v h => v = some (.int (if 0 ≤ a.toInt ∧ a.toInt ≤ 5 ∧ 0 ≤ b.toInt ∧ b.toInt ≤ 20 ∧ 1 ≤ c.toInt ∧ c.toInt ≤ 200 ∧ 0 ≤ e.toInt ∧ e.toInt ≤ 99 then 1 else 0)) ∧ h.length = 79) := by
  refine wR_in rfl (Nat.le_of_ble_eq_true rfl) ?_
  repeat' (first | refine wG_b1t rfl (by decide) ?_ | refine wG_b1f rfl (by decide) ?_ | refine wG_b2t rfl (by decide) ?_ | refine wG_b2f rfl (by decide) ?_ | (refine wG_b1 rfl (fun _ => ?_) (fun _ => ?_) <;> try (exfalso; simp only [li_hz, pc_lt, pc_nlt, pc_ge, pc_nge, pc_gt, pc_ngt, pc_le, pc_nle, pc_eq, pc_neq, pc_ne, pc_nne, li_bipush_m3, li_bipush_m2, li_bipush_6, li_bipush_7, li_bipush_8, li_bipush_9, li_bipush_10, li_bipush_11, li_bipush_12, li_bipush_13, li_bipush_14, li_bipush_16, li_bipush_17, li_bipush_18, li_bipush_20, li_bipush_21, li_bipush_24, li_bipush_32, li_bipush_33, li_bipush_36, li_bipush_37, li_bipush_38, li_bipush_40, li_bipush_41, li_bipush_42, li_bipush_43, li_bipush_45, li_bipush_47, li_bipush_48, li_bipush_50, li_bipush_57, li_bipush_59, li_bipush_60, li_bipush_61, li_bipush_62, li_bipush_63, li_bipush_64, li_bipush_72, li_bipush_91, li_bipush_93, li_bipush_97, li_bipush_99, li_bipush_102, li_bipush_103, li_bipush_107, li_bipush_111, li_bipush_113, li_bipush_124, li_bipush_127, li_iconst_m1, li_iconst_0, li_iconst_1, li_iconst_2, li_iconst_3, li_iconst_4, li_iconst_5, li_sipush_m1000, li_sipush_199, li_sipush_200, li_sipush_220, li_sipush_255, li_sipush_256, li_sipush_999, li_sipush_1000, li_sipush_1008, li_sipush_2048, li_sipush_2304, li_sipush_9999, li_sipush_13849, li_sipush_25173, li_ldc_65535, li_ldc_65536, li_ldc_1048576, li_ldc_252645135, li_ldc_858993459, li_ldc_1000000000, li_ldc_1431655765, li_0] at *; omega)) | (refine wG_b2 rfl (fun _ => ?_) (fun _ => ?_) <;> try (exfalso; simp only [li_hz, pc_lt, pc_nlt, pc_ge, pc_nge, pc_gt, pc_ngt, pc_le, pc_nle, pc_eq, pc_neq, pc_ne, pc_nne, li_bipush_m3, li_bipush_m2, li_bipush_6, li_bipush_7, li_bipush_8, li_bipush_9, li_bipush_10, li_bipush_11, li_bipush_12, li_bipush_13, li_bipush_14, li_bipush_16, li_bipush_17, li_bipush_18, li_bipush_20, li_bipush_21, li_bipush_24, li_bipush_32, li_bipush_33, li_bipush_36, li_bipush_37, li_bipush_38, li_bipush_40, li_bipush_41, li_bipush_42, li_bipush_43, li_bipush_45, li_bipush_47, li_bipush_48, li_bipush_50, li_bipush_57, li_bipush_59, li_bipush_60, li_bipush_61, li_bipush_62, li_bipush_63, li_bipush_64, li_bipush_72, li_bipush_91, li_bipush_93, li_bipush_97, li_bipush_99, li_bipush_102, li_bipush_103, li_bipush_107, li_bipush_111, li_bipush_113, li_bipush_124, li_bipush_127, li_iconst_m1, li_iconst_0, li_iconst_1, li_iconst_2, li_iconst_3, li_iconst_4, li_iconst_5, li_sipush_m1000, li_sipush_199, li_sipush_200, li_sipush_220, li_sipush_255, li_sipush_256, li_sipush_999, li_sipush_1000, li_sipush_1008, li_sipush_2048, li_sipush_2304, li_sipush_9999, li_sipush_13849, li_sipush_25173, li_ldc_65535, li_ldc_65536, li_ldc_1048576, li_ldc_252645135, li_ldc_858993459, li_ldc_1000000000, li_ldc_1431655765, li_0] at *; omega)) | refine wG_put rfl rfl (Nat.le_of_ble_eq_true rfl) rfl rfl ?_ | refine wG_ildF hF rfl rfl rfl ?_ ?_ | refine wG_bldF hF rfl (Or.inl rfl) rfl rfl ?_ ?_ | refine wG_ild rfl rfl ?_ ?_ | refine wG_ist rfl rfl ?_ ?_ | refine wG_bld rfl (Or.inl rfl) rfl ?_ ?_ | refine wG_zst rfl rfl ?_ ?_ | refine wG_call rfl rfl rfl (wR_in rfl (Nat.le_of_ble_eq_true rfl) ?_) | refine wG_ret rfl rfl ?_ | refine wG_step rfl rfl rfl rfl ?_)
  all_goals (try simp only [li_hz, pc_lt, pc_nlt, pc_ge, pc_nge, pc_gt, pc_ngt, pc_le, pc_nle, pc_eq, pc_neq, pc_ne, pc_nne, li_bipush_m3, li_bipush_m2, li_bipush_6, li_bipush_7, li_bipush_8, li_bipush_9, li_bipush_10, li_bipush_11, li_bipush_12, li_bipush_13, li_bipush_14, li_bipush_16, li_bipush_17, li_bipush_18, li_bipush_20, li_bipush_21, li_bipush_24, li_bipush_32, li_bipush_33, li_bipush_36, li_bipush_37, li_bipush_38, li_bipush_40, li_bipush_41, li_bipush_42, li_bipush_43, li_bipush_45, li_bipush_47, li_bipush_48, li_bipush_50, li_bipush_57, li_bipush_59, li_bipush_60, li_bipush_61, li_bipush_62, li_bipush_63, li_bipush_64, li_bipush_72, li_bipush_91, li_bipush_93, li_bipush_97, li_bipush_99, li_bipush_102, li_bipush_103, li_bipush_107, li_bipush_111, li_bipush_113, li_bipush_124, li_bipush_127, li_iconst_m1, li_iconst_0, li_iconst_1, li_iconst_2, li_iconst_3, li_iconst_4, li_iconst_5, li_sipush_m1000, li_sipush_199, li_sipush_200, li_sipush_220, li_sipush_255, li_sipush_256, li_sipush_999, li_sipush_1000, li_sipush_1008, li_sipush_2048, li_sipush_2304, li_sipush_9999, li_sipush_13849, li_sipush_25173, li_ldc_65535, li_ldc_65536, li_ldc_1048576, li_ldc_252645135, li_ldc_858993459, li_ldc_1000000000, li_ldc_1431655765, li_0] at *)
  all_goals first
    | (exfalso; omega)
    | (rw [vp_in_iff]; omega)
    | (refine ⟨?_, by simp [gC]⟩; first | (rw [if_pos (by omega)]; rfl) | (rw [if_neg (by omega)]; rfl))

set_option maxHeartbeats 800000 in
set_option maxRecDepth 20000 in
theorem an_kindM (a b c e : Int32) (f : Nat → Nat → Int32) (g : Nat → Nat → Int64) (hF : fr_ok vlM f) : wR 12 154 [.ref 0, .int a, .int b, .int c, .int e] (gM f g) (fun v h => v = some (.int (if 0 ≤ a.toInt ∧ a.toInt ≤ 5 ∧ 0 ≤ b.toInt ∧ b.toInt ≤ 20 ∧ 1 ≤ c.toInt ∧ c.toInt ≤ 200 ∧ 0 ≤ e.toInt ∧ e.toInt ≤ 99 then 1 else 0)) ∧ h.length = 64) := by
  refine wR_in rfl (Nat.le_of_ble_eq_true rfl) ?_
  repeat' (first | refine wG_b1t rfl (by decide) ?_ | refine wG_b1f rfl (by decide) ?_ | refine wG_b2t rfl (by decide) ?_ | refine wG_b2f rfl (by decide) ?_ | (refine wG_b1 rfl (fun _ => ?_) (fun _ => ?_) <;> try (exfalso; simp only [li_hz, pc_lt, pc_nlt, pc_ge, pc_nge, pc_gt, pc_ngt, pc_le, pc_nle, pc_eq, pc_neq, pc_ne, pc_nne, li_bipush_m3, li_bipush_m2, li_bipush_6, li_bipush_7, li_bipush_8, li_bipush_9, li_bipush_10, li_bipush_11, li_bipush_12, li_bipush_13, li_bipush_14, li_bipush_16, li_bipush_17, li_bipush_18, li_bipush_20, li_bipush_21, li_bipush_24, li_bipush_32, li_bipush_33, li_bipush_36, li_bipush_37, li_bipush_38, li_bipush_40, li_bipush_41, li_bipush_42, li_bipush_43, li_bipush_45, li_bipush_47, li_bipush_48, li_bipush_50, li_bipush_57, li_bipush_59, li_bipush_60, li_bipush_61, li_bipush_62, li_bipush_63, li_bipush_64, li_bipush_72, li_bipush_91, li_bipush_93, li_bipush_97, li_bipush_99, li_bipush_102, li_bipush_103, li_bipush_107, li_bipush_111, li_bipush_113, li_bipush_124, li_bipush_127, li_iconst_m1, li_iconst_0, li_iconst_1, li_iconst_2, li_iconst_3, li_iconst_4, li_iconst_5, li_sipush_m1000, li_sipush_199, li_sipush_200, li_sipush_220, li_sipush_255, li_sipush_256, li_sipush_999, li_sipush_1000, li_sipush_1008, li_sipush_2048, li_sipush_2304, li_sipush_9999, li_sipush_13849, li_sipush_25173, li_ldc_65535, li_ldc_65536, li_ldc_1048576, li_ldc_252645135, li_ldc_858993459, li_ldc_1000000000, li_ldc_1431655765, li_0] at *; omega)) | (refine wG_b2 rfl (fun _ => ?_) (fun _ => ?_) <;> try (exfalso; simp only [li_hz, pc_lt, pc_nlt, pc_ge, pc_nge, pc_gt, pc_ngt, pc_le, pc_nle, pc_eq, pc_neq, pc_ne, pc_nne, li_bipush_m3, li_bipush_m2, li_bipush_6, li_bipush_7, li_bipush_8, li_bipush_9, li_bipush_10, li_bipush_11, li_bipush_12, li_bipush_13, li_bipush_14, li_bipush_16, li_bipush_17, li_bipush_18, li_bipush_20, li_bipush_21, li_bipush_24, li_bipush_32, li_bipush_33, li_bipush_36, li_bipush_37, li_bipush_38, li_bipush_40, li_bipush_41, li_bipush_42, li_bipush_43, li_bipush_45, li_bipush_47, li_bipush_48, li_bipush_50, li_bipush_57, li_bipush_59, li_bipush_60, li_bipush_61, li_bipush_62, li_bipush_63, li_bipush_64, li_bipush_72, li_bipush_91, li_bipush_93, li_bipush_97, li_bipush_99, li_bipush_102, li_bipush_103, li_bipush_107, li_bipush_111, li_bipush_113, li_bipush_124, li_bipush_127, li_iconst_m1, li_iconst_0, li_iconst_1, li_iconst_2, li_iconst_3, li_iconst_4, li_iconst_5, li_sipush_m1000, li_sipush_199, li_sipush_200, li_sipush_220, li_sipush_255, li_sipush_256, li_sipush_999, li_sipush_1000, li_sipush_1008, li_sipush_2048, li_sipush_2304, li_sipush_9999, li_sipush_13849, li_sipush_25173, li_ldc_65535, li_ldc_65536, li_ldc_1048576, li_ldc_252645135, li_ldc_858993459, li_ldc_1000000000, li_ldc_1431655765, li_0] at *; omega)) | refine wG_put rfl rfl (Nat.le_of_ble_eq_true rfl) rfl rfl ?_ | refine wG_ildF hF rfl rfl rfl ?_ ?_ | refine wG_bldF hF rfl (Or.inl rfl) rfl rfl ?_ ?_ | refine wG_ild rfl rfl ?_ ?_ | refine wG_ist rfl rfl ?_ ?_ | refine wG_bld rfl (Or.inl rfl) rfl ?_ ?_ | refine wG_zst rfl rfl ?_ ?_ | refine wG_call rfl rfl rfl (wR_in rfl (Nat.le_of_ble_eq_true rfl) ?_) | refine wG_ret rfl rfl ?_ | refine wG_step rfl rfl rfl rfl ?_)
  all_goals (try simp only [li_hz, pc_lt, pc_nlt, pc_ge, pc_nge, pc_gt, pc_ngt, pc_le, pc_nle, pc_eq, pc_neq, pc_ne, pc_nne, li_bipush_m3, li_bipush_m2, li_bipush_6, li_bipush_7, li_bipush_8, li_bipush_9, li_bipush_10, li_bipush_11, li_bipush_12, li_bipush_13, li_bipush_14, li_bipush_16, li_bipush_17, li_bipush_18, li_bipush_20, li_bipush_21, li_bipush_24, li_bipush_32, li_bipush_33, li_bipush_36, li_bipush_37, li_bipush_38, li_bipush_40, li_bipush_41, li_bipush_42, li_bipush_43, li_bipush_45, li_bipush_47, li_bipush_48, li_bipush_50, li_bipush_57, li_bipush_59, li_bipush_60, li_bipush_61, li_bipush_62, li_bipush_63, li_bipush_64, li_bipush_72, li_bipush_91, li_bipush_93, li_bipush_97, li_bipush_99, li_bipush_102, li_bipush_103, li_bipush_107, li_bipush_111, li_bipush_113, li_bipush_124, li_bipush_127, li_iconst_m1, li_iconst_0, li_iconst_1, li_iconst_2, li_iconst_3, li_iconst_4, li_iconst_5, li_sipush_m1000, li_sipush_199, li_sipush_200, li_sipush_220, li_sipush_255, li_sipush_256, li_sipush_999, li_sipush_1000, li_sipush_1008, li_sipush_2048, li_sipush_2304, li_sipush_9999, li_sipush_13849, li_sipush_25173, li_ldc_65535, li_ldc_65536, li_ldc_1048576, li_ldc_252645135, li_ldc_858993459, li_ldc_1000000000, li_ldc_1431655765, li_0] at *)
  all_goals first
    | (exfalso; omega)
    | (rw [vp_in_iff]; omega)
    | (refine ⟨?_, by simp [gM]⟩; first | (rw [if_pos (by omega)]; rfl) | (rw [if_neg (by omega)]; rfl))

set_option maxHeartbeats 800000 in
set_option maxRecDepth 20000 in
theorem an_knotC (a b c : Int32) (f : Nat → Nat → Int32) (g : Nat → Nat → Int64) (hF : fr_ok vlC f) : wR 12 96 [.ref 0, .int a, .int b, .int c] (gC f g) (fun v h => v = some (.int (if (0 : Int) ≤ 0 then 0 else 0)) ∧ h.length = 79) := by
  refine wR_in rfl (Nat.le_of_ble_eq_true rfl) ?_
  repeat' (first | refine wG_b1t rfl (by decide) ?_ | refine wG_b1f rfl (by decide) ?_ | refine wG_b2t rfl (by decide) ?_ | refine wG_b2f rfl (by decide) ?_ | (refine wG_b1 rfl (fun _ => ?_) (fun _ => ?_) <;> try (exfalso; simp only [li_hz, pc_lt, pc_nlt, pc_ge, pc_nge, pc_gt, pc_ngt, pc_le, pc_nle, pc_eq, pc_neq, pc_ne, pc_nne, li_bipush_m3, li_bipush_m2, li_bipush_6, li_bipush_7, li_bipush_8, li_bipush_9, li_bipush_10, li_bipush_11, li_bipush_12, li_bipush_13, li_bipush_14, li_bipush_16, li_bipush_17, li_bipush_18, li_bipush_20, li_bipush_21, li_bipush_24, li_bipush_32, li_bipush_33, li_bipush_36, li_bipush_37, li_bipush_38, li_bipush_40, li_bipush_41, li_bipush_42, li_bipush_43, li_bipush_45, li_bipush_47, li_bipush_48, li_bipush_50, li_bipush_57, li_bipush_59, li_bipush_60, li_bipush_61, li_bipush_62, li_bipush_63, li_bipush_64, li_bipush_72, li_bipush_91, li_bipush_93, li_bipush_97, li_bipush_99, li_bipush_102, li_bipush_103, li_bipush_107, li_bipush_111, li_bipush_113, li_bipush_124, li_bipush_127, li_iconst_m1, li_iconst_0, li_iconst_1, li_iconst_2, li_iconst_3, li_iconst_4, li_iconst_5, li_sipush_m1000, li_sipush_199, li_sipush_200, li_sipush_220, li_sipush_255, li_sipush_256, li_sipush_999, li_sipush_1000, li_sipush_1008, li_sipush_2048, li_sipush_2304, li_sipush_9999, li_sipush_13849, li_sipush_25173, li_ldc_65535, li_ldc_65536, li_ldc_1048576, li_ldc_252645135, li_ldc_858993459, li_ldc_1000000000, li_ldc_1431655765, li_0] at *; omega)) | (refine wG_b2 rfl (fun _ => ?_) (fun _ => ?_) <;> try (exfalso; simp only [li_hz, pc_lt, pc_nlt, pc_ge, pc_nge, pc_gt, pc_ngt, pc_le, pc_nle, pc_eq, pc_neq, pc_ne, pc_nne, li_bipush_m3, li_bipush_m2, li_bipush_6, li_bipush_7, li_bipush_8, li_bipush_9, li_bipush_10, li_bipush_11, li_bipush_12, li_bipush_13, li_bipush_14, li_bipush_16, li_bipush_17, li_bipush_18, li_bipush_20, li_bipush_21, li_bipush_24, li_bipush_32, li_bipush_33, li_bipush_36, li_bipush_37, li_bipush_38, li_bipush_40, li_bipush_41, li_bipush_42, li_bipush_43, li_bipush_45, li_bipush_47, li_bipush_48, li_bipush_50, li_bipush_57, li_bipush_59, li_bipush_60, li_bipush_61, li_bipush_62, li_bipush_63, li_bipush_64, li_bipush_72, li_bipush_91, li_bipush_93, li_bipush_97, li_bipush_99, li_bipush_102, li_bipush_103, li_bipush_107, li_bipush_111, li_bipush_113, li_bipush_124, li_bipush_127, li_iconst_m1, li_iconst_0, li_iconst_1, li_iconst_2, li_iconst_3, li_iconst_4, li_iconst_5, li_sipush_m1000, li_sipush_199, li_sipush_200, li_sipush_220, li_sipush_255, li_sipush_256, li_sipush_999, li_sipush_1000, li_sipush_1008, li_sipush_2048, li_sipush_2304, li_sipush_9999, li_sipush_13849, li_sipush_25173, li_ldc_65535, li_ldc_65536, li_ldc_1048576, li_ldc_252645135, li_ldc_858993459, li_ldc_1000000000, li_ldc_1431655765, li_0] at *; omega)) | refine wG_put rfl rfl (Nat.le_of_ble_eq_true rfl) rfl rfl ?_ | refine wG_ildF hF rfl rfl rfl ?_ ?_ | refine wG_bldF hF rfl (Or.inl rfl) rfl rfl ?_ ?_ | refine wG_ild rfl rfl ?_ ?_ | refine wG_ist rfl rfl ?_ ?_ | refine wG_bld rfl (Or.inl rfl) rfl ?_ ?_ | refine wG_zst rfl rfl ?_ ?_ | refine wG_call rfl rfl rfl (wR_in rfl (Nat.le_of_ble_eq_true rfl) ?_) | refine wG_ret rfl rfl ?_ | refine wG_step rfl rfl rfl rfl ?_)
  all_goals (try have e1 := i_at1 a b)
  all_goals (try have e2 := i_at2 a b)
  all_goals (try simp only [li_hz, pc_lt, pc_nlt, pc_ge, pc_nge, pc_gt, pc_ngt, pc_le, pc_nle, pc_eq, pc_neq, pc_ne, pc_nne, li_bipush_m3, li_bipush_m2, li_bipush_6, li_bipush_7, li_bipush_8, li_bipush_9, li_bipush_10, li_bipush_11, li_bipush_12, li_bipush_13, li_bipush_14, li_bipush_16, li_bipush_17, li_bipush_18, li_bipush_20, li_bipush_21, li_bipush_24, li_bipush_32, li_bipush_33, li_bipush_36, li_bipush_37, li_bipush_38, li_bipush_40, li_bipush_41, li_bipush_42, li_bipush_43, li_bipush_45, li_bipush_47, li_bipush_48, li_bipush_50, li_bipush_57, li_bipush_59, li_bipush_60, li_bipush_61, li_bipush_62, li_bipush_63, li_bipush_64, li_bipush_72, li_bipush_91, li_bipush_93, li_bipush_97, li_bipush_99, li_bipush_102, li_bipush_103, li_bipush_107, li_bipush_111, li_bipush_113, li_bipush_124, li_bipush_127, li_iconst_m1, li_iconst_0, li_iconst_1, li_iconst_2, li_iconst_3, li_iconst_4, li_iconst_5, li_sipush_m1000, li_sipush_199, li_sipush_200, li_sipush_220, li_sipush_255, li_sipush_256, li_sipush_999, li_sipush_1000, li_sipush_1008, li_sipush_2048, li_sipush_2304, li_sipush_9999, li_sipush_13849, li_sipush_25173, li_ldc_65535, li_ldc_65536, li_ldc_1048576, li_ldc_252645135, li_ldc_858993459, li_ldc_1000000000, li_ldc_1431655765, li_0] at *)
  all_goals first
    | (exfalso; omega)
    | (rw [vp_in_iff]; omega)
    | (refine ⟨?_, by simp [gC]⟩; first | (rw [if_pos (by omega)]; rfl) | (rw [if_neg (by omega)]; rfl))

set_option maxHeartbeats 800000 in
set_option maxRecDepth 20000 in
theorem an_knotM (a b c : Int32) (f : Nat → Nat → Int32) (g : Nat → Nat → Int64) (hF : fr_ok vlM f) : wR 12 153 [.ref 0, .int a, .int b, .int c] (gM f g) (fun v h => v = some (.int (if (0 : Int) ≤ 0 then 0 else 0)) ∧ h.length = 64) := by
  refine wR_in rfl (Nat.le_of_ble_eq_true rfl) ?_
  repeat' (first | refine wG_b1t rfl (by decide) ?_ | refine wG_b1f rfl (by decide) ?_ | refine wG_b2t rfl (by decide) ?_ | refine wG_b2f rfl (by decide) ?_ | (refine wG_b1 rfl (fun _ => ?_) (fun _ => ?_) <;> try (exfalso; simp only [li_hz, pc_lt, pc_nlt, pc_ge, pc_nge, pc_gt, pc_ngt, pc_le, pc_nle, pc_eq, pc_neq, pc_ne, pc_nne, li_bipush_m3, li_bipush_m2, li_bipush_6, li_bipush_7, li_bipush_8, li_bipush_9, li_bipush_10, li_bipush_11, li_bipush_12, li_bipush_13, li_bipush_14, li_bipush_16, li_bipush_17, li_bipush_18, li_bipush_20, li_bipush_21, li_bipush_24, li_bipush_32, li_bipush_33, li_bipush_36, li_bipush_37, li_bipush_38, li_bipush_40, li_bipush_41, li_bipush_42, li_bipush_43, li_bipush_45, li_bipush_47, li_bipush_48, li_bipush_50, li_bipush_57, li_bipush_59, li_bipush_60, li_bipush_61, li_bipush_62, li_bipush_63, li_bipush_64, li_bipush_72, li_bipush_91, li_bipush_93, li_bipush_97, li_bipush_99, li_bipush_102, li_bipush_103, li_bipush_107, li_bipush_111, li_bipush_113, li_bipush_124, li_bipush_127, li_iconst_m1, li_iconst_0, li_iconst_1, li_iconst_2, li_iconst_3, li_iconst_4, li_iconst_5, li_sipush_m1000, li_sipush_199, li_sipush_200, li_sipush_220, li_sipush_255, li_sipush_256, li_sipush_999, li_sipush_1000, li_sipush_1008, li_sipush_2048, li_sipush_2304, li_sipush_9999, li_sipush_13849, li_sipush_25173, li_ldc_65535, li_ldc_65536, li_ldc_1048576, li_ldc_252645135, li_ldc_858993459, li_ldc_1000000000, li_ldc_1431655765, li_0] at *; omega)) | (refine wG_b2 rfl (fun _ => ?_) (fun _ => ?_) <;> try (exfalso; simp only [li_hz, pc_lt, pc_nlt, pc_ge, pc_nge, pc_gt, pc_ngt, pc_le, pc_nle, pc_eq, pc_neq, pc_ne, pc_nne, li_bipush_m3, li_bipush_m2, li_bipush_6, li_bipush_7, li_bipush_8, li_bipush_9, li_bipush_10, li_bipush_11, li_bipush_12, li_bipush_13, li_bipush_14, li_bipush_16, li_bipush_17, li_bipush_18, li_bipush_20, li_bipush_21, li_bipush_24, li_bipush_32, li_bipush_33, li_bipush_36, li_bipush_37, li_bipush_38, li_bipush_40, li_bipush_41, li_bipush_42, li_bipush_43, li_bipush_45, li_bipush_47, li_bipush_48, li_bipush_50, li_bipush_57, li_bipush_59, li_bipush_60, li_bipush_61, li_bipush_62, li_bipush_63, li_bipush_64, li_bipush_72, li_bipush_91, li_bipush_93, li_bipush_97, li_bipush_99, li_bipush_102, li_bipush_103, li_bipush_107, li_bipush_111, li_bipush_113, li_bipush_124, li_bipush_127, li_iconst_m1, li_iconst_0, li_iconst_1, li_iconst_2, li_iconst_3, li_iconst_4, li_iconst_5, li_sipush_m1000, li_sipush_199, li_sipush_200, li_sipush_220, li_sipush_255, li_sipush_256, li_sipush_999, li_sipush_1000, li_sipush_1008, li_sipush_2048, li_sipush_2304, li_sipush_9999, li_sipush_13849, li_sipush_25173, li_ldc_65535, li_ldc_65536, li_ldc_1048576, li_ldc_252645135, li_ldc_858993459, li_ldc_1000000000, li_ldc_1431655765, li_0] at *; omega)) | refine wG_put rfl rfl (Nat.le_of_ble_eq_true rfl) rfl rfl ?_ | refine wG_ildF hF rfl rfl rfl ?_ ?_ | refine wG_bldF hF rfl (Or.inl rfl) rfl rfl ?_ ?_ | refine wG_ild rfl rfl ?_ ?_ | refine wG_ist rfl rfl ?_ ?_ | refine wG_bld rfl (Or.inl rfl) rfl ?_ ?_ | refine wG_zst rfl rfl ?_ ?_ | refine wG_call rfl rfl rfl (wR_in rfl (Nat.le_of_ble_eq_true rfl) ?_) | refine wG_ret rfl rfl ?_ | refine wG_step rfl rfl rfl rfl ?_)
  all_goals (try have e1 := i_at1 a b)
  all_goals (try have e2 := i_at2 a b)
  all_goals (try simp only [li_hz, pc_lt, pc_nlt, pc_ge, pc_nge, pc_gt, pc_ngt, pc_le, pc_nle, pc_eq, pc_neq, pc_ne, pc_nne, li_bipush_m3, li_bipush_m2, li_bipush_6, li_bipush_7, li_bipush_8, li_bipush_9, li_bipush_10, li_bipush_11, li_bipush_12, li_bipush_13, li_bipush_14, li_bipush_16, li_bipush_17, li_bipush_18, li_bipush_20, li_bipush_21, li_bipush_24, li_bipush_32, li_bipush_33, li_bipush_36, li_bipush_37, li_bipush_38, li_bipush_40, li_bipush_41, li_bipush_42, li_bipush_43, li_bipush_45, li_bipush_47, li_bipush_48, li_bipush_50, li_bipush_57, li_bipush_59, li_bipush_60, li_bipush_61, li_bipush_62, li_bipush_63, li_bipush_64, li_bipush_72, li_bipush_91, li_bipush_93, li_bipush_97, li_bipush_99, li_bipush_102, li_bipush_103, li_bipush_107, li_bipush_111, li_bipush_113, li_bipush_124, li_bipush_127, li_iconst_m1, li_iconst_0, li_iconst_1, li_iconst_2, li_iconst_3, li_iconst_4, li_iconst_5, li_sipush_m1000, li_sipush_199, li_sipush_200, li_sipush_220, li_sipush_255, li_sipush_256, li_sipush_999, li_sipush_1000, li_sipush_1008, li_sipush_2048, li_sipush_2304, li_sipush_9999, li_sipush_13849, li_sipush_25173, li_ldc_65535, li_ldc_65536, li_ldc_1048576, li_ldc_252645135, li_ldc_858993459, li_ldc_1000000000, li_ldc_1431655765, li_0] at *)
  all_goals first
    | (exfalso; omega)
    | (rw [vp_in_iff]; omega)
    | (refine ⟨?_, by simp [gM]⟩; first | (rw [if_pos (by omega)]; rfl) | (rw [if_neg (by omega)]; rfl))
end
section
set_option maxHeartbeats 800000 in
set_option maxRecDepth 20000 in
theorem an_lawC (a : Int32) (f : Nat → Nat → Int32) (g : Nat → Nat → Int64) (hF : fr_ok vlC f) : wR 12 104 [.ref 0, .int a] (gC f g) (fun v h => v = some (.int (if (0 : Int) ≤ 0 then -1 else -1)) ∧ h.length = 79) := by
  refine wR_in rfl (Nat.le_of_ble_eq_true rfl) ?_
  repeat' (first | refine wG_b1t rfl (by decide) ?_ | refine wG_b1f rfl (by decide) ?_ | refine wG_b2t rfl (by decide) ?_ | refine wG_b2f rfl (by decide) ?_ | (refine wG_b1 rfl (fun _ => ?_) (fun _ => ?_) <;> try (exfalso; simp only [li_hz, pc_lt, pc_nlt, pc_ge, pc_nge, pc_gt, pc_ngt, pc_le, pc_nle, pc_eq, pc_neq, pc_ne, pc_nne, li_bipush_m3, li_bipush_m2, li_bipush_6, li_bipush_7, li_bipush_8, li_bipush_9, li_bipush_10, li_bipush_11, li_bipush_12, li_bipush_13, li_bipush_14, li_bipush_16, li_bipush_17, li_bipush_18, li_bipush_20, li_bipush_21, li_bipush_24, li_bipush_32, li_bipush_33, li_bipush_36, li_bipush_37, li_bipush_38, li_bipush_40, li_bipush_41, li_bipush_42, li_bipush_43, li_bipush_45, li_bipush_47, li_bipush_48, li_bipush_50, li_bipush_57, li_bipush_59, li_bipush_60, li_bipush_61, li_bipush_62, li_bipush_63, li_bipush_64, li_bipush_72, li_bipush_91, li_bipush_93, li_bipush_97, li_bipush_99, li_bipush_102, li_bipush_103, li_bipush_107, li_bipush_111, li_bipush_113, li_bipush_124, li_bipush_127, li_iconst_m1, li_iconst_0, li_iconst_1, li_iconst_2, li_iconst_3, li_iconst_4, li_iconst_5, li_sipush_m1000, li_sipush_199, li_sipush_200, li_sipush_220, li_sipush_255, li_sipush_256, li_sipush_999, li_sipush_1000, li_sipush_1008, li_sipush_2048, li_sipush_2304, li_sipush_9999, li_sipush_13849, li_sipush_25173, li_ldc_65535, li_ldc_65536, li_ldc_1048576, li_ldc_252645135, li_ldc_858993459, li_ldc_1000000000, li_ldc_1431655765, li_0] at *; omega)) | (refine wG_b2 rfl (fun _ => ?_) (fun _ => ?_) <;> try (exfalso; simp only [li_hz, pc_lt, pc_nlt, pc_ge, pc_nge, pc_gt, pc_ngt, pc_le, pc_nle, pc_eq, pc_neq, pc_ne, pc_nne, li_bipush_m3, li_bipush_m2, li_bipush_6, li_bipush_7, li_bipush_8, li_bipush_9, li_bipush_10, li_bipush_11, li_bipush_12, li_bipush_13, li_bipush_14, li_bipush_16, li_bipush_17, li_bipush_18, li_bipush_20, li_bipush_21, li_bipush_24, li_bipush_32, li_bipush_33, li_bipush_36, li_bipush_37, li_bipush_38, li_bipush_40, li_bipush_41, li_bipush_42, li_bipush_43, li_bipush_45, li_bipush_47, li_bipush_48, li_bipush_50, li_bipush_57, li_bipush_59, li_bipush_60, li_bipush_61, li_bipush_62, li_bipush_63, li_bipush_64, li_bipush_72, li_bipush_91, li_bipush_93, li_bipush_97, li_bipush_99, li_bipush_102, li_bipush_103, li_bipush_107, li_bipush_111, li_bipush_113, li_bipush_124, li_bipush_127, li_iconst_m1, li_iconst_0, li_iconst_1, li_iconst_2, li_iconst_3, li_iconst_4, li_iconst_5, li_sipush_m1000, li_sipush_199, li_sipush_200, li_sipush_220, li_sipush_255, li_sipush_256, li_sipush_999, li_sipush_1000, li_sipush_1008, li_sipush_2048, li_sipush_2304, li_sipush_9999, li_sipush_13849, li_sipush_25173, li_ldc_65535, li_ldc_65536, li_ldc_1048576, li_ldc_252645135, li_ldc_858993459, li_ldc_1000000000, li_ldc_1431655765, li_0] at *; omega)) | refine wG_put rfl rfl (Nat.le_of_ble_eq_true rfl) rfl rfl ?_ | refine wG_ildF hF rfl rfl rfl ?_ ?_ | refine wG_bldF hF rfl (Or.inl rfl) rfl rfl ?_ ?_ | refine wG_ild rfl rfl ?_ ?_ | refine wG_ist rfl rfl ?_ ?_ | refine wG_bld rfl (Or.inl rfl) rfl ?_ ?_ | refine wG_zst rfl rfl ?_ ?_ | refine wG_call rfl rfl rfl (wR_in rfl (Nat.le_of_ble_eq_true rfl) ?_) | refine wG_ret rfl rfl ?_ | refine wG_step rfl rfl rfl rfl ?_)
  all_goals (try simp only [li_hz, pc_lt, pc_nlt, pc_ge, pc_nge, pc_gt, pc_ngt, pc_le, pc_nle, pc_eq, pc_neq, pc_ne, pc_nne, li_bipush_m3, li_bipush_m2, li_bipush_6, li_bipush_7, li_bipush_8, li_bipush_9, li_bipush_10, li_bipush_11, li_bipush_12, li_bipush_13, li_bipush_14, li_bipush_16, li_bipush_17, li_bipush_18, li_bipush_20, li_bipush_21, li_bipush_24, li_bipush_32, li_bipush_33, li_bipush_36, li_bipush_37, li_bipush_38, li_bipush_40, li_bipush_41, li_bipush_42, li_bipush_43, li_bipush_45, li_bipush_47, li_bipush_48, li_bipush_50, li_bipush_57, li_bipush_59, li_bipush_60, li_bipush_61, li_bipush_62, li_bipush_63, li_bipush_64, li_bipush_72, li_bipush_91, li_bipush_93, li_bipush_97, li_bipush_99, li_bipush_102, li_bipush_103, li_bipush_107, li_bipush_111, li_bipush_113, li_bipush_124, li_bipush_127, li_iconst_m1, li_iconst_0, li_iconst_1, li_iconst_2, li_iconst_3, li_iconst_4, li_iconst_5, li_sipush_m1000, li_sipush_199, li_sipush_200, li_sipush_220, li_sipush_255, li_sipush_256, li_sipush_999, li_sipush_1000, li_sipush_1008, li_sipush_2048, li_sipush_2304, li_sipush_9999, li_sipush_13849, li_sipush_25173, li_ldc_65535, li_ldc_65536, li_ldc_1048576, li_ldc_252645135, li_ldc_858993459, li_ldc_1000000000, li_ldc_1431655765, li_0] at *)
  all_goals first
    | (exfalso; omega)
    | (rw [vp_in_iff]; omega)
    | (refine ⟨?_, by simp [gC]⟩; first | (rw [if_pos (by omega)]; rfl) | (rw [if_neg (by omega)]; rfl))

set_option maxHeartbeats 800000 in
set_option maxRecDepth 20000 in
theorem an_lawM (a : Int32) (f : Nat → Nat → Int32) (g : Nat → Nat → Int64) (hF : fr_ok vlM f) : wR 12 183 [.ref 0, .int a] (gM f g) (fun v h => v = some (.int (if (0 : Int) ≤ 0 then -1 else -1)) ∧ h.length = 64) := by
  refine wR_in rfl (Nat.le_of_ble_eq_true rfl) ?_
  repeat' (first | refine wG_b1t rfl (by decide) ?_ | refine wG_b1f rfl (by decide) ?_ | refine wG_b2t rfl (by decide) ?_ | refine wG_b2f rfl (by decide) ?_ | (refine wG_b1 rfl (fun _ => ?_) (fun _ => ?_) <;> try (exfalso; simp only [li_hz, pc_lt, pc_nlt, pc_ge, pc_nge, pc_gt, pc_ngt, pc_le, pc_nle, pc_eq, pc_neq, pc_ne, pc_nne, li_bipush_m3, li_bipush_m2, li_bipush_6, li_bipush_7, li_bipush_8, li_bipush_9, li_bipush_10, li_bipush_11, li_bipush_12, li_bipush_13, li_bipush_14, li_bipush_16, li_bipush_17, li_bipush_18, li_bipush_20, li_bipush_21, li_bipush_24, li_bipush_32, li_bipush_33, li_bipush_36, li_bipush_37, li_bipush_38, li_bipush_40, li_bipush_41, li_bipush_42, li_bipush_43, li_bipush_45, li_bipush_47, li_bipush_48, li_bipush_50, li_bipush_57, li_bipush_59, li_bipush_60, li_bipush_61, li_bipush_62, li_bipush_63, li_bipush_64, li_bipush_72, li_bipush_91, li_bipush_93, li_bipush_97, li_bipush_99, li_bipush_102, li_bipush_103, li_bipush_107, li_bipush_111, li_bipush_113, li_bipush_124, li_bipush_127, li_iconst_m1, li_iconst_0, li_iconst_1, li_iconst_2, li_iconst_3, li_iconst_4, li_iconst_5, li_sipush_m1000, li_sipush_199, li_sipush_200, li_sipush_220, li_sipush_255, li_sipush_256, li_sipush_999, li_sipush_1000, li_sipush_1008, li_sipush_2048, li_sipush_2304, li_sipush_9999, li_sipush_13849, li_sipush_25173, li_ldc_65535, li_ldc_65536, li_ldc_1048576, li_ldc_252645135, li_ldc_858993459, li_ldc_1000000000, li_ldc_1431655765, li_0] at *; omega)) | (refine wG_b2 rfl (fun _ => ?_) (fun _ => ?_) <;> try (exfalso; simp only [li_hz, pc_lt, pc_nlt, pc_ge, pc_nge, pc_gt, pc_ngt, pc_le, pc_nle, pc_eq, pc_neq, pc_ne, pc_nne, li_bipush_m3, li_bipush_m2, li_bipush_6, li_bipush_7, li_bipush_8, li_bipush_9, li_bipush_10, li_bipush_11, li_bipush_12, li_bipush_13, li_bipush_14, li_bipush_16, li_bipush_17, li_bipush_18, li_bipush_20, li_bipush_21, li_bipush_24, li_bipush_32, li_bipush_33, li_bipush_36, li_bipush_37, li_bipush_38, li_bipush_40, li_bipush_41, li_bipush_42, li_bipush_43, li_bipush_45, li_bipush_47, li_bipush_48, li_bipush_50, li_bipush_57, li_bipush_59, li_bipush_60, li_bipush_61, li_bipush_62, li_bipush_63, li_bipush_64, li_bipush_72, li_bipush_91, li_bipush_93, li_bipush_97, li_bipush_99, li_bipush_102, li_bipush_103, li_bipush_107, li_bipush_111, li_bipush_113, li_bipush_124, li_bipush_127, li_iconst_m1, li_iconst_0, li_iconst_1, li_iconst_2, li_iconst_3, li_iconst_4, li_iconst_5, li_sipush_m1000, li_sipush_199, li_sipush_200, li_sipush_220, li_sipush_255, li_sipush_256, li_sipush_999, li_sipush_1000, li_sipush_1008, li_sipush_2048, li_sipush_2304, li_sipush_9999, li_sipush_13849, li_sipush_25173, li_ldc_65535, li_ldc_65536, li_ldc_1048576, li_ldc_252645135, li_ldc_858993459, li_ldc_1000000000, li_ldc_1431655765, li_0] at *; omega)) | refine wG_put rfl rfl (Nat.le_of_ble_eq_true rfl) rfl rfl ?_ | refine wG_ildF hF rfl rfl rfl ?_ ?_ | refine wG_bldF hF rfl (Or.inl rfl) rfl rfl ?_ ?_ | refine wG_ild rfl rfl ?_ ?_ | refine wG_ist rfl rfl ?_ ?_ | refine wG_bld rfl (Or.inl rfl) rfl ?_ ?_ | refine wG_zst rfl rfl ?_ ?_ | refine wG_call rfl rfl rfl (wR_in rfl (Nat.le_of_ble_eq_true rfl) ?_) | refine wG_ret rfl rfl ?_ | refine wG_step rfl rfl rfl rfl ?_)
  all_goals (try simp only [li_hz, pc_lt, pc_nlt, pc_ge, pc_nge, pc_gt, pc_ngt, pc_le, pc_nle, pc_eq, pc_neq, pc_ne, pc_nne, li_bipush_m3, li_bipush_m2, li_bipush_6, li_bipush_7, li_bipush_8, li_bipush_9, li_bipush_10, li_bipush_11, li_bipush_12, li_bipush_13, li_bipush_14, li_bipush_16, li_bipush_17, li_bipush_18, li_bipush_20, li_bipush_21, li_bipush_24, li_bipush_32, li_bipush_33, li_bipush_36, li_bipush_37, li_bipush_38, li_bipush_40, li_bipush_41, li_bipush_42, li_bipush_43, li_bipush_45, li_bipush_47, li_bipush_48, li_bipush_50, li_bipush_57, li_bipush_59, li_bipush_60, li_bipush_61, li_bipush_62, li_bipush_63, li_bipush_64, li_bipush_72, li_bipush_91, li_bipush_93, li_bipush_97, li_bipush_99, li_bipush_102, li_bipush_103, li_bipush_107, li_bipush_111, li_bipush_113, li_bipush_124, li_bipush_127, li_iconst_m1, li_iconst_0, li_iconst_1, li_iconst_2, li_iconst_3, li_iconst_4, li_iconst_5, li_sipush_m1000, li_sipush_199, li_sipush_200, li_sipush_220, li_sipush_255, li_sipush_256, li_sipush_999, li_sipush_1000, li_sipush_1008, li_sipush_2048, li_sipush_2304, li_sipush_9999, li_sipush_13849, li_sipush_25173, li_ldc_65535, li_ldc_65536, li_ldc_1048576, li_ldc_252645135, li_ldc_858993459, li_ldc_1000000000, li_ldc_1431655765, li_0] at *)
  all_goals first
    | (exfalso; omega)
    | (rw [vp_in_iff]; omega)
    | (refine ⟨?_, by simp [gM]⟩; first | (rw [if_pos (by omega)]; rfl) | (rw [if_neg (by omega)]; rfl))

set_option maxHeartbeats 800000 in
set_option maxRecDepth 20000 in
theorem an_fallIsC (a b : Int32) (f : Nat → Nat → Int32) (g : Nat → Nat → Int64) (hF : fr_ok vlC f) : wR 12 112 [.ref 0, .int a, .int b] (gC f g) (fun v h => v = some (.int (if (0 : Int) ≤ 0 then -1000 else -1000)) ∧ h.length = 79) := by
  refine wR_in rfl (Nat.le_of_ble_eq_true rfl) ?_
  repeat' (first | refine wG_b1t rfl (by decide) ?_ | refine wG_b1f rfl (by decide) ?_ | refine wG_b2t rfl (by decide) ?_ | refine wG_b2f rfl (by decide) ?_ | (refine wG_b1 rfl (fun _ => ?_) (fun _ => ?_) <;> try (exfalso; simp only [li_hz, pc_lt, pc_nlt, pc_ge, pc_nge, pc_gt, pc_ngt, pc_le, pc_nle, pc_eq, pc_neq, pc_ne, pc_nne, li_bipush_m3, li_bipush_m2, li_bipush_6, li_bipush_7, li_bipush_8, li_bipush_9, li_bipush_10, li_bipush_11, li_bipush_12, li_bipush_13, li_bipush_14, li_bipush_16, li_bipush_17, li_bipush_18, li_bipush_20, li_bipush_21, li_bipush_24, li_bipush_32, li_bipush_33, li_bipush_36, li_bipush_37, li_bipush_38, li_bipush_40, li_bipush_41, li_bipush_42, li_bipush_43, li_bipush_45, li_bipush_47, li_bipush_48, li_bipush_50, li_bipush_57, li_bipush_59, li_bipush_60, li_bipush_61, li_bipush_62, li_bipush_63, li_bipush_64, li_bipush_72, li_bipush_91, li_bipush_93, li_bipush_97, li_bipush_99, li_bipush_102, li_bipush_103, li_bipush_107, li_bipush_111, li_bipush_113, li_bipush_124, li_bipush_127, li_iconst_m1, li_iconst_0, li_iconst_1, li_iconst_2, li_iconst_3, li_iconst_4, li_iconst_5, li_sipush_m1000, li_sipush_199, li_sipush_200, li_sipush_220, li_sipush_255, li_sipush_256, li_sipush_999, li_sipush_1000, li_sipush_1008, li_sipush_2048, li_sipush_2304, li_sipush_9999, li_sipush_13849, li_sipush_25173, li_ldc_65535, li_ldc_65536, li_ldc_1048576, li_ldc_252645135, li_ldc_858993459, li_ldc_1000000000, li_ldc_1431655765, li_0] at *; omega)) | (refine wG_b2 rfl (fun _ => ?_) (fun _ => ?_) <;> try (exfalso; simp only [li_hz, pc_lt, pc_nlt, pc_ge, pc_nge, pc_gt, pc_ngt, pc_le, pc_nle, pc_eq, pc_neq, pc_ne, pc_nne, li_bipush_m3, li_bipush_m2, li_bipush_6, li_bipush_7, li_bipush_8, li_bipush_9, li_bipush_10, li_bipush_11, li_bipush_12, li_bipush_13, li_bipush_14, li_bipush_16, li_bipush_17, li_bipush_18, li_bipush_20, li_bipush_21, li_bipush_24, li_bipush_32, li_bipush_33, li_bipush_36, li_bipush_37, li_bipush_38, li_bipush_40, li_bipush_41, li_bipush_42, li_bipush_43, li_bipush_45, li_bipush_47, li_bipush_48, li_bipush_50, li_bipush_57, li_bipush_59, li_bipush_60, li_bipush_61, li_bipush_62, li_bipush_63, li_bipush_64, li_bipush_72, li_bipush_91, li_bipush_93, li_bipush_97, li_bipush_99, li_bipush_102, li_bipush_103, li_bipush_107, li_bipush_111, li_bipush_113, li_bipush_124, li_bipush_127, li_iconst_m1, li_iconst_0, li_iconst_1, li_iconst_2, li_iconst_3, li_iconst_4, li_iconst_5, li_sipush_m1000, li_sipush_199, li_sipush_200, li_sipush_220, li_sipush_255, li_sipush_256, li_sipush_999, li_sipush_1000, li_sipush_1008, li_sipush_2048, li_sipush_2304, li_sipush_9999, li_sipush_13849, li_sipush_25173, li_ldc_65535, li_ldc_65536, li_ldc_1048576, li_ldc_252645135, li_ldc_858993459, li_ldc_1000000000, li_ldc_1431655765, li_0] at *; omega)) | refine wG_put rfl rfl (Nat.le_of_ble_eq_true rfl) rfl rfl ?_ | refine wG_ildF hF rfl rfl rfl ?_ ?_ | refine wG_bldF hF rfl (Or.inl rfl) rfl rfl ?_ ?_ | refine wG_ild rfl rfl ?_ ?_ | refine wG_ist rfl rfl ?_ ?_ | refine wG_bld rfl (Or.inl rfl) rfl ?_ ?_ | refine wG_zst rfl rfl ?_ ?_ | refine wG_call rfl rfl rfl (wR_in rfl (Nat.le_of_ble_eq_true rfl) ?_) | refine wG_ret rfl rfl ?_ | refine wG_step rfl rfl rfl rfl ?_)
  all_goals (try simp only [li_hz, pc_lt, pc_nlt, pc_ge, pc_nge, pc_gt, pc_ngt, pc_le, pc_nle, pc_eq, pc_neq, pc_ne, pc_nne, li_bipush_m3, li_bipush_m2, li_bipush_6, li_bipush_7, li_bipush_8, li_bipush_9, li_bipush_10, li_bipush_11, li_bipush_12, li_bipush_13, li_bipush_14, li_bipush_16, li_bipush_17, li_bipush_18, li_bipush_20, li_bipush_21, li_bipush_24, li_bipush_32, li_bipush_33, li_bipush_36, li_bipush_37, li_bipush_38, li_bipush_40, li_bipush_41, li_bipush_42, li_bipush_43, li_bipush_45, li_bipush_47, li_bipush_48, li_bipush_50, li_bipush_57, li_bipush_59, li_bipush_60, li_bipush_61, li_bipush_62, li_bipush_63, li_bipush_64, li_bipush_72, li_bipush_91, li_bipush_93, li_bipush_97, li_bipush_99, li_bipush_102, li_bipush_103, li_bipush_107, li_bipush_111, li_bipush_113, li_bipush_124, li_bipush_127, li_iconst_m1, li_iconst_0, li_iconst_1, li_iconst_2, li_iconst_3, li_iconst_4, li_iconst_5, li_sipush_m1000, li_sipush_199, li_sipush_200, li_sipush_220, li_sipush_255, li_sipush_256, li_sipush_999, li_sipush_1000, li_sipush_1008, li_sipush_2048, li_sipush_2304, li_sipush_9999, li_sipush_13849, li_sipush_25173, li_ldc_65535, li_ldc_65536, li_ldc_1048576, li_ldc_252645135, li_ldc_858993459, li_ldc_1000000000, li_ldc_1431655765, li_0] at *)
  all_goals first
    | (exfalso; omega)
    | (rw [vp_in_iff]; omega)
    | (refine ⟨?_, by simp [gC]⟩; first | (rw [if_pos (by omega)]; rfl) | (rw [if_neg (by omega)]; rfl))

set_option maxHeartbeats 800000 in
set_option maxRecDepth 20000 in
theorem an_fallIsM (a b : Int32) (f : Nat → Nat → Int32) (g : Nat → Nat → Int64) (hF : fr_ok vlM f) : wR 12 211 [.ref 0, .int a, .int b] (gM f g) (fun v h => v = some (.int (if (0 : Int) ≤ 0 then -1000 else -1000)) ∧ h.length = 64) := by
  refine wR_in rfl (Nat.le_of_ble_eq_true rfl) ?_
  repeat' (first | refine wG_b1t rfl (by decide) ?_ | refine wG_b1f rfl (by decide) ?_ | refine wG_b2t rfl (by decide) ?_ | refine wG_b2f rfl (by decide) ?_ | (refine wG_b1 rfl (fun _ => ?_) (fun _ => ?_) <;> try (exfalso; simp only [li_hz, pc_lt, pc_nlt, pc_ge, pc_nge, pc_gt, pc_ngt, pc_le, pc_nle, pc_eq, pc_neq, pc_ne, pc_nne, li_bipush_m3, li_bipush_m2, li_bipush_6, li_bipush_7, li_bipush_8, li_bipush_9, li_bipush_10, li_bipush_11, li_bipush_12, li_bipush_13, li_bipush_14, li_bipush_16, li_bipush_17, li_bipush_18, li_bipush_20, li_bipush_21, li_bipush_24, li_bipush_32, li_bipush_33, li_bipush_36, li_bipush_37, li_bipush_38, li_bipush_40, li_bipush_41, li_bipush_42, li_bipush_43, li_bipush_45, li_bipush_47, li_bipush_48, li_bipush_50, li_bipush_57, li_bipush_59, li_bipush_60, li_bipush_61, li_bipush_62, li_bipush_63, li_bipush_64, li_bipush_72, li_bipush_91, li_bipush_93, li_bipush_97, li_bipush_99, li_bipush_102, li_bipush_103, li_bipush_107, li_bipush_111, li_bipush_113, li_bipush_124, li_bipush_127, li_iconst_m1, li_iconst_0, li_iconst_1, li_iconst_2, li_iconst_3, li_iconst_4, li_iconst_5, li_sipush_m1000, li_sipush_199, li_sipush_200, li_sipush_220, li_sipush_255, li_sipush_256, li_sipush_999, li_sipush_1000, li_sipush_1008, li_sipush_2048, li_sipush_2304, li_sipush_9999, li_sipush_13849, li_sipush_25173, li_ldc_65535, li_ldc_65536, li_ldc_1048576, li_ldc_252645135, li_ldc_858993459, li_ldc_1000000000, li_ldc_1431655765, li_0] at *; omega)) | (refine wG_b2 rfl (fun _ => ?_) (fun _ => ?_) <;> try (exfalso; simp only [li_hz, pc_lt, pc_nlt, pc_ge, pc_nge, pc_gt, pc_ngt, pc_le, pc_nle, pc_eq, pc_neq, pc_ne, pc_nne, li_bipush_m3, li_bipush_m2, li_bipush_6, li_bipush_7, li_bipush_8, li_bipush_9, li_bipush_10, li_bipush_11, li_bipush_12, li_bipush_13, li_bipush_14, li_bipush_16, li_bipush_17, li_bipush_18, li_bipush_20, li_bipush_21, li_bipush_24, li_bipush_32, li_bipush_33, li_bipush_36, li_bipush_37, li_bipush_38, li_bipush_40, li_bipush_41, li_bipush_42, li_bipush_43, li_bipush_45, li_bipush_47, li_bipush_48, li_bipush_50, li_bipush_57, li_bipush_59, li_bipush_60, li_bipush_61, li_bipush_62, li_bipush_63, li_bipush_64, li_bipush_72, li_bipush_91, li_bipush_93, li_bipush_97, li_bipush_99, li_bipush_102, li_bipush_103, li_bipush_107, li_bipush_111, li_bipush_113, li_bipush_124, li_bipush_127, li_iconst_m1, li_iconst_0, li_iconst_1, li_iconst_2, li_iconst_3, li_iconst_4, li_iconst_5, li_sipush_m1000, li_sipush_199, li_sipush_200, li_sipush_220, li_sipush_255, li_sipush_256, li_sipush_999, li_sipush_1000, li_sipush_1008, li_sipush_2048, li_sipush_2304, li_sipush_9999, li_sipush_13849, li_sipush_25173, li_ldc_65535, li_ldc_65536, li_ldc_1048576, li_ldc_252645135, li_ldc_858993459, li_ldc_1000000000, li_ldc_1431655765, li_0] at *; omega)) | refine wG_put rfl rfl (Nat.le_of_ble_eq_true rfl) rfl rfl ?_ | refine wG_ildF hF rfl rfl rfl ?_ ?_ | refine wG_bldF hF rfl (Or.inl rfl) rfl rfl ?_ ?_ | refine wG_ild rfl rfl ?_ ?_ | refine wG_ist rfl rfl ?_ ?_ | refine wG_bld rfl (Or.inl rfl) rfl ?_ ?_ | refine wG_zst rfl rfl ?_ ?_ | refine wG_call rfl rfl rfl (wR_in rfl (Nat.le_of_ble_eq_true rfl) ?_) | refine wG_ret rfl rfl ?_ | refine wG_step rfl rfl rfl rfl ?_)
  all_goals (try simp only [li_hz, pc_lt, pc_nlt, pc_ge, pc_nge, pc_gt, pc_ngt, pc_le, pc_nle, pc_eq, pc_neq, pc_ne, pc_nne, li_bipush_m3, li_bipush_m2, li_bipush_6, li_bipush_7, li_bipush_8, li_bipush_9, li_bipush_10, li_bipush_11, li_bipush_12, li_bipush_13, li_bipush_14, li_bipush_16, li_bipush_17, li_bipush_18, li_bipush_20, li_bipush_21, li_bipush_24, li_bipush_32, li_bipush_33, li_bipush_36, li_bipush_37, li_bipush_38, li_bipush_40, li_bipush_41, li_bipush_42, li_bipush_43, li_bipush_45, li_bipush_47, li_bipush_48, li_bipush_50, li_bipush_57, li_bipush_59, li_bipush_60, li_bipush_61, li_bipush_62, li_bipush_63, li_bipush_64, li_bipush_72, li_bipush_91, li_bipush_93, li_bipush_97, li_bipush_99, li_bipush_102, li_bipush_103, li_bipush_107, li_bipush_111, li_bipush_113, li_bipush_124, li_bipush_127, li_iconst_m1, li_iconst_0, li_iconst_1, li_iconst_2, li_iconst_3, li_iconst_4, li_iconst_5, li_sipush_m1000, li_sipush_199, li_sipush_200, li_sipush_220, li_sipush_255, li_sipush_256, li_sipush_999, li_sipush_1000, li_sipush_1008, li_sipush_2048, li_sipush_2304, li_sipush_9999, li_sipush_13849, li_sipush_25173, li_ldc_65535, li_ldc_65536, li_ldc_1048576, li_ldc_252645135, li_ldc_858993459, li_ldc_1000000000, li_ldc_1431655765, li_0] at *)
  all_goals first
    | (exfalso; omega)
    | (rw [vp_in_iff]; omega)
    | (refine ⟨?_, by simp [gM]⟩; first | (rw [if_pos (by omega)]; rfl) | (rw [if_neg (by omega)]; rfl))

set_option maxHeartbeats 800000 in
set_option maxRecDepth 20000 in
theorem an_claimedC (a b : Int32) (f : Nat → Nat → Int32) (g : Nat → Nat → Int64) (hF : fr_ok vlC f) : wR 12 113 [.ref 0, .int a, .int b] (gC f g) (fun v h => v = some (.int (if (0 : Int) ≤ 0 then -1 else -1)) ∧ h.length = 79) := by
  refine wR_in rfl (Nat.le_of_ble_eq_true rfl) ?_
  repeat' (first | refine wG_b1t rfl (by decide) ?_ | refine wG_b1f rfl (by decide) ?_ | refine wG_b2t rfl (by decide) ?_ | refine wG_b2f rfl (by decide) ?_ | (refine wG_b1 rfl (fun _ => ?_) (fun _ => ?_) <;> try (exfalso; simp only [li_hz, pc_lt, pc_nlt, pc_ge, pc_nge, pc_gt, pc_ngt, pc_le, pc_nle, pc_eq, pc_neq, pc_ne, pc_nne, li_bipush_m3, li_bipush_m2, li_bipush_6, li_bipush_7, li_bipush_8, li_bipush_9, li_bipush_10, li_bipush_11, li_bipush_12, li_bipush_13, li_bipush_14, li_bipush_16, li_bipush_17, li_bipush_18, li_bipush_20, li_bipush_21, li_bipush_24, li_bipush_32, li_bipush_33, li_bipush_36, li_bipush_37, li_bipush_38, li_bipush_40, li_bipush_41, li_bipush_42, li_bipush_43, li_bipush_45, li_bipush_47, li_bipush_48, li_bipush_50, li_bipush_57, li_bipush_59, li_bipush_60, li_bipush_61, li_bipush_62, li_bipush_63, li_bipush_64, li_bipush_72, li_bipush_91, li_bipush_93, li_bipush_97, li_bipush_99, li_bipush_102, li_bipush_103, li_bipush_107, li_bipush_111, li_bipush_113, li_bipush_124, li_bipush_127, li_iconst_m1, li_iconst_0, li_iconst_1, li_iconst_2, li_iconst_3, li_iconst_4, li_iconst_5, li_sipush_m1000, li_sipush_199, li_sipush_200, li_sipush_220, li_sipush_255, li_sipush_256, li_sipush_999, li_sipush_1000, li_sipush_1008, li_sipush_2048, li_sipush_2304, li_sipush_9999, li_sipush_13849, li_sipush_25173, li_ldc_65535, li_ldc_65536, li_ldc_1048576, li_ldc_252645135, li_ldc_858993459, li_ldc_1000000000, li_ldc_1431655765, li_0] at *; omega)) | (refine wG_b2 rfl (fun _ => ?_) (fun _ => ?_) <;> try (exfalso; simp only [li_hz, pc_lt, pc_nlt, pc_ge, pc_nge, pc_gt, pc_ngt, pc_le, pc_nle, pc_eq, pc_neq, pc_ne, pc_nne, li_bipush_m3, li_bipush_m2, li_bipush_6, li_bipush_7, li_bipush_8, li_bipush_9, li_bipush_10, li_bipush_11, li_bipush_12, li_bipush_13, li_bipush_14, li_bipush_16, li_bipush_17, li_bipush_18, li_bipush_20, li_bipush_21, li_bipush_24, li_bipush_32, li_bipush_33, li_bipush_36, li_bipush_37, li_bipush_38, li_bipush_40, li_bipush_41, li_bipush_42, li_bipush_43, li_bipush_45, li_bipush_47, li_bipush_48, li_bipush_50, li_bipush_57, li_bipush_59, li_bipush_60, li_bipush_61, li_bipush_62, li_bipush_63, li_bipush_64, li_bipush_72, li_bipush_91, li_bipush_93, li_bipush_97, li_bipush_99, li_bipush_102, li_bipush_103, li_bipush_107, li_bipush_111, li_bipush_113, li_bipush_124, li_bipush_127, li_iconst_m1, li_iconst_0, li_iconst_1, li_iconst_2, li_iconst_3, li_iconst_4, li_iconst_5, li_sipush_m1000, li_sipush_199, li_sipush_200, li_sipush_220, li_sipush_255, li_sipush_256, li_sipush_999, li_sipush_1000, li_sipush_1008, li_sipush_2048, li_sipush_2304, li_sipush_9999, li_sipush_13849, li_sipush_25173, li_ldc_65535, li_ldc_65536, li_ldc_1048576, li_ldc_252645135, li_ldc_858993459, li_ldc_1000000000, li_ldc_1431655765, li_0] at *; omega)) | refine wG_put rfl rfl (Nat.le_of_ble_eq_true rfl) rfl rfl ?_ | refine wG_ildF hF rfl rfl rfl ?_ ?_ | refine wG_bldF hF rfl (Or.inl rfl) rfl rfl ?_ ?_ | refine wG_ild rfl rfl ?_ ?_ | refine wG_ist rfl rfl ?_ ?_ | refine wG_bld rfl (Or.inl rfl) rfl ?_ ?_ | refine wG_zst rfl rfl ?_ ?_ | refine wG_call rfl rfl rfl (wR_in rfl (Nat.le_of_ble_eq_true rfl) ?_) | refine wG_ret rfl rfl ?_ | refine wG_step rfl rfl rfl rfl ?_)
  all_goals (try simp only [li_hz, pc_lt, pc_nlt, pc_ge, pc_nge, pc_gt, pc_ngt, pc_le, pc_nle, pc_eq, pc_neq, pc_ne, pc_nne, li_bipush_m3, li_bipush_m2, li_bipush_6, li_bipush_7, li_bipush_8, li_bipush_9, li_bipush_10, li_bipush_11, li_bipush_12, li_bipush_13, li_bipush_14, li_bipush_16, li_bipush_17, li_bipush_18, li_bipush_20, li_bipush_21, li_bipush_24, li_bipush_32, li_bipush_33, li_bipush_36, li_bipush_37, li_bipush_38, li_bipush_40, li_bipush_41, li_bipush_42, li_bipush_43, li_bipush_45, li_bipush_47, li_bipush_48, li_bipush_50, li_bipush_57, li_bipush_59, li_bipush_60, li_bipush_61, li_bipush_62, li_bipush_63, li_bipush_64, li_bipush_72, li_bipush_91, li_bipush_93, li_bipush_97, li_bipush_99, li_bipush_102, li_bipush_103, li_bipush_107, li_bipush_111, li_bipush_113, li_bipush_124, li_bipush_127, li_iconst_m1, li_iconst_0, li_iconst_1, li_iconst_2, li_iconst_3, li_iconst_4, li_iconst_5, li_sipush_m1000, li_sipush_199, li_sipush_200, li_sipush_220, li_sipush_255, li_sipush_256, li_sipush_999, li_sipush_1000, li_sipush_1008, li_sipush_2048, li_sipush_2304, li_sipush_9999, li_sipush_13849, li_sipush_25173, li_ldc_65535, li_ldc_65536, li_ldc_1048576, li_ldc_252645135, li_ldc_858993459, li_ldc_1000000000, li_ldc_1431655765, li_0] at *)
  all_goals first
    | (exfalso; omega)
    | (rw [vp_in_iff]; omega)
    | (refine ⟨?_, by simp [gC]⟩; first | (rw [if_pos (by omega)]; rfl) | (rw [if_neg (by omega)]; rfl))

set_option maxHeartbeats 800000 in
set_option maxRecDepth 20000 in
theorem an_claimedM (a b : Int32) (f : Nat → Nat → Int32) (g : Nat → Nat → Int64) (hF : fr_ok vlM f) : wR 12 213 [.ref 0, .int a, .int b] (gM f g) (fun v h => v = some (.int (if (0 : Int) ≤ 0 then -1 else -1)) ∧ h.length = 64) := by
  refine wR_in rfl (Nat.le_of_ble_eq_true rfl) ?_
  repeat' (first | refine wG_b1t rfl (by decide) ?_ | refine wG_b1f rfl (by decide) ?_ | refine wG_b2t rfl (by decide) ?_ | refine wG_b2f rfl (by decide) ?_ | (refine wG_b1 rfl (fun _ => ?_) (fun _ => ?_) <;> try (exfalso; simp only [li_hz, pc_lt, pc_nlt, pc_ge, pc_nge, pc_gt, pc_ngt, pc_le, pc_nle, pc_eq, pc_neq, pc_ne, pc_nne, li_bipush_m3, li_bipush_m2, li_bipush_6, li_bipush_7, li_bipush_8, li_bipush_9, li_bipush_10, li_bipush_11, li_bipush_12, li_bipush_13, li_bipush_14, li_bipush_16, li_bipush_17, li_bipush_18, li_bipush_20, li_bipush_21, li_bipush_24, li_bipush_32, li_bipush_33, li_bipush_36, li_bipush_37, li_bipush_38, li_bipush_40, li_bipush_41, li_bipush_42, li_bipush_43, li_bipush_45, li_bipush_47, li_bipush_48, li_bipush_50, li_bipush_57, li_bipush_59, li_bipush_60, li_bipush_61, li_bipush_62, li_bipush_63, li_bipush_64, li_bipush_72, li_bipush_91, li_bipush_93, li_bipush_97, li_bipush_99, li_bipush_102, li_bipush_103, li_bipush_107, li_bipush_111, li_bipush_113, li_bipush_124, li_bipush_127, li_iconst_m1, li_iconst_0, li_iconst_1, li_iconst_2, li_iconst_3, li_iconst_4, li_iconst_5, li_sipush_m1000, li_sipush_199, li_sipush_200, li_sipush_220, li_sipush_255, li_sipush_256, li_sipush_999, li_sipush_1000, li_sipush_1008, li_sipush_2048, li_sipush_2304, li_sipush_9999, li_sipush_13849, li_sipush_25173, li_ldc_65535, li_ldc_65536, li_ldc_1048576, li_ldc_252645135, li_ldc_858993459, li_ldc_1000000000, li_ldc_1431655765, li_0] at *; omega)) | (refine wG_b2 rfl (fun _ => ?_) (fun _ => ?_) <;> try (exfalso; simp only [li_hz, pc_lt, pc_nlt, pc_ge, pc_nge, pc_gt, pc_ngt, pc_le, pc_nle, pc_eq, pc_neq, pc_ne, pc_nne, li_bipush_m3, li_bipush_m2, li_bipush_6, li_bipush_7, li_bipush_8, li_bipush_9, li_bipush_10, li_bipush_11, li_bipush_12, li_bipush_13, li_bipush_14, li_bipush_16, li_bipush_17, li_bipush_18, li_bipush_20, li_bipush_21, li_bipush_24, li_bipush_32, li_bipush_33, li_bipush_36, li_bipush_37, li_bipush_38, li_bipush_40, li_bipush_41, li_bipush_42, li_bipush_43, li_bipush_45, li_bipush_47, li_bipush_48, li_bipush_50, li_bipush_57, li_bipush_59, li_bipush_60, li_bipush_61, li_bipush_62, li_bipush_63, li_bipush_64, li_bipush_72, li_bipush_91, li_bipush_93, li_bipush_97, li_bipush_99, li_bipush_102, li_bipush_103, li_bipush_107, li_bipush_111, li_bipush_113, li_bipush_124, li_bipush_127, li_iconst_m1, li_iconst_0, li_iconst_1, li_iconst_2, li_iconst_3, li_iconst_4, li_iconst_5, li_sipush_m1000, li_sipush_199, li_sipush_200, li_sipush_220, li_sipush_255, li_sipush_256, li_sipush_999, li_sipush_1000, li_sipush_1008, li_sipush_2048, li_sipush_2304, li_sipush_9999, li_sipush_13849, li_sipush_25173, li_ldc_65535, li_ldc_65536, li_ldc_1048576, li_ldc_252645135, li_ldc_858993459, li_ldc_1000000000, li_ldc_1431655765, li_0] at *; omega)) | refine wG_put rfl rfl (Nat.le_of_ble_eq_true rfl) rfl rfl ?_ | refine wG_ildF hF rfl rfl rfl ?_ ?_ | refine wG_bldF hF rfl (Or.inl rfl) rfl rfl ?_ ?_ | refine wG_ild rfl rfl ?_ ?_ | refine wG_ist rfl rfl ?_ ?_ | refine wG_bld rfl (Or.inl rfl) rfl ?_ ?_ | refine wG_zst rfl rfl ?_ ?_ | refine wG_call rfl rfl rfl (wR_in rfl (Nat.le_of_ble_eq_true rfl) ?_) | refine wG_ret rfl rfl ?_ | refine wG_step rfl rfl rfl rfl ?_)
  all_goals (try simp only [li_hz, pc_lt, pc_nlt, pc_ge, pc_nge, pc_gt, pc_ngt, pc_le, pc_nle, pc_eq, pc_neq, pc_ne, pc_nne, li_bipush_m3, li_bipush_m2, li_bipush_6, li_bipush_7, li_bipush_8, li_bipush_9, li_bipush_10, li_bipush_11, li_bipush_12, li_bipush_13, li_bipush_14, li_bipush_16, li_bipush_17, li_bipush_18, li_bipush_20, li_bipush_21, li_bipush_24, li_bipush_32, li_bipush_33, li_bipush_36, li_bipush_37, li_bipush_38, li_bipush_40, li_bipush_41, li_bipush_42, li_bipush_43, li_bipush_45, li_bipush_47, li_bipush_48, li_bipush_50, li_bipush_57, li_bipush_59, li_bipush_60, li_bipush_61, li_bipush_62, li_bipush_63, li_bipush_64, li_bipush_72, li_bipush_91, li_bipush_93, li_bipush_97, li_bipush_99, li_bipush_102, li_bipush_103, li_bipush_107, li_bipush_111, li_bipush_113, li_bipush_124, li_bipush_127, li_iconst_m1, li_iconst_0, li_iconst_1, li_iconst_2, li_iconst_3, li_iconst_4, li_iconst_5, li_sipush_m1000, li_sipush_199, li_sipush_200, li_sipush_220, li_sipush_255, li_sipush_256, li_sipush_999, li_sipush_1000, li_sipush_1008, li_sipush_2048, li_sipush_2304, li_sipush_9999, li_sipush_13849, li_sipush_25173, li_ldc_65535, li_ldc_65536, li_ldc_1048576, li_ldc_252645135, li_ldc_858993459, li_ldc_1000000000, li_ldc_1431655765, li_0] at *)
  all_goals first
    | (exfalso; omega)
    | (rw [vp_in_iff]; omega)
    | (refine ⟨?_, by simp [gM]⟩; first | (rw [if_pos (by omega)]; rfl) | (rw [if_neg (by omega)]; rfl))

set_option maxHeartbeats 800000 in
set_option maxRecDepth 20000 in
theorem an_foodC (a : Int32) (f : Nat → Nat → Int32) (g : Nat → Nat → Int64) (hF : fr_ok vlC f) : wR 12 115 [.ref 0, .int a] (gC f g) (fun v h => v = some (.int (if 0 ≤ a.toInt ∧ a.toInt ≤ 7 then 0 else -1)) ∧ h.length = 79) := by
  refine wR_in rfl (Nat.le_of_ble_eq_true rfl) ?_
  repeat' (first | refine wG_b1t rfl (by decide) ?_ | refine wG_b1f rfl (by decide) ?_ | refine wG_b2t rfl (by decide) ?_ | refine wG_b2f rfl (by decide) ?_ | (refine wG_b1 rfl (fun _ => ?_) (fun _ => ?_) <;> try (exfalso; simp only [li_hz, pc_lt, pc_nlt, pc_ge, pc_nge, pc_gt, pc_ngt, pc_le, pc_nle, pc_eq, pc_neq, pc_ne, pc_nne, li_bipush_m3, li_bipush_m2, li_bipush_6, li_bipush_7, li_bipush_8, li_bipush_9, li_bipush_10, li_bipush_11, li_bipush_12, li_bipush_13, li_bipush_14, li_bipush_16, li_bipush_17, li_bipush_18, li_bipush_20, li_bipush_21, li_bipush_24, li_bipush_32, li_bipush_33, li_bipush_36, li_bipush_37, li_bipush_38, li_bipush_40, li_bipush_41, li_bipush_42, li_bipush_43, li_bipush_45, li_bipush_47, li_bipush_48, li_bipush_50, li_bipush_57, li_bipush_59, li_bipush_60, li_bipush_61, li_bipush_62, li_bipush_63, li_bipush_64, li_bipush_72, li_bipush_91, li_bipush_93, li_bipush_97, li_bipush_99, li_bipush_102, li_bipush_103, li_bipush_107, li_bipush_111, li_bipush_113, li_bipush_124, li_bipush_127, li_iconst_m1, li_iconst_0, li_iconst_1, li_iconst_2, li_iconst_3, li_iconst_4, li_iconst_5, li_sipush_m1000, li_sipush_199, li_sipush_200, li_sipush_220, li_sipush_255, li_sipush_256, li_sipush_999, li_sipush_1000, li_sipush_1008, li_sipush_2048, li_sipush_2304, li_sipush_9999, li_sipush_13849, li_sipush_25173, li_ldc_65535, li_ldc_65536, li_ldc_1048576, li_ldc_252645135, li_ldc_858993459, li_ldc_1000000000, li_ldc_1431655765, li_0] at *; omega)) | (refine wG_b2 rfl (fun _ => ?_) (fun _ => ?_) <;> try (exfalso; simp only [li_hz, pc_lt, pc_nlt, pc_ge, pc_nge, pc_gt, pc_ngt, pc_le, pc_nle, pc_eq, pc_neq, pc_ne, pc_nne, li_bipush_m3, li_bipush_m2, li_bipush_6, li_bipush_7, li_bipush_8, li_bipush_9, li_bipush_10, li_bipush_11, li_bipush_12, li_bipush_13, li_bipush_14, li_bipush_16, li_bipush_17, li_bipush_18, li_bipush_20, li_bipush_21, li_bipush_24, li_bipush_32, li_bipush_33, li_bipush_36, li_bipush_37, li_bipush_38, li_bipush_40, li_bipush_41, li_bipush_42, li_bipush_43, li_bipush_45, li_bipush_47, li_bipush_48, li_bipush_50, li_bipush_57, li_bipush_59, li_bipush_60, li_bipush_61, li_bipush_62, li_bipush_63, li_bipush_64, li_bipush_72, li_bipush_91, li_bipush_93, li_bipush_97, li_bipush_99, li_bipush_102, li_bipush_103, li_bipush_107, li_bipush_111, li_bipush_113, li_bipush_124, li_bipush_127, li_iconst_m1, li_iconst_0, li_iconst_1, li_iconst_2, li_iconst_3, li_iconst_4, li_iconst_5, li_sipush_m1000, li_sipush_199, li_sipush_200, li_sipush_220, li_sipush_255, li_sipush_256, li_sipush_999, li_sipush_1000, li_sipush_1008, li_sipush_2048, li_sipush_2304, li_sipush_9999, li_sipush_13849, li_sipush_25173, li_ldc_65535, li_ldc_65536, li_ldc_1048576, li_ldc_252645135, li_ldc_858993459, li_ldc_1000000000, li_ldc_1431655765, li_0] at *; omega)) | refine wG_put rfl rfl (Nat.le_of_ble_eq_true rfl) rfl rfl ?_ | refine wG_ildF hF rfl rfl rfl ?_ ?_ | refine wG_bldF hF rfl (Or.inl rfl) rfl rfl ?_ ?_ | refine wG_ild rfl rfl ?_ ?_ | refine wG_ist rfl rfl ?_ ?_ | refine wG_bld rfl (Or.inl rfl) rfl ?_ ?_ | refine wG_zst rfl rfl ?_ ?_ | refine wG_call rfl rfl rfl (wR_in rfl (Nat.le_of_ble_eq_true rfl) ?_) | refine wG_ret rfl rfl ?_ | refine wG_step rfl rfl rfl rfl ?_)
  all_goals (try simp only [li_hz, pc_lt, pc_nlt, pc_ge, pc_nge, pc_gt, pc_ngt, pc_le, pc_nle, pc_eq, pc_neq, pc_ne, pc_nne, li_bipush_m3, li_bipush_m2, li_bipush_6, li_bipush_7, li_bipush_8, li_bipush_9, li_bipush_10, li_bipush_11, li_bipush_12, li_bipush_13, li_bipush_14, li_bipush_16, li_bipush_17, li_bipush_18, li_bipush_20, li_bipush_21, li_bipush_24, li_bipush_32, li_bipush_33, li_bipush_36, li_bipush_37, li_bipush_38, li_bipush_40, li_bipush_41, li_bipush_42, li_bipush_43, li_bipush_45, li_bipush_47, li_bipush_48, li_bipush_50, li_bipush_57, li_bipush_59, li_bipush_60, li_bipush_61, li_bipush_62, li_bipush_63, li_bipush_64, li_bipush_72, li_bipush_91, li_bipush_93, li_bipush_97, li_bipush_99, li_bipush_102, li_bipush_103, li_bipush_107, li_bipush_111, li_bipush_113, li_bipush_124, li_bipush_127, li_iconst_m1, li_iconst_0, li_iconst_1, li_iconst_2, li_iconst_3, li_iconst_4, li_iconst_5, li_sipush_m1000, li_sipush_199, li_sipush_200, li_sipush_220, li_sipush_255, li_sipush_256, li_sipush_999, li_sipush_1000, li_sipush_1008, li_sipush_2048, li_sipush_2304, li_sipush_9999, li_sipush_13849, li_sipush_25173, li_ldc_65535, li_ldc_65536, li_ldc_1048576, li_ldc_252645135, li_ldc_858993459, li_ldc_1000000000, li_ldc_1431655765, li_0] at *)
  all_goals first
    | (exfalso; omega)
    | (rw [vp_in_iff]; omega)
    | (refine ⟨?_, by simp [gC]⟩; first | (rw [if_pos (by omega)]; rfl) | (rw [if_neg (by omega)]; rfl))

set_option maxHeartbeats 800000 in
set_option maxRecDepth 20000 in
theorem an_foodM (a : Int32) (f : Nat → Nat → Int32) (g : Nat → Nat → Int64) (hF : fr_ok vlM f) : wR 12 215 [.ref 0, .int a] (gM f g) (fun v h => v = some (.int (if 0 ≤ a.toInt ∧ a.toInt ≤ 7 then 0 else -1)) ∧ h.length = 64) := by
  refine wR_in rfl (Nat.le_of_ble_eq_true rfl) ?_
  repeat' (first | refine wG_b1t rfl (by decide) ?_ | refine wG_b1f rfl (by decide) ?_ | refine wG_b2t rfl (by decide) ?_ | refine wG_b2f rfl (by decide) ?_ | (refine wG_b1 rfl (fun _ => ?_) (fun _ => ?_) <;> try (exfalso; simp only [li_hz, pc_lt, pc_nlt, pc_ge, pc_nge, pc_gt, pc_ngt, pc_le, pc_nle, pc_eq, pc_neq, pc_ne, pc_nne, li_bipush_m3, li_bipush_m2, li_bipush_6, li_bipush_7, li_bipush_8, li_bipush_9, li_bipush_10, li_bipush_11, li_bipush_12, li_bipush_13, li_bipush_14, li_bipush_16, li_bipush_17, li_bipush_18, li_bipush_20, li_bipush_21, li_bipush_24, li_bipush_32, li_bipush_33, li_bipush_36, li_bipush_37, li_bipush_38, li_bipush_40, li_bipush_41, li_bipush_42, li_bipush_43, li_bipush_45, li_bipush_47, li_bipush_48, li_bipush_50, li_bipush_57, li_bipush_59, li_bipush_60, li_bipush_61, li_bipush_62, li_bipush_63, li_bipush_64, li_bipush_72, li_bipush_91, li_bipush_93, li_bipush_97, li_bipush_99, li_bipush_102, li_bipush_103, li_bipush_107, li_bipush_111, li_bipush_113, li_bipush_124, li_bipush_127, li_iconst_m1, li_iconst_0, li_iconst_1, li_iconst_2, li_iconst_3, li_iconst_4, li_iconst_5, li_sipush_m1000, li_sipush_199, li_sipush_200, li_sipush_220, li_sipush_255, li_sipush_256, li_sipush_999, li_sipush_1000, li_sipush_1008, li_sipush_2048, li_sipush_2304, li_sipush_9999, li_sipush_13849, li_sipush_25173, li_ldc_65535, li_ldc_65536, li_ldc_1048576, li_ldc_252645135, li_ldc_858993459, li_ldc_1000000000, li_ldc_1431655765, li_0] at *; omega)) | (refine wG_b2 rfl (fun _ => ?_) (fun _ => ?_) <;> try (exfalso; simp only [li_hz, pc_lt, pc_nlt, pc_ge, pc_nge, pc_gt, pc_ngt, pc_le, pc_nle, pc_eq, pc_neq, pc_ne, pc_nne, li_bipush_m3, li_bipush_m2, li_bipush_6, li_bipush_7, li_bipush_8, li_bipush_9, li_bipush_10, li_bipush_11, li_bipush_12, li_bipush_13, li_bipush_14, li_bipush_16, li_bipush_17, li_bipush_18, li_bipush_20, li_bipush_21, li_bipush_24, li_bipush_32, li_bipush_33, li_bipush_36, li_bipush_37, li_bipush_38, li_bipush_40, li_bipush_41, li_bipush_42, li_bipush_43, li_bipush_45, li_bipush_47, li_bipush_48, li_bipush_50, li_bipush_57, li_bipush_59, li_bipush_60, li_bipush_61, li_bipush_62, li_bipush_63, li_bipush_64, li_bipush_72, li_bipush_91, li_bipush_93, li_bipush_97, li_bipush_99, li_bipush_102, li_bipush_103, li_bipush_107, li_bipush_111, li_bipush_113, li_bipush_124, li_bipush_127, li_iconst_m1, li_iconst_0, li_iconst_1, li_iconst_2, li_iconst_3, li_iconst_4, li_iconst_5, li_sipush_m1000, li_sipush_199, li_sipush_200, li_sipush_220, li_sipush_255, li_sipush_256, li_sipush_999, li_sipush_1000, li_sipush_1008, li_sipush_2048, li_sipush_2304, li_sipush_9999, li_sipush_13849, li_sipush_25173, li_ldc_65535, li_ldc_65536, li_ldc_1048576, li_ldc_252645135, li_ldc_858993459, li_ldc_1000000000, li_ldc_1431655765, li_0] at *; omega)) | refine wG_put rfl rfl (Nat.le_of_ble_eq_true rfl) rfl rfl ?_ | refine wG_ildF hF rfl rfl rfl ?_ ?_ | refine wG_bldF hF rfl (Or.inl rfl) rfl rfl ?_ ?_ | refine wG_ild rfl rfl ?_ ?_ | refine wG_ist rfl rfl ?_ ?_ | refine wG_bld rfl (Or.inl rfl) rfl ?_ ?_ | refine wG_zst rfl rfl ?_ ?_ | refine wG_call rfl rfl rfl (wR_in rfl (Nat.le_of_ble_eq_true rfl) ?_) | refine wG_ret rfl rfl ?_ | refine wG_step rfl rfl rfl rfl ?_)
  all_goals (try simp only [li_hz, pc_lt, pc_nlt, pc_ge, pc_nge, pc_gt, pc_ngt, pc_le, pc_nle, pc_eq, pc_neq, pc_ne, pc_nne, li_bipush_m3, li_bipush_m2, li_bipush_6, li_bipush_7, li_bipush_8, li_bipush_9, li_bipush_10, li_bipush_11, li_bipush_12, li_bipush_13, li_bipush_14, li_bipush_16, li_bipush_17, li_bipush_18, li_bipush_20, li_bipush_21, li_bipush_24, li_bipush_32, li_bipush_33, li_bipush_36, li_bipush_37, li_bipush_38, li_bipush_40, li_bipush_41, li_bipush_42, li_bipush_43, li_bipush_45, li_bipush_47, li_bipush_48, li_bipush_50, li_bipush_57, li_bipush_59, li_bipush_60, li_bipush_61, li_bipush_62, li_bipush_63, li_bipush_64, li_bipush_72, li_bipush_91, li_bipush_93, li_bipush_97, li_bipush_99, li_bipush_102, li_bipush_103, li_bipush_107, li_bipush_111, li_bipush_113, li_bipush_124, li_bipush_127, li_iconst_m1, li_iconst_0, li_iconst_1, li_iconst_2, li_iconst_3, li_iconst_4, li_iconst_5, li_sipush_m1000, li_sipush_199, li_sipush_200, li_sipush_220, li_sipush_255, li_sipush_256, li_sipush_999, li_sipush_1000, li_sipush_1008, li_sipush_2048, li_sipush_2304, li_sipush_9999, li_sipush_13849, li_sipush_25173, li_ldc_65535, li_ldc_65536, li_ldc_1048576, li_ldc_252645135, li_ldc_858993459, li_ldc_1000000000, li_ldc_1431655765, li_0] at *)
  all_goals first
    | (exfalso; omega)
    | (rw [vp_in_iff]; omega)
    | (refine ⟨?_, by simp [gM]⟩; first | (rw [if_pos (by omega)]; rfl) | (rw [if_neg (by omega)]; rfl))
end
