section
-- ===== PART A: goes FIRST, ahead of the names: the tables' words, and 'selects' of the private methods out of them =====
/-- a private method of a class that the tables say can be made, by its rows of tables_1 -/
def lw_okq (q : MethodName × Nat) : Prop := (q.1.cls ≠ "java/lang/invoke/MethodHandle" ∧ q.1.cls ≠ "java/lang/invoke/VarHandle") ∧ Cond.instantiable q.1.cls q.2 ∈ tables_1 ∧ Cond.privateMethod q.1 ∈ tables_1 ∧ Cond.instanceMethod q.1 ∈ tables_1
theorem lw_p0 : lw_okq (⟨"CliffGarden$Nets", "hangs", "(I)Z"⟩, 14) := ⟨⟨by decide +kernel, by decide +kernel⟩, List.mem_of_getElem? (i := 33) (by decide +kernel), List.mem_of_getElem? (i := 496) (by decide +kernel), List.mem_of_getElem? (i := 497) (by decide +kernel)⟩
theorem lw_p1 : lw_okq (⟨"CliffGarden$Nets", "clearCrop", "(I)V"⟩, 14) := ⟨⟨by decide +kernel, by decide +kernel⟩, List.mem_of_getElem? (i := 33) (by decide +kernel), List.mem_of_getElem? (i := 500) (by decide +kernel), List.mem_of_getElem? (i := 501) (by decide +kernel)⟩
theorem lw_p2 : lw_okq (⟨"CliffGarden$Nets", "setCrop", "(III)V"⟩, 14) := ⟨⟨by decide +kernel, by decide +kernel⟩, List.mem_of_getElem? (i := 33) (by decide +kernel), List.mem_of_getElem? (i := 504) (by decide +kernel), List.mem_of_getElem? (i := 505) (by decide +kernel)⟩
theorem lw_p3 : lw_okq (⟨"CliffGarden", "hungCell", "(II)I"⟩, 12) := ⟨⟨by decide +kernel, by decide +kernel⟩, List.mem_of_getElem? (i := 25) (by decide +kernel), List.mem_of_getElem? (i := 512) (by decide +kernel), List.mem_of_getElem? (i := 513) (by decide +kernel)⟩
theorem lw_p4 : lw_okq (⟨"CliffGarden$Nets", "hasCrop", "(I)Z"⟩, 14) := ⟨⟨by decide +kernel, by decide +kernel⟩, List.mem_of_getElem? (i := 33) (by decide +kernel), List.mem_of_getElem? (i := 524) (by decide +kernel), List.mem_of_getElem? (i := 525) (by decide +kernel)⟩
theorem lw_p5 : lw_okq (⟨"CliffGarden$Tape", "append", "(I)V"⟩, 2) := ⟨⟨by decide +kernel, by decide +kernel⟩, List.mem_of_getElem? (i := 323) (by decide +kernel), List.mem_of_getElem? (i := 555) (by decide +kernel), List.mem_of_getElem? (i := 556) (by decide +kernel)⟩
theorem lw_p6 : lw_okq (⟨"CliffGarden$Reader", "read", "(LCliffGarden$Tape;ILCliffGarden$Statute;)I"⟩, 5) := ⟨⟨by decide +kernel, by decide +kernel⟩, List.mem_of_getElem? (i := 338) (by decide +kernel), List.mem_of_getElem? (i := 563) (by decide +kernel), List.mem_of_getElem? (i := 564) (by decide +kernel)⟩
theorem lw_p7 : lw_okq (⟨"CliffGarden$Reader", "readClause", "()Z"⟩, 5) := ⟨⟨by decide +kernel, by decide +kernel⟩, List.mem_of_getElem? (i := 338) (by decide +kernel), List.mem_of_getElem? (i := 567) (by decide +kernel), List.mem_of_getElem? (i := 568) (by decide +kernel)⟩
theorem lw_p8 : lw_okq (⟨"CliffGarden$Reader", "look", "()I"⟩, 5) := ⟨⟨by decide +kernel, by decide +kernel⟩, List.mem_of_getElem? (i := 338) (by decide +kernel), List.mem_of_getElem? (i := 571) (by decide +kernel), List.mem_of_getElem? (i := 572) (by decide +kernel)⟩
theorem lw_p9 : lw_okq (⟨"CliffGarden$Reader", "fail", "(I)Z"⟩, 5) := ⟨⟨by decide +kernel, by decide +kernel⟩, List.mem_of_getElem? (i := 338) (by decide +kernel), List.mem_of_getElem? (i := 665) (by decide +kernel), List.mem_of_getElem? (i := 666) (by decide +kernel)⟩
theorem lw_p10 : lw_okq (⟨"CliffGarden$Reader", "readSum", "(I)Z"⟩, 5) := ⟨⟨by decide +kernel, by decide +kernel⟩, List.mem_of_getElem? (i := 338) (by decide +kernel), List.mem_of_getElem? (i := 669) (by decide +kernel), List.mem_of_getElem? (i := 670) (by decide +kernel)⟩
theorem lw_p11 : lw_okq (⟨"CliffGarden$Reader", "readTerm", "(I)Z"⟩, 5) := ⟨⟨by decide +kernel, by decide +kernel⟩, List.mem_of_getElem? (i := 338) (by decide +kernel), List.mem_of_getElem? (i := 673) (by decide +kernel), List.mem_of_getElem? (i := 674) (by decide +kernel)⟩
theorem lw_p12 : lw_okq (⟨"CliffGarden$Reader", "readFactor", "(I)Z"⟩, 5) := ⟨⟨by decide +kernel, by decide +kernel⟩, List.mem_of_getElem? (i := 338) (by decide +kernel), List.mem_of_getElem? (i := 677) (by decide +kernel), List.mem_of_getElem? (i := 678) (by decide +kernel)⟩
theorem lw_p13 : lw_okq (⟨"CliffGarden$Reader", "enter", "(I)Z"⟩, 5) := ⟨⟨by decide +kernel, by decide +kernel⟩, List.mem_of_getElem? (i := 338) (by decide +kernel), List.mem_of_getElem? (i := 681) (by decide +kernel), List.mem_of_getElem? (i := 682) (by decide +kernel)⟩
theorem lw_p14 : lw_okq (⟨"CliffGarden$Reader", "expect", "(I)Z"⟩, 5) := ⟨⟨by decide +kernel, by decide +kernel⟩, List.mem_of_getElem? (i := 338) (by decide +kernel), List.mem_of_getElem? (i := 685) (by decide +kernel), List.mem_of_getElem? (i := 686) (by decide +kernel)⟩
theorem lw_p15 : lw_okq (⟨"CliffGarden$Reader", "readNumber", "()Z"⟩, 5) := ⟨⟨by decide +kernel, by decide +kernel⟩, List.mem_of_getElem? (i := 338) (by decide +kernel), List.mem_of_getElem? (i := 692) (by decide +kernel), List.mem_of_getElem? (i := 693) (by decide +kernel)⟩
def lw_privs_1 : List (MethodName × Nat) := [(⟨"CliffGarden$Nets", "hangs", "(I)Z"⟩, 14), (⟨"CliffGarden$Nets", "clearCrop", "(I)V"⟩, 14), (⟨"CliffGarden$Nets", "setCrop", "(III)V"⟩, 14), (⟨"CliffGarden", "hungCell", "(II)I"⟩, 12), (⟨"CliffGarden$Nets", "hasCrop", "(I)Z"⟩, 14), (⟨"CliffGarden$Tape", "append", "(I)V"⟩, 2), (⟨"CliffGarden$Reader", "read", "(LCliffGarden$Tape;ILCliffGarden$Statute;)I"⟩, 5), (⟨"CliffGarden$Reader", "readClause", "()Z"⟩, 5), (⟨"CliffGarden$Reader", "look", "()I"⟩, 5), (⟨"CliffGarden$Reader", "fail", "(I)Z"⟩, 5), (⟨"CliffGarden$Reader", "readSum", "(I)Z"⟩, 5), (⟨"CliffGarden$Reader", "readTerm", "(I)Z"⟩, 5), (⟨"CliffGarden$Reader", "readFactor", "(I)Z"⟩, 5), (⟨"CliffGarden$Reader", "enter", "(I)Z"⟩, 5), (⟨"CliffGarden$Reader", "expect", "(I)Z"⟩, 5), (⟨"CliffGarden$Reader", "readNumber", "()Z"⟩, 5)]
theorem lw_r1 : ∀ q ∈ lw_privs_1, lw_okq q := List.forall_mem_cons.mpr ⟨lw_p0, List.forall_mem_cons.mpr ⟨lw_p1, List.forall_mem_cons.mpr ⟨lw_p2, List.forall_mem_cons.mpr ⟨lw_p3, List.forall_mem_cons.mpr ⟨lw_p4, List.forall_mem_cons.mpr ⟨lw_p5, List.forall_mem_cons.mpr ⟨lw_p6, List.forall_mem_cons.mpr ⟨lw_p7, List.forall_mem_cons.mpr ⟨lw_p8, List.forall_mem_cons.mpr ⟨lw_p9, List.forall_mem_cons.mpr ⟨lw_p10, List.forall_mem_cons.mpr ⟨lw_p11, List.forall_mem_cons.mpr ⟨lw_p12, List.forall_mem_cons.mpr ⟨lw_p13, List.forall_mem_cons.mpr ⟨lw_p14, List.forall_mem_cons.mpr ⟨lw_p15, fun _ h => absurd h List.not_mem_nil⟩⟩⟩⟩⟩⟩⟩⟩⟩⟩⟩⟩⟩⟩⟩⟩
theorem lw_p16 : lw_okq (⟨"CliffGarden$Statute", "put", "(II)V"⟩, 10) := ⟨⟨by decide +kernel, by decide +kernel⟩, List.mem_of_getElem? (i := 219) (by decide +kernel), List.mem_of_getElem? (i := 696) (by decide +kernel), List.mem_of_getElem? (i := 697) (by decide +kernel)⟩
theorem lw_p17 : lw_okq (⟨"CliffGarden$Reader", "readCondition", "(I)Z"⟩, 5) := ⟨⟨by decide +kernel, by decide +kernel⟩, List.mem_of_getElem? (i := 338) (by decide +kernel), List.mem_of_getElem? (i := 703) (by decide +kernel), List.mem_of_getElem? (i := 704) (by decide +kernel)⟩
theorem lw_p18 : lw_okq (⟨"CliffGarden$Reader", "readPart", "(I)Z"⟩, 5) := ⟨⟨by decide +kernel, by decide +kernel⟩, List.mem_of_getElem? (i := 338) (by decide +kernel), List.mem_of_getElem? (i := 707) (by decide +kernel), List.mem_of_getElem? (i := 708) (by decide +kernel)⟩
theorem lw_p19 : lw_okq (⟨"CliffGarden$Reader", "readPiece", "(I)Z"⟩, 5) := ⟨⟨by decide +kernel, by decide +kernel⟩, List.mem_of_getElem? (i := 338) (by decide +kernel), List.mem_of_getElem? (i := 711) (by decide +kernel), List.mem_of_getElem? (i := 712) (by decide +kernel)⟩
theorem lw_p20 : lw_okq (⟨"CliffGarden$Reader", "readComparison", "(I)Z"⟩, 5) := ⟨⟨by decide +kernel, by decide +kernel⟩, List.mem_of_getElem? (i := 338) (by decide +kernel), List.mem_of_getElem? (i := 715) (by decide +kernel), List.mem_of_getElem? (i := 716) (by decide +kernel)⟩
theorem lw_p21 : lw_okq (⟨"CliffGarden$Reader", "readJump", "()I"⟩, 5) := ⟨⟨by decide +kernel, by decide +kernel⟩, List.mem_of_getElem? (i := 338) (by decide +kernel), List.mem_of_getElem? (i := 720) (by decide +kernel), List.mem_of_getElem? (i := 721) (by decide +kernel)⟩
theorem lw_p22 : lw_okq (⟨"CliffGarden$Nets", "factOf", "(II)I"⟩, 14) := ⟨⟨by decide +kernel, by decide +kernel⟩, List.mem_of_getElem? (i := 33) (by decide +kernel), List.mem_of_getElem? (i := 730) (by decide +kernel), List.mem_of_getElem? (i := 731) (by decide +kernel)⟩
theorem lw_p23 : lw_okq (⟨"CliffGarden$Nets", "loadOf", "(I)I"⟩, 14) := ⟨⟨by decide +kernel, by decide +kernel⟩, List.mem_of_getElem? (i := 33) (by decide +kernel), List.mem_of_getElem? (i := 734) (by decide +kernel), List.mem_of_getElem? (i := 735) (by decide +kernel)⟩
theorem lw_p24 : lw_okq (⟨"CliffGarden$Court", "ageing", "(I)I"⟩, 5) := ⟨⟨by decide +kernel, by decide +kernel⟩, List.mem_of_getElem? (i := 213) (by decide +kernel), List.mem_of_getElem? (i := 745) (by decide +kernel), List.mem_of_getElem? (i := 746) (by decide +kernel)⟩
theorem lw_p25 : lw_okq (⟨"CliffGarden$Court", "seeCellAndCrop", "(I)V"⟩, 5) := ⟨⟨by decide +kernel, by decide +kernel⟩, List.mem_of_getElem? (i := 213) (by decide +kernel), List.mem_of_getElem? (i := 749) (by decide +kernel), List.mem_of_getElem? (i := 750) (by decide +kernel)⟩
theorem lw_p26 : lw_okq (⟨"CliffGarden$Court", "seeCell", "(I)V"⟩, 5) := ⟨⟨by decide +kernel, by decide +kernel⟩, List.mem_of_getElem? (i := 213) (by decide +kernel), List.mem_of_getElem? (i := 753) (by decide +kernel), List.mem_of_getElem? (i := 754) (by decide +kernel)⟩
theorem lw_p27 : lw_okq (⟨"CliffGarden$Nets", "isRipe", "(I)Z"⟩, 14) := ⟨⟨by decide +kernel, by decide +kernel⟩, List.mem_of_getElem? (i := 33) (by decide +kernel), List.mem_of_getElem? (i := 759) (by decide +kernel), List.mem_of_getElem? (i := 760) (by decide +kernel)⟩
theorem lw_p28 : lw_okq (⟨"CliffGarden$Statute", "answer", "(II[I)I"⟩, 10) := ⟨⟨by decide +kernel, by decide +kernel⟩, List.mem_of_getElem? (i := 219) (by decide +kernel), List.mem_of_getElem? (i := 764) (by decide +kernel), List.mem_of_getElem? (i := 765) (by decide +kernel)⟩
theorem lw_p29 : lw_okq (⟨"CliffGarden$Statute", "reckon", "(II[I)I"⟩, 10) := ⟨⟨by decide +kernel, by decide +kernel⟩, List.mem_of_getElem? (i := 219) (by decide +kernel), List.mem_of_getElem? (i := 768) (by decide +kernel), List.mem_of_getElem? (i := 769) (by decide +kernel)⟩
theorem lw_p30 : lw_okq (⟨"CliffGarden$Court", "growth", "(II)I"⟩, 5) := ⟨⟨by decide +kernel, by decide +kernel⟩, List.mem_of_getElem? (i := 213) (by decide +kernel), List.mem_of_getElem? (i := 777) (by decide +kernel), List.mem_of_getElem? (i := 778) (by decide +kernel)⟩
theorem lw_p31 : lw_okq (⟨"CliffGarden$Court", "oddsOfFall", "(I)I"⟩, 5) := ⟨⟨by decide +kernel, by decide +kernel⟩, List.mem_of_getElem? (i := 213) (by decide +kernel), List.mem_of_getElem? (i := 781) (by decide +kernel), List.mem_of_getElem? (i := 782) (by decide +kernel)⟩
def lw_privs_2 : List (MethodName × Nat) := [(⟨"CliffGarden$Statute", "put", "(II)V"⟩, 10), (⟨"CliffGarden$Reader", "readCondition", "(I)Z"⟩, 5), (⟨"CliffGarden$Reader", "readPart", "(I)Z"⟩, 5), (⟨"CliffGarden$Reader", "readPiece", "(I)Z"⟩, 5), (⟨"CliffGarden$Reader", "readComparison", "(I)Z"⟩, 5), (⟨"CliffGarden$Reader", "readJump", "()I"⟩, 5), (⟨"CliffGarden$Nets", "factOf", "(II)I"⟩, 14), (⟨"CliffGarden$Nets", "loadOf", "(I)I"⟩, 14), (⟨"CliffGarden$Court", "ageing", "(I)I"⟩, 5), (⟨"CliffGarden$Court", "seeCellAndCrop", "(I)V"⟩, 5), (⟨"CliffGarden$Court", "seeCell", "(I)V"⟩, 5), (⟨"CliffGarden$Nets", "isRipe", "(I)Z"⟩, 14), (⟨"CliffGarden$Statute", "answer", "(II[I)I"⟩, 10), (⟨"CliffGarden$Statute", "reckon", "(II[I)I"⟩, 10), (⟨"CliffGarden$Court", "growth", "(II)I"⟩, 5), (⟨"CliffGarden$Court", "oddsOfFall", "(I)I"⟩, 5)]
theorem lw_r2 : ∀ q ∈ lw_privs_2, lw_okq q := List.forall_mem_cons.mpr ⟨lw_p16, List.forall_mem_cons.mpr ⟨lw_p17, List.forall_mem_cons.mpr ⟨lw_p18, List.forall_mem_cons.mpr ⟨lw_p19, List.forall_mem_cons.mpr ⟨lw_p20, List.forall_mem_cons.mpr ⟨lw_p21, List.forall_mem_cons.mpr ⟨lw_p22, List.forall_mem_cons.mpr ⟨lw_p23, List.forall_mem_cons.mpr ⟨lw_p24, List.forall_mem_cons.mpr ⟨lw_p25, List.forall_mem_cons.mpr ⟨lw_p26, List.forall_mem_cons.mpr ⟨lw_p27, List.forall_mem_cons.mpr ⟨lw_p28, List.forall_mem_cons.mpr ⟨lw_p29, List.forall_mem_cons.mpr ⟨lw_p30, List.forall_mem_cons.mpr ⟨lw_p31, fun _ h => absurd h List.not_mem_nil⟩⟩⟩⟩⟩⟩⟩⟩⟩⟩⟩⟩⟩⟩⟩⟩
theorem lw_p32 : lw_okq (⟨"CliffGarden", "letWaterFlow", "()I"⟩, 12) := ⟨⟨by decide +kernel, by decide +kernel⟩, List.mem_of_getElem? (i := 25) (by decide +kernel), List.mem_of_getElem? (i := 789) (by decide +kernel), List.mem_of_getElem? (i := 790) (by decide +kernel)⟩
theorem lw_p33 : lw_okq (⟨"CliffGarden$Water", "pour", "([I[I)V"⟩, 11) := ⟨⟨by decide +kernel, by decide +kernel⟩, List.mem_of_getElem? (i := 281) (by decide +kernel), List.mem_of_getElem? (i := 793) (by decide +kernel), List.mem_of_getElem? (i := 794) (by decide +kernel)⟩
theorem lw_p34 : lw_okq (⟨"CliffGarden$Nets", "needOf", "(I)I"⟩, 14) := ⟨⟨by decide +kernel, by decide +kernel⟩, List.mem_of_getElem? (i := 33) (by decide +kernel), List.mem_of_getElem? (i := 801) (by decide +kernel), List.mem_of_getElem? (i := 802) (by decide +kernel)⟩
theorem lw_p35 : lw_okq (⟨"CliffGarden$Water", "passOn", "(III)V"⟩, 11) := ⟨⟨by decide +kernel, by decide +kernel⟩, List.mem_of_getElem? (i := 281) (by decide +kernel), List.mem_of_getElem? (i := 807) (by decide +kernel), List.mem_of_getElem? (i := 808) (by decide +kernel)⟩
theorem lw_p36 : lw_okq (⟨"CliffGarden", "dropCrop", "(IZ)I"⟩, 12) := ⟨⟨by decide +kernel, by decide +kernel⟩, List.mem_of_getElem? (i := 25) (by decide +kernel), List.mem_of_getElem? (i := 815) (by decide +kernel), List.mem_of_getElem? (i := 816) (by decide +kernel)⟩
theorem lw_p37 : lw_okq (⟨"CliffGarden$Falls", "open", "(LCliffGarden$Nets;II)I"⟩, 11) := ⟨⟨by decide +kernel, by decide +kernel⟩, List.mem_of_getElem? (i := 160) (by decide +kernel), List.mem_of_getElem? (i := 819) (by decide +kernel), List.mem_of_getElem? (i := 820) (by decide +kernel)⟩
theorem lw_p38 : lw_okq (⟨"CliffGarden$Court", "catchingLevel", "(I)I"⟩, 5) := ⟨⟨by decide +kernel, by decide +kernel⟩, List.mem_of_getElem? (i := 213) (by decide +kernel), List.mem_of_getElem? (i := 824) (by decide +kernel), List.mem_of_getElem? (i := 825) (by decide +kernel)⟩
theorem lw_p39 : lw_okq (⟨"CliffGarden$Court", "seeFallen", "(I)V"⟩, 5) := ⟨⟨by decide +kernel, by decide +kernel⟩, List.mem_of_getElem? (i := 213) (by decide +kernel), List.mem_of_getElem? (i := 830) (by decide +kernel), List.mem_of_getElem? (i := 831) (by decide +kernel)⟩
theorem lw_p40 : lw_okq (⟨"CliffGarden$Court", "ownerOf", "(I)I"⟩, 5) := ⟨⟨by decide +kernel, by decide +kernel⟩, List.mem_of_getElem? (i := 213) (by decide +kernel), List.mem_of_getElem? (i := 834) (by decide +kernel), List.mem_of_getElem? (i := 835) (by decide +kernel)⟩
theorem lw_p41 : lw_okq (⟨"CliffGarden$Court", "seeFallFromItsCell", "(I)V"⟩, 5) := ⟨⟨by decide +kernel, by decide +kernel⟩, List.mem_of_getElem? (i := 213) (by decide +kernel), List.mem_of_getElem? (i := 838) (by decide +kernel), List.mem_of_getElem? (i := 839) (by decide +kernel)⟩
theorem lw_p42 : lw_okq (⟨"CliffGarden", "landInKitchen", "(II)V"⟩, 12) := ⟨⟨by decide +kernel, by decide +kernel⟩, List.mem_of_getElem? (i := 25) (by decide +kernel), List.mem_of_getElem? (i := 842) (by decide +kernel), List.mem_of_getElem? (i := 843) (by decide +kernel)⟩
theorem lw_p43 : lw_okq (⟨"CliffGarden$Falls", "close", "()V"⟩, 11) := ⟨⟨by decide +kernel, by decide +kernel⟩, List.mem_of_getElem? (i := 160) (by decide +kernel), List.mem_of_getElem? (i := 846) (by decide +kernel), List.mem_of_getElem? (i := 847) (by decide +kernel)⟩
theorem lw_p44 : lw_okq (⟨"CliffGarden", "letKnotsGo", "()I"⟩, 12) := ⟨⟨by decide +kernel, by decide +kernel⟩, List.mem_of_getElem? (i := 25) (by decide +kernel), List.mem_of_getElem? (i := 854) (by decide +kernel), List.mem_of_getElem? (i := 855) (by decide +kernel)⟩
theorem lw_p45 : lw_okq (⟨"CliffGarden$Nets", "firstOverloaded", "()I"⟩, 14) := ⟨⟨by decide +kernel, by decide +kernel⟩, List.mem_of_getElem? (i := 33) (by decide +kernel), List.mem_of_getElem? (i := 858) (by decide +kernel), List.mem_of_getElem? (i := 859) (by decide +kernel)⟩
theorem lw_p46 : lw_okq (⟨"CliffGarden", "tearDown", "(I)I"⟩, 12) := ⟨⟨by decide +kernel, by decide +kernel⟩, List.mem_of_getElem? (i := 25) (by decide +kernel), List.mem_of_getElem? (i := 862) (by decide +kernel), List.mem_of_getElem? (i := 863) (by decide +kernel)⟩
theorem lw_p47 : lw_okq (⟨"CliffGarden$Nets", "unhang", "(II)V"⟩, 14) := ⟨⟨by decide +kernel, by decide +kernel⟩, List.mem_of_getElem? (i := 33) (by decide +kernel), List.mem_of_getElem? (i := 868) (by decide +kernel), List.mem_of_getElem? (i := 869) (by decide +kernel)⟩
def lw_privs_3 : List (MethodName × Nat) := [(⟨"CliffGarden", "letWaterFlow", "()I"⟩, 12), (⟨"CliffGarden$Water", "pour", "([I[I)V"⟩, 11), (⟨"CliffGarden$Nets", "needOf", "(I)I"⟩, 14), (⟨"CliffGarden$Water", "passOn", "(III)V"⟩, 11), (⟨"CliffGarden", "dropCrop", "(IZ)I"⟩, 12), (⟨"CliffGarden$Falls", "open", "(LCliffGarden$Nets;II)I"⟩, 11), (⟨"CliffGarden$Court", "catchingLevel", "(I)I"⟩, 5), (⟨"CliffGarden$Court", "seeFallen", "(I)V"⟩, 5), (⟨"CliffGarden$Court", "ownerOf", "(I)I"⟩, 5), (⟨"CliffGarden$Court", "seeFallFromItsCell", "(I)V"⟩, 5), (⟨"CliffGarden", "landInKitchen", "(II)V"⟩, 12), (⟨"CliffGarden$Falls", "close", "()V"⟩, 11), (⟨"CliffGarden", "letKnotsGo", "()I"⟩, 12), (⟨"CliffGarden$Nets", "firstOverloaded", "()I"⟩, 14), (⟨"CliffGarden", "tearDown", "(I)I"⟩, 12), (⟨"CliffGarden$Nets", "unhang", "(II)V"⟩, 14)]
theorem lw_r3 : ∀ q ∈ lw_privs_3, lw_okq q := List.forall_mem_cons.mpr ⟨lw_p32, List.forall_mem_cons.mpr ⟨lw_p33, List.forall_mem_cons.mpr ⟨lw_p34, List.forall_mem_cons.mpr ⟨lw_p35, List.forall_mem_cons.mpr ⟨lw_p36, List.forall_mem_cons.mpr ⟨lw_p37, List.forall_mem_cons.mpr ⟨lw_p38, List.forall_mem_cons.mpr ⟨lw_p39, List.forall_mem_cons.mpr ⟨lw_p40, List.forall_mem_cons.mpr ⟨lw_p41, List.forall_mem_cons.mpr ⟨lw_p42, List.forall_mem_cons.mpr ⟨lw_p43, List.forall_mem_cons.mpr ⟨lw_p44, List.forall_mem_cons.mpr ⟨lw_p45, List.forall_mem_cons.mpr ⟨lw_p46, List.forall_mem_cons.mpr ⟨lw_p47, fun _ h => absurd h List.not_mem_nil⟩⟩⟩⟩⟩⟩⟩⟩⟩⟩⟩⟩⟩⟩⟩⟩
theorem lw_p48 : lw_okq (⟨"CliffGarden$Nets", "loosen", "(II)V"⟩, 14) := ⟨⟨by decide +kernel, by decide +kernel⟩, List.mem_of_getElem? (i := 33) (by decide +kernel), List.mem_of_getElem? (i := 873) (by decide +kernel), List.mem_of_getElem? (i := 874) (by decide +kernel)⟩
theorem lw_p49 : lw_okq (⟨"CliffGarden", "letCropsGrow", "()V"⟩, 12) := ⟨⟨by decide +kernel, by decide +kernel⟩, List.mem_of_getElem? (i := 25) (by decide +kernel), List.mem_of_getElem? (i := 882) (by decide +kernel), List.mem_of_getElem? (i := 883) (by decide +kernel)⟩
theorem lw_p50 : lw_okq (⟨"CliffGarden", "letCropsFall", "()V"⟩, 12) := ⟨⟨by decide +kernel, by decide +kernel⟩, List.mem_of_getElem? (i := 25) (by decide +kernel), List.mem_of_getElem? (i := 887) (by decide +kernel), List.mem_of_getElem? (i := 888) (by decide +kernel)⟩
theorem lw_p51 : lw_okq (⟨"CliffGarden", "letKnotsAge", "()V"⟩, 12) := ⟨⟨by decide +kernel, by decide +kernel⟩, List.mem_of_getElem? (i := 25) (by decide +kernel), List.mem_of_getElem? (i := 891) (by decide +kernel), List.mem_of_getElem? (i := 892) (by decide +kernel)⟩
theorem lw_p52 : lw_okq (⟨"CliffGarden$Nets", "wouldGo", "(I)J"⟩, 14) := ⟨⟨by decide +kernel, by decide +kernel⟩, List.mem_of_getElem? (i := 33) (by decide +kernel), List.mem_of_getElem? (i := 901) (by decide +kernel), List.mem_of_getElem? (i := 902) (by decide +kernel)⟩
theorem lw_p53 : lw_okq (⟨"CliffGarden$Falls", "isWritten", "(I)Z"⟩, 11) := ⟨⟨by decide +kernel, by decide +kernel⟩, List.mem_of_getElem? (i := 160) (by decide +kernel), List.mem_of_getElem? (i := 912) (by decide +kernel), List.mem_of_getElem? (i := 913) (by decide +kernel)⟩
theorem lw_p54 : lw_okq (⟨"CliffGarden$Falls", "factOf", "(II)I"⟩, 11) := ⟨⟨by decide +kernel, by decide +kernel⟩, List.mem_of_getElem? (i := 160) (by decide +kernel), List.mem_of_getElem? (i := 916) (by decide +kernel), List.mem_of_getElem? (i := 917) (by decide +kernel)⟩
theorem lw_p55 : lw_okq (⟨"CliffGarden", "claimantOf", "(II)I"⟩, 12) := ⟨⟨by decide +kernel, by decide +kernel⟩, List.mem_of_getElem? (i := 25) (by decide +kernel), List.mem_of_getElem? (i := 924) (by decide +kernel), List.mem_of_getElem? (i := 925) (by decide +kernel)⟩
theorem lw_p56 : lw_okq (⟨"CliffGarden$Court", "pointsOf", "(II)I"⟩, 5) := ⟨⟨by decide +kernel, by decide +kernel⟩, List.mem_of_getElem? (i := 213) (by decide +kernel), List.mem_of_getElem? (i := 928) (by decide +kernel), List.mem_of_getElem? (i := 929) (by decide +kernel)⟩
theorem lw_p57 : lw_okq (⟨"CliffGarden$Brow", "factOf", "(II)I"⟩, 9) := ⟨⟨by decide +kernel, by decide +kernel⟩, List.mem_of_getElem? (i := 114) (by decide +kernel), List.mem_of_getElem? (i := 944) (by decide +kernel), List.mem_of_getElem? (i := 945) (by decide +kernel)⟩
theorem lw_p58 : lw_okq (⟨"CliffGarden$Brow", "carries", "(III)Z"⟩, 9) := ⟨⟨by decide +kernel, by decide +kernel⟩, List.mem_of_getElem? (i := 114) (by decide +kernel), List.mem_of_getElem? (i := 952) (by decide +kernel), List.mem_of_getElem? (i := 953) (by decide +kernel)⟩
theorem lw_p59 : lw_okq (⟨"CliffGarden$Rounds", "tell", "(J)V"⟩, 8) := ⟨⟨by decide +kernel, by decide +kernel⟩, List.mem_of_getElem? (i := 360) (by decide +kernel), List.mem_of_getElem? (i := 972) (by decide +kernel), List.mem_of_getElem? (i := 973) (by decide +kernel)⟩
theorem lw_p60 : lw_okq (⟨"CliffGarden$Rounds", "asWork", "(I)V"⟩, 8) := ⟨⟨by decide +kernel, by decide +kernel⟩, List.mem_of_getElem? (i := 360) (by decide +kernel), List.mem_of_getElem? (i := 977) (by decide +kernel), List.mem_of_getElem? (i := 978) (by decide +kernel)⟩
theorem lw_p61 : lw_okq (⟨"CliffGarden$Rounds", "solve", "()V"⟩, 8) := ⟨⟨by decide +kernel, by decide +kernel⟩, List.mem_of_getElem? (i := 360) (by decide +kernel), List.mem_of_getElem? (i := 987) (by decide +kernel), List.mem_of_getElem? (i := 988) (by decide +kernel)⟩
theorem lw_p62 : lw_okq (⟨"CliffGarden$Rounds", "spentOn", "(I)I"⟩, 8) := ⟨⟨by decide +kernel, by decide +kernel⟩, List.mem_of_getElem? (i := 360) (by decide +kernel), List.mem_of_getElem? (i := 991) (by decide +kernel), List.mem_of_getElem? (i := 992) (by decide +kernel)⟩
theorem lw_p63 : lw_okq (⟨"CliffGarden$Rounds", "leastOnward", "(III)I"⟩, 8) := ⟨⟨by decide +kernel, by decide +kernel⟩, List.mem_of_getElem? (i := 360) (by decide +kernel), List.mem_of_getElem? (i := 995) (by decide +kernel), List.mem_of_getElem? (i := 996) (by decide +kernel)⟩
def lw_privs_4 : List (MethodName × Nat) := [(⟨"CliffGarden$Nets", "loosen", "(II)V"⟩, 14), (⟨"CliffGarden", "letCropsGrow", "()V"⟩, 12), (⟨"CliffGarden", "letCropsFall", "()V"⟩, 12), (⟨"CliffGarden", "letKnotsAge", "()V"⟩, 12), (⟨"CliffGarden$Nets", "wouldGo", "(I)J"⟩, 14), (⟨"CliffGarden$Falls", "isWritten", "(I)Z"⟩, 11), (⟨"CliffGarden$Falls", "factOf", "(II)I"⟩, 11), (⟨"CliffGarden", "claimantOf", "(II)I"⟩, 12), (⟨"CliffGarden$Court", "pointsOf", "(II)I"⟩, 5), (⟨"CliffGarden$Brow", "factOf", "(II)I"⟩, 9), (⟨"CliffGarden$Brow", "carries", "(III)Z"⟩, 9), (⟨"CliffGarden$Rounds", "tell", "(J)V"⟩, 8), (⟨"CliffGarden$Rounds", "asWork", "(I)V"⟩, 8), (⟨"CliffGarden$Rounds", "solve", "()V"⟩, 8), (⟨"CliffGarden$Rounds", "spentOn", "(I)I"⟩, 8), (⟨"CliffGarden$Rounds", "leastOnward", "(III)I"⟩, 8)]
theorem lw_r4 : ∀ q ∈ lw_privs_4, lw_okq q := List.forall_mem_cons.mpr ⟨lw_p48, List.forall_mem_cons.mpr ⟨lw_p49, List.forall_mem_cons.mpr ⟨lw_p50, List.forall_mem_cons.mpr ⟨lw_p51, List.forall_mem_cons.mpr ⟨lw_p52, List.forall_mem_cons.mpr ⟨lw_p53, List.forall_mem_cons.mpr ⟨lw_p54, List.forall_mem_cons.mpr ⟨lw_p55, List.forall_mem_cons.mpr ⟨lw_p56, List.forall_mem_cons.mpr ⟨lw_p57, List.forall_mem_cons.mpr ⟨lw_p58, List.forall_mem_cons.mpr ⟨lw_p59, List.forall_mem_cons.mpr ⟨lw_p60, List.forall_mem_cons.mpr ⟨lw_p61, List.forall_mem_cons.mpr ⟨lw_p62, List.forall_mem_cons.mpr ⟨lw_p63, fun _ h => absurd h List.not_mem_nil⟩⟩⟩⟩⟩⟩⟩⟩⟩⟩⟩⟩⟩⟩⟩⟩
theorem lw_p64 : lw_okq (⟨"CliffGarden$Rounds", "costVia", "(IIII)I"⟩, 8) := ⟨⟨by decide +kernel, by decide +kernel⟩, List.mem_of_getElem? (i := 360) (by decide +kernel), List.mem_of_getElem? (i := 1000) (by decide +kernel), List.mem_of_getElem? (i := 1001) (by decide +kernel)⟩
theorem lw_p65 : lw_okq (⟨"CliffGarden$Rounds", "findRow", "(I)V"⟩, 8) := ⟨⟨by decide +kernel, by decide +kernel⟩, List.mem_of_getElem? (i := 360) (by decide +kernel), List.mem_of_getElem? (i := 1005) (by decide +kernel), List.mem_of_getElem? (i := 1006) (by decide +kernel)⟩
theorem lw_p66 : lw_okq (⟨"CliffGarden$Rounds", "least", "()I"⟩, 8) := ⟨⟨by decide +kernel, by decide +kernel⟩, List.mem_of_getElem? (i := 360) (by decide +kernel), List.mem_of_getElem? (i := 1009) (by decide +kernel), List.mem_of_getElem? (i := 1010) (by decide +kernel)⟩
theorem lw_p67 : lw_okq (⟨"CliffGarden$Rounds", "cellAt", "(I)I"⟩, 8) := ⟨⟨by decide +kernel, by decide +kernel⟩, List.mem_of_getElem? (i := 360) (by decide +kernel), List.mem_of_getElem? (i := 1013) (by decide +kernel), List.mem_of_getElem? (i := 1014) (by decide +kernel)⟩
theorem lw_p68 : lw_okq (⟨"CliffGarden$Nets", "columnsOf", "(I)I"⟩, 14) := ⟨⟨by decide +kernel, by decide +kernel⟩, List.mem_of_getElem? (i := 33) (by decide +kernel), List.mem_of_getElem? (i := 1022) (by decide +kernel), List.mem_of_getElem? (i := 1023) (by decide +kernel)⟩
theorem lw_p69 : lw_okq (⟨"CliffGarden$Swallow", "fly", "(IIII)V"⟩, 4) := ⟨⟨by decide +kernel, by decide +kernel⟩, List.mem_of_getElem? (i := 423) (by decide +kernel), List.mem_of_getElem? (i := 1026) (by decide +kernel), List.mem_of_getElem? (i := 1027) (by decide +kernel)⟩
theorem lw_p70 : lw_okq (⟨"CliffGarden$Swallow", "arrive", "(IIIII)V"⟩, 4) := ⟨⟨by decide +kernel, by decide +kernel⟩, List.mem_of_getElem? (i := 423) (by decide +kernel), List.mem_of_getElem? (i := 1031) (by decide +kernel), List.mem_of_getElem? (i := 1032) (by decide +kernel)⟩
theorem lw_p71 : lw_okq (⟨"CliffGarden$Swallow", "cancel", "(I)V"⟩, 4) := ⟨⟨by decide +kernel, by decide +kernel⟩, List.mem_of_getElem? (i := 423) (by decide +kernel), List.mem_of_getElem? (i := 1038) (by decide +kernel), List.mem_of_getElem? (i := 1039) (by decide +kernel)⟩
theorem lw_p72 : lw_okq (⟨"CliffGarden$Planting", "choose", "(J)Z"⟩, 8) := ⟨⟨by decide +kernel, by decide +kernel⟩, List.mem_of_getElem? (i := 391) (by decide +kernel), List.mem_of_getElem? (i := 1050) (by decide +kernel), List.mem_of_getElem? (i := 1051) (by decide +kernel)⟩
theorem lw_p73 : lw_okq (⟨"CliffGarden$Nets", "ripeLoadOf", "(I)I"⟩, 14) := ⟨⟨by decide +kernel, by decide +kernel⟩, List.mem_of_getElem? (i := 33) (by decide +kernel), List.mem_of_getElem? (i := 1055) (by decide +kernel), List.mem_of_getElem? (i := 1056) (by decide +kernel)⟩
theorem lw_p74 : lw_okq (⟨"CliffGarden$Planting", "tryCell", "(II)V"⟩, 8) := ⟨⟨by decide +kernel, by decide +kernel⟩, List.mem_of_getElem? (i := 391) (by decide +kernel), List.mem_of_getElem? (i := 1060) (by decide +kernel), List.mem_of_getElem? (i := 1061) (by decide +kernel)⟩
theorem lw_p75 : lw_okq (⟨"CliffGarden$Planting", "fits", "(II)Z"⟩, 8) := ⟨⟨by decide +kernel, by decide +kernel⟩, List.mem_of_getElem? (i := 391) (by decide +kernel), List.mem_of_getElem? (i := 1065) (by decide +kernel), List.mem_of_getElem? (i := 1066) (by decide +kernel)⟩
theorem lw_p76 : lw_okq (⟨"CliffGarden$Planting", "burden", "(II)V"⟩, 8) := ⟨⟨by decide +kernel, by decide +kernel⟩, List.mem_of_getElem? (i := 391) (by decide +kernel), List.mem_of_getElem? (i := 1069) (by decide +kernel), List.mem_of_getElem? (i := 1070) (by decide +kernel)⟩
theorem lw_p77 : lw_okq (⟨"CliffGarden$Planting", "carryOut", "()V"⟩, 8) := ⟨⟨by decide +kernel, by decide +kernel⟩, List.mem_of_getElem? (i := 391) (by decide +kernel), List.mem_of_getElem? (i := 1073) (by decide +kernel), List.mem_of_getElem? (i := 1074) (by decide +kernel)⟩
theorem lw_p78 : lw_okq (⟨"CliffGarden$Planting", "kindAt", "(I)I"⟩, 8) := ⟨⟨by decide +kernel, by decide +kernel⟩, List.mem_of_getElem? (i := 391) (by decide +kernel), List.mem_of_getElem? (i := 1078) (by decide +kernel), List.mem_of_getElem? (i := 1079) (by decide +kernel)⟩
theorem lw_p79 : lw_okq (⟨"CliffGarden$Water", "share", "(II)V"⟩, 11) := ⟨⟨by decide +kernel, by decide +kernel⟩, List.mem_of_getElem? (i := 281) (by decide +kernel), List.mem_of_getElem? (i := 1093) (by decide +kernel), List.mem_of_getElem? (i := 1094) (by decide +kernel)⟩
def lw_privs_5 : List (MethodName × Nat) := [(⟨"CliffGarden$Rounds", "costVia", "(IIII)I"⟩, 8), (⟨"CliffGarden$Rounds", "findRow", "(I)V"⟩, 8), (⟨"CliffGarden$Rounds", "least", "()I"⟩, 8), (⟨"CliffGarden$Rounds", "cellAt", "(I)I"⟩, 8), (⟨"CliffGarden$Nets", "columnsOf", "(I)I"⟩, 14), (⟨"CliffGarden$Swallow", "fly", "(IIII)V"⟩, 4), (⟨"CliffGarden$Swallow", "arrive", "(IIIII)V"⟩, 4), (⟨"CliffGarden$Swallow", "cancel", "(I)V"⟩, 4), (⟨"CliffGarden$Planting", "choose", "(J)Z"⟩, 8), (⟨"CliffGarden$Nets", "ripeLoadOf", "(I)I"⟩, 14), (⟨"CliffGarden$Planting", "tryCell", "(II)V"⟩, 8), (⟨"CliffGarden$Planting", "fits", "(II)Z"⟩, 8), (⟨"CliffGarden$Planting", "burden", "(II)V"⟩, 8), (⟨"CliffGarden$Planting", "carryOut", "()V"⟩, 8), (⟨"CliffGarden$Planting", "kindAt", "(I)I"⟩, 8), (⟨"CliffGarden$Water", "share", "(II)V"⟩, 11)]
theorem lw_r5 : ∀ q ∈ lw_privs_5, lw_okq q := List.forall_mem_cons.mpr ⟨lw_p64, List.forall_mem_cons.mpr ⟨lw_p65, List.forall_mem_cons.mpr ⟨lw_p66, List.forall_mem_cons.mpr ⟨lw_p67, List.forall_mem_cons.mpr ⟨lw_p68, List.forall_mem_cons.mpr ⟨lw_p69, List.forall_mem_cons.mpr ⟨lw_p70, List.forall_mem_cons.mpr ⟨lw_p71, List.forall_mem_cons.mpr ⟨lw_p72, List.forall_mem_cons.mpr ⟨lw_p73, List.forall_mem_cons.mpr ⟨lw_p74, List.forall_mem_cons.mpr ⟨lw_p75, List.forall_mem_cons.mpr ⟨lw_p76, List.forall_mem_cons.mpr ⟨lw_p77, List.forall_mem_cons.mpr ⟨lw_p78, List.forall_mem_cons.mpr ⟨lw_p79, fun _ h => absurd h List.not_mem_nil⟩⟩⟩⟩⟩⟩⟩⟩⟩⟩⟩⟩⟩⟩⟩⟩
theorem lw_p80 : lw_okq (⟨"CliffGarden$Water", "reckonGrowth", "(I)V"⟩, 11) := ⟨⟨by decide +kernel, by decide +kernel⟩, List.mem_of_getElem? (i := 281) (by decide +kernel), List.mem_of_getElem? (i := 1097) (by decide +kernel), List.mem_of_getElem? (i := 1098) (by decide +kernel)⟩
theorem lw_p81 : lw_okq (⟨"CliffGarden$Water", "tryValve", "(II)V"⟩, 11) := ⟨⟨by decide +kernel, by decide +kernel⟩, List.mem_of_getElem? (i := 281) (by decide +kernel), List.mem_of_getElem? (i := 1103) (by decide +kernel), List.mem_of_getElem? (i := 1104) (by decide +kernel)⟩
theorem lw_p82 : lw_okq (⟨"CliffGarden$Water", "weighTrial", "()V"⟩, 11) := ⟨⟨by decide +kernel, by decide +kernel⟩, List.mem_of_getElem? (i := 281) (by decide +kernel), List.mem_of_getElem? (i := 1107) (by decide +kernel), List.mem_of_getElem? (i := 1108) (by decide +kernel)⟩
theorem lw_p83 : lw_okq (⟨"CliffGarden$Water", "dropsAt", "(I)I"⟩, 11) := ⟨⟨by decide +kernel, by decide +kernel⟩, List.mem_of_getElem? (i := 281) (by decide +kernel), List.mem_of_getElem? (i := 1112) (by decide +kernel), List.mem_of_getElem? (i := 1113) (by decide +kernel)⟩
theorem lw_p84 : lw_okq (⟨"CliffGarden$Rounds", "asMending", "([I)V"⟩, 8) := ⟨⟨by decide +kernel, by decide +kernel⟩, List.mem_of_getElem? (i := 360) (by decide +kernel), List.mem_of_getElem? (i := 1121) (by decide +kernel), List.mem_of_getElem? (i := 1122) (by decide +kernel)⟩
theorem lw_p85 : lw_okq (⟨"CliffGarden$Nets", "highestFall", "(II)I"⟩, 14) := ⟨⟨by decide +kernel, by decide +kernel⟩, List.mem_of_getElem? (i := 33) (by decide +kernel), List.mem_of_getElem? (i := 1130) (by decide +kernel), List.mem_of_getElem? (i := 1131) (by decide +kernel)⟩
theorem lw_p86 : lw_okq (⟨"CliffGarden$Tape", "numberAt", "(I)I"⟩, 2) := ⟨⟨by decide +kernel, by decide +kernel⟩, List.mem_of_getElem? (i := 323) (by decide +kernel), List.mem_of_getElem? (i := 1138) (by decide +kernel), List.mem_of_getElem? (i := 1139) (by decide +kernel)⟩
theorem lw_p87 : lw_okq (⟨"CliffGarden$Nets", "crops", "()I"⟩, 14) := ⟨⟨by decide +kernel, by decide +kernel⟩, List.mem_of_getElem? (i := 33) (by decide +kernel), List.mem_of_getElem? (i := 1146) (by decide +kernel), List.mem_of_getElem? (i := 1147) (by decide +kernel)⟩
theorem lw_p88 : lw_okq (⟨"CliffGarden", "countOfRow", "(I)I"⟩, 12) := ⟨⟨by decide +kernel, by decide +kernel⟩, List.mem_of_getElem? (i := 25) (by decide +kernel), List.mem_of_getElem? (i := 1150) (by decide +kernel), List.mem_of_getElem? (i := 1151) (by decide +kernel)⟩
theorem lw_p89 : lw_okq (⟨"CliffGardenModel", "empties", "(I)V"⟩, 78) := ⟨⟨by decide +kernel, by decide +kernel⟩, List.mem_of_getElem? (i := 1154) (by decide +kernel), List.mem_of_getElem? (i := 1409) (by decide +kernel), List.mem_of_getElem? (i := 1410) (by decide +kernel)⟩
theorem lw_p90 : lw_okq (⟨"CliffGardenModel", "isHung", "(II)Z"⟩, 78) := ⟨⟨by decide +kernel, by decide +kernel⟩, List.mem_of_getElem? (i := 1154) (by decide +kernel), List.mem_of_getElem? (i := 1417) (by decide +kernel), List.mem_of_getElem? (i := 1418) (by decide +kernel)⟩
theorem lw_p91 : lw_okq (⟨"CliffGardenModel", "types", "(I)V"⟩, 78) := ⟨⟨by decide +kernel, by decide +kernel⟩, List.mem_of_getElem? (i := 1154) (by decide +kernel), List.mem_of_getElem? (i := 1450) (by decide +kernel), List.mem_of_getElem? (i := 1451) (by decide +kernel)⟩
theorem lw_p92 : lw_okq (⟨"CliffGardenModel", "readsClause", "()Z"⟩, 78) := ⟨⟨by decide +kernel, by decide +kernel⟩, List.mem_of_getElem? (i := 1154) (by decide +kernel), List.mem_of_getElem? (i := 1458) (by decide +kernel), List.mem_of_getElem? (i := 1459) (by decide +kernel)⟩
theorem lw_p93 : lw_okq (⟨"CliffGardenModel", "here", "()I"⟩, 78) := ⟨⟨by decide +kernel, by decide +kernel⟩, List.mem_of_getElem? (i := 1154) (by decide +kernel), List.mem_of_getElem? (i := 1462) (by decide +kernel), List.mem_of_getElem? (i := 1463) (by decide +kernel)⟩
theorem lw_p94 : lw_okq (⟨"CliffGardenModel", "wrongAt", "(II)Z"⟩, 78) := ⟨⟨by decide +kernel, by decide +kernel⟩, List.mem_of_getElem? (i := 1154) (by decide +kernel), List.mem_of_getElem? (i := 1469) (by decide +kernel), List.mem_of_getElem? (i := 1470) (by decide +kernel)⟩
theorem lw_p95 : lw_okq (⟨"CliffGardenModel", "readsSum", "()Z"⟩, 78) := ⟨⟨by decide +kernel, by decide +kernel⟩, List.mem_of_getElem? (i := 1154) (by decide +kernel), List.mem_of_getElem? (i := 1473) (by decide +kernel), List.mem_of_getElem? (i := 1474) (by decide +kernel)⟩
def lw_privs_6 : List (MethodName × Nat) := [(⟨"CliffGarden$Water", "reckonGrowth", "(I)V"⟩, 11), (⟨"CliffGarden$Water", "tryValve", "(II)V"⟩, 11), (⟨"CliffGarden$Water", "weighTrial", "()V"⟩, 11), (⟨"CliffGarden$Water", "dropsAt", "(I)I"⟩, 11), (⟨"CliffGarden$Rounds", "asMending", "([I)V"⟩, 8), (⟨"CliffGarden$Nets", "highestFall", "(II)I"⟩, 14), (⟨"CliffGarden$Tape", "numberAt", "(I)I"⟩, 2), (⟨"CliffGarden$Nets", "crops", "()I"⟩, 14), (⟨"CliffGarden", "countOfRow", "(I)I"⟩, 12), (⟨"CliffGardenModel", "empties", "(I)V"⟩, 78), (⟨"CliffGardenModel", "isHung", "(II)Z"⟩, 78), (⟨"CliffGardenModel", "types", "(I)V"⟩, 78), (⟨"CliffGardenModel", "readsClause", "()Z"⟩, 78), (⟨"CliffGardenModel", "here", "()I"⟩, 78), (⟨"CliffGardenModel", "wrongAt", "(II)Z"⟩, 78), (⟨"CliffGardenModel", "readsSum", "()Z"⟩, 78)]
theorem lw_r6 : ∀ q ∈ lw_privs_6, lw_okq q := List.forall_mem_cons.mpr ⟨lw_p80, List.forall_mem_cons.mpr ⟨lw_p81, List.forall_mem_cons.mpr ⟨lw_p82, List.forall_mem_cons.mpr ⟨lw_p83, List.forall_mem_cons.mpr ⟨lw_p84, List.forall_mem_cons.mpr ⟨lw_p85, List.forall_mem_cons.mpr ⟨lw_p86, List.forall_mem_cons.mpr ⟨lw_p87, List.forall_mem_cons.mpr ⟨lw_p88, List.forall_mem_cons.mpr ⟨lw_p89, List.forall_mem_cons.mpr ⟨lw_p90, List.forall_mem_cons.mpr ⟨lw_p91, List.forall_mem_cons.mpr ⟨lw_p92, List.forall_mem_cons.mpr ⟨lw_p93, List.forall_mem_cons.mpr ⟨lw_p94, List.forall_mem_cons.mpr ⟨lw_p95, fun _ h => absurd h List.not_mem_nil⟩⟩⟩⟩⟩⟩⟩⟩⟩⟩⟩⟩⟩⟩⟩⟩
theorem lw_p96 : lw_okq (⟨"CliffGardenModel", "readsFactor", "()Z"⟩, 78) := ⟨⟨by decide +kernel, by decide +kernel⟩, List.mem_of_getElem? (i := 1154) (by decide +kernel), List.mem_of_getElem? (i := 1477) (by decide +kernel), List.mem_of_getElem? (i := 1478) (by decide +kernel)⟩
theorem lw_p97 : lw_okq (⟨"CliffGardenModel", "opens", "(I)Z"⟩, 78) := ⟨⟨by decide +kernel, by decide +kernel⟩, List.mem_of_getElem? (i := 1154) (by decide +kernel), List.mem_of_getElem? (i := 1481) (by decide +kernel), List.mem_of_getElem? (i := 1482) (by decide +kernel)⟩
theorem lw_p98 : lw_okq (⟨"CliffGardenModel", "isDigit", "()Z"⟩, 78) := ⟨⟨by decide +kernel, by decide +kernel⟩, List.mem_of_getElem? (i := 1154) (by decide +kernel), List.mem_of_getElem? (i := 1486) (by decide +kernel), List.mem_of_getElem? (i := 1487) (by decide +kernel)⟩
theorem lw_p99 : lw_okq (⟨"CliffGardenModel", "readsNumber", "()Z"⟩, 78) := ⟨⟨by decide +kernel, by decide +kernel⟩, List.mem_of_getElem? (i := 1154) (by decide +kernel), List.mem_of_getElem? (i := 1490) (by decide +kernel), List.mem_of_getElem? (i := 1491) (by decide +kernel)⟩
theorem lw_p100 : lw_okq (⟨"CliffGardenModel", "notes", "(II)V"⟩, 78) := ⟨⟨by decide +kernel, by decide +kernel⟩, List.mem_of_getElem? (i := 1154) (by decide +kernel), List.mem_of_getElem? (i := 1494) (by decide +kernel), List.mem_of_getElem? (i := 1495) (by decide +kernel)⟩
theorem lw_p101 : lw_okq (⟨"CliffGardenModel", "closesSums", "(Z)V"⟩, 78) := ⟨⟨by decide +kernel, by decide +kernel⟩, List.mem_of_getElem? (i := 1154) (by decide +kernel), List.mem_of_getElem? (i := 1504) (by decide +kernel), List.mem_of_getElem? (i := 1505) (by decide +kernel)⟩
theorem lw_p102 : lw_okq (⟨"CliffGardenModel", "top", "()I"⟩, 78) := ⟨⟨by decide +kernel, by decide +kernel⟩, List.mem_of_getElem? (i := 1154) (by decide +kernel), List.mem_of_getElem? (i := 1508) (by decide +kernel), List.mem_of_getElem? (i := 1509) (by decide +kernel)⟩
theorem lw_p103 : lw_okq (⟨"CliffGardenModel", "hasOpenSum", "(I)Z"⟩, 78) := ⟨⟨by decide +kernel, by decide +kernel⟩, List.mem_of_getElem? (i := 1154) (by decide +kernel), List.mem_of_getElem? (i := 1512) (by decide +kernel), List.mem_of_getElem? (i := 1513) (by decide +kernel)⟩
theorem lw_p104 : lw_okq (⟨"CliffGardenModel", "readsCondition", "()Z"⟩, 78) := ⟨⟨by decide +kernel, by decide +kernel⟩, List.mem_of_getElem? (i := 1154) (by decide +kernel), List.mem_of_getElem? (i := 1516) (by decide +kernel), List.mem_of_getElem? (i := 1517) (by decide +kernel)⟩
theorem lw_p105 : lw_okq (⟨"CliffGardenModel", "readsCompared", "()Z"⟩, 78) := ⟨⟨by decide +kernel, by decide +kernel⟩, List.mem_of_getElem? (i := 1154) (by decide +kernel), List.mem_of_getElem? (i := 1520) (by decide +kernel), List.mem_of_getElem? (i := 1521) (by decide +kernel)⟩
theorem lw_p106 : lw_okq (⟨"CliffGardenModel", "endsPiece", "()V"⟩, 78) := ⟨⟨by decide +kernel, by decide +kernel⟩, List.mem_of_getElem? (i := 1154) (by decide +kernel), List.mem_of_getElem? (i := 1524) (by decide +kernel), List.mem_of_getElem? (i := 1525) (by decide +kernel)⟩
theorem lw_p107 : lw_okq (⟨"CliffGardenModel", "lands", "(Z)V"⟩, 78) := ⟨⟨by decide +kernel, by decide +kernel⟩, List.mem_of_getElem? (i := 1154) (by decide +kernel), List.mem_of_getElem? (i := 1528) (by decide +kernel), List.mem_of_getElem? (i := 1529) (by decide +kernel)⟩
theorem lw_p108 : lw_okq (⟨"CliffGardenModel", "jumps", "(I)V"⟩, 78) := ⟨⟨by decide +kernel, by decide +kernel⟩, List.mem_of_getElem? (i := 1154) (by decide +kernel), List.mem_of_getElem? (i := 1532) (by decide +kernel), List.mem_of_getElem? (i := 1533) (by decide +kernel)⟩
theorem lw_p109 : lw_okq (⟨"CliffGardenModel", "takes", "(I)Z"⟩, 78) := ⟨⟨by decide +kernel, by decide +kernel⟩, List.mem_of_getElem? (i := 1154) (by decide +kernel), List.mem_of_getElem? (i := 1536) (by decide +kernel), List.mem_of_getElem? (i := 1537) (by decide +kernel)⟩
theorem lw_p110 : lw_okq (⟨"CliffGardenModel", "asked", "(III)I"⟩, 78) := ⟨⟨by decide +kernel, by decide +kernel⟩, List.mem_of_getElem? (i := 1154) (by decide +kernel), List.mem_of_getElem? (i := 1544) (by decide +kernel), List.mem_of_getElem? (i := 1545) (by decide +kernel)⟩
theorem lw_p111 : lw_okq (⟨"CliffGardenModel", "feels", "(I)V"⟩, 78) := ⟨⟨by decide +kernel, by decide +kernel⟩, List.mem_of_getElem? (i := 1154) (by decide +kernel), List.mem_of_getElem? (i := 1548) (by decide +kernel), List.mem_of_getElem? (i := 1549) (by decide +kernel)⟩
def lw_privs_7 : List (MethodName × Nat) := [(⟨"CliffGardenModel", "readsFactor", "()Z"⟩, 78), (⟨"CliffGardenModel", "opens", "(I)Z"⟩, 78), (⟨"CliffGardenModel", "isDigit", "()Z"⟩, 78), (⟨"CliffGardenModel", "readsNumber", "()Z"⟩, 78), (⟨"CliffGardenModel", "notes", "(II)V"⟩, 78), (⟨"CliffGardenModel", "closesSums", "(Z)V"⟩, 78), (⟨"CliffGardenModel", "top", "()I"⟩, 78), (⟨"CliffGardenModel", "hasOpenSum", "(I)Z"⟩, 78), (⟨"CliffGardenModel", "readsCondition", "()Z"⟩, 78), (⟨"CliffGardenModel", "readsCompared", "()Z"⟩, 78), (⟨"CliffGardenModel", "endsPiece", "()V"⟩, 78), (⟨"CliffGardenModel", "lands", "(Z)V"⟩, 78), (⟨"CliffGardenModel", "jumps", "(I)V"⟩, 78), (⟨"CliffGardenModel", "takes", "(I)Z"⟩, 78), (⟨"CliffGardenModel", "asked", "(III)I"⟩, 78), (⟨"CliffGardenModel", "feels", "(I)V"⟩, 78)]
theorem lw_r7 : ∀ q ∈ lw_privs_7, lw_okq q := List.forall_mem_cons.mpr ⟨lw_p96, List.forall_mem_cons.mpr ⟨lw_p97, List.forall_mem_cons.mpr ⟨lw_p98, List.forall_mem_cons.mpr ⟨lw_p99, List.forall_mem_cons.mpr ⟨lw_p100, List.forall_mem_cons.mpr ⟨lw_p101, List.forall_mem_cons.mpr ⟨lw_p102, List.forall_mem_cons.mpr ⟨lw_p103, List.forall_mem_cons.mpr ⟨lw_p104, List.forall_mem_cons.mpr ⟨lw_p105, List.forall_mem_cons.mpr ⟨lw_p106, List.forall_mem_cons.mpr ⟨lw_p107, List.forall_mem_cons.mpr ⟨lw_p108, List.forall_mem_cons.mpr ⟨lw_p109, List.forall_mem_cons.mpr ⟨lw_p110, List.forall_mem_cons.mpr ⟨lw_p111, fun _ h => absurd h List.not_mem_nil⟩⟩⟩⟩⟩⟩⟩⟩⟩⟩⟩⟩⟩⟩⟩⟩
theorem lw_p112 : lw_okq (⟨"CliffGardenModel", "feelsCell", "(III)V"⟩, 78) := ⟨⟨by decide +kernel, by decide +kernel⟩, List.mem_of_getElem? (i := 1154) (by decide +kernel), List.mem_of_getElem? (i := 1552) (by decide +kernel), List.mem_of_getElem? (i := 1553) (by decide +kernel)⟩
theorem lw_p113 : lw_okq (⟨"CliffGardenModel", "isRipe", "(I)Z"⟩, 78) := ⟨⟨by decide +kernel, by decide +kernel⟩, List.mem_of_getElem? (i := 1154) (by decide +kernel), List.mem_of_getElem? (i := 1556) (by decide +kernel), List.mem_of_getElem? (i := 1557) (by decide +kernel)⟩
theorem lw_p114 : lw_okq (⟨"CliffGardenModel", "feelsCrop", "(IIZZ)V"⟩, 78) := ⟨⟨by decide +kernel, by decide +kernel⟩, List.mem_of_getElem? (i := 1154) (by decide +kernel), List.mem_of_getElem? (i := 1560) (by decide +kernel), List.mem_of_getElem? (i := 1561) (by decide +kernel)⟩
theorem lw_p115 : lw_okq (⟨"CliffGardenModel", "told", "(II)I"⟩, 78) := ⟨⟨by decide +kernel, by decide +kernel⟩, List.mem_of_getElem? (i := 1154) (by decide +kernel), List.mem_of_getElem? (i := 1564) (by decide +kernel), List.mem_of_getElem? (i := 1565) (by decide +kernel)⟩
theorem lw_p116 : lw_okq (⟨"CliffGardenModel", "comesTo", "(II)I"⟩, 78) := ⟨⟨by decide +kernel, by decide +kernel⟩, List.mem_of_getElem? (i := 1154) (by decide +kernel), List.mem_of_getElem? (i := 1568) (by decide +kernel), List.mem_of_getElem? (i := 1569) (by decide +kernel)⟩
theorem lw_p117 : lw_okq (⟨"CliffGardenModel", "flows", "()V"⟩, 78) := ⟨⟨by decide +kernel, by decide +kernel⟩, List.mem_of_getElem? (i := 1154) (by decide +kernel), List.mem_of_getElem? (i := 1579) (by decide +kernel), List.mem_of_getElem? (i := 1580) (by decide +kernel)⟩
theorem lw_p118 : lw_okq (⟨"CliffGardenModel", "drips", "(II)V"⟩, 78) := ⟨⟨by decide +kernel, by decide +kernel⟩, List.mem_of_getElem? (i := 1154) (by decide +kernel), List.mem_of_getElem? (i := 1583) (by decide +kernel), List.mem_of_getElem? (i := 1584) (by decide +kernel)⟩
theorem lw_p119 : lw_okq (⟨"CliffGardenModel", "sends", "(III)V"⟩, 78) := ⟨⟨by decide +kernel, by decide +kernel⟩, List.mem_of_getElem? (i := 1154) (by decide +kernel), List.mem_of_getElem? (i := 1587) (by decide +kernel), List.mem_of_getElem? (i := 1588) (by decide +kernel)⟩
theorem lw_p120 : lw_okq (⟨"CliffGardenModel", "loadOf", "(I)I"⟩, 78) := ⟨⟨by decide +kernel, by decide +kernel⟩, List.mem_of_getElem? (i := 1154) (by decide +kernel), List.mem_of_getElem? (i := 1598) (by decide +kernel), List.mem_of_getElem? (i := 1599) (by decide +kernel)⟩
theorem lw_p121 : lw_okq (⟨"CliffGardenModel", "ownLoad", "(I)I"⟩, 78) := ⟨⟨by decide +kernel, by decide +kernel⟩, List.mem_of_getElem? (i := 1154) (by decide +kernel), List.mem_of_getElem? (i := 1602) (by decide +kernel), List.mem_of_getElem? (i := 1603) (by decide +kernel)⟩
theorem lw_p122 : lw_okq (⟨"CliffGardenModel", "falls", "(IZ)I"⟩, 78) := ⟨⟨by decide +kernel, by decide +kernel⟩, List.mem_of_getElem? (i := 1154) (by decide +kernel), List.mem_of_getElem? (i := 1610) (by decide +kernel), List.mem_of_getElem? (i := 1611) (by decide +kernel)⟩
theorem lw_p123 : lw_okq (⟨"CliffGardenModel", "catcher", "(I)I"⟩, 78) := ⟨⟨by decide +kernel, by decide +kernel⟩, List.mem_of_getElem? (i := 1154) (by decide +kernel), List.mem_of_getElem? (i := 1614) (by decide +kernel), List.mem_of_getElem? (i := 1615) (by decide +kernel)⟩
theorem lw_p124 : lw_okq (⟨"CliffGardenModel", "writes", "(IIII)V"⟩, 78) := ⟨⟨by decide +kernel, by decide +kernel⟩, List.mem_of_getElem? (i := 1154) (by decide +kernel), List.mem_of_getElem? (i := 1618) (by decide +kernel), List.mem_of_getElem? (i := 1619) (by decide +kernel)⟩
theorem lw_p125 : lw_okq (⟨"CliffGardenModel", "firstGoing", "()I"⟩, 78) := ⟨⟨by decide +kernel, by decide +kernel⟩, List.mem_of_getElem? (i := 1154) (by decide +kernel), List.mem_of_getElem? (i := 1626) (by decide +kernel), List.mem_of_getElem? (i := 1627) (by decide +kernel)⟩
theorem lw_p126 : lw_okq (⟨"CliffGardenModel", "goesOff", "(IZ)I"⟩, 78) := ⟨⟨by decide +kernel, by decide +kernel⟩, List.mem_of_getElem? (i := 1154) (by decide +kernel), List.mem_of_getElem? (i := 1630) (by decide +kernel), List.mem_of_getElem? (i := 1631) (by decide +kernel)⟩
theorem lw_p127 : lw_okq (⟨"CliffGardenModel", "tears", "(III)V"⟩, 78) := ⟨⟨by decide +kernel, by decide +kernel⟩, List.mem_of_getElem? (i := 1154) (by decide +kernel), List.mem_of_getElem? (i := 1634) (by decide +kernel), List.mem_of_getElem? (i := 1635) (by decide +kernel)⟩
def lw_privs_8 : List (MethodName × Nat) := [(⟨"CliffGardenModel", "feelsCell", "(III)V"⟩, 78), (⟨"CliffGardenModel", "isRipe", "(I)Z"⟩, 78), (⟨"CliffGardenModel", "feelsCrop", "(IIZZ)V"⟩, 78), (⟨"CliffGardenModel", "told", "(II)I"⟩, 78), (⟨"CliffGardenModel", "comesTo", "(II)I"⟩, 78), (⟨"CliffGardenModel", "flows", "()V"⟩, 78), (⟨"CliffGardenModel", "drips", "(II)V"⟩, 78), (⟨"CliffGardenModel", "sends", "(III)V"⟩, 78), (⟨"CliffGardenModel", "loadOf", "(I)I"⟩, 78), (⟨"CliffGardenModel", "ownLoad", "(I)I"⟩, 78), (⟨"CliffGardenModel", "falls", "(IZ)I"⟩, 78), (⟨"CliffGardenModel", "catcher", "(I)I"⟩, 78), (⟨"CliffGardenModel", "writes", "(IIII)V"⟩, 78), (⟨"CliffGardenModel", "firstGoing", "()I"⟩, 78), (⟨"CliffGardenModel", "goesOff", "(IZ)I"⟩, 78), (⟨"CliffGardenModel", "tears", "(III)V"⟩, 78)]
theorem lw_r8 : ∀ q ∈ lw_privs_8, lw_okq q := List.forall_mem_cons.mpr ⟨lw_p112, List.forall_mem_cons.mpr ⟨lw_p113, List.forall_mem_cons.mpr ⟨lw_p114, List.forall_mem_cons.mpr ⟨lw_p115, List.forall_mem_cons.mpr ⟨lw_p116, List.forall_mem_cons.mpr ⟨lw_p117, List.forall_mem_cons.mpr ⟨lw_p118, List.forall_mem_cons.mpr ⟨lw_p119, List.forall_mem_cons.mpr ⟨lw_p120, List.forall_mem_cons.mpr ⟨lw_p121, List.forall_mem_cons.mpr ⟨lw_p122, List.forall_mem_cons.mpr ⟨lw_p123, List.forall_mem_cons.mpr ⟨lw_p124, List.forall_mem_cons.mpr ⟨lw_p125, List.forall_mem_cons.mpr ⟨lw_p126, List.forall_mem_cons.mpr ⟨lw_p127, fun _ h => absurd h List.not_mem_nil⟩⟩⟩⟩⟩⟩⟩⟩⟩⟩⟩⟩⟩⟩⟩⟩
theorem lw_p128 : lw_okq (⟨"CliffGardenModel", "isFall", "(I)Z"⟩, 78) := ⟨⟨by decide +kernel, by decide +kernel⟩, List.mem_of_getElem? (i := 1154) (by decide +kernel), List.mem_of_getElem? (i := 1657) (by decide +kernel), List.mem_of_getElem? (i := 1658) (by decide +kernel)⟩
theorem lw_p129 : lw_okq (⟨"CliffGardenModel", "claimer", "(II)I"⟩, 78) := ⟨⟨by decide +kernel, by decide +kernel⟩, List.mem_of_getElem? (i := 1154) (by decide +kernel), List.mem_of_getElem? (i := 1665) (by decide +kernel), List.mem_of_getElem? (i := 1666) (by decide +kernel)⟩
theorem lw_p130 : lw_okq (⟨"CliffGardenModel", "mayBe", "(II)Z"⟩, 78) := ⟨⟨by decide +kernel, by decide +kernel⟩, List.mem_of_getElem? (i := 1154) (by decide +kernel), List.mem_of_getElem? (i := 1685) (by decide +kernel), List.mem_of_getElem? (i := 1686) (by decide +kernel)⟩
theorem lw_p131 : lw_okq (⟨"CliffGardenModel", "lays", "(JI)Z"⟩, 78) := ⟨⟨by decide +kernel, by decide +kernel⟩, List.mem_of_getElem? (i := 1154) (by decide +kernel), List.mem_of_getElem? (i := 1693) (by decide +kernel), List.mem_of_getElem? (i := 1694) (by decide +kernel)⟩
theorem lw_p132 : lw_okq (⟨"CliffGardenModel", "laysHours", "()V"⟩, 78) := ⟨⟨by decide +kernel, by decide +kernel⟩, List.mem_of_getElem? (i := 1154) (by decide +kernel), List.mem_of_getElem? (i := 1698) (by decide +kernel), List.mem_of_getElem? (i := 1699) (by decide +kernel)⟩
theorem lw_p133 : lw_okq (⟨"CliffGardenModel", "takesUp", "(II)J"⟩, 78) := ⟨⟨by decide +kernel, by decide +kernel⟩, List.mem_of_getElem? (i := 1154) (by decide +kernel), List.mem_of_getElem? (i := 1713) (by decide +kernel), List.mem_of_getElem? (i := 1714) (by decide +kernel)⟩
theorem lw_p134 : lw_okq (⟨"CliffGardenModel", "hasKind", "(II)Z"⟩, 78) := ⟨⟨by decide +kernel, by decide +kernel⟩, List.mem_of_getElem? (i := 1154) (by decide +kernel), List.mem_of_getElem? (i := 1717) (by decide +kernel), List.mem_of_getElem? (i := 1718) (by decide +kernel)⟩
theorem lw_p135 : lw_okq (⟨"CliffGardenModel", "flies", "()V"⟩, 78) := ⟨⟨by decide +kernel, by decide +kernel⟩, List.mem_of_getElem? (i := 1154) (by decide +kernel), List.mem_of_getElem? (i := 1721) (by decide +kernel), List.mem_of_getElem? (i := 1722) (by decide +kernel)⟩
theorem lw_p136 : lw_okq (⟨"CliffGardenModel", "areWhole", "()Z"⟩, 78) := ⟨⟨by decide +kernel, by decide +kernel⟩, List.mem_of_getElem? (i := 1154) (by decide +kernel), List.mem_of_getElem? (i := 1740) (by decide +kernel), List.mem_of_getElem? (i := 1741) (by decide +kernel)⟩
theorem lw_p137 : lw_okq (⟨"CliffGardenModel", "bearsAll", "()Z"⟩, 78) := ⟨⟨by decide +kernel, by decide +kernel⟩, List.mem_of_getElem? (i := 1154) (by decide +kernel), List.mem_of_getElem? (i := 1744) (by decide +kernel), List.mem_of_getElem? (i := 1745) (by decide +kernel)⟩
theorem lw_p138 : lw_okq (⟨"CliffGardenModel", "growth", "()I"⟩, 78) := ⟨⟨by decide +kernel, by decide +kernel⟩, List.mem_of_getElem? (i := 1154) (by decide +kernel), List.mem_of_getElem? (i := 1755) (by decide +kernel), List.mem_of_getElem? (i := 1756) (by decide +kernel)⟩
theorem lw_p139 : lw_okq (⟨"CliffGardenModel", "canBeNext", "(II)Z"⟩, 78) := ⟨⟨by decide +kernel, by decide +kernel⟩, List.mem_of_getElem? (i := 1154) (by decide +kernel), List.mem_of_getElem? (i := 1763) (by decide +kernel), List.mem_of_getElem? (i := 1764) (by decide +kernel)⟩
theorem lw_p140 : lw_okq (⟨"CliffGardenModel", "costBy", "(II)I"⟩, 78) := ⟨⟨by decide +kernel, by decide +kernel⟩, List.mem_of_getElem? (i := 1154) (by decide +kernel), List.mem_of_getElem? (i := 1767) (by decide +kernel), List.mem_of_getElem? (i := 1768) (by decide +kernel)⟩
theorem lw_p141 : lw_okq (⟨"CliffGardenModel", "hoursOf", "(I)I"⟩, 78) := ⟨⟨by decide +kernel, by decide +kernel⟩, List.mem_of_getElem? (i := 1154) (by decide +kernel), List.mem_of_getElem? (i := 1771) (by decide +kernel), List.mem_of_getElem? (i := 1772) (by decide +kernel)⟩
theorem lw_p142 : lw_okq (⟨"CliffGardenModel", "isHit", "(II)Z"⟩, 78) := ⟨⟨by decide +kernel, by decide +kernel⟩, List.mem_of_getElem? (i := 1154) (by decide +kernel), List.mem_of_getElem? (i := 1782) (by decide +kernel), List.mem_of_getElem? (i := 1783) (by decide +kernel)⟩
theorem lw_p143 : lw_okq (⟨"CliffGardenModel", "tapeNumber", "(I)I"⟩, 78) := ⟨⟨by decide +kernel, by decide +kernel⟩, List.mem_of_getElem? (i := 1154) (by decide +kernel), List.mem_of_getElem? (i := 1790) (by decide +kernel), List.mem_of_getElem? (i := 1791) (by decide +kernel)⟩
def lw_privs_9 : List (MethodName × Nat) := [(⟨"CliffGardenModel", "isFall", "(I)Z"⟩, 78), (⟨"CliffGardenModel", "claimer", "(II)I"⟩, 78), (⟨"CliffGardenModel", "mayBe", "(II)Z"⟩, 78), (⟨"CliffGardenModel", "lays", "(JI)Z"⟩, 78), (⟨"CliffGardenModel", "laysHours", "()V"⟩, 78), (⟨"CliffGardenModel", "takesUp", "(II)J"⟩, 78), (⟨"CliffGardenModel", "hasKind", "(II)Z"⟩, 78), (⟨"CliffGardenModel", "flies", "()V"⟩, 78), (⟨"CliffGardenModel", "areWhole", "()Z"⟩, 78), (⟨"CliffGardenModel", "bearsAll", "()Z"⟩, 78), (⟨"CliffGardenModel", "growth", "()I"⟩, 78), (⟨"CliffGardenModel", "canBeNext", "(II)Z"⟩, 78), (⟨"CliffGardenModel", "costBy", "(II)I"⟩, 78), (⟨"CliffGardenModel", "hoursOf", "(I)I"⟩, 78), (⟨"CliffGardenModel", "isHit", "(II)Z"⟩, 78), (⟨"CliffGardenModel", "tapeNumber", "(I)I"⟩, 78)]
theorem lw_r9 : ∀ q ∈ lw_privs_9, lw_okq q := List.forall_mem_cons.mpr ⟨lw_p128, List.forall_mem_cons.mpr ⟨lw_p129, List.forall_mem_cons.mpr ⟨lw_p130, List.forall_mem_cons.mpr ⟨lw_p131, List.forall_mem_cons.mpr ⟨lw_p132, List.forall_mem_cons.mpr ⟨lw_p133, List.forall_mem_cons.mpr ⟨lw_p134, List.forall_mem_cons.mpr ⟨lw_p135, List.forall_mem_cons.mpr ⟨lw_p136, List.forall_mem_cons.mpr ⟨lw_p137, List.forall_mem_cons.mpr ⟨lw_p138, List.forall_mem_cons.mpr ⟨lw_p139, List.forall_mem_cons.mpr ⟨lw_p140, List.forall_mem_cons.mpr ⟨lw_p141, List.forall_mem_cons.mpr ⟨lw_p142, List.forall_mem_cons.mpr ⟨lw_p143, fun _ h => absurd h List.not_mem_nil⟩⟩⟩⟩⟩⟩⟩⟩⟩⟩⟩⟩⟩⟩⟩⟩
theorem lw_p144 : lw_okq (⟨"CliffGardenModel", "cells", "(Z)I"⟩, 78) := ⟨⟨by decide +kernel, by decide +kernel⟩, List.mem_of_getElem? (i := 1154) (by decide +kernel), List.mem_of_getElem? (i := 1798) (by decide +kernel), List.mem_of_getElem? (i := 1799) (by decide +kernel)⟩
def lw_privs_10 : List (MethodName × Nat) := [(⟨"CliffGardenModel", "cells", "(Z)I"⟩, 78)]
theorem lw_r10 : ∀ q ∈ lw_privs_10, lw_okq q := List.forall_mem_cons.mpr ⟨lw_p144, fun _ h => absurd h List.not_mem_nil⟩
def lw_privs : List (MethodName × Nat) := lw_privs_1 ++ (lw_privs_2 ++ (lw_privs_3 ++ (lw_privs_4 ++ (lw_privs_5 ++ (lw_privs_6 ++ (lw_privs_7 ++ (lw_privs_8 ++ (lw_privs_9 ++ (lw_privs_10)))))))))
def lw_tbl : List Cond := k2_sels lw_privs ++ tables_1
theorem lw_privs_ok : ∀ q ∈ lw_privs, lw_okq q := by
  show ∀ q ∈ lw_privs_1 ++ (lw_privs_2 ++ (lw_privs_3 ++ (lw_privs_4 ++ (lw_privs_5 ++ (lw_privs_6 ++ (lw_privs_7 ++ (lw_privs_8 ++ (lw_privs_9 ++ (lw_privs_10))))))))), lw_okq q
  exact List.forall_mem_append.mpr ⟨lw_r1, List.forall_mem_append.mpr ⟨lw_r2, List.forall_mem_append.mpr ⟨lw_r3, List.forall_mem_append.mpr ⟨lw_r4, List.forall_mem_append.mpr ⟨lw_r5, List.forall_mem_append.mpr ⟨lw_r6, List.forall_mem_append.mpr ⟨lw_r7, List.forall_mem_append.mpr ⟨lw_r8, List.forall_mem_append.mpr ⟨lw_r9, lw_r10⟩⟩⟩⟩⟩⟩⟩⟩⟩
end
section
def RX0 : String := "CliffGarden$Brow"
def TX0 : u_T := fun k => match k with
  | 0 => ("CliffGarden$Brow", "valve", "[I", true)
  | 1 => ("CliffGarden$Brow", "owner", "[I", true)
  | 2 => ("CliffGarden$Brow", "roof", "[I", true)
  | 3 => ("CliffGarden$Brow", "drops", "[I", true)
  | 4 => ("CliffGarden$Brow", "holes", "[I", true)
  | 5 => ("CliffGarden$Brow", "bears", "[I", true)
  | 6 => ("CliffGarden$Brow", "hourCosts", "[I", true)
  | 7 => ("CliffGarden$Brow", "food", "[I", true)
  | _ => ("CliffGarden$Brow", "today", "I", false)
def tyX0 : Nat → FieldType := fun k => match k with
  | 0 => .array .int
  | 1 => .array .int
  | 2 => .array .int
  | 3 => .array .int
  | 4 => .array .int
  | 5 => .array .int
  | 6 => .array .int
  | 7 => .array .int
  | _ => .int
abbrev wsX00 : List Cond := u_ws RX0 TX0 9
theorem nmX0 : ∀ a, a < 9 → ∀ b, b < 9 → a ≠ b → (TX0 a).2.1 ≠ (TX0 b).2.1 := by decide +kernel
theorem tyX0_ok : ∀ k, k < 9 → parseFieldDescriptor (TX0 k).2.2.1 = some (tyX0 k) := by decide +kernel
def RX1 : String := "CliffGarden$Court"
def TX1 : u_T := fun k => match k with
  | 0 => ("CliffGarden$Court", "nets", "LCliffGarden$Nets;", true)
  | 1 => ("CliffGarden$Court", "brow", "LCliffGarden$Brow;", true)
  | 2 => ("CliffGarden$Court", "falls", "LCliffGarden$Falls;", true)
  | 3 => ("CliffGarden$Court", "seen", "[I", true)
  | _ => ("CliffGarden$Court", "law", "LCliffGarden$Statute;", false)
def tyX1 : Nat → FieldType := fun k => match k with
  | 0 => .object "CliffGarden$Nets"
  | 1 => .object "CliffGarden$Brow"
  | 2 => .object "CliffGarden$Falls"
  | 3 => .array .int
  | _ => .object "CliffGarden$Statute"
abbrev wsX10 : List Cond := u_ws RX1 TX1 5
theorem nmX1 : ∀ a, a < 5 → ∀ b, b < 5 → a ≠ b → (TX1 a).2.1 ≠ (TX1 b).2.1 := by decide +kernel
theorem tyX1_ok : ∀ k, k < 5 → parseFieldDescriptor (TX1 k).2.2.1 = some (tyX1 k) := by decide +kernel
def RX2 : String := "CliffGarden$Falls"
def TX2 : u_T := fun k => match k with
  | 0 => ("CliffGarden$Falls", "from", "[I", true)
  | 1 => ("CliffGarden$Falls", "kind", "[I", true)
  | 2 => ("CliffGarden$Falls", "weight", "[I", true)
  | 3 => ("CliffGarden$Falls", "ripe", "[Z", true)
  | 4 => ("CliffGarden$Falls", "pollinated", "[Z", true)
  | 5 => ("CliffGarden$Falls", "lies", "[I", true)
  | 6 => ("CliffGarden$Falls", "whose", "[I", true)
  | 7 => ("CliffGarden$Falls", "food", "[I", true)
  | 8 => ("CliffGarden$Falls", "day", "[I", true)
  | 9 => ("CliffGarden$Falls", "written", "I", false)
  | _ => ("CliffGarden$Falls", "happened", "I", false)
def tyX2 : Nat → FieldType := fun k => match k with
  | 0 => .array .int
  | 1 => .array .int
  | 2 => .array .int
  | 3 => .array .boolean
  | 4 => .array .boolean
  | 5 => .array .int
  | 6 => .array .int
  | 7 => .array .int
  | 8 => .array .int
  | 9 => .int
  | _ => .int
abbrev wsX20 : List Cond := u_ws RX2 TX2 11
theorem nmX2 : ∀ a, a < 11 → ∀ b, b < 11 → a ≠ b → (TX2 a).2.1 ≠ (TX2 b).2.1 := by decide +kernel
theorem tyX2_ok : ∀ k, k < 11 → parseFieldDescriptor (TX2 k).2.2.1 = some (tyX2 k) := by decide +kernel
def RX3 : String := "CliffGarden$Nets"
def TX3 : u_T := fun k => match k with
  | 0 => ("CliffGarden$Nets", "hanging", "J", false)
  | 1 => ("CliffGarden$Nets", "knot", "[I", true)
  | 2 => ("CliffGarden$Nets", "soil", "[I", true)
  | 3 => ("CliffGarden$Nets", "farmer", "[I", true)
  | 4 => ("CliffGarden$Nets", "way", "[I", true)
  | 5 => ("CliffGarden$Nets", "kind", "[I", true)
  | 6 => ("CliffGarden$Nets", "weight", "[I", true)
  | 7 => ("CliffGarden$Nets", "caught", "[I", true)
  | 8 => ("CliffGarden$Nets", "kept", "[I", true)
  | 9 => ("CliffGarden$Nets", "pollinated", "[Z", true)
  | 10 => ("CliffGarden$Nets", "need", "[I", true)
  | 11 => ("CliffGarden$Nets", "ripe", "[I", true)
  | 12 => ("CliffGarden$Nets", "worth", "[I", true)
  | _ => ("CliffGarden$Nets", "knotsBefore", "[I", true)
def tyX3 : Nat → FieldType := fun k => match k with
  | 0 => .long
  | 1 => .array .int
  | 2 => .array .int
  | 3 => .array .int
  | 4 => .array .int
  | 5 => .array .int
  | 6 => .array .int
  | 7 => .array .int
  | 8 => .array .int
  | 9 => .array .boolean
  | 10 => .array .int
  | 11 => .array .int
  | 12 => .array .int
  | _ => .array .int
abbrev wsX30 : List Cond := u_ws RX3 TX3 14
theorem nmX3 : ∀ a, a < 14 → ∀ b, b < 14 → a ≠ b → (TX3 a).2.1 ≠ (TX3 b).2.1 := by decide +kernel
theorem tyX3_ok : ∀ k, k < 14 → parseFieldDescriptor (TX3 k).2.2.1 = some (tyX3 k) := by decide +kernel
def RX4 : String := "CliffGarden$Planting"
def TX4 : u_T := fun k => match k with
  | 0 => ("CliffGarden$Planting", "nets", "LCliffGarden$Nets;", true)
  | 1 => ("CliffGarden$Planting", "brow", "LCliffGarden$Brow;", true)
  | 2 => ("CliffGarden$Planting", "spare", "[I", true)
  | 3 => ("CliffGarden$Planting", "cells", "[I", true)
  | 4 => ("CliffGarden$Planting", "trial", "[I", true)
  | 5 => ("CliffGarden$Planting", "best", "[I", true)
  | 6 => ("CliffGarden$Planting", "told", "I", false)
  | _ => ("CliffGarden$Planting", "mostWorth", "I", false)
def tyX4 : Nat → FieldType := fun k => match k with
  | 0 => .object "CliffGarden$Nets"
  | 1 => .object "CliffGarden$Brow"
  | 2 => .array .int
  | 3 => .array .int
  | 4 => .array .int
  | 5 => .array .int
  | 6 => .int
  | _ => .int
abbrev wsX40 : List Cond := u_ws RX4 TX4 8
theorem nmX4 : ∀ a, a < 8 → ∀ b, b < 8 → a ≠ b → (TX4 a).2.1 ≠ (TX4 b).2.1 := by decide +kernel
theorem tyX4_ok : ∀ k, k < 8 → parseFieldDescriptor (TX4 k).2.2.1 = some (tyX4 k) := by decide +kernel
def RX5 : String := "CliffGarden$Reader"
def TX5 : u_T := fun k => match k with
  | 0 => ("CliffGarden$Reader", "text", "LCliffGarden$Tape;", false)
  | 1 => ("CliffGarden$Reader", "into", "LCliffGarden$Statute;", false)
  | 2 => ("CliffGarden$Reader", "length", "I", false)
  | 3 => ("CliffGarden$Reader", "at", "I", false)
  | _ => ("CliffGarden$Reader", "fault", "I", false)
def tyX5 : Nat → FieldType := fun k => match k with
  | 0 => .object "CliffGarden$Tape"
  | 1 => .object "CliffGarden$Statute"
  | 2 => .int
  | 3 => .int
  | _ => .int
abbrev wsX50 : List Cond := u_ws RX5 TX5 5
theorem nmX5 : ∀ a, a < 5 → ∀ b, b < 5 → a ≠ b → (TX5 a).2.1 ≠ (TX5 b).2.1 := by decide +kernel
theorem tyX5_ok : ∀ k, k < 5 → parseFieldDescriptor (TX5 k).2.2.1 = some (tyX5 k) := by decide +kernel
def RX6 : String := "CliffGarden$Rounds"
def TX6 : u_T := fun k => match k with
  | 0 => ("CliffGarden$Rounds", "cells", "[I", true)
  | 1 => ("CliffGarden$Rounds", "step", "[I", true)
  | 2 => ("CliffGarden$Rounds", "worth", "[I", true)
  | 3 => ("CliffGarden$Rounds", "hours", "[I", true)
  | 4 => ("CliffGarden$Rounds", "ahead", "[I", true)
  | 5 => ("CliffGarden$Rounds", "onward", "[I", true)
  | 6 => ("CliffGarden$Rounds", "row", "[I", true)
  | _ => ("CliffGarden$Rounds", "told", "I", false)
def tyX6 : Nat → FieldType := fun k => match k with
  | 0 => .array .int
  | 1 => .array .int
  | 2 => .array .int
  | 3 => .array .int
  | 4 => .array .int
  | 5 => .array .int
  | 6 => .array .int
  | _ => .int
abbrev wsX60 : List Cond := u_ws RX6 TX6 8
theorem nmX6 : ∀ a, a < 8 → ∀ b, b < 8 → a ≠ b → (TX6 a).2.1 ≠ (TX6 b).2.1 := by decide +kernel
theorem tyX6_ok : ∀ k, k < 8 → parseFieldDescriptor (TX6 k).2.2.1 = some (tyX6 k) := by decide +kernel
def RX7 : String := "CliffGarden$Statute"
def TX7 : u_T := fun k => match k with
  | 0 => ("CliffGarden$Statute", "step", "[I", true)
  | 1 => ("CliffGarden$Statute", "operand", "[I", true)
  | 2 => ("CliffGarden$Statute", "letter", "[I", true)
  | 3 => ("CliffGarden$Statute", "begin", "[I", true)
  | 4 => ("CliffGarden$Statute", "split", "[I", true)
  | 5 => ("CliffGarden$Statute", "end", "[I", true)
  | 6 => ("CliffGarden$Statute", "stack", "[I", true)
  | 7 => ("CliffGarden$Statute", "clauses", "I", false)
  | 8 => ("CliffGarden$Statute", "size", "I", false)
  | _ => ("CliffGarden$Statute", "height", "I", false)
def tyX7 : Nat → FieldType := fun k => match k with
  | 0 => .array .int
  | 1 => .array .int
  | 2 => .array .int
  | 3 => .array .int
  | 4 => .array .int
  | 5 => .array .int
  | 6 => .array .int
  | 7 => .int
  | 8 => .int
  | _ => .int
abbrev wsX70 : List Cond := u_ws RX7 TX7 10
theorem nmX7 : ∀ a, a < 10 → ∀ b, b < 10 → a ≠ b → (TX7 a).2.1 ≠ (TX7 b).2.1 := by decide +kernel
theorem tyX7_ok : ∀ k, k < 10 → parseFieldDescriptor (TX7 k).2.2.1 = some (tyX7 k) := by decide +kernel
def RX8 : String := "CliffGarden$Swallow"
def TX8 : u_T := fun k => match k with
  | 0 => ("CliffGarden$Swallow", "ways", "[I", true)
  | 1 => ("CliffGarden$Swallow", "before", "[I", true)
  | 2 => ("CliffGarden$Swallow", "above", "I", false)
  | _ => ("CliffGarden$Swallow", "below", "I", false)
def tyX8 : Nat → FieldType := fun k => match k with
  | 0 => .array .int
  | 1 => .array .int
  | 2 => .int
  | _ => .int
abbrev wsX80 : List Cond := u_ws RX8 TX8 4
theorem nmX8 : ∀ a, a < 4 → ∀ b, b < 4 → a ≠ b → (TX8 a).2.1 ≠ (TX8 b).2.1 := by decide +kernel
theorem tyX8_ok : ∀ k, k < 4 → parseFieldDescriptor (TX8 k).2.2.1 = some (tyX8 k) := by decide +kernel
def RX9 : String := "CliffGarden$Tape"
def TX9 : u_T := fun k => match k with
  | 0 => ("CliffGarden$Tape", "bytes", "[I", true)
  | _ => ("CliffGarden$Tape", "length", "I", false)
def tyX9 : Nat → FieldType := fun k => match k with
  | 0 => .array .int
  | _ => .int
abbrev wsX90 : List Cond := u_ws RX9 TX9 2
theorem nmX9 : ∀ a, a < 2 → ∀ b, b < 2 → a ≠ b → (TX9 a).2.1 ≠ (TX9 b).2.1 := by decide +kernel
theorem tyX9_ok : ∀ k, k < 2 → parseFieldDescriptor (TX9 k).2.2.1 = some (tyX9 k) := by decide +kernel
def RX10 : String := "CliffGarden$Water"
def TX10 : u_T := fun k => match k with
  | 0 => ("CliffGarden$Water", "nets", "LCliffGarden$Nets;", true)
  | 1 => ("CliffGarden$Water", "court", "LCliffGarden$Court;", true)
  | 2 => ("CliffGarden$Water", "landed", "[I", true)
  | 3 => ("CliffGarden$Water", "coming", "[I", true)
  | 4 => ("CliffGarden$Water", "told", "[I", true)
  | 5 => ("CliffGarden$Water", "best", "[I", true)
  | 6 => ("CliffGarden$Water", "trial", "[I", true)
  | 7 => ("CliffGarden$Water", "trialKept", "[I", true)
  | 8 => ("CliffGarden$Water", "growthBy", "[I", true)
  | 9 => ("CliffGarden$Water", "columns", "I", false)
  | _ => ("CliffGarden$Water", "mostGrowth", "I", false)
def tyX10 : Nat → FieldType := fun k => match k with
  | 0 => .object "CliffGarden$Nets"
  | 1 => .object "CliffGarden$Court"
  | 2 => .array .int
  | 3 => .array .int
  | 4 => .array .int
  | 5 => .array .int
  | 6 => .array .int
  | 7 => .array .int
  | 8 => .array .int
  | 9 => .int
  | _ => .int
abbrev wsX100 : List Cond := u_ws RX10 TX10 11
theorem nmX10 : ∀ a, a < 11 → ∀ b, b < 11 → a ≠ b → (TX10 a).2.1 ≠ (TX10 b).2.1 := by decide +kernel
theorem tyX10_ok : ∀ k, k < 11 → parseFieldDescriptor (TX10 k).2.2.1 = some (tyX10 k) := by decide +kernel
def RX11 : String := "CliffGarden"
def TX11 : u_T := fun k => match k with
  | 0 => ("CliffGarden", "nets", "LCliffGarden$Nets;", true)
  | 1 => ("CliffGarden", "brow", "LCliffGarden$Brow;", true)
  | 2 => ("CliffGarden", "falls", "LCliffGarden$Falls;", true)
  | 3 => ("CliffGarden", "court", "LCliffGarden$Court;", true)
  | 4 => ("CliffGarden", "streams", "LCliffGarden$Water;", true)
  | 5 => ("CliffGarden", "tape", "LCliffGarden$Tape;", true)
  | 6 => ("CliffGarden", "reader", "LCliffGarden$Reader;", true)
  | 7 => ("CliffGarden", "rounds", "LCliffGarden$Rounds;", true)
  | 8 => ("CliffGarden", "planting", "LCliffGarden$Planting;", true)
  | 9 => ("CliffGarden", "swallow", "LCliffGarden$Swallow;", true)
  | 10 => ("CliffGarden", "draft", "LCliffGarden$Statute;", false)
  | _ => ("CliffGarden", "drawn", "I", false)
def tyX11 : Nat → FieldType := fun k => match k with
  | 0 => .object "CliffGarden$Nets"
  | 1 => .object "CliffGarden$Brow"
  | 2 => .object "CliffGarden$Falls"
  | 3 => .object "CliffGarden$Court"
  | 4 => .object "CliffGarden$Water"
  | 5 => .object "CliffGarden$Tape"
  | 6 => .object "CliffGarden$Reader"
  | 7 => .object "CliffGarden$Rounds"
  | 8 => .object "CliffGarden$Planting"
  | 9 => .object "CliffGarden$Swallow"
  | 10 => .object "CliffGarden$Statute"
  | _ => .int
abbrev wsX110 : List Cond := u_ws RX11 TX11 12
theorem nmX11 : ∀ a, a < 12 → ∀ b, b < 12 → a ≠ b → (TX11 a).2.1 ≠ (TX11 b).2.1 := by decide +kernel
theorem tyX11_ok : ∀ k, k < 12 → parseFieldDescriptor (TX11 k).2.2.1 = some (tyX11 k) := by decide +kernel
def RX12 : String := "CliffGardenModel"
def TX12 : u_T := fun k => match k with
  | 0 => ("CliffGardenModel", "today", "I", false)
  | 1 => ("CliffGardenModel", "x0", "I", false)
  | 2 => ("CliffGardenModel", "fallMany", "I", false)
  | 3 => ("CliffGardenModel", "fallsNow", "I", false)
  | 4 => ("CliffGardenModel", "hangs", "[Z", true)
  | 5 => ("CliffGardenModel", "isPollinated", "[Z", true)
  | 6 => ("CliffGardenModel", "knotOf", "[I", true)
  | 7 => ("CliffGardenModel", "soilOf", "[I", true)
  | 8 => ("CliffGardenModel", "farmerOf", "[I", true)
  | 9 => ("CliffGardenModel", "wayOf", "[I", true)
  | 10 => ("CliffGardenModel", "kindOf", "[I", true)
  | 11 => ("CliffGardenModel", "weightOf", "[I", true)
  | 12 => ("CliffGardenModel", "caughtOf", "[I", true)
  | 13 => ("CliffGardenModel", "keptOf", "[I", true)
  | 14 => ("CliffGardenModel", "needOf", "[I", true)
  | 15 => ("CliffGardenModel", "ripeOf", "[I", true)
  | 16 => ("CliffGardenModel", "worthOf", "[I", true)
  | 17 => ("CliffGardenModel", "valveOf", "[I", true)
  | 18 => ("CliffGardenModel", "ownerOf", "[I", true)
  | 19 => ("CliffGardenModel", "roofOf", "[I", true)
  | 20 => ("CliffGardenModel", "cameTo", "[I", true)
  | 21 => ("CliffGardenModel", "holesOf", "[I", true)
  | 22 => ("CliffGardenModel", "foodOf", "[I", true)
  | 23 => ("CliffGardenModel", "bearsOf", "[I", true)
  | 24 => ("CliffGardenModel", "hourOf", "[I", true)
  | 25 => ("CliffGardenModel", "tape", "[B", true)
  | 26 => ("CliffGardenModel", "taped", "I", false)
  | 27 => ("CliffGardenModel", "place0", "I", false)
  | 28 => ("CliffGardenModel", "length0", "I", false)
  | 29 => ("CliffGardenModel", "fault", "I", false)
  | 30 => ("CliffGardenModel", "open", "I", false)
  | 31 => ("CliffGardenModel", "codeMany", "I", false)
  | 32 => ("CliffGardenModel", "waiting", "I", false)
  | 33 => ("CliffGardenModel", "saidMany", "I", false)
  | 34 => ("CliffGardenModel", "number0", "I", false)
  | 35 => ("CliffGardenModel", "clauses", "I", false)
  | 36 => ("CliffGardenModel", "said", "[I", true)
  | 37 => ("CliffGardenModel", "waits", "[I", true)
  | 38 => ("CliffGardenModel", "saidLetter", "[I", true)
  | 39 => ("CliffGardenModel", "saidFrom", "[I", true)
  | 40 => ("CliffGardenModel", "saidHalf", "[I", true)
  | 41 => ("CliffGardenModel", "saidTo", "[I", true)
  | 42 => ("CliffGardenModel", "codes", "[I", true)
  | 43 => ("CliffGardenModel", "letterOf", "[I", true)
  | 44 => ("CliffGardenModel", "codeFrom", "[I", true)
  | 45 => ("CliffGardenModel", "codeHalf", "[I", true)
  | 46 => ("CliffGardenModel", "codeTo", "[I", true)
  | 47 => ("CliffGardenModel", "stack", "[I", true)
  | 48 => ("CliffGardenModel", "facts", "[I", true)
  | 49 => ("CliffGardenModel", "comes", "[I", true)
  | 50 => ("CliffGardenModel", "then", "[I", true)
  | 51 => ("CliffGardenModel", "fallCell", "[I", true)
  | 52 => ("CliffGardenModel", "fallKind", "[I", true)
  | 53 => ("CliffGardenModel", "fallWeight", "[I", true)
  | 54 => ("CliffGardenModel", "fallLies", "[I", true)
  | 55 => ("CliffGardenModel", "fallWhose", "[I", true)
  | 56 => ("CliffGardenModel", "fallDay", "[I", true)
  | 57 => ("CliffGardenModel", "fallFood", "[I", true)
  | 58 => ("CliffGardenModel", "fallRipe", "[Z", true)
  | 59 => ("CliffGardenModel", "fallPollinated", "[Z", true)
  | 60 => ("CliffGardenModel", "hung", "[Z", true)
  | 61 => ("CliffGardenModel", "knots", "[I", true)
  | 62 => ("CliffGardenModel", "ages", "[I", true)
  | 63 => ("CliffGardenModel", "chosen", "I", false)
  | 64 => ("CliffGardenModel", "choice", "[I", true)
  | 65 => ("CliffGardenModel", "picked", "[I", true)
  | 66 => ("CliffGardenModel", "bestPicks", "[I", true)
  | 67 => ("CliffGardenModel", "hours", "[I", true)
  | 68 => ("CliffGardenModel", "without", "[J", true)
  | 69 => ("CliffGardenModel", "carrying", "[J", true)
  | 70 => ("CliffGardenModel", "after", "[J", true)
  | 71 => ("CliffGardenModel", "afterWith", "[J", true)
  | 72 => ("CliffGardenModel", "heavy", "[I", true)
  | 73 => ("CliffGardenModel", "keeps", "[I", true)
  | 74 => ("CliffGardenModel", "opened", "[I", true)
  | 75 => ("CliffGardenModel", "bestOpened", "[I", true)
  | 76 => ("CliffGardenModel", "valves", "[I", true)
  | _ => ("CliffGardenModel", "costs", "[I", true)
def tyX12 : Nat → FieldType := fun k => match k with
  | 0 => .int
  | 1 => .int
  | 2 => .int
  | 3 => .int
  | 4 => .array .boolean
  | 5 => .array .boolean
  | 6 => .array .int
  | 7 => .array .int
  | 8 => .array .int
  | 9 => .array .int
  | 10 => .array .int
  | 11 => .array .int
  | 12 => .array .int
  | 13 => .array .int
  | 14 => .array .int
  | 15 => .array .int
  | 16 => .array .int
  | 17 => .array .int
  | 18 => .array .int
  | 19 => .array .int
  | 20 => .array .int
  | 21 => .array .int
  | 22 => .array .int
  | 23 => .array .int
  | 24 => .array .int
  | 25 => .array .byte
  | 26 => .int
  | 27 => .int
  | 28 => .int
  | 29 => .int
  | 30 => .int
  | 31 => .int
  | 32 => .int
  | 33 => .int
  | 34 => .int
  | 35 => .int
  | 36 => .array .int
  | 37 => .array .int
  | 38 => .array .int
  | 39 => .array .int
  | 40 => .array .int
  | 41 => .array .int
  | 42 => .array .int
  | 43 => .array .int
  | 44 => .array .int
  | 45 => .array .int
  | 46 => .array .int
  | 47 => .array .int
  | 48 => .array .int
  | 49 => .array .int
  | 50 => .array .int
  | 51 => .array .int
  | 52 => .array .int
  | 53 => .array .int
  | 54 => .array .int
  | 55 => .array .int
  | 56 => .array .int
  | 57 => .array .int
  | 58 => .array .boolean
  | 59 => .array .boolean
  | 60 => .array .boolean
  | 61 => .array .int
  | 62 => .array .int
  | 63 => .int
  | 64 => .array .int
  | 65 => .array .int
  | 66 => .array .int
  | 67 => .array .int
  | 68 => .array .long
  | 69 => .array .long
  | 70 => .array .long
  | 71 => .array .long
  | 72 => .array .int
  | 73 => .array .int
  | 74 => .array .int
  | 75 => .array .int
  | 76 => .array .int
  | _ => .array .int
abbrev wsX120 : List Cond := u_ws RX12 TX12 78
theorem nmX12 : ∀ a, a < 78 → ∀ b, b < 78 → a ≠ b → (TX12 a).2.1 ≠ (TX12 b).2.1 := by decide +kernel
theorem tyX12_ok : ∀ k, k < 78 → parseFieldDescriptor (TX12 k).2.2.1 = some (tyX12 k) := by decide +kernel
abbrev vwCl : List vw_C := [(RX0, TX0, 9), (RX1, TX1, 5), (RX2, TX2, 11), (RX3, TX3, 14), (RX4, TX4, 8), (RX5, TX5, 5), (RX6, TX6, 8), (RX7, TX7, 10), (RX8, TX8, 4), (RX9, TX9, 2), (RX10, TX10, 11), (RX11, TX11, 12), (RX12, TX12, 78)]
end
section
/-! A PURE MACHINE: the methods' instructions over a list of cells; references are places in that list -/
abbrev pv_H : Type := List va_E
abbrev pv_L : Type := List (Nat × Value)
/-- a row: where it stands, the instruction, its length, what it names (places, targets), where its words stand -/
abbrev pv_R : Type := Nat × Instr × Nat × List Nat × List Nat
abbrev pv_M : Type := MethodName × ByteArray × Nat × Option FieldType × List pv_R
def pv_set1 (ls : pv_L) (i : Nat) (v : Value) : pv_L := (i, v) :: ls.filter (fun q => !(q.1 == i) && !(q.1 + 1 == i && q.2.category == 2))
def pv_set2 (ls : pv_L) (i : Nat) (v : Value) : pv_L := (i, v) :: ls.filter (fun q => !(q.1 == i) && (!(q.1 == i + 1) && !(q.1 + 1 == i && q.2.category == 2)))
def pv_get : pv_L → Nat → Option Value
  | [], _ => none
  | (j, v) :: ls, i => if j = i then some v else pv_get ls i
def pv_cat (st : List Value) : Nat := (st.map fun v => v.category).sum
def pv_pc (rows : List pv_R) (k : Nat) : Nat := match rows[k]? with
  | some r => r.1
  | none => 0
/-- what a new object of a kind holds -/
def pv_dv : FieldType → Value
  | .int => .int 0
  | .long => .long 0
  | _ => .null
def pv_tyX (ci : Nat) : Nat → FieldType := match ci with
  | 0 => tyX0 | 1 => tyX1 | 2 => tyX2 | 3 => tyX3 | 4 => tyX4 | 5 => tyX5 | 6 => tyX6 | 7 => tyX7 | 8 => tyX8 | 9 => tyX9 | 10 => tyX10 | 11 => tyX11 | _ => tyX12
def pv_nX (ci : Nat) : Nat := match vwCl[ci]? with
  | some q => q.2.2
  | none => 0
def pv_fresh (ci : Nat) : List Value := (List.range (pv_nX ci)).map (fun k => pv_dv (pv_tyX ci k))
abbrev pv_C : Type := Nat × pv_L × List Value × pv_H
/-- a load -/
def pv_lod (ls : pv_L) (i k : Nat) (t : Nat) (st : List Value) (h : pv_H) : Option pv_C := match pv_get ls i, t with
  | some (.int x), 0 => some (k + 1, ls, .int x :: st, h)
  | some (.long x), 1 => some (k + 1, ls, .long x :: st, h)
  | some (.ref x), 2 => some (k + 1, ls, .ref x :: st, h)
  | _, _ => none
/-- a store -/
def pv_sto (ls : pv_L) (i k : Nat) (t : Nat) (st : List Value) (h : pv_H) : Option pv_C := match st, t with
  | .int x :: r, 0 => some (k + 1, pv_set1 ls i (.int x), r, h)
  | .long x :: r, 1 => some (k + 1, pv_set2 ls i (.long x), r, h)
  | .ref x :: r, 2 => some (k + 1, pv_set1 ls i (.ref x), r, h)
  | _, _ => none
def pv_i2 (f : Int32 → Int32 → Int32) (k : Nat) (ls : pv_L) (st : List Value) (h : pv_H) : Option pv_C := match st with
  | .int y :: .int x :: r => some (k + 1, ls, .int (f x y) :: r, h)
  | _ => none
def pv_l2 (f : Int64 → Int64 → Int64) (k : Nat) (ls : pv_L) (st : List Value) (h : pv_H) : Option pv_C := match st with
  | .long y :: .long x :: r => some (k + 1, ls, .long (f x y) :: r, h)
  | _ => none
def pv_lsh (f : Int64 → Int32 → Int64) (k : Nat) (ls : pv_L) (st : List Value) (h : pv_H) : Option pv_C := match st with
  | .int y :: .long x :: r => some (k + 1, ls, .long (f x y) :: r, h)
  | _ => none
/-- a branch on one number, on two -/
def pv_b1 (c : Int32 → Bool) (xs : List Nat) (k : Nat) (ls : pv_L) (st : List Value) (h : pv_H) : Option pv_C := match xs, st with
  | [t], .int x :: r => if c x then some (t, ls, r, h) else some (k + 1, ls, r, h)
  | _, _ => none
def pv_b2 (c : Int32 → Int32 → Bool) (xs : List Nat) (k : Nat) (ls : pv_L) (st : List Value) (h : pv_H) : Option pv_C := match xs, st with
  | [t], .int y :: .int x :: r => if c x y then some (t, ls, r, h) else some (k + 1, ls, r, h)
  | _, _ => none
def pv_cond : Jvm.ClassFile.Cond → Int32 → Int32 → Bool
  | .eq, x, y => decide (x = y)
  | .ne, x, y => !decide (x = y)
  | .lt, x, y => decide (x < y)
  | .ge, x, y => decide (y ≤ x)
  | .gt, x, y => decide (y < x)
  | .le, x, y => decide (x ≤ y)
def pv_ald (t : Nat) (k : Nat) (ls : pv_L) (st : List Value) (h : pv_H) : Option pv_C := match st with
  | .int i :: .ref a :: r => match h[a]? with
    | some (.inl (t', n, .inl f)) => if t' = t then (if i < 0 ∨ n ≤ i.toNatClampNeg then none else some (k + 1, ls, .int (f i.toNatClampNeg) :: r, h)) else none
    | _ => none
  | _ => none
def pv_ast (t : Nat) (g : Int32 → Int32) (k : Nat) (ls : pv_L) (st : List Value) (h : pv_H) : Option pv_C := match st with
  | .int x :: .int i :: .ref a :: r => match h[a]? with
    | some (.inl (t', n, .inl f)) => if t' = t then (if i < 0 ∨ n ≤ i.toNatClampNeg then none else some (k + 1, ls, r, h.set a (.inl (t', n, .inl (upd f i.toNatClampNeg (g x)))))) else none
    | _ => none
  | _ => none
/-- the texts of the program, as bytes -/
def pv_str : List (List Nat) := [[107, 121, 120, 108, 115, 110, 106, 119, 114, 112, 100, 116, 109, 98], [103, 102, 97, 99, 111, 113], [60, 62, 61], [43, 45], [42, 47, 37]]
/-- where a sign stands first -/
def pv_ixF (x : Int32) : List Nat → Nat → Int32
  | [], _ => -1
  | b :: bs, k => if Int32.ofNat b = x then Int32.ofNat k else pv_ixF x bs (k + 1)
def pv_ix (s : Nat) (x : Int32) : Int32 := pv_ixF x (pv_str.getD s []) 0
def pv_chr (x : Int32) : Int32 := (x.toUInt32 % 65536).toInt32
def pv_one (s : Nat) (x : Int32) : Int32 := if 0 < x ∧ 0 ≤ pv_ix s (pv_chr x) then 1 else 0
def pv_lsw : List Nat → Int32 → Option Nat
  | k :: t :: ps, x => if x = Int32.ofNat k then some t else pv_lsw ps x
  | _, _ => none
/-- an instruction that neither calls nor ends -/
def pv_x (i : Instr) (xs : List Nat) (k : Nat) (ls : pv_L) (st : List Value) (h : pv_H) : Option pv_C := match i with
  | .iconst n => some (k + 1, ls, .int (Int32.ofInt n) :: st, h)
  | .bipush n => some (k + 1, ls, .int (Int8.ofInt n).toInt32 :: st, h)
  | .sipush n => some (k + 1, ls, .int (Int16.ofInt n).toInt32 :: st, h)
  | .lconst n => some (k + 1, ls, .long (Int64.ofNat n) :: st, h)
  | .ldc _ => match xs with
    | [v] => some (k + 1, ls, .int (Int32.ofNat v) :: st, h)
    | [s, 0, _] => (match st with
      | .int x :: r => if pv_cat r ≤ 4 then some (k + 2, ls, .int (pv_one s x) :: r, h) else none
      | _ => none)
    | [s, 1, i] => (match pv_get ls i with
      | some (.int x) => if pv_cat st ≤ 4 then some (k + 4, ls, .int (pv_ix s (pv_chr x)) :: st, h) else none
      | _ => none)
    | _ => none
  | .ldc_w _ => match xs with
    | [v] => some (k + 1, ls, .int (Int32.ofNat v) :: st, h)
    | _ => none
  | .ldc2_w _ => match xs with
    | [v] => some (k + 1, ls, .long (Int64.ofNat v) :: st, h)
    | _ => none
  | .iload i => pv_lod ls i k 0 st h
  | .iload_n i => pv_lod ls i k 0 st h
  | .lload i => pv_lod ls i k 1 st h
  | .lload_n i => pv_lod ls i k 1 st h
  | .aload i => pv_lod ls i k 2 st h
  | .aload_n i => pv_lod ls i k 2 st h
  | .istore i => pv_sto ls i k 0 st h
  | .istore_n i => pv_sto ls i k 0 st h
  | .lstore i => pv_sto ls i k 1 st h
  | .lstore_n i => pv_sto ls i k 1 st h
  | .astore i => pv_sto ls i k 2 st h
  | .astore_n i => pv_sto ls i k 2 st h
  | .iinc i n => match pv_get ls i with
    | some (.int x) => some (k + 1, pv_set1 ls i (.int (x + Int32.ofInt n)), st, h)
    | _ => none
  | .iadd => pv_i2 (fun x y => x + y) k ls st h
  | .isub => pv_i2 (fun x y => x - y) k ls st h
  | .imul => pv_i2 (fun x y => x * y) k ls st h
  | .iand => pv_i2 (fun x y => x &&& y) k ls st h
  | .ior => pv_i2 (fun x y => x ||| y) k ls st h
  | .ixor => pv_i2 (fun x y => x ^^^ y) k ls st h
  | .ishl => pv_i2 (fun x y => x <<< (y &&& 31)) k ls st h
  | .ishr => pv_i2 (fun x y => x >>> (y &&& 31)) k ls st h
  | .iushr => pv_i2 (fun x y => (x.toUInt32 >>> (y.toUInt32 &&& Int32.toUInt32 31)).toInt32) k ls st h
  | .idiv => match st with
    | .int y :: .int x :: r => if y = 0 then none else some (k + 1, ls, .int (x / y) :: r, h)
    | _ => none
  | .irem => match st with
    | .int y :: .int x :: r => if y = 0 then none else some (k + 1, ls, .int (x - x / y * y) :: r, h)
    | _ => none
  | .ineg => match st with
    | .int x :: r => some (k + 1, ls, .int (-x) :: r, h)
    | _ => none
  | .ladd => pv_l2 (fun x y => x + y) k ls st h
  | .lsub => pv_l2 (fun x y => x - y) k ls st h
  | .lmul => pv_l2 (fun x y => x * y) k ls st h
  | .land => pv_l2 (fun x y => x &&& y) k ls st h
  | .lor => pv_l2 (fun x y => x ||| y) k ls st h
  | .lxor => pv_l2 (fun x y => x ^^^ y) k ls st h
  | .ldiv => match st with
    | .long y :: .long x :: r => if y = 0 then none else some (k + 1, ls, .long (x / y) :: r, h)
    | _ => none
  | .lrem => match st with
    | .long y :: .long x :: r => if y = 0 then none else some (k + 1, ls, .long (x - x / y * y) :: r, h)
    | _ => none
  | .lshl => pv_lsh (fun x y => x <<< (y.toInt64 &&& 63)) k ls st h
  | .lshr => pv_lsh (fun x y => x >>> (y.toInt64 &&& 63)) k ls st h
  | .lushr => pv_lsh (fun x y => (x.toUInt64 >>> (y.toInt64.toUInt64 &&& Int64.toUInt64 63)).toInt64) k ls st h
  | .lcmp => match st with
    | .long y :: .long x :: r => some (k + 1, ls, .int (lg_cmp x y) :: r, h)
    | _ => none
  | .i2l => match st with
    | .int x :: r => some (k + 1, ls, .long x.toInt64 :: r, h)
    | _ => none
  | .l2i => match st with
    | .long x :: r => some (k + 1, ls, .int x.toInt32 :: r, h)
    | _ => none
  | .i2b => match st with
    | .int x :: r => some (k + 1, ls, .int x.toInt8.toInt32 :: r, h)
    | _ => none
  | .i2c => match st with
    | .int x :: r => some (k + 1, ls, .int (x.toUInt32 % 65536).toInt32 :: r, h)
    | _ => none
  | .dup => match st with
    | v :: r => if v.category = 1 then some (k + 1, ls, v :: v :: r, h) else none
    | _ => none
  | .pop => match st with
    | v :: r => if v.category = 1 then some (k + 1, ls, r, h) else none
    | _ => none
  | .dup2 => match st with
    | v :: w :: r => if v.category = 1 ∧ w.category = 1 then some (k + 1, ls, v :: w :: v :: w :: r, h) else none
    | _ => none
  | .goto _ => match xs with
    | [t] => some (t, ls, st, h)
    | _ => none
  | .ifCond c _ => pv_b1 (fun x => pv_cond c x 0) xs k ls st h
  | .if_icmp c _ => pv_b2 (fun x y => pv_cond c x y) xs k ls st h
  | .tableswitch _ lo hi _ => match xs, st with
    | d :: ts, .int x :: r => if x.toInt < lo ∨ hi < x.toInt then some (d, ls, r, h) else match ts[(x.toInt - lo).toNat]? with
      | some t => some (t, ls, r, h)
      | none => none
    | _, _ => none
  | .lookupswitch _ _ => match xs, st with
    | d :: ps, .int x :: r => some ((pv_lsw ps x).getD d, ls, r, h)
    | _, _ => none
  | .getfield _ => match xs, st with
    | [ci, j], .ref a :: r => match h[a]? with
      | some (.inr (ci', fs)) => if ci' = ci then (match fs[j]? with
        | some v => some (k + 1, ls, v :: r, h)
        | none => none) else none
      | _ => none
    | _, _ => none
  | .putfield _ => match xs, st with
    | [ci, j], v :: .ref a :: r => match h[a]? with
      | some (.inr (ci', fs)) => if ci' = ci ∧ j < fs.length ∧ narrow (pv_tyX ci j) v = v ∧ fits (pv_tyX ci j) v = true then some (k + 1, ls, r, h.set a (.inr (ci', fs.set j v))) else none
      | _ => none
    | _, _ => none
  | .iaload => pv_ald 0 k ls st h
  | .baload => match xs with
    | [t] => if t = 1 ∨ t = 2 then pv_ald t k ls st h else none
    | _ => none
  | .laload => match st with
    | .int i :: .ref a :: r => match h[a]? with
      | some (.inl (t', n, .inr (.inl f))) => if t' = 3 then (if i < 0 ∨ n ≤ i.toNatClampNeg then none else some (k + 1, ls, .long (f i.toNatClampNeg) :: r, h)) else none
      | _ => none
    | _ => none
  | .iastore => pv_ast 0 (fun x => x) k ls st h
  | .bastore => match xs with
    | [1] => pv_ast 1 (vp_nar .boolean) k ls st h
    | [2] => pv_ast 2 (vp_nar .byte) k ls st h
    | _ => none
  | .lastore => match st with
    | .long x :: .int i :: .ref a :: r => match h[a]? with
      | some (.inl (t', n, .inr (.inl f))) => if t' = 3 then (if i < 0 ∨ n ≤ i.toNatClampNeg then none else some (k + 1, ls, r, h.set a (.inl (t', n, .inr (.inl (vp_updL f i.toNatClampNeg x)))))) else none
      | _ => none
    | _ => none
  | .arraylength => match st with
    | .ref a :: r => match h[a]? with
      | some (.inl (t', n, _)) => if t' < 4 then some (k + 1, ls, .int (Int32.ofNat n) :: r, h) else none
      | _ => none
    | _ => none
  | .newarray ty => match ty, st with
    | .int, .int n :: r => if n < 0 ∨ 100000 < n.toNatClampNeg then none else some (k + 1, ls, .ref h.length :: r, h ++ [.inl (0, n.toNatClampNeg, .inl (fun _ => 0))])
    | .boolean, .int n :: r => if n < 0 ∨ 100000 < n.toNatClampNeg then none else some (k + 1, ls, .ref h.length :: r, h ++ [.inl (1, n.toNatClampNeg, .inl (fun _ => 0))])
    | .byte, .int n :: r => if n < 0 ∨ 100000 < n.toNatClampNeg then none else some (k + 1, ls, .ref h.length :: r, h ++ [.inl (2, n.toNatClampNeg, .inl (fun _ => 0))])
    | .long, .int n :: r => if n < 0 ∨ 100000 < n.toNatClampNeg then none else some (k + 1, ls, .ref h.length :: r, h ++ [.inl (3, n.toNatClampNeg, .inr (.inl (fun _ => 0)))])
    | _, _ => none
  | .new _ => match xs with
    | [ci] => some (k + 1, ls, .ref h.length :: st, h ++ [.inr (ci, pv_fresh ci)])
    | _ => none
  | .invokespecial _ => match xs, st with
    | [9], .ref _ :: r => if pv_cat r ≤ 8 then some (k + 1, ls, r, h) else none
    | _, _ => none
  | .invokestatic _ => match xs, st with
    | [0], .int y :: .int x :: r => if pv_cat r ≤ 8 then some (k + 1, ls, .int (if x < y then y else x) :: r, h) else none
    | [1], .int y :: .int x :: r => if pv_cat r ≤ 8 then some (k + 1, ls, .int (if y < x then y else x) :: r, h) else none
    | [2], .int x :: r => if pv_cat r ≤ 8 then some (k + 1, ls, .int (if 0 ≤ x then x else 0 - x) :: r, h) else none
    | [3], .int n :: .int dp :: .ref a :: .int sp :: .ref a0 :: r => match h[a0]?, h[a]? with
      | some (.inl (t0, n0, .inl f)), some (.inl (t1, n1, .inl g)) => if t0 = 0 ∧ t1 = 0 ∧ pv_cat r ≤ 8 ∧ ¬ sp < 0 ∧ ¬ dp < 0 ∧ ¬ n < 0 ∧ sp.toNatClampNeg + n.toNatClampNeg ≤ n0 ∧ dp.toNatClampNeg + n.toNatClampNeg ≤ n1 then
          some (k + 1, ls, r, h.set a (.inl (t1, n1, .inl (va_cpy f g sp.toNatClampNeg dp.toNatClampNeg n.toNatClampNeg)))) else none
      | _, _ => none
    | _, _ => none
  | _ => none
/-- a call: which method, with what, what stays on the stack -/
def pv_inv (i : Instr) (xs : List Nat) (st : List Value) (h : pv_H) : Option (Nat × List Value × List Value) := match i, xs with
  | .invokestatic _, [j, n] => if n ≤ st.length ∧ pv_cat (st.drop n) ≤ 8 then some (j, (st.take n).reverse, st.drop n) else none
  | .invokevirtual _, [j, n, ci] => match st.drop n with
    | .ref b :: r => match h[b]? with
      | some (.inr (ci', _)) => if ci' = ci ∧ pv_cat r ≤ 8 then some (j, .ref b :: (st.take n).reverse, r) else none
      | _ => none
    | _ => none
  | .invokespecial _, [j, n, _] => match st.drop n with
    | .ref b :: r => if pv_cat r ≤ 8 then some (j, .ref b :: (st.take n).reverse, r) else none
    | _ => none
  | _, _ => none
/-- an end -/
def pv_ret (i : Instr) (xs : List Nat) (st : List Value) : Option (Option Value) := match i, st with
  | .ireturn, [.int v] => match xs with
    | [0] => some (some (.int v))
    | [1] => if v = 0 ∨ v = 1 then some (some (.int v)) else none
    | _ => none
  | .lreturn, [.long v] => some (some (.long v))
  | .return_, [] => some none
  | _, _ => none
def pv_go (call : Nat → List Value → pv_H → Option (Option Value × pv_H)) (rows : List pv_R) : Nat → Nat → pv_L → List Value → pv_H → Option (Option Value × pv_H)
  | 0, _, _, _, _ => none
  | f + 1, k, ls, st, h => match rows[k]? with
    | none => none
    | some r => match pv_ret r.2.1 r.2.2.2.1 st with
      | some v => some (v, h)
      | none => match pv_inv r.2.1 r.2.2.2.1 st h with
        | some (j, as, rest) => match call j as h with
          | some (v, h') => pv_go call rows f (k + 1) ls (v.toList ++ rest) h'
          | none => none
        | none => match pv_x r.2.1 r.2.2.2.1 k ls st h with
          | some (k', ls', st', h') => pv_go call rows f k' ls' st' h'
          | none => none
def pv_run (pr : List pv_M) (F : Nat) : Nat → Nat → List Value → pv_H → Option (Option Value × pv_H)
  | 0, _, _, _ => none
  | d + 1, j, as, h => match pr[j]? with
    | some M => if pv_cat as ≤ M.2.2.1 then pv_go (pv_run pr F d) M.2.2.2.2 F 0 (lv_args 0 as) [] h else none
    | none => none
end
section
/-! words, links, what a row must keep: definitions alone, so that the program's tables stand on them -/
def pv_T : List Cond := lw_tbl.filter goodWord
def pv_isN : Cond → Bool
  | .fieldLinkNest .. => true
  | .methodLinkNest .. => true
  | _ => false
def pv_N : List Cond := lw_tbl.filter pv_isN
/-! WHAT A ROW MUST KEEP, as a program tells -/
def pv_nx (rows : List pv_R) (k pc len L : Nat) : Bool := len == L && pv_pc rows (k + 1) == pc + L
/-- the owners of code, by their numbers -/
def pv_cn : List String := ["CliffGarden$Brow", "CliffGarden$Court", "CliffGarden$Falls", "CliffGarden$Nets", "CliffGarden$Planting", "CliffGarden$Reader", "CliffGarden$Rounds", "CliffGarden$Statute", "CliffGarden$Swallow", "CliffGarden$Tape", "CliffGarden$Water", "CliffGarden", "CliffGardenModel", "java/util/Arrays", "java/lang/Integer", "java/lang/Long"]
def pv_my (y : MethodName) (n : Nat) : Bool := decide (y.cls ≠ "java/lang/invoke/MethodHandle" ∧ y.cls ≠ "java/lang/invoke/VarHandle" ∧ (parseMethodDescriptor y.desc).map (fun d => d.parameters.length) = some n)
/-- what a link's number says -/
def pv_sem (pr : List pv_M) (c : List Nat) : Prop := match c with
  | [0, o, idx, ci, j] => ∀ own q, pv_cn[o]? = some own → vwCl[ci]? = some q → (Cond.fieldLink own idx (q.2.1 j).1 (q.2.1 j).2.1 (q.2.1 j).2.2.1 ∈ pv_T ∨ ∃ hst, Cond.fieldLinkNest own idx (q.2.1 j).1 (q.2.1 j).2.1 (q.2.1 j).2.2.1 hst ∈ pv_N)
  | [1, o, idx, ci, j] => ∀ own q, pv_cn[o]? = some own → vwCl[ci]? = some q → Cond.fieldLink own idx (q.2.1 j).1 (q.2.1 j).2.1 (q.2.1 j).2.2.1 ∈ pv_T ∧ (q.2.1 j).1 = own
  | [2, o, idx, v] => ∀ own, pv_cn[o]? = some own → Cond.constant own idx (Int32.ofNat v) ∈ pv_T
  | [3, o, idx, v] => ∀ own, pv_cn[o]? = some own → Cond.constantLong own idx (Int64.ofNat v) ∈ pv_T
  | [4, o, idx, ci] => ∀ own q, pv_cn[o]? = some own → vwCl[ci]? = some q → Cond.classLink own idx q.1 ∈ pv_T ∧ Cond.instantiable q.1 q.2.2 ∈ pv_T ∧ Cond.initialized q.1 ∈ pv_T
  | [5, o, idx] => ∀ own, pv_cn[o]? = some own → Cond.methodLink own idx Lib.objectInit ∈ pv_T ∧ Cond.instanceMethod Lib.objectInit ∈ pv_T ∧ Cond.code Lib.objectInit ⟨#[0xb1]⟩ 1 none ∈ pv_T
  | [6, o, idx, 0] => ∀ own, pv_cn[o]? = some own → Cond.methodLink own idx Lib.Math.max.name ∈ pv_T ∧ Cond.static Lib.Math.max.name ∈ pv_T ∧ Cond.initialized "java/lang/Math" ∈ pv_T ∧ Cond.code Lib.Math.max.name Lib.Math.max.code 2 (some .int) ∈ pv_T
  | [6, o, idx, 1] => ∀ own, pv_cn[o]? = some own → Cond.methodLink own idx Lib.Math.min.name ∈ pv_T ∧ Cond.static Lib.Math.min.name ∈ pv_T ∧ Cond.initialized "java/lang/Math" ∈ pv_T ∧ Cond.code Lib.Math.min.name Lib.Math.min.code 2 (some .int) ∈ pv_T
  | [6, o, idx, 2] => ∀ own, pv_cn[o]? = some own → Cond.methodLink own idx Lib.Math.abs.name ∈ pv_T ∧ Cond.static Lib.Math.abs.name ∈ pv_T ∧ Cond.initialized "java/lang/Math" ∈ pv_T ∧ Cond.code Lib.Math.abs.name Lib.Math.abs.code 1 (some .int) ∈ pv_T
  | [6, o, idx, 3] => ∀ own, pv_cn[o]? = some own → Cond.methodLink own idx arraycopyName ∈ pv_T ∧ Cond.static arraycopyName ∈ pv_T ∧ Cond.initialized "java/lang/System" ∈ pv_T ∧ Cond.native arraycopyName ∈ pv_T
  | [7, o, idx, j, n] => ∀ own M, pv_cn[o]? = some own → pr[j]? = some M → (Cond.methodLink own idx M.1 ∈ pv_T ∨ ∃ hst, Cond.methodLinkNest own idx M.1 hst ∈ pv_N) ∧ Cond.static M.1 ∈ pv_T ∧ pv_my M.1 n = true
  | [8, o, idx, j, n, ci] => ∀ own M q, pv_cn[o]? = some own → pr[j]? = some M → vwCl[ci]? = some q → (Cond.methodLink own idx M.1 ∈ pv_T ∨ ∃ hst, Cond.methodLinkNest own idx M.1 hst ∈ pv_N) ∧ Cond.instanceMethod M.1 ∈ pv_T ∧ Cond.selects M.1.cls M.1 M.1 ∈ pv_T ∧ pv_my M.1 n = true ∧ q.1 = M.1.cls
  | [9, o, idx, j, n] => ∀ own M, pv_cn[o]? = some own → pr[j]? = some M → (Cond.methodLink own idx M.1 ∈ pv_T ∨ ∃ hst, Cond.methodLinkNest own idx M.1 hst ∈ pv_N) ∧ Cond.instanceMethod M.1 ∈ pv_T ∧ pv_my M.1 n = true ∧ M.1.name = "<init>" ∧ M.2.2.2.1 = none
  | _ => True
def pv_lk (LK : List (List Nat)) (p : Nat) (c : List Nat) : Bool := decide (LK[p]? = some c)
theorem pv_lk_inv {LK : List (List Nat)} {p : Nat} {c : List Nat} (h : pv_lk LK p c = true) : c ∈ LK := List.mem_of_getElem? (of_decide_eq_true h)
/-- what holds of every method: its code's word, its class's -/
def pv_mf (M : pv_M) : Prop := Cond.code M.1 M.2.1 M.2.2.1 M.2.2.2.1 ∈ pv_T ∧ Cond.initialized M.1.cls ∈ pv_T
def pv_LKs (pr : List pv_M) (LK : List (List Nat)) : Prop := (∀ c ∈ LK, pv_sem pr c) ∧ ∀ (j : Nat) (M : pv_M), pr[j]? = some M → pv_mf M
def pv_jp (rows : List pv_R) (pc : Nat) (off : Int) (t : Nat) : Bool := decide ((pc : Int) + off = (pv_pc rows t : Int))
def pv_okx (LK : List (List Nat)) (rows : List pv_R) (o : Nat) (mn : String) (nL k pc len : Nat) (i : Instr) (xs ps : List Nat) : Bool := match i with
  | .iconst _ => pv_nx rows k pc len 1
  | .bipush _ => pv_nx rows k pc len 2
  | .sipush _ => pv_nx rows k pc len 3
  | .lconst _ => pv_nx rows k pc len 1
  | .ldc idx => match xs, ps with
    | [v], [p] => pv_nx rows k pc len 2 && pv_lk LK p [2, o, idx, v]
    | _, _ => false
  | .ldc_w idx => match xs, ps with
    | [v], [p] => pv_nx rows k pc len 3 && pv_lk LK p [2, o, idx, v]
    | _, _ => false
  | .ldc2_w idx => match xs, ps with
    | [v], [p] => pv_nx rows k pc len 3 && pv_lk LK p [3, o, idx, v]
    | _, _ => false
  | .iload _ => pv_nx rows k pc len 2
  | .lload _ => pv_nx rows k pc len 2
  | .aload _ => pv_nx rows k pc len 2
  | .iload_n _ => pv_nx rows k pc len 1
  | .lload_n _ => pv_nx rows k pc len 1
  | .aload_n _ => pv_nx rows k pc len 1
  | .istore i => pv_nx rows k pc len 2 && decide (i < nL)
  | .lstore i => pv_nx rows k pc len 2 && decide (i + 1 < nL)
  | .astore i => pv_nx rows k pc len 2 && decide (i < nL)
  | .istore_n i => pv_nx rows k pc len 1 && decide (i.val < nL)
  | .lstore_n i => pv_nx rows k pc len 1 && decide (i.val + 1 < nL)
  | .astore_n i => pv_nx rows k pc len 1 && decide (i.val < nL)
  | .iinc i _ => pv_nx rows k pc len 3 && decide (i < nL)
  | .iadd => pv_nx rows k pc len 1
  | .isub => pv_nx rows k pc len 1
  | .imul => pv_nx rows k pc len 1
  | .iand => pv_nx rows k pc len 1
  | .ior => pv_nx rows k pc len 1
  | .ixor => pv_nx rows k pc len 1
  | .ishl => pv_nx rows k pc len 1
  | .ishr => pv_nx rows k pc len 1
  | .iushr => pv_nx rows k pc len 1
  | .idiv => pv_nx rows k pc len 1
  | .irem => pv_nx rows k pc len 1
  | .ineg => pv_nx rows k pc len 1
  | .ladd => pv_nx rows k pc len 1
  | .lsub => pv_nx rows k pc len 1
  | .lmul => pv_nx rows k pc len 1
  | .land => pv_nx rows k pc len 1
  | .lor => pv_nx rows k pc len 1
  | .lxor => pv_nx rows k pc len 1
  | .ldiv => pv_nx rows k pc len 1
  | .lrem => pv_nx rows k pc len 1
  | .lshl => pv_nx rows k pc len 1
  | .lshr => pv_nx rows k pc len 1
  | .lushr => pv_nx rows k pc len 1
  | .lcmp => pv_nx rows k pc len 1
  | .i2l => pv_nx rows k pc len 1
  | .l2i => pv_nx rows k pc len 1
  | .i2b => pv_nx rows k pc len 1
  | .i2c => pv_nx rows k pc len 1
  | .dup => pv_nx rows k pc len 1
  | .pop => pv_nx rows k pc len 1
  | .dup2 => pv_nx rows k pc len 1
  | .goto off => match xs with
    | [t] => len == 3 && pv_jp rows pc off t
    | _ => false
  | .ifCond _ off => match xs with
    | [t] => pv_nx rows k pc len 3 && pv_jp rows pc off t
    | _ => false
  | .if_icmp _ off => match xs with
    | [t] => pv_nx rows k pc len 3 && pv_jp rows pc off t
    | _ => false
  | .tableswitch d lo hi offs => match xs with
    | t :: ts => pv_jp rows pc d t && decide (ts.length = offs.size) && (offs.toList.zip ts).all (fun q => pv_jp rows pc q.1 q.2)
    | _ => false
  | .getfield idx => match xs, ps with
    | [ci, j], [p] => pv_nx rows k pc len 3 && (match vwCl[ci]? with
      | some q => decide (j < q.2.2) && pv_lk LK p [0, o, idx, ci, j]
      | none => false)
    | _, _ => false
  | .putfield idx => match xs, ps with
    | [ci, j], [p] => pv_nx rows k pc len 3 && (match vwCl[ci]? with
      | some q => decide (j < q.2.2) && (if (q.2.1 j).2.2.2 then pv_lk LK p [1, o, idx, ci, j] && decide (mn = "<init>") else pv_lk LK p [0, o, idx, ci, j])
      | none => false)
    | _, _ => false
  | .iaload => pv_nx rows k pc len 1
  | .baload => pv_nx rows k pc len 1
  | .laload => pv_nx rows k pc len 1
  | .iastore => pv_nx rows k pc len 1
  | .bastore => pv_nx rows k pc len 1
  | .lastore => pv_nx rows k pc len 1
  | .arraylength => pv_nx rows k pc len 1
  | .newarray _ => pv_nx rows k pc len 2
  | .new idx => match xs, ps with
    | [ci], [p] => pv_nx rows k pc len 3 && (match vwCl[ci]? with
      | some _ => pv_lk LK p [4, o, idx, ci]
      | none => false)
    | _, _ => false
  | .invokespecial idx => match xs, ps with
    | [9], [p] => pv_nx rows k pc len 3 && pv_lk LK p [5, o, idx]
    | _, _ => false
  | .invokestatic idx => match xs, ps with
    | [z], [p] => pv_nx rows k pc len 3 && pv_lk LK p [6, o, idx, z]
    | _, _ => false
  | _ => false
/-! CALLS, ENDS, WHOLE METHODS -/
def pv_isR : Instr → Bool
  | .ireturn => true
  | .lreturn => true
  | .return_ => true
  | _ => false
def pv_isC (i : Instr) (xs : List Nat) : Bool := match i with
  | .invokestatic _ => decide (2 ≤ xs.length)
  | .invokevirtual _ => true
  | .invokespecial _ => decide (2 ≤ xs.length)
  | _ => false
def pv_okc (LK : List (List Nat)) (o : Nat) (i : Instr) (xs ps : List Nat) : Bool := match i, xs, ps with
  | .invokestatic idx, [j, n], [p] => pv_lk LK p [7, o, idx, j, n]
  | .invokevirtual idx, [j, n, ci], [p] => pv_lk LK p [8, o, idx, j, n, ci] && decide (ci < 13)
  | .invokespecial idx, [j, n, _], [p] => pv_lk LK p [9, o, idx, j, n]
  | _, _, _ => false
def pv_okr (rt : Option FieldType) (i : Instr) (xs : List Nat) : Bool := match i with
  | .ireturn => match xs with
    | [0] => decide (rt = some .int)
    | [1] => decide (rt = some .boolean)
    | _ => false
  | .lreturn => decide (rt = some .long)
  | .return_ => decide (rt = none)
  | _ => false
def pv_okR (LK : List (List Nat)) (M : pv_M) (o k : Nat) (r : pv_R) : Bool := decide (decode M.2.1 r.1 = .ok (r.2.1, r.2.2.1)) &&
  (if pv_isR r.2.1 then pv_okr M.2.2.2.1 r.2.1 r.2.2.2.1 && r.2.2.1 == 1
   else if pv_isC r.2.1 r.2.2.2.1 then pv_okc LK o r.2.1 r.2.2.2.1 r.2.2.2.2 && pv_nx M.2.2.2.2 k r.1 r.2.2.1 3
   else pv_okx LK M.2.2.2.2 o M.1.name M.2.2.1 k r.1 r.2.2.1 r.2.1 r.2.2.2.1 r.2.2.2.2)
def pv_okM (LK : List (List Nat)) (M : pv_M) : Bool := plainName M.1.cls && pv_pc M.2.2.2.2 0 == 0 && decide (M.2.2.1 ≤ 30) && (List.range pv_cn.length).any (fun o => decide (pv_cn[o]? = some M.1.cls) && (List.range M.2.2.2.2.length).all (fun k => match M.2.2.2.2[k]? with
  | some r => decide (r.2.1 = .nop) || pv_okR LK M o k r
  | none => true))
end
section
def rX0_init : List pv_R := [
  (0, .aload_n 0, 1, [], []),
  (1, .invokespecial 3, 3, [9], [525]),
  (4, .aload_n 0, 1, [], []),
  (5, .bipush 8, 2, [], []),
  (7, .newarray .int, 2, [], []),
  (9, .putfield 9, 3, [0, 0], [367]),
  (12, .aload_n 0, 1, [], []),
  (13, .bipush 8, 2, [], []),
  (15, .newarray .int, 2, [], []),
  (17, .putfield 15, 3, [0, 1], [368]),
  (20, .aload_n 0, 1, [], []),
  (21, .bipush 8, 2, [], []),
  (23, .newarray .int, 2, [], []),
  (25, .putfield 18, 3, [0, 2], [369]),
  (28, .aload_n 0, 1, [], []),
  (29, .bipush 8, 2, [], []),
  (31, .newarray .int, 2, [], []),
  (33, .putfield 21, 3, [0, 3], [370]),
  (36, .aload_n 0, 1, [], []),
  (37, .bipush 8, 2, [], []),
  (39, .newarray .int, 2, [], []),
  (41, .putfield 24, 3, [0, 4], [371]),
  (44, .aload_n 0, 1, [], []),
  (45, .bipush 8, 2, [], []),
  (47, .newarray .int, 2, [], []),
  (49, .putfield 27, 3, [0, 5], [372]),
  (52, .aload_n 0, 1, [], []),
  (53, .bipush 8, 2, [], []),
  (55, .newarray .int, 2, [], []),
  (57, .putfield 30, 3, [0, 6], [373]),
  (60, .aload_n 0, 1, [], []),
  (61, .bipush 8, 2, [], []),
  (63, .newarray .int, 2, [], []),
  (65, .putfield 33, 3, [0, 7], [374]),
  (68, .aload_n 0, 1, [], []),
  (69, .getfield 18, 3, [0, 2], [192]),
  (72, .sipush 9999, 3, [], []),
  (75, .invokestatic 36, 3, [250, 2], [254]),
  (78, .aload_n 0, 1, [], []),
  (79, .getfield 30, 3, [0, 6], [310]),
  (82, .iconst 1, 1, [], []),
  (83, .invokestatic 36, 3, [250, 2], [254]),
  (86, .return_, 1, [], [])]
def mX0_init : pv_M := (⟨"CliffGarden$Brow", "<init>", "()V"⟩, prog_2_method_1_code, 1, none, rX0_init)
def rX0_carries : List pv_R := [
  (0, .iload_n 1, 1, [], []),
  (1, .iconst 5, 1, [], []),
  (2, .iload_n 3, 1, [], []),
  (3, .imul, 1, [], []),
  (4, .iadd, 1, [], []),
  (5, .aload_n 0, 1, [], []),
  (6, .getfield 27, 3, [0, 5], [309]),
  (9, .iload_n 2, 1, [], []),
  (10, .iaload, 1, [], []),
  (11, .if_icmp .gt 7, 3, [12], []),
  (14, .iconst 1, 1, [], []),
  (15, .goto 4, 3, [13], []),
  (18, .iconst 0, 1, [], []),
  (19, .ireturn, 1, [1], [])]
def mX0_carries : pv_M := (⟨"CliffGarden$Brow", "carries", "(III)Z"⟩, prog_2_method_2_code, 4, some .boolean, rX0_carries)
def rX0_factOf : List pv_R := [
  (0, .iload_n 2, 1, [], []),
  (1, .tableswitch 59 0 3 #[31, 38, 45, 52], 31, [22, 2, 7, 12, 17], []),
  (32, .aload_n 0, 1, [], []),
  (33, .getfield 15, 3, [0, 1], [306]),
  (36, .iload_n 1, 1, [], []),
  (37, .iaload, 1, [], []),
  (38, .ireturn, 1, [0], []),
  (39, .aload_n 0, 1, [], []),
  (40, .getfield 18, 3, [0, 2], [192]),
  (43, .iload_n 1, 1, [], []),
  (44, .iaload, 1, [], []),
  (45, .ireturn, 1, [0], []),
  (46, .aload_n 0, 1, [], []),
  (47, .getfield 21, 3, [0, 3], [307]),
  (50, .iload_n 1, 1, [], []),
  (51, .iaload, 1, [], []),
  (52, .ireturn, 1, [0], []),
  (53, .aload_n 0, 1, [], []),
  (54, .getfield 24, 3, [0, 4], [308]),
  (57, .iload_n 1, 1, [], []),
  (58, .iaload, 1, [], []),
  (59, .ireturn, 1, [0], []),
  (60, .iconst (-1), 1, [], []),
  (61, .ireturn, 1, [0], [])]
def mX0_factOf : pv_M := (⟨"CliffGarden$Brow", "factOf", "(II)I"⟩, prog_2_method_3_code, 3, some .int, rX0_factOf)
def rX1_init : List pv_R := [
  (0, .aload_n 0, 1, [], []),
  (1, .invokespecial 3, 3, [9], [526]),
  (4, .aload_n 0, 1, [], []),
  (5, .bipush 14, 2, [], []),
  (7, .newarray .int, 2, [], []),
  (9, .putfield 11, 3, [1, 3], [375]),
  (12, .aload_n 0, 1, [], []),
  (13, .new 9, 3, [7], [513]),
  (16, .dup, 1, [], []),
  (17, .invokespecial 17, 3, [74, 0, 0], [642]),
  (20, .putfield 18, 3, [1, 4], [47]),
  (23, .aload_n 0, 1, [], []),
  (24, .aload_n 1, 1, [], []),
  (25, .putfield 22, 3, [1, 0], [376]),
  (28, .aload_n 0, 1, [], []),
  (29, .aload_n 2, 1, [], []),
  (30, .putfield 26, 3, [1, 1], [377]),
  (33, .aload_n 0, 1, [], []),
  (34, .aload_n 3, 1, [], []),
  (35, .putfield 30, 3, [1, 2], [378]),
  (38, .return_, 1, [], [])]
def mX1_init : pv_M := (⟨"CliffGarden$Court", "<init>", "(LCliffGarden$Nets;LCliffGarden$Brow;LCliffGarden$Falls;)V"⟩, prog_3_method_1_code, 4, none, rX1_init)
def rX1_growth : List pv_R := [
  (0, .aload_n 0, 1, [], []),
  (1, .iload_n 1, 1, [], []),
  (2, .invokevirtual 34, 3, [11, 1, 1], [173]),
  (5, .aload_n 0, 1, [], []),
  (6, .getfield 11, 3, [1, 3], [5]),
  (9, .bipush 7, 2, [], []),
  (11, .iload_n 2, 1, [], []),
  (12, .iastore, 1, [], []),
  (13, .aload_n 0, 1, [], []),
  (14, .getfield 18, 3, [1, 4], [47]),
  (17, .bipush 103, 2, [], []),
  (19, .bipush 50, 2, [], []),
  (21, .aload_n 0, 1, [], []),
  (22, .getfield 11, 3, [1, 3], [5]),
  (25, .invokevirtual 38, 3, [76, 3, 7], [72]),
  (28, .ireturn, 1, [0], [])]
def mX1_growth : pv_M := (⟨"CliffGarden$Court", "growth", "(II)I"⟩, prog_3_method_2_code, 3, some .int, rX1_growth)
def rX1_oddsOfFall : List pv_R := [
  (0, .aload_n 0, 1, [], []),
  (1, .iload_n 1, 1, [], []),
  (2, .invokevirtual 34, 3, [11, 1, 1], [173]),
  (5, .aload_n 0, 1, [], []),
  (6, .getfield 18, 3, [1, 4], [47]),
  (9, .bipush 102, 2, [], []),
  (11, .sipush 1000, 3, [], []),
  (14, .aload_n 0, 1, [], []),
  (15, .getfield 11, 3, [1, 3], [5]),
  (18, .invokevirtual 38, 3, [76, 3, 7], [72]),
  (21, .ireturn, 1, [0], [])]
def mX1_oddsOfFall : pv_M := (⟨"CliffGarden$Court", "oddsOfFall", "(I)I"⟩, prog_3_method_3_code, 2, some .int, rX1_oddsOfFall)
def rX1_ageing : List pv_R := [
  (0, .aload_n 0, 1, [], []),
  (1, .iload_n 1, 1, [], []),
  (2, .invokevirtual 34, 3, [11, 1, 1], [173]),
  (5, .aload_n 0, 1, [], []),
  (6, .getfield 18, 3, [1, 4], [47]),
  (9, .bipush 97, 2, [], []),
  (11, .sipush 999, 3, [], []),
  (14, .aload_n 0, 1, [], []),
  (15, .getfield 11, 3, [1, 3], [5]),
  (18, .invokevirtual 38, 3, [76, 3, 7], [72]),
  (21, .ireturn, 1, [0], [])]
def mX1_ageing : pv_M := (⟨"CliffGarden$Court", "ageing", "(I)I"⟩, prog_3_method_4_code, 2, some .int, rX1_ageing)
def rX1_catchingLevel : List pv_R := [
  (0, .aload_n 0, 1, [], []),
  (1, .getfield 30, 3, [1, 2], [43]),
  (4, .getfield 42, 3, [2, 0], [134]),
  (7, .iload_n 1, 1, [], []),
  (8, .iaload, 1, [], []),
  (9, .istore_n 2, 1, [], []),
  (10, .iload_n 2, 1, [], []),
  (11, .invokestatic 47, 3, [20, 1], [546]),
  (14, .istore_n 3, 1, [], []),
  (15, .iload_n 2, 1, [], []),
  (16, .iconst 1, 1, [], []),
  (17, .iadd, 1, [], []),
  (18, .istore 4, 2, [], []),
  (20, .iload 4, 2, [], []),
  (22, .iload_n 3, 1, [], []),
  (23, .if_icmp .ge 66, 3, [48], []),
  (26, .aload_n 0, 1, [], []),
  (27, .getfield 22, 3, [1, 0], [29]),
  (30, .iload 4, 2, [], []),
  (32, .invokevirtual 53, 3, [21, 1, 3], [566]),
  (35, .ifCond .eq 48, 3, [46], []),
  (38, .aload_n 0, 1, [], []),
  (39, .iload 4, 2, [], []),
  (41, .invokevirtual 57, 3, [10, 1, 1], [174]),
  (44, .aload_n 0, 1, [], []),
  (45, .iload_n 1, 1, [], []),
  (46, .invokevirtual 60, 3, [12, 1, 1], [262]),
  (49, .aload_n 0, 1, [], []),
  (50, .getfield 11, 3, [1, 3], [5]),
  (53, .bipush 12, 2, [], []),
  (55, .iload 4, 2, [], []),
  (57, .iload_n 2, 1, [], []),
  (58, .isub, 1, [], []),
  (59, .iastore, 1, [], []),
  (60, .aload_n 0, 1, [], []),
  (61, .getfield 18, 3, [1, 4], [47]),
  (64, .bipush 99, 2, [], []),
  (66, .iconst 1, 1, [], []),
  (67, .aload_n 0, 1, [], []),
  (68, .getfield 11, 3, [1, 3], [5]),
  (71, .invokevirtual 38, 3, [76, 3, 7], [72]),
  (74, .ifCond .le 9, 3, [46], []),
  (77, .iload 4, 2, [], []),
  (79, .bipush 6, 2, [], []),
  (81, .irem, 1, [], []),
  (82, .ireturn, 1, [0], []),
  (83, .iinc 4 1, 3, [], []),
  (86, .goto (-66), 3, [13], []),
  (89, .bipush 6, 2, [], []),
  (91, .ireturn, 1, [0], [])]
def mX1_catchingLevel : pv_M := (⟨"CliffGarden$Court", "catchingLevel", "(I)I"⟩, prog_3_method_5_code, 5, some .int, rX1_catchingLevel)
def rX1_ownerOf : List pv_R := [
  (0, .aload_n 0, 1, [], []),
  (1, .iload_n 1, 1, [], []),
  (2, .invokevirtual 63, 3, [13, 1, 1], [263]),
  (5, .aload_n 0, 1, [], []),
  (6, .getfield 18, 3, [1, 4], [47]),
  (9, .bipush 111, 2, [], []),
  (11, .bipush 7, 2, [], []),
  (13, .aload_n 0, 1, [], []),
  (14, .getfield 11, 3, [1, 3], [5]),
  (17, .invokevirtual 38, 3, [76, 3, 7], [72]),
  (20, .ireturn, 1, [0], [])]
def mX1_ownerOf : pv_M := (⟨"CliffGarden$Court", "ownerOf", "(I)I"⟩, prog_3_method_6_code, 2, some .int, rX1_ownerOf)
def rX1_pointsOf : List pv_R := [
  (0, .aload_n 0, 1, [], []),
  (1, .iload_n 1, 1, [], []),
  (2, .invokevirtual 63, 3, [13, 1, 1], [263]),
  (5, .aload_n 0, 1, [], []),
  (6, .getfield 11, 3, [1, 3], [5]),
  (9, .bipush 13, 2, [], []),
  (11, .iload_n 2, 1, [], []),
  (12, .iastore, 1, [], []),
  (13, .aload_n 0, 1, [], []),
  (14, .getfield 18, 3, [1, 4], [47]),
  (17, .bipush 113, 2, [], []),
  (19, .sipush 1000, 3, [], []),
  (22, .aload_n 0, 1, [], []),
  (23, .getfield 11, 3, [1, 3], [5]),
  (26, .invokevirtual 38, 3, [76, 3, 7], [72]),
  (29, .ireturn, 1, [0], [])]
def mX1_pointsOf : pv_M := (⟨"CliffGarden$Court", "pointsOf", "(II)I"⟩, prog_3_method_7_code, 3, some .int, rX1_pointsOf)
def rX1_seeCell : List pv_R := [
  (0, .aload_n 0, 1, [], []),
  (1, .getfield 11, 3, [1, 3], [5]),
  (4, .iconst 0, 1, [], []),
  (5, .invokestatic 66, 3, [250, 2], [547]),
  (8, .aload_n 0, 1, [], []),
  (9, .getfield 11, 3, [1, 3], [5]),
  (12, .iconst 2, 1, [], []),
  (13, .iload_n 1, 1, [], []),
  (14, .bipush 6, 2, [], []),
  (16, .idiv, 1, [], []),
  (17, .iastore, 1, [], []),
  (18, .aload_n 0, 1, [], []),
  (19, .getfield 11, 3, [1, 3], [5]),
  (22, .iconst 3, 1, [], []),
  (23, .iload_n 1, 1, [], []),
  (24, .bipush 6, 2, [], []),
  (26, .irem, 1, [], []),
  (27, .iastore, 1, [], []),
  (28, .aload_n 0, 1, [], []),
  (29, .getfield 11, 3, [1, 3], [5]),
  (32, .iconst 4, 1, [], []),
  (33, .aload_n 0, 1, [], []),
  (34, .getfield 22, 3, [1, 0], [29]),
  (37, .getfield 72, 3, [3, 2], [311]),
  (40, .iload_n 1, 1, [], []),
  (41, .iaload, 1, [], []),
  (42, .iastore, 1, [], []),
  (43, .aload_n 0, 1, [], []),
  (44, .getfield 11, 3, [1, 3], [5]),
  (47, .iconst 5, 1, [], []),
  (48, .aload_n 0, 1, [], []),
  (49, .getfield 22, 3, [1, 0], [29]),
  (52, .getfield 75, 3, [3, 1], [312]),
  (55, .iload_n 1, 1, [], []),
  (56, .iaload, 1, [], []),
  (57, .iastore, 1, [], []),
  (58, .aload_n 0, 1, [], []),
  (59, .getfield 11, 3, [1, 3], [5]),
  (62, .bipush 6, 2, [], []),
  (64, .aload_n 0, 1, [], []),
  (65, .getfield 22, 3, [1, 0], [29]),
  (68, .getfield 78, 3, [3, 3], [313]),
  (71, .iload_n 1, 1, [], []),
  (72, .iaload, 1, [], []),
  (73, .iastore, 1, [], []),
  (74, .aload_n 0, 1, [], []),
  (75, .getfield 11, 3, [1, 3], [5]),
  (78, .bipush 7, 2, [], []),
  (80, .aload_n 0, 1, [], []),
  (81, .getfield 22, 3, [1, 0], [29]),
  (84, .getfield 81, 3, [3, 8], [314]),
  (87, .iload_n 1, 1, [], []),
  (88, .iaload, 1, [], []),
  (89, .iastore, 1, [], []),
  (90, .aload_n 0, 1, [], []),
  (91, .getfield 11, 3, [1, 3], [5]),
  (94, .bipush 10, 2, [], []),
  (96, .aload_n 0, 1, [], []),
  (97, .getfield 26, 3, [1, 1], [193]),
  (100, .getfield 84, 3, [0, 8], [315]),
  (103, .iastore, 1, [], []),
  (104, .aload_n 0, 1, [], []),
  (105, .getfield 11, 3, [1, 3], [5]),
  (108, .bipush 11, 2, [], []),
  (110, .aload_n 0, 1, [], []),
  (111, .getfield 26, 3, [1, 1], [193]),
  (114, .getfield 90, 3, [0, 1], [316]),
  (117, .iload_n 1, 1, [], []),
  (118, .bipush 6, 2, [], []),
  (120, .idiv, 1, [], []),
  (121, .iaload, 1, [], []),
  (122, .iastore, 1, [], []),
  (123, .return_, 1, [], [])]
def mX1_seeCell : pv_M := (⟨"CliffGarden$Court", "seeCell", "(I)V"⟩, prog_3_method_8_code, 2, none, rX1_seeCell)
def rX1_seeCellAndCrop : List pv_R := [
  (0, .aload_n 0, 1, [], []),
  (1, .iload_n 1, 1, [], []),
  (2, .invokevirtual 57, 3, [10, 1, 1], [174]),
  (5, .aload_n 0, 1, [], []),
  (6, .getfield 22, 3, [1, 0], [29]),
  (9, .iload_n 1, 1, [], []),
  (10, .invokevirtual 93, 3, [22, 1, 3], [567]),
  (13, .ifCond .eq 80, 3, [51], []),
  (16, .aload_n 0, 1, [], []),
  (17, .getfield 11, 3, [1, 3], [5]),
  (20, .iconst 0, 1, [], []),
  (21, .aload_n 0, 1, [], []),
  (22, .getfield 22, 3, [1, 0], [29]),
  (25, .getfield 96, 3, [3, 5], [317]),
  (28, .iload_n 1, 1, [], []),
  (29, .iaload, 1, [], []),
  (30, .iastore, 1, [], []),
  (31, .aload_n 0, 1, [], []),
  (32, .getfield 11, 3, [1, 3], [5]),
  (35, .iconst 1, 1, [], []),
  (36, .aload_n 0, 1, [], []),
  (37, .getfield 22, 3, [1, 0], [29]),
  (40, .getfield 99, 3, [3, 6], [318]),
  (43, .iload_n 1, 1, [], []),
  (44, .iaload, 1, [], []),
  (45, .iastore, 1, [], []),
  (46, .aload_n 0, 1, [], []),
  (47, .getfield 11, 3, [1, 3], [5]),
  (50, .bipush 8, 2, [], []),
  (52, .aload_n 0, 1, [], []),
  (53, .getfield 22, 3, [1, 0], [29]),
  (56, .iload_n 1, 1, [], []),
  (57, .invokevirtual 102, 3, [23, 1, 3], [568]),
  (60, .ifCond .eq 7, 3, [36], []),
  (63, .iconst 1, 1, [], []),
  (64, .goto 4, 3, [37], []),
  (67, .iconst 0, 1, [], []),
  (68, .iastore, 1, [], []),
  (69, .aload_n 0, 1, [], []),
  (70, .getfield 11, 3, [1, 3], [5]),
  (73, .bipush 9, 2, [], []),
  (75, .aload_n 0, 1, [], []),
  (76, .getfield 22, 3, [1, 0], [29]),
  (79, .getfield 105, 3, [3, 9], [319]),
  (82, .iload_n 1, 1, [], []),
  (83, .baload, 1, [1], []),
  (84, .ifCond .eq 7, 3, [49], []),
  (87, .iconst 1, 1, [], []),
  (88, .goto 4, 3, [50], []),
  (91, .iconst 0, 1, [], []),
  (92, .iastore, 1, [], []),
  (93, .return_, 1, [], [])]
def mX1_seeCellAndCrop : pv_M := (⟨"CliffGarden$Court", "seeCellAndCrop", "(I)V"⟩, prog_3_method_9_code, 2, none, rX1_seeCellAndCrop)
def rX1_seeFallen : List pv_R := [
  (0, .aload_n 0, 1, [], []),
  (1, .getfield 11, 3, [1, 3], [5]),
  (4, .iconst 0, 1, [], []),
  (5, .aload_n 0, 1, [], []),
  (6, .getfield 30, 3, [1, 2], [43]),
  (9, .getfield 109, 3, [2, 1], [320]),
  (12, .iload_n 1, 1, [], []),
  (13, .iaload, 1, [], []),
  (14, .iastore, 1, [], []),
  (15, .aload_n 0, 1, [], []),
  (16, .getfield 11, 3, [1, 3], [5]),
  (19, .iconst 1, 1, [], []),
  (20, .aload_n 0, 1, [], []),
  (21, .getfield 30, 3, [1, 2], [43]),
  (24, .getfield 110, 3, [2, 2], [321]),
  (27, .iload_n 1, 1, [], []),
  (28, .iaload, 1, [], []),
  (29, .iastore, 1, [], []),
  (30, .aload_n 0, 1, [], []),
  (31, .getfield 11, 3, [1, 3], [5]),
  (34, .bipush 8, 2, [], []),
  (36, .aload_n 0, 1, [], []),
  (37, .getfield 30, 3, [1, 2], [43]),
  (40, .getfield 111, 3, [2, 3], [322]),
  (43, .iload_n 1, 1, [], []),
  (44, .baload, 1, [1], []),
  (45, .ifCond .eq 7, 3, [29], []),
  (48, .iconst 1, 1, [], []),
  (49, .goto 4, 3, [30], []),
  (52, .iconst 0, 1, [], []),
  (53, .iastore, 1, [], []),
  (54, .aload_n 0, 1, [], []),
  (55, .getfield 11, 3, [1, 3], [5]),
  (58, .bipush 9, 2, [], []),
  (60, .aload_n 0, 1, [], []),
  (61, .getfield 30, 3, [1, 2], [43]),
  (64, .getfield 114, 3, [2, 4], [323]),
  (67, .iload_n 1, 1, [], []),
  (68, .baload, 1, [1], []),
  (69, .ifCond .eq 7, 3, [42], []),
  (72, .iconst 1, 1, [], []),
  (73, .goto 4, 3, [43], []),
  (76, .iconst 0, 1, [], []),
  (77, .iastore, 1, [], []),
  (78, .return_, 1, [], [])]
def mX1_seeFallen : pv_M := (⟨"CliffGarden$Court", "seeFallen", "(I)V"⟩, prog_3_method_10_code, 2, none, rX1_seeFallen)
def rX1_seeFallFromItsCell : List pv_R := [
  (0, .aload_n 0, 1, [], []),
  (1, .aload_n 0, 1, [], []),
  (2, .getfield 30, 3, [1, 2], [43]),
  (5, .getfield 42, 3, [2, 0], [134]),
  (8, .iload_n 1, 1, [], []),
  (9, .iaload, 1, [], []),
  (10, .invokevirtual 57, 3, [10, 1, 1], [174]),
  (13, .aload_n 0, 1, [], []),
  (14, .iload_n 1, 1, [], []),
  (15, .invokevirtual 60, 3, [12, 1, 1], [262]),
  (18, .aload_n 0, 1, [], []),
  (19, .getfield 11, 3, [1, 3], [5]),
  (22, .bipush 12, 2, [], []),
  (24, .aload_n 0, 1, [], []),
  (25, .getfield 30, 3, [1, 2], [43]),
  (28, .getfield 115, 3, [2, 5], [324]),
  (31, .iload_n 1, 1, [], []),
  (32, .iaload, 1, [], []),
  (33, .aload_n 0, 1, [], []),
  (34, .getfield 30, 3, [1, 2], [43]),
  (37, .getfield 42, 3, [2, 0], [134]),
  (40, .iload_n 1, 1, [], []),
  (41, .iaload, 1, [], []),
  (42, .bipush 6, 2, [], []),
  (44, .irem, 1, [], []),
  (45, .isub, 1, [], []),
  (46, .iastore, 1, [], []),
  (47, .return_, 1, [], [])]
def mX1_seeFallFromItsCell : pv_M := (⟨"CliffGarden$Court", "seeFallFromItsCell", "(I)V"⟩, prog_3_method_11_code, 2, none, rX1_seeFallFromItsCell)
def rX2_init : List pv_R := [
  (0, .aload_n 0, 1, [], []),
  (1, .invokespecial 3, 3, [9], [527]),
  (4, .aload_n 0, 1, [], []),
  (5, .bipush 61, 2, [], []),
  (7, .newarray .int, 2, [], []),
  (9, .putfield 11, 3, [2, 0], [379]),
  (12, .aload_n 0, 1, [], []),
  (13, .bipush 61, 2, [], []),
  (15, .newarray .int, 2, [], []),
  (17, .putfield 15, 3, [2, 1], [380]),
  (20, .aload_n 0, 1, [], []),
  (21, .bipush 61, 2, [], []),
  (23, .newarray .int, 2, [], []),
  (25, .putfield 18, 3, [2, 2], [381]),
  (28, .aload_n 0, 1, [], []),
  (29, .bipush 61, 2, [], []),
  (31, .newarray .boolean, 2, [], []),
  (33, .putfield 21, 3, [2, 3], [382]),
  (36, .aload_n 0, 1, [], []),
  (37, .bipush 61, 2, [], []),
  (39, .newarray .boolean, 2, [], []),
  (41, .putfield 25, 3, [2, 4], [383]),
  (44, .aload_n 0, 1, [], []),
  (45, .bipush 61, 2, [], []),
  (47, .newarray .int, 2, [], []),
  (49, .putfield 28, 3, [2, 5], [384]),
  (52, .aload_n 0, 1, [], []),
  (53, .bipush 61, 2, [], []),
  (55, .newarray .int, 2, [], []),
  (57, .putfield 31, 3, [2, 6], [385]),
  (60, .aload_n 0, 1, [], []),
  (61, .bipush 61, 2, [], []),
  (63, .newarray .int, 2, [], []),
  (65, .putfield 34, 3, [2, 7], [386]),
  (68, .aload_n 0, 1, [], []),
  (69, .bipush 61, 2, [], []),
  (71, .newarray .int, 2, [], []),
  (73, .putfield 37, 3, [2, 8], [387]),
  (76, .return_, 1, [], [])]
def mX2_init : pv_M := (⟨"CliffGarden$Falls", "<init>", "()V"⟩, prog_4_method_1_code, 1, none, rX2_init)
def rX2_open : List pv_R := [
  (0, .aload_n 0, 1, [], []),
  (1, .getfield 11, 3, [2, 0], [135]),
  (4, .aload_n 0, 1, [], []),
  (5, .getfield 40, 3, [2, 9], [25]),
  (8, .iload_n 2, 1, [], []),
  (9, .iastore, 1, [], []),
  (10, .aload_n 0, 1, [], []),
  (11, .getfield 15, 3, [2, 1], [194]),
  (14, .aload_n 0, 1, [], []),
  (15, .getfield 40, 3, [2, 9], [25]),
  (18, .aload_n 1, 1, [], []),
  (19, .getfield 44, 3, [3, 5], [329]),
  (22, .iload_n 2, 1, [], []),
  (23, .iaload, 1, [], []),
  (24, .iastore, 1, [], []),
  (25, .aload_n 0, 1, [], []),
  (26, .getfield 18, 3, [2, 2], [195]),
  (29, .aload_n 0, 1, [], []),
  (30, .getfield 40, 3, [2, 9], [25]),
  (33, .aload_n 1, 1, [], []),
  (34, .getfield 47, 3, [3, 6], [330]),
  (37, .iload_n 2, 1, [], []),
  (38, .iaload, 1, [], []),
  (39, .iastore, 1, [], []),
  (40, .aload_n 0, 1, [], []),
  (41, .getfield 21, 3, [2, 3], [325]),
  (44, .aload_n 0, 1, [], []),
  (45, .getfield 40, 3, [2, 9], [25]),
  (48, .aload_n 1, 1, [], []),
  (49, .iload_n 2, 1, [], []),
  (50, .invokevirtual 48, 3, [23, 1, 3], [569]),
  (53, .bastore, 1, [1], []),
  (54, .aload_n 0, 1, [], []),
  (55, .getfield 25, 3, [2, 4], [326]),
  (58, .aload_n 0, 1, [], []),
  (59, .getfield 40, 3, [2, 9], [25]),
  (62, .aload_n 1, 1, [], []),
  (63, .getfield 52, 3, [3, 9], [331]),
  (66, .iload_n 2, 1, [], []),
  (67, .baload, 1, [1], []),
  (68, .bastore, 1, [1], []),
  (69, .aload_n 0, 1, [], []),
  (70, .getfield 37, 3, [2, 8], [196]),
  (73, .aload_n 0, 1, [], []),
  (74, .getfield 40, 3, [2, 9], [25]),
  (77, .iload_n 3, 1, [], []),
  (78, .iastore, 1, [], []),
  (79, .aload_n 0, 1, [], []),
  (80, .getfield 40, 3, [2, 9], [25]),
  (83, .ireturn, 1, [0], [])]
def mX2_open : pv_M := (⟨"CliffGarden$Falls", "open", "(LCliffGarden$Nets;II)I"⟩, prog_4_method_2_code, 4, some .int, rX2_open)
def rX2_close : List pv_R := [
  (0, .aload_n 0, 1, [], []),
  (1, .dup, 1, [], []),
  (2, .getfield 53, 3, [2, 10], [197]),
  (5, .iconst 1, 1, [], []),
  (6, .iadd, 1, [], []),
  (7, .putfield 53, 3, [2, 10], [197]),
  (10, .aload_n 0, 1, [], []),
  (11, .getfield 40, 3, [2, 9], [25]),
  (14, .bipush 60, 2, [], []),
  (16, .if_icmp .ge 13, 3, [16], []),
  (19, .aload_n 0, 1, [], []),
  (20, .dup, 1, [], []),
  (21, .getfield 40, 3, [2, 9], [25]),
  (24, .iconst 1, 1, [], []),
  (25, .iadd, 1, [], []),
  (26, .putfield 40, 3, [2, 9], [25]),
  (29, .return_, 1, [], [])]
def mX2_close : pv_M := (⟨"CliffGarden$Falls", "close", "()V"⟩, prog_4_method_3_code, 1, none, rX2_close)
def rX2_isWritten : List pv_R := [
  (0, .iload_n 1, 1, [], []),
  (1, .ifCond .lt 15, 3, [8], []),
  (4, .iload_n 1, 1, [], []),
  (5, .aload_n 0, 1, [], []),
  (6, .getfield 40, 3, [2, 9], [25]),
  (9, .if_icmp .ge 7, 3, [8], []),
  (12, .iconst 1, 1, [], []),
  (13, .goto 4, 3, [9], []),
  (16, .iconst 0, 1, [], []),
  (17, .ireturn, 1, [1], [])]
def mX2_isWritten : pv_M := (⟨"CliffGarden$Falls", "isWritten", "(I)Z"⟩, prog_4_method_4_code, 2, some .boolean, rX2_isWritten)
def rX2_factOf : List pv_R := [
  (0, .iload_n 2, 1, [], []),
  (1, .tableswitch 98 0 6 #[43, 53, 63, 70, 77, 84, 91], 43, [41, 2, 9, 16, 21, 26, 31, 36], []),
  (44, .aload_n 0, 1, [], []),
  (45, .getfield 11, 3, [2, 0], [135]),
  (48, .iload_n 1, 1, [], []),
  (49, .iaload, 1, [], []),
  (50, .bipush 6, 2, [], []),
  (52, .idiv, 1, [], []),
  (53, .ireturn, 1, [0], []),
  (54, .aload_n 0, 1, [], []),
  (55, .getfield 11, 3, [2, 0], [135]),
  (58, .iload_n 1, 1, [], []),
  (59, .iaload, 1, [], []),
  (60, .bipush 6, 2, [], []),
  (62, .irem, 1, [], []),
  (63, .ireturn, 1, [0], []),
  (64, .aload_n 0, 1, [], []),
  (65, .getfield 15, 3, [2, 1], [194]),
  (68, .iload_n 1, 1, [], []),
  (69, .iaload, 1, [], []),
  (70, .ireturn, 1, [0], []),
  (71, .aload_n 0, 1, [], []),
  (72, .getfield 18, 3, [2, 2], [195]),
  (75, .iload_n 1, 1, [], []),
  (76, .iaload, 1, [], []),
  (77, .ireturn, 1, [0], []),
  (78, .aload_n 0, 1, [], []),
  (79, .getfield 28, 3, [2, 5], [327]),
  (82, .iload_n 1, 1, [], []),
  (83, .iaload, 1, [], []),
  (84, .ireturn, 1, [0], []),
  (85, .aload_n 0, 1, [], []),
  (86, .getfield 31, 3, [2, 6], [328]),
  (89, .iload_n 1, 1, [], []),
  (90, .iaload, 1, [], []),
  (91, .ireturn, 1, [0], []),
  (92, .aload_n 0, 1, [], []),
  (93, .getfield 37, 3, [2, 8], [196]),
  (96, .iload_n 1, 1, [], []),
  (97, .iaload, 1, [], []),
  (98, .ireturn, 1, [0], []),
  (99, .sipush (-1000), 3, [], []),
  (102, .ireturn, 1, [0], [])]
def mX2_factOf : pv_M := (⟨"CliffGarden$Falls", "factOf", "(II)I"⟩, prog_4_method_5_code, 3, some .int, rX2_factOf)
def rX3_init : List pv_R := [
  (0, .aload_n 0, 1, [], []),
  (1, .invokespecial 3, 3, [9], [528]),
  (4, .aload_n 0, 1, [], []),
  (5, .bipush 48, 2, [], []),
  (7, .newarray .int, 2, [], []),
  (9, .putfield 9, 3, [3, 1], [388]),
  (12, .aload_n 0, 1, [], []),
  (13, .bipush 48, 2, [], []),
  (15, .newarray .int, 2, [], []),
  (17, .putfield 15, 3, [3, 2], [389]),
  (20, .aload_n 0, 1, [], []),
  (21, .bipush 48, 2, [], []),
  (23, .newarray .int, 2, [], []),
  (25, .putfield 18, 3, [3, 3], [390]),
  (28, .aload_n 0, 1, [], []),
  (29, .bipush 48, 2, [], []),
  (31, .newarray .int, 2, [], []),
  (33, .putfield 21, 3, [3, 4], [391]),
  (36, .aload_n 0, 1, [], []),
  (37, .bipush 48, 2, [], []),
  (39, .newarray .int, 2, [], []),
  (41, .putfield 24, 3, [3, 5], [392]),
  (44, .aload_n 0, 1, [], []),
  (45, .bipush 48, 2, [], []),
  (47, .newarray .int, 2, [], []),
  (49, .putfield 27, 3, [3, 6], [393]),
  (52, .aload_n 0, 1, [], []),
  (53, .bipush 48, 2, [], []),
  (55, .newarray .int, 2, [], []),
  (57, .putfield 30, 3, [3, 7], [394]),
  (60, .aload_n 0, 1, [], []),
  (61, .bipush 48, 2, [], []),
  (63, .newarray .int, 2, [], []),
  (65, .putfield 33, 3, [3, 8], [395]),
  (68, .aload_n 0, 1, [], []),
  (69, .bipush 48, 2, [], []),
  (71, .newarray .boolean, 2, [], []),
  (73, .putfield 36, 3, [3, 9], [396]),
  (76, .aload_n 0, 1, [], []),
  (77, .bipush 6, 2, [], []),
  (79, .newarray .int, 2, [], []),
  (81, .putfield 40, 3, [3, 10], [397]),
  (84, .aload_n 0, 1, [], []),
  (85, .bipush 6, 2, [], []),
  (87, .newarray .int, 2, [], []),
  (89, .putfield 43, 3, [3, 11], [398]),
  (92, .aload_n 0, 1, [], []),
  (93, .bipush 6, 2, [], []),
  (95, .newarray .int, 2, [], []),
  (97, .putfield 46, 3, [3, 12], [399]),
  (100, .aload_n 0, 1, [], []),
  (101, .bipush 48, 2, [], []),
  (103, .newarray .int, 2, [], []),
  (105, .putfield 49, 3, [3, 13], [400]),
  (108, .aload_n 0, 1, [], []),
  (109, .getfield 24, 3, [3, 5], [35]),
  (112, .iconst (-1), 1, [], []),
  (113, .invokestatic 52, 3, [250, 2], [124]),
  (116, .aload_n 0, 1, [], []),
  (117, .getfield 40, 3, [3, 10], [202]),
  (120, .iconst 1, 1, [], []),
  (121, .invokestatic 52, 3, [250, 2], [124]),
  (124, .aload_n 0, 1, [], []),
  (125, .getfield 43, 3, [3, 11], [136]),
  (128, .bipush 50, 2, [], []),
  (130, .invokestatic 52, 3, [250, 2], [124]),
  (133, .aload_n 0, 1, [], []),
  (134, .getfield 46, 3, [3, 12], [334]),
  (137, .iconst 1, 1, [], []),
  (138, .invokestatic 52, 3, [250, 2], [124]),
  (141, .return_, 1, [], [])]
def mX3_init : pv_M := (⟨"CliffGarden$Nets", "<init>", "()V"⟩, prog_5_method_1_code, 1, none, rX3_init)
def rX3_endOfColumn : List pv_R := [
  (0, .iload_n 0, 1, [], []),
  (1, .iload_n 0, 1, [], []),
  (2, .bipush 6, 2, [], []),
  (4, .irem, 1, [], []),
  (5, .isub, 1, [], []),
  (6, .bipush 6, 2, [], []),
  (8, .iadd, 1, [], []),
  (9, .ireturn, 1, [0], [])]
def mX3_endOfColumn : pv_M := (⟨"CliffGarden$Nets", "endOfColumn", "(I)I"⟩, prog_5_method_2_code, 1, some .int, rX3_endOfColumn)
def rX3_hangs : List pv_R := [
  (0, .iload_n 1, 1, [], []),
  (1, .ifCond .lt 26, 3, [16], []),
  (4, .iload_n 1, 1, [], []),
  (5, .bipush 48, 2, [], []),
  (7, .if_icmp .ge 20, 3, [16], []),
  (10, .aload_n 0, 1, [], []),
  (11, .getfield 58, 3, [3, 0], [60]),
  (14, .iload_n 1, 1, [], []),
  (15, .lushr, 1, [], []),
  (16, .lconst 1, 1, [], []),
  (17, .land, 1, [], []),
  (18, .lconst 0, 1, [], []),
  (19, .lcmp, 1, [], []),
  (20, .ifCond .eq 7, 3, [16], []),
  (23, .iconst 1, 1, [], []),
  (24, .goto 4, 3, [17], []),
  (27, .iconst 0, 1, [], []),
  (28, .ireturn, 1, [1], [])]
def mX3_hangs : pv_M := (⟨"CliffGarden$Nets", "hangs", "(I)Z"⟩, prog_5_method_3_code, 2, some .boolean, rX3_hangs)
def rX3_hasCrop : List pv_R := [
  (0, .aload_n 0, 1, [], []),
  (1, .iload_n 1, 1, [], []),
  (2, .invokevirtual 62, 3, [21, 1, 3], [92]),
  (5, .ifCond .eq 20, 3, [13], []),
  (8, .aload_n 0, 1, [], []),
  (9, .getfield 24, 3, [3, 5], [35]),
  (12, .iload_n 1, 1, [], []),
  (13, .iaload, 1, [], []),
  (14, .iconst 5, 1, [], []),
  (15, .invokestatic 66, 3, [138, 2], [548]),
  (18, .ifCond .eq 7, 3, [13], []),
  (21, .iconst 1, 1, [], []),
  (22, .goto 4, 3, [14], []),
  (25, .iconst 0, 1, [], []),
  (26, .ireturn, 1, [1], [])]
def mX3_hasCrop : pv_M := (⟨"CliffGarden$Nets", "hasCrop", "(I)Z"⟩, prog_5_method_4_code, 2, some .boolean, rX3_hasCrop)
def rX3_isRipe : List pv_R := [
  (0, .aload_n 0, 1, [], []),
  (1, .iload_n 1, 1, [], []),
  (2, .invokevirtual 70, 3, [22, 1, 3], [73]),
  (5, .ifCond .eq 27, 3, [18], []),
  (8, .aload_n 0, 1, [], []),
  (9, .getfield 27, 3, [3, 6], [76]),
  (12, .iload_n 1, 1, [], []),
  (13, .iaload, 1, [], []),
  (14, .aload_n 0, 1, [], []),
  (15, .getfield 43, 3, [3, 11], [136]),
  (18, .aload_n 0, 1, [], []),
  (19, .getfield 24, 3, [3, 5], [35]),
  (22, .iload_n 1, 1, [], []),
  (23, .iaload, 1, [], []),
  (24, .iaload, 1, [], []),
  (25, .if_icmp .lt 7, 3, [18], []),
  (28, .iconst 1, 1, [], []),
  (29, .goto 4, 3, [19], []),
  (32, .iconst 0, 1, [], []),
  (33, .ireturn, 1, [1], [])]
def mX3_isRipe : pv_M := (⟨"CliffGarden$Nets", "isRipe", "(I)Z"⟩, prog_5_method_5_code, 2, some .boolean, rX3_isRipe)
def rX3_needOf : List pv_R := [
  (0, .aload_n 0, 1, [], []),
  (1, .iload_n 1, 1, [], []),
  (2, .invokevirtual 70, 3, [22, 1, 3], [73]),
  (5, .ifCond .eq 17, 3, [12], []),
  (8, .aload_n 0, 1, [], []),
  (9, .getfield 40, 3, [3, 10], [202]),
  (12, .aload_n 0, 1, [], []),
  (13, .getfield 24, 3, [3, 5], [35]),
  (16, .iload_n 1, 1, [], []),
  (17, .iaload, 1, [], []),
  (18, .iaload, 1, [], []),
  (19, .goto 4, 3, [13], []),
  (22, .iconst 0, 1, [], []),
  (23, .ireturn, 1, [0], [])]
def mX3_needOf : pv_M := (⟨"CliffGarden$Nets", "needOf", "(I)I"⟩, prog_5_method_6_code, 2, some .int, rX3_needOf)
def rX3_setCrop : List pv_R := [
  (0, .aload_n 0, 1, [], []),
  (1, .getfield 24, 3, [3, 5], [35]),
  (4, .iload_n 1, 1, [], []),
  (5, .iload_n 2, 1, [], []),
  (6, .iastore, 1, [], []),
  (7, .aload_n 0, 1, [], []),
  (8, .getfield 27, 3, [3, 6], [76]),
  (11, .iload_n 1, 1, [], []),
  (12, .iload_n 3, 1, [], []),
  (13, .iastore, 1, [], []),
  (14, .aload_n 0, 1, [], []),
  (15, .getfield 36, 3, [3, 9], [201]),
  (18, .iload_n 1, 1, [], []),
  (19, .iconst 0, 1, [], []),
  (20, .bastore, 1, [1], []),
  (21, .return_, 1, [], [])]
def mX3_setCrop : pv_M := (⟨"CliffGarden$Nets", "setCrop", "(III)V"⟩, prog_5_method_7_code, 4, none, rX3_setCrop)
def rX3_clearCrop : List pv_R := [
  (0, .aload_n 0, 1, [], []),
  (1, .iload_n 1, 1, [], []),
  (2, .iconst (-1), 1, [], []),
  (3, .iconst 0, 1, [], []),
  (4, .invokevirtual 73, 3, [25, 3, 3], [570]),
  (7, .return_, 1, [], [])]
def mX3_clearCrop : pv_M := (⟨"CliffGarden$Nets", "clearCrop", "(I)V"⟩, prog_5_method_8_code, 2, none, rX3_clearCrop)
def rX3_crops : List pv_R := [
  (0, .iconst 0, 1, [], []),
  (1, .istore_n 1, 1, [], []),
  (2, .iconst 0, 1, [], []),
  (3, .istore_n 2, 1, [], []),
  (4, .iload_n 2, 1, [], []),
  (5, .bipush 48, 2, [], []),
  (7, .if_icmp .ge 20, 3, [14], []),
  (10, .aload_n 0, 1, [], []),
  (11, .iload_n 2, 1, [], []),
  (12, .invokevirtual 70, 3, [22, 1, 3], [73]),
  (15, .ifCond .eq 6, 3, [12], []),
  (18, .iinc 1 1, 3, [], []),
  (21, .iinc 2 1, 3, [], []),
  (24, .goto (-20), 3, [4], []),
  (27, .iload_n 1, 1, [], []),
  (28, .ireturn, 1, [0], [])]
def mX3_crops : pv_M := (⟨"CliffGarden$Nets", "crops", "()I"⟩, prog_5_method_9_code, 3, some .int, rX3_crops)
def rX3_factOf : List pv_R := [
  (0, .iload_n 2, 1, [], []),
  (1, .tableswitch 132 1 10 #[55, 62, 69, 76, 83, 90, 97, 104, 111, 126], 55, [55, 2, 7, 12, 17, 22, 27, 32, 37, 42, 51], []),
  (56, .aload_n 0, 1, [], []),
  (57, .getfield 9, 3, [3, 1], [59]),
  (60, .iload_n 1, 1, [], []),
  (61, .iaload, 1, [], []),
  (62, .ireturn, 1, [0], []),
  (63, .aload_n 0, 1, [], []),
  (64, .getfield 15, 3, [3, 2], [198]),
  (67, .iload_n 1, 1, [], []),
  (68, .iaload, 1, [], []),
  (69, .ireturn, 1, [0], []),
  (70, .aload_n 0, 1, [], []),
  (71, .getfield 18, 3, [3, 3], [332]),
  (74, .iload_n 1, 1, [], []),
  (75, .iaload, 1, [], []),
  (76, .ireturn, 1, [0], []),
  (77, .aload_n 0, 1, [], []),
  (78, .getfield 21, 3, [3, 4], [333]),
  (81, .iload_n 1, 1, [], []),
  (82, .iaload, 1, [], []),
  (83, .ireturn, 1, [0], []),
  (84, .aload_n 0, 1, [], []),
  (85, .getfield 24, 3, [3, 5], [35]),
  (88, .iload_n 1, 1, [], []),
  (89, .iaload, 1, [], []),
  (90, .ireturn, 1, [0], []),
  (91, .aload_n 0, 1, [], []),
  (92, .getfield 27, 3, [3, 6], [76]),
  (95, .iload_n 1, 1, [], []),
  (96, .iaload, 1, [], []),
  (97, .ireturn, 1, [0], []),
  (98, .aload_n 0, 1, [], []),
  (99, .getfield 30, 3, [3, 7], [199]),
  (102, .iload_n 1, 1, [], []),
  (103, .iaload, 1, [], []),
  (104, .ireturn, 1, [0], []),
  (105, .aload_n 0, 1, [], []),
  (106, .getfield 33, 3, [3, 8], [200]),
  (109, .iload_n 1, 1, [], []),
  (110, .iaload, 1, [], []),
  (111, .ireturn, 1, [0], []),
  (112, .aload_n 0, 1, [], []),
  (113, .getfield 36, 3, [3, 9], [201]),
  (116, .iload_n 1, 1, [], []),
  (117, .baload, 1, [1], []),
  (118, .ifCond .eq 7, 3, [49], []),
  (121, .iconst 1, 1, [], []),
  (122, .goto 4, 3, [50], []),
  (125, .iconst 0, 1, [], []),
  (126, .ireturn, 1, [0], []),
  (127, .aload_n 0, 1, [], []),
  (128, .iload_n 1, 1, [], []),
  (129, .invokevirtual 77, 3, [29, 1, 3], [127]),
  (132, .ireturn, 1, [0], []),
  (133, .sipush (-1000), 3, [], []),
  (136, .ireturn, 1, [0], [])]
def mX3_factOf : pv_M := (⟨"CliffGarden$Nets", "factOf", "(II)I"⟩, prog_5_method_10_code, 3, some .int, rX3_factOf)
def rX3_loadOf : List pv_R := [
  (0, .iconst 0, 1, [], []),
  (1, .istore_n 2, 1, [], []),
  (2, .iload_n 1, 1, [], []),
  (3, .invokestatic 81, 3, [20, 1], [169]),
  (6, .istore_n 3, 1, [], []),
  (7, .iload_n 1, 1, [], []),
  (8, .istore 4, 2, [], []),
  (10, .iload 4, 2, [], []),
  (12, .iload_n 3, 1, [], []),
  (13, .if_icmp .ge 55, 3, [40], []),
  (16, .aload_n 0, 1, [], []),
  (17, .iload 4, 2, [], []),
  (19, .invokevirtual 62, 3, [21, 1, 3], [92]),
  (22, .ifCond .eq 46, 3, [40], []),
  (25, .iload_n 2, 1, [], []),
  (26, .bipush 10, 2, [], []),
  (28, .aload_n 0, 1, [], []),
  (29, .getfield 15, 3, [3, 2], [198]),
  (32, .iload 4, 2, [], []),
  (34, .iaload, 1, [], []),
  (35, .imul, 1, [], []),
  (36, .aload_n 0, 1, [], []),
  (37, .getfield 27, 3, [3, 6], [76]),
  (40, .iload 4, 2, [], []),
  (42, .iaload, 1, [], []),
  (43, .iadd, 1, [], []),
  (44, .aload_n 0, 1, [], []),
  (45, .getfield 30, 3, [3, 7], [199]),
  (48, .iload 4, 2, [], []),
  (50, .iaload, 1, [], []),
  (51, .iadd, 1, [], []),
  (52, .aload_n 0, 1, [], []),
  (53, .getfield 33, 3, [3, 8], [200]),
  (56, .iload 4, 2, [], []),
  (58, .iaload, 1, [], []),
  (59, .iadd, 1, [], []),
  (60, .iadd, 1, [], []),
  (61, .istore_n 2, 1, [], []),
  (62, .iinc 4 1, 3, [], []),
  (65, .goto (-55), 3, [7], []),
  (68, .iload_n 2, 1, [], []),
  (69, .ireturn, 1, [0], [])]
def mX3_loadOf : pv_M := (⟨"CliffGarden$Nets", "loadOf", "(I)I"⟩, prog_5_method_11_code, 5, some .int, rX3_loadOf)
def rX3_ripeLoadOf : List pv_R := [
  (0, .aload_n 0, 1, [], []),
  (1, .iload_n 1, 1, [], []),
  (2, .invokevirtual 77, 3, [29, 1, 3], [127]),
  (5, .istore_n 2, 1, [], []),
  (6, .iload_n 1, 1, [], []),
  (7, .invokestatic 81, 3, [20, 1], [169]),
  (10, .istore_n 3, 1, [], []),
  (11, .iload_n 1, 1, [], []),
  (12, .istore 4, 2, [], []),
  (14, .iload 4, 2, [], []),
  (16, .iload_n 3, 1, [], []),
  (17, .if_icmp .ge 54, 3, [39], []),
  (20, .aload_n 0, 1, [], []),
  (21, .iload 4, 2, [], []),
  (23, .invokevirtual 62, 3, [21, 1, 3], [92]),
  (26, .ifCond .eq 45, 3, [39], []),
  (29, .aload_n 0, 1, [], []),
  (30, .iload 4, 2, [], []),
  (32, .invokevirtual 70, 3, [22, 1, 3], [73]),
  (35, .ifCond .eq 30, 3, [37], []),
  (38, .iload_n 2, 1, [], []),
  (39, .iconst 0, 1, [], []),
  (40, .aload_n 0, 1, [], []),
  (41, .getfield 43, 3, [3, 11], [136]),
  (44, .aload_n 0, 1, [], []),
  (45, .getfield 24, 3, [3, 5], [35]),
  (48, .iload 4, 2, [], []),
  (50, .iaload, 1, [], []),
  (51, .iaload, 1, [], []),
  (52, .aload_n 0, 1, [], []),
  (53, .getfield 27, 3, [3, 6], [76]),
  (56, .iload 4, 2, [], []),
  (58, .iaload, 1, [], []),
  (59, .isub, 1, [], []),
  (60, .invokestatic 84, 3, [0], [247]),
  (63, .iadd, 1, [], []),
  (64, .istore_n 2, 1, [], []),
  (65, .iinc 4 1, 3, [], []),
  (68, .goto (-54), 3, [9], []),
  (71, .iload_n 2, 1, [], []),
  (72, .ireturn, 1, [0], [])]
def mX3_ripeLoadOf : pv_M := (⟨"CliffGarden$Nets", "ripeLoadOf", "(I)I"⟩, prog_5_method_12_code, 5, some .int, rX3_ripeLoadOf)
def rX3_firstOverloaded : List pv_R := [
  (0, .iconst 0, 1, [], []),
  (1, .istore_n 1, 1, [], []),
  (2, .iload_n 1, 1, [], []),
  (3, .bipush 48, 2, [], []),
  (5, .if_icmp .ge 33, 3, [21], []),
  (8, .aload_n 0, 1, [], []),
  (9, .iload_n 1, 1, [], []),
  (10, .invokevirtual 62, 3, [21, 1, 3], [92]),
  (13, .ifCond .eq 19, 3, [19], []),
  (16, .aload_n 0, 1, [], []),
  (17, .iload_n 1, 1, [], []),
  (18, .invokevirtual 77, 3, [29, 1, 3], [127]),
  (21, .aload_n 0, 1, [], []),
  (22, .getfield 9, 3, [3, 1], [59]),
  (25, .iload_n 1, 1, [], []),
  (26, .iaload, 1, [], []),
  (27, .if_icmp .le 5, 3, [19], []),
  (30, .iload_n 1, 1, [], []),
  (31, .ireturn, 1, [0], []),
  (32, .iinc 1 1, 3, [], []),
  (35, .goto (-33), 3, [2], []),
  (38, .iconst (-1), 1, [], []),
  (39, .ireturn, 1, [0], [])]
def mX3_firstOverloaded : pv_M := (⟨"CliffGarden$Nets", "firstOverloaded", "()I"⟩, prog_5_method_13_code, 2, some .int, rX3_firstOverloaded)
def rX3_unhang : List pv_R := [
  (0, .iload_n 1, 1, [], []),
  (1, .invokestatic 81, 3, [20, 1], [169]),
  (4, .istore_n 3, 1, [], []),
  (5, .iload_n 1, 1, [], []),
  (6, .istore 4, 2, [], []),
  (8, .iload 4, 2, [], []),
  (10, .iload_n 3, 1, [], []),
  (11, .if_icmp .ge 26, 3, [20], []),
  (14, .aload_n 0, 1, [], []),
  (15, .dup, 1, [], []),
  (16, .getfield 58, 3, [3, 0], [60]),
  (19, .lconst 1, 1, [], []),
  (20, .iload 4, 2, [], []),
  (22, .lshl, 1, [], []),
  (23, .ldc2_w 90, 3, [18446744073709551615], [242]),
  (26, .lxor, 1, [], []),
  (27, .land, 1, [], []),
  (28, .putfield 58, 3, [3, 0], [60]),
  (31, .iinc 4 1, 3, [], []),
  (34, .goto (-26), 3, [5], []),
  (37, .aload_n 0, 1, [], []),
  (38, .iload_n 1, 1, [], []),
  (39, .bipush 6, 2, [], []),
  (41, .isub, 1, [], []),
  (42, .iload_n 2, 1, [], []),
  (43, .bipush 10, 2, [], []),
  (45, .idiv, 1, [], []),
  (46, .invokevirtual 92, 3, [33, 2, 3], [264]),
  (49, .aload_n 0, 1, [], []),
  (50, .iload_n 1, 1, [], []),
  (51, .bipush 6, 2, [], []),
  (53, .iadd, 1, [], []),
  (54, .iload_n 2, 1, [], []),
  (55, .bipush 10, 2, [], []),
  (57, .idiv, 1, [], []),
  (58, .invokevirtual 92, 3, [33, 2, 3], [264]),
  (61, .return_, 1, [], [])]
def mX3_unhang : pv_M := (⟨"CliffGarden$Nets", "unhang", "(II)V"⟩, prog_5_method_14_code, 5, none, rX3_unhang)
def rX3_loosen : List pv_R := [
  (0, .aload_n 0, 1, [], []),
  (1, .iload_n 1, 1, [], []),
  (2, .invokevirtual 62, 3, [21, 1, 3], [92]),
  (5, .ifCond .eq 21, 3, [16], []),
  (8, .aload_n 0, 1, [], []),
  (9, .getfield 9, 3, [3, 1], [59]),
  (12, .iload_n 1, 1, [], []),
  (13, .iconst 0, 1, [], []),
  (14, .aload_n 0, 1, [], []),
  (15, .getfield 9, 3, [3, 1], [59]),
  (18, .iload_n 1, 1, [], []),
  (19, .iaload, 1, [], []),
  (20, .iload_n 2, 1, [], []),
  (21, .isub, 1, [], []),
  (22, .invokestatic 84, 3, [0], [247]),
  (25, .iastore, 1, [], []),
  (26, .return_, 1, [], [])]
def mX3_loosen : pv_M := (⟨"CliffGarden$Nets", "loosen", "(II)V"⟩, prog_5_method_15_code, 3, none, rX3_loosen)
def rX3_wouldGo : List pv_R := [
  (0, .aload_n 0, 1, [], []),
  (1, .getfield 58, 3, [3, 0], [60]),
  (4, .lstore_n 2, 1, [], []),
  (5, .aload_n 0, 1, [], []),
  (6, .getfield 9, 3, [3, 1], [59]),
  (9, .iconst 0, 1, [], []),
  (10, .aload_n 0, 1, [], []),
  (11, .getfield 49, 3, [3, 13], [203]),
  (14, .iconst 0, 1, [], []),
  (15, .bipush 48, 2, [], []),
  (17, .invokestatic 96, 3, [3], [248]),
  (20, .iload_n 1, 1, [], []),
  (21, .istore 4, 2, [], []),
  (23, .iconst 0, 1, [], []),
  (24, .istore 5, 2, [], []),
  (26, .iload 5, 2, [], []),
  (28, .bipush 48, 2, [], []),
  (30, .if_icmp .gt 33, 3, [32], []),
  (33, .iload 4, 2, [], []),
  (35, .iconst (-1), 1, [], []),
  (36, .if_icmp .eq 27, 3, [32], []),
  (39, .aload_n 0, 1, [], []),
  (40, .iload 4, 2, [], []),
  (42, .aload_n 0, 1, [], []),
  (43, .iload 4, 2, [], []),
  (45, .invokevirtual 77, 3, [29, 1, 3], [127]),
  (48, .invokevirtual 102, 3, [32, 2, 3], [571]),
  (51, .aload_n 0, 1, [], []),
  (52, .invokevirtual 105, 3, [31, 0, 3], [572]),
  (55, .istore 4, 2, [], []),
  (57, .iinc 5 1, 3, [], []),
  (60, .goto (-34), 3, [15], []),
  (63, .lload_n 2, 1, [], []),
  (64, .aload_n 0, 1, [], []),
  (65, .getfield 58, 3, [3, 0], [60]),
  (68, .ldc2_w 90, 3, [18446744073709551615], [242]),
  (71, .lxor, 1, [], []),
  (72, .land, 1, [], []),
  (73, .lstore 5, 2, [], []),
  (75, .aload_n 0, 1, [], []),
  (76, .lload_n 2, 1, [], []),
  (77, .putfield 58, 3, [3, 0], [60]),
  (80, .aload_n 0, 1, [], []),
  (81, .getfield 49, 3, [3, 13], [203]),
  (84, .iconst 0, 1, [], []),
  (85, .aload_n 0, 1, [], []),
  (86, .getfield 9, 3, [3, 1], [59]),
  (89, .iconst 0, 1, [], []),
  (90, .bipush 48, 2, [], []),
  (92, .invokestatic 96, 3, [3], [248]),
  (95, .lload 5, 2, [], []),
  (97, .lreturn, 1, [], [])]
def mX3_wouldGo : pv_M := (⟨"CliffGarden$Nets", "wouldGo", "(I)J"⟩, prog_5_method_16_code, 7, some .long, rX3_wouldGo)
def rX3_columnsOf : List pv_R := [
  (0, .iconst 0, 1, [], []),
  (1, .istore_n 2, 1, [], []),
  (2, .iconst 0, 1, [], []),
  (3, .istore_n 3, 1, [], []),
  (4, .iload_n 3, 1, [], []),
  (5, .bipush 48, 2, [], []),
  (7, .if_icmp .ge 36, 3, [27], []),
  (10, .aload_n 0, 1, [], []),
  (11, .iload_n 3, 1, [], []),
  (12, .invokevirtual 70, 3, [22, 1, 3], [73]),
  (15, .ifCond .eq 22, 3, [25], []),
  (18, .aload_n 0, 1, [], []),
  (19, .getfield 24, 3, [3, 5], [35]),
  (22, .iload_n 3, 1, [], []),
  (23, .iaload, 1, [], []),
  (24, .iload_n 1, 1, [], []),
  (25, .if_icmp .ne 12, 3, [25], []),
  (28, .iload_n 2, 1, [], []),
  (29, .iconst 1, 1, [], []),
  (30, .iload_n 3, 1, [], []),
  (31, .bipush 6, 2, [], []),
  (33, .idiv, 1, [], []),
  (34, .ishl, 1, [], []),
  (35, .ior, 1, [], []),
  (36, .istore_n 2, 1, [], []),
  (37, .iinc 3 1, 3, [], []),
  (40, .goto (-36), 3, [4], []),
  (43, .iload_n 2, 1, [], []),
  (44, .ireturn, 1, [0], [])]
def mX3_columnsOf : pv_M := (⟨"CliffGarden$Nets", "columnsOf", "(I)I"⟩, prog_5_method_17_code, 4, some .int, rX3_columnsOf)
def rX3_highestFall : List pv_R := [
  (0, .iconst 0, 1, [], []),
  (1, .istore_n 3, 1, [], []),
  (2, .iload_n 3, 1, [], []),
  (3, .bipush 6, 2, [], []),
  (5, .if_icmp .ge 45, 3, [30], []),
  (8, .iload_n 1, 1, [], []),
  (9, .bipush 6, 2, [], []),
  (11, .imul, 1, [], []),
  (12, .iload_n 3, 1, [], []),
  (13, .iadd, 1, [], []),
  (14, .istore 4, 2, [], []),
  (16, .aload_n 0, 1, [], []),
  (17, .iload 4, 2, [], []),
  (19, .invokevirtual 70, 3, [22, 1, 3], [73]),
  (22, .ifCond .eq 22, 3, [28], []),
  (25, .iload_n 2, 1, [], []),
  (26, .aload_n 0, 1, [], []),
  (27, .getfield 24, 3, [3, 5], [35]),
  (30, .iload 4, 2, [], []),
  (32, .iaload, 1, [], []),
  (33, .ishr, 1, [], []),
  (34, .iconst 1, 1, [], []),
  (35, .iand, 1, [], []),
  (36, .ifCond .eq 8, 3, [28], []),
  (39, .bipush 6, 2, [], []),
  (41, .iload_n 3, 1, [], []),
  (42, .isub, 1, [], []),
  (43, .ireturn, 1, [0], []),
  (44, .iinc 3 1, 3, [], []),
  (47, .goto (-45), 3, [2], []),
  (50, .iconst (-1), 1, [], []),
  (51, .ireturn, 1, [0], [])]
def mX3_highestFall : pv_M := (⟨"CliffGarden$Nets", "highestFall", "(II)I"⟩, prog_5_method_18_code, 5, some .int, rX3_highestFall)
def rX4_init : List pv_R := [
  (0, .aload_n 0, 1, [], []),
  (1, .invokespecial 3, 3, [9], [529]),
  (4, .aload_n 0, 1, [], []),
  (5, .bipush 48, 2, [], []),
  (7, .newarray .int, 2, [], []),
  (9, .putfield 9, 3, [4, 2], [401]),
  (12, .aload_n 0, 1, [], []),
  (13, .iconst 5, 1, [], []),
  (14, .newarray .int, 2, [], []),
  (16, .putfield 15, 3, [4, 3], [402]),
  (19, .aload_n 0, 1, [], []),
  (20, .iconst 5, 1, [], []),
  (21, .newarray .int, 2, [], []),
  (23, .putfield 18, 3, [4, 4], [403]),
  (26, .aload_n 0, 1, [], []),
  (27, .iconst 5, 1, [], []),
  (28, .newarray .int, 2, [], []),
  (30, .putfield 21, 3, [4, 5], [404]),
  (33, .aload_n 0, 1, [], []),
  (34, .aload_n 1, 1, [], []),
  (35, .putfield 24, 3, [4, 0], [405]),
  (38, .aload_n 0, 1, [], []),
  (39, .aload_n 2, 1, [], []),
  (40, .putfield 28, 3, [4, 1], [406]),
  (43, .return_, 1, [], [])]
def mX4_init : pv_M := (⟨"CliffGarden$Planting", "<init>", "(LCliffGarden$Nets;LCliffGarden$Brow;)V"⟩, prog_6_method_1_code, 3, none, rX4_init)
def rX4_choose : List pv_R := [
  (0, .aload_n 0, 1, [], []),
  (1, .iconst 0, 1, [], []),
  (2, .putfield 32, 3, [4, 6], [48]),
  (5, .aload_n 0, 1, [], []),
  (6, .iconst (-1), 1, [], []),
  (7, .putfield 36, 3, [4, 7], [138]),
  (10, .iconst 0, 1, [], []),
  (11, .istore_n 3, 1, [], []),
  (12, .iload_n 3, 1, [], []),
  (13, .bipush 48, 2, [], []),
  (15, .if_icmp .ge 91, 3, [59], []),
  (18, .aload_n 0, 1, [], []),
  (19, .getfield 24, 3, [4, 0], [61]),
  (22, .iload_n 3, 1, [], []),
  (23, .invokevirtual 39, 3, [21, 1, 3], [573]),
  (26, .ifCond .eq 38, 3, [37], []),
  (29, .aload_n 0, 1, [], []),
  (30, .getfield 9, 3, [4, 2], [96]),
  (33, .iload_n 3, 1, [], []),
  (34, .aload_n 0, 1, [], []),
  (35, .getfield 24, 3, [4, 0], [61]),
  (38, .getfield 45, 3, [3, 1], [336]),
  (41, .iload_n 3, 1, [], []),
  (42, .iaload, 1, [], []),
  (43, .aload_n 0, 1, [], []),
  (44, .getfield 24, 3, [4, 0], [61]),
  (47, .iload_n 3, 1, [], []),
  (48, .invokevirtual 48, 3, [30, 1, 3], [574]),
  (51, .isub, 1, [], []),
  (52, .iastore, 1, [], []),
  (53, .aload_n 0, 1, [], []),
  (54, .getfield 9, 3, [4, 2], [96]),
  (57, .iload_n 3, 1, [], []),
  (58, .iaload, 1, [], []),
  (59, .ifCond .ge 5, 3, [37], []),
  (62, .iconst 0, 1, [], []),
  (63, .ireturn, 1, [1], []),
  (64, .lload_n 1, 1, [], []),
  (65, .iload_n 3, 1, [], []),
  (66, .invokestatic 52, 3, [142, 2], [549]),
  (69, .ifCond .eq 31, 3, [57], []),
  (72, .aload_n 0, 1, [], []),
  (73, .getfield 32, 3, [4, 6], [48]),
  (76, .iconst 5, 1, [], []),
  (77, .if_icmp .ge 23, 3, [57], []),
  (80, .aload_n 0, 1, [], []),
  (81, .getfield 15, 3, [4, 3], [77]),
  (84, .aload_n 0, 1, [], []),
  (85, .getfield 32, 3, [4, 6], [48]),
  (88, .iload_n 3, 1, [], []),
  (89, .iastore, 1, [], []),
  (90, .aload_n 0, 1, [], []),
  (91, .dup, 1, [], []),
  (92, .getfield 32, 3, [4, 6], [48]),
  (95, .iconst 1, 1, [], []),
  (96, .iadd, 1, [], []),
  (97, .putfield 32, 3, [4, 6], [48]),
  (100, .iinc 3 1, 3, [], []),
  (103, .goto (-91), 3, [8], []),
  (106, .aload_n 0, 1, [], []),
  (107, .iconst 0, 1, [], []),
  (108, .iconst 0, 1, [], []),
  (109, .invokevirtual 56, 3, [39, 2, 4], [175]),
  (112, .iconst 1, 1, [], []),
  (113, .ireturn, 1, [1], [])]
def mX4_choose : pv_M := (⟨"CliffGarden$Planting", "choose", "(J)Z"⟩, prog_6_method_2_code, 4, some .boolean, rX4_choose)
def rX4_tryCell : List pv_R := [
  (0, .iload_n 1, 1, [], []),
  (1, .aload_n 0, 1, [], []),
  (2, .getfield 32, 3, [4, 6], [48]),
  (5, .if_icmp .ge 8, 3, [7], []),
  (8, .iload_n 1, 1, [], []),
  (9, .iconst 5, 1, [], []),
  (10, .if_icmp .lt 31, 3, [23], []),
  (13, .iload_n 2, 1, [], []),
  (14, .aload_n 0, 1, [], []),
  (15, .getfield 36, 3, [4, 7], [138]),
  (18, .if_icmp .le 22, 3, [22], []),
  (21, .aload_n 0, 1, [], []),
  (22, .iload_n 2, 1, [], []),
  (23, .putfield 36, 3, [4, 7], [138]),
  (26, .aload_n 0, 1, [], []),
  (27, .getfield 18, 3, [4, 4], [137]),
  (30, .iconst 0, 1, [], []),
  (31, .aload_n 0, 1, [], []),
  (32, .getfield 21, 3, [4, 5], [97]),
  (35, .iconst 0, 1, [], []),
  (36, .iconst 5, 1, [], []),
  (37, .invokestatic 60, 3, [3], [538]),
  (40, .return_, 1, [], []),
  (41, .aload_n 0, 1, [], []),
  (42, .getfield 18, 3, [4, 4], [137]),
  (45, .iload_n 1, 1, [], []),
  (46, .iconst (-1), 1, [], []),
  (47, .iastore, 1, [], []),
  (48, .aload_n 0, 1, [], []),
  (49, .iload_n 1, 1, [], []),
  (50, .iconst 1, 1, [], []),
  (51, .iadd, 1, [], []),
  (52, .iload_n 2, 1, [], []),
  (53, .invokevirtual 56, 3, [39, 2, 4], [175]),
  (56, .iconst 0, 1, [], []),
  (57, .istore_n 3, 1, [], []),
  (58, .iload_n 3, 1, [], []),
  (59, .bipush 6, 2, [], []),
  (61, .if_icmp .ge 88, 3, [89], []),
  (64, .aload_n 0, 1, [], []),
  (65, .getfield 24, 3, [4, 0], [61]),
  (68, .getfield 66, 3, [3, 11], [337]),
  (71, .iload_n 3, 1, [], []),
  (72, .iaload, 1, [], []),
  (73, .istore 4, 2, [], []),
  (75, .aload_n 0, 1, [], []),
  (76, .aload_n 0, 1, [], []),
  (77, .getfield 15, 3, [4, 3], [77]),
  (80, .iload_n 1, 1, [], []),
  (81, .iaload, 1, [], []),
  (82, .iload 4, 2, [], []),
  (84, .invokevirtual 69, 3, [40, 2, 4], [575]),
  (87, .ifCond .eq 56, 3, [87], []),
  (90, .aload_n 0, 1, [], []),
  (91, .getfield 18, 3, [4, 4], [137]),
  (94, .iload_n 1, 1, [], []),
  (95, .iload_n 3, 1, [], []),
  (96, .iastore, 1, [], []),
  (97, .aload_n 0, 1, [], []),
  (98, .aload_n 0, 1, [], []),
  (99, .getfield 15, 3, [4, 3], [77]),
  (102, .iload_n 1, 1, [], []),
  (103, .iaload, 1, [], []),
  (104, .iload 4, 2, [], []),
  (106, .invokevirtual 73, 3, [41, 2, 4], [265]),
  (109, .aload_n 0, 1, [], []),
  (110, .iload_n 1, 1, [], []),
  (111, .iconst 1, 1, [], []),
  (112, .iadd, 1, [], []),
  (113, .iload_n 2, 1, [], []),
  (114, .iload 4, 2, [], []),
  (116, .aload_n 0, 1, [], []),
  (117, .getfield 24, 3, [4, 0], [61]),
  (120, .getfield 76, 3, [3, 12], [338]),
  (123, .iload_n 3, 1, [], []),
  (124, .iaload, 1, [], []),
  (125, .imul, 1, [], []),
  (126, .iadd, 1, [], []),
  (127, .invokevirtual 56, 3, [39, 2, 4], [175]),
  (130, .aload_n 0, 1, [], []),
  (131, .aload_n 0, 1, [], []),
  (132, .getfield 15, 3, [4, 3], [77]),
  (135, .iload_n 1, 1, [], []),
  (136, .iaload, 1, [], []),
  (137, .iload 4, 2, [], []),
  (139, .ineg, 1, [], []),
  (140, .invokevirtual 73, 3, [41, 2, 4], [265]),
  (143, .iinc 3 1, 3, [], []),
  (146, .goto (-88), 3, [36], []),
  (149, .return_, 1, [], [])]
def mX4_tryCell : pv_M := (⟨"CliffGarden$Planting", "tryCell", "(II)V"⟩, prog_6_method_3_code, 5, none, rX4_tryCell)
def rX4_fits : List pv_R := [
  (0, .iload_n 2, 1, [], []),
  (1, .bipush 6, 2, [], []),
  (3, .iload_n 1, 1, [], []),
  (4, .bipush 6, 2, [], []),
  (6, .irem, 1, [], []),
  (7, .isub, 1, [], []),
  (8, .imul, 1, [], []),
  (9, .aload_n 0, 1, [], []),
  (10, .getfield 28, 3, [4, 1], [335]),
  (13, .getfield 79, 3, [0, 2], [339]),
  (16, .iload_n 1, 1, [], []),
  (17, .bipush 6, 2, [], []),
  (19, .idiv, 1, [], []),
  (20, .iaload, 1, [], []),
  (21, .if_icmp .le 5, 3, [17], []),
  (24, .iconst 0, 1, [], []),
  (25, .ireturn, 1, [1], []),
  (26, .iload_n 1, 1, [], []),
  (27, .iload_n 1, 1, [], []),
  (28, .bipush 6, 2, [], []),
  (30, .irem, 1, [], []),
  (31, .isub, 1, [], []),
  (32, .istore_n 3, 1, [], []),
  (33, .iload_n 3, 1, [], []),
  (34, .iload_n 1, 1, [], []),
  (35, .if_icmp .gt 21, 3, [36], []),
  (38, .aload_n 0, 1, [], []),
  (39, .getfield 9, 3, [4, 2], [96]),
  (42, .iload_n 3, 1, [], []),
  (43, .iaload, 1, [], []),
  (44, .iload_n 2, 1, [], []),
  (45, .if_icmp .ge 5, 3, [34], []),
  (48, .iconst 0, 1, [], []),
  (49, .ireturn, 1, [1], []),
  (50, .iinc 3 1, 3, [], []),
  (53, .goto (-20), 3, [23], []),
  (56, .iconst 1, 1, [], []),
  (57, .ireturn, 1, [1], [])]
def mX4_fits : pv_M := (⟨"CliffGarden$Planting", "fits", "(II)Z"⟩, prog_6_method_4_code, 4, some .boolean, rX4_fits)
def rX4_burden : List pv_R := [
  (0, .iload_n 1, 1, [], []),
  (1, .iload_n 1, 1, [], []),
  (2, .bipush 6, 2, [], []),
  (4, .irem, 1, [], []),
  (5, .isub, 1, [], []),
  (6, .istore_n 3, 1, [], []),
  (7, .iload_n 3, 1, [], []),
  (8, .iload_n 1, 1, [], []),
  (9, .if_icmp .gt 19, 3, [19], []),
  (12, .aload_n 0, 1, [], []),
  (13, .getfield 9, 3, [4, 2], [96]),
  (16, .iload_n 3, 1, [], []),
  (17, .dup2, 1, [], []),
  (18, .iaload, 1, [], []),
  (19, .iload_n 2, 1, [], []),
  (20, .isub, 1, [], []),
  (21, .iastore, 1, [], []),
  (22, .iinc 3 1, 3, [], []),
  (25, .goto (-18), 3, [6], []),
  (28, .return_, 1, [], [])]
def mX4_burden : pv_M := (⟨"CliffGarden$Planting", "burden", "(II)V"⟩, prog_6_method_5_code, 4, none, rX4_burden)
def rX4_carryOut : List pv_R := [
  (0, .iconst 0, 1, [], []),
  (1, .istore_n 1, 1, [], []),
  (2, .iload_n 1, 1, [], []),
  (3, .aload_n 0, 1, [], []),
  (4, .getfield 32, 3, [4, 6], [48]),
  (7, .if_icmp .ge 39, 3, [26], []),
  (10, .aload_n 0, 1, [], []),
  (11, .getfield 21, 3, [4, 5], [97]),
  (14, .iload_n 1, 1, [], []),
  (15, .iaload, 1, [], []),
  (16, .iconst (-1), 1, [], []),
  (17, .if_icmp .eq 23, 3, [24], []),
  (20, .aload_n 0, 1, [], []),
  (21, .getfield 24, 3, [4, 0], [61]),
  (24, .aload_n 0, 1, [], []),
  (25, .getfield 15, 3, [4, 3], [77]),
  (28, .iload_n 1, 1, [], []),
  (29, .iaload, 1, [], []),
  (30, .aload_n 0, 1, [], []),
  (31, .getfield 21, 3, [4, 5], [97]),
  (34, .iload_n 1, 1, [], []),
  (35, .iaload, 1, [], []),
  (36, .iconst 0, 1, [], []),
  (37, .invokevirtual 84, 3, [25, 3, 3], [576]),
  (40, .iinc 1 1, 3, [], []),
  (43, .goto (-41), 3, [2], []),
  (46, .return_, 1, [], [])]
def mX4_carryOut : pv_M := (⟨"CliffGarden$Planting", "carryOut", "()V"⟩, prog_6_method_6_code, 2, none, rX4_carryOut)
def rX4_kindAt : List pv_R := [
  (0, .iload_n 1, 1, [], []),
  (1, .iconst 4, 1, [], []),
  (2, .invokestatic 88, 3, [138, 2], [550]),
  (5, .ifCond .eq 12, 3, [9], []),
  (8, .aload_n 0, 1, [], []),
  (9, .getfield 21, 3, [4, 5], [97]),
  (12, .iload_n 1, 1, [], []),
  (13, .iaload, 1, [], []),
  (14, .goto 4, 3, [10], []),
  (17, .iconst (-1), 1, [], []),
  (18, .ireturn, 1, [0], [])]
def mX4_kindAt : pv_M := (⟨"CliffGarden$Planting", "kindAt", "(I)I"⟩, prog_6_method_7_code, 2, some .int, rX4_kindAt)
def rX5_init : List pv_R := [
  (0, .aload_n 0, 1, [], []),
  (1, .invokespecial 1, 3, [9], [530]),
  (4, .return_, 1, [], [])]
def mX5_init : pv_M := (⟨"CliffGarden$Reader", "<init>", "()V"⟩, prog_7_method_1_code, 1, none, rX5_init)
def rX5_read : List pv_R := [
  (0, .aload_n 0, 1, [], []),
  (1, .aload_n 1, 1, [], []),
  (2, .putfield 7, 3, [5, 0], [204]),
  (5, .aload_n 0, 1, [], []),
  (6, .aload_n 3, 1, [], []),
  (7, .putfield 13, 3, [5, 1], [12]),
  (10, .aload_n 0, 1, [], []),
  (11, .iload_n 2, 1, [], []),
  (12, .putfield 17, 3, [5, 2], [205]),
  (15, .aload_n 0, 1, [], []),
  (16, .iconst 0, 1, [], []),
  (17, .putfield 21, 3, [5, 3], [9]),
  (20, .aload_n 0, 1, [], []),
  (21, .iconst 0, 1, [], []),
  (22, .putfield 24, 3, [5, 4], [98]),
  (25, .aload_n 3, 1, [], []),
  (26, .iconst 0, 1, [], []),
  (27, .putfield 27, 3, [7, 7], [78]),
  (30, .aload_n 3, 1, [], []),
  (31, .iconst 0, 1, [], []),
  (32, .putfield 32, 3, [7, 8], [49]),
  (35, .iconst 0, 1, [], []),
  (36, .istore 4, 2, [], []),
  (38, .iload 4, 2, [], []),
  (40, .bipush 14, 2, [], []),
  (42, .if_icmp .gt 43, 3, [45], []),
  (45, .aload_n 0, 1, [], []),
  (46, .invokevirtual 35, 3, [51, 0, 5], [577]),
  (49, .ifCond .eq 36, 3, [45], []),
  (52, .aload_n 0, 1, [], []),
  (53, .invokevirtual 39, 3, [46, 0, 5], [18]),
  (56, .iconst (-1), 1, [], []),
  (57, .if_icmp .ne 8, 3, [36], []),
  (60, .aload_n 3, 1, [], []),
  (61, .getfield 27, 3, [7, 7], [78]),
  (64, .ireturn, 1, [0], []),
  (65, .aload_n 0, 1, [], []),
  (66, .bipush 59, 2, [], []),
  (68, .invokevirtual 43, 3, [48, 1, 5], [93]),
  (71, .ifCond .ne 8, 3, [43], []),
  (74, .aload_n 0, 1, [], []),
  (75, .getfield 24, 3, [5, 4], [98]),
  (78, .ireturn, 1, [0], []),
  (79, .iinc 4 1, 3, [], []),
  (82, .goto (-44), 3, [23], []),
  (85, .aload_n 0, 1, [], []),
  (86, .getfield 24, 3, [5, 4], [98]),
  (89, .ireturn, 1, [0], [])]
def mX5_read : pv_M := (⟨"CliffGarden$Reader", "read", "(LCliffGarden$Tape;ILCliffGarden$Statute;)I"⟩, prog_7_method_2_code, 5, some .int, rX5_read)
def rX5_look : List pv_R := [
  (0, .aload_n 0, 1, [], []),
  (1, .getfield 21, 3, [5, 3], [9]),
  (4, .ifCond .lt 39, 3, [19], []),
  (7, .aload_n 0, 1, [], []),
  (8, .getfield 21, 3, [5, 3], [9]),
  (11, .aload_n 0, 1, [], []),
  (12, .getfield 17, 3, [5, 2], [205]),
  (15, .if_icmp .ge 28, 3, [19], []),
  (18, .aload_n 0, 1, [], []),
  (19, .getfield 21, 3, [5, 3], [9]),
  (22, .sipush 220, 3, [], []),
  (25, .if_icmp .ge 18, 3, [19], []),
  (28, .aload_n 0, 1, [], []),
  (29, .getfield 7, 3, [5, 0], [204]),
  (32, .getfield 49, 3, [9, 0], [340]),
  (35, .aload_n 0, 1, [], []),
  (36, .getfield 21, 3, [5, 3], [9]),
  (39, .iaload, 1, [], []),
  (40, .goto 4, 3, [20], []),
  (43, .iconst (-1), 1, [], []),
  (44, .ireturn, 1, [0], [])]
def mX5_look : pv_M := (⟨"CliffGarden$Reader", "look", "()I"⟩, prog_7_method_3_code, 1, some .int, rX5_look)
def rX5_fail : List pv_R := [
  (0, .aload_n 0, 1, [], []),
  (1, .sipush (-1000), 3, [], []),
  (4, .iload_n 1, 1, [], []),
  (5, .imul, 1, [], []),
  (6, .aload_n 0, 1, [], []),
  (7, .getfield 21, 3, [5, 3], [9]),
  (10, .isub, 1, [], []),
  (11, .putfield 24, 3, [5, 4], [98]),
  (14, .iconst 0, 1, [], []),
  (15, .ireturn, 1, [1], [])]
def mX5_fail : pv_M := (⟨"CliffGarden$Reader", "fail", "(I)Z"⟩, prog_7_method_4_code, 2, some .boolean, rX5_fail)
def rX5_expect : List pv_R := [
  (0, .aload_n 0, 1, [], []),
  (1, .invokevirtual 39, 3, [46, 0, 5], [18]),
  (4, .iload_n 1, 1, [], []),
  (5, .if_icmp .eq 9, 3, [8], []),
  (8, .aload_n 0, 1, [], []),
  (9, .iconst 1, 1, [], []),
  (10, .invokevirtual 53, 3, [47, 1, 5], [56]),
  (13, .ireturn, 1, [1], []),
  (14, .aload_n 0, 1, [], []),
  (15, .dup, 1, [], []),
  (16, .getfield 21, 3, [5, 3], [9]),
  (19, .iconst 1, 1, [], []),
  (20, .iadd, 1, [], []),
  (21, .putfield 21, 3, [5, 3], [9]),
  (24, .iconst 1, 1, [], []),
  (25, .ireturn, 1, [1], [])]
def mX5_expect : pv_M := (⟨"CliffGarden$Reader", "expect", "(I)Z"⟩, prog_7_method_5_code, 2, some .boolean, rX5_expect)
def rX5_enter : List pv_R := [
  (0, .iload_n 1, 1, [], []),
  (1, .bipush 6, 2, [], []),
  (3, .if_icmp .lt 9, 3, [7], []),
  (6, .aload_n 0, 1, [], []),
  (7, .iconst 5, 1, [], []),
  (8, .invokevirtual 53, 3, [47, 1, 5], [56]),
  (11, .ireturn, 1, [1], []),
  (12, .aload_n 0, 1, [], []),
  (13, .dup, 1, [], []),
  (14, .getfield 21, 3, [5, 3], [9]),
  (17, .iconst 1, 1, [], []),
  (18, .iadd, 1, [], []),
  (19, .putfield 21, 3, [5, 3], [9]),
  (22, .iconst 1, 1, [], []),
  (23, .ireturn, 1, [1], [])]
def mX5_enter : pv_M := (⟨"CliffGarden$Reader", "enter", "(I)Z"⟩, prog_7_method_6_code, 2, some .boolean, rX5_enter)
def rX5_isOneOf : List pv_R := [
  (0, .iload_n 0, 1, [], []),
  (1, .ifCond .le 16, 3, [9], []),
  (4, .aload_n 1, 1, [], []),
  (5, .iload_n 0, 1, [], []),
  (6, .i2c, 1, [], []),
  (7, .nop, 0, [], []),
  (10, .ifCond .lt 7, 3, [9], []),
  (13, .iconst 1, 1, [], []),
  (14, .goto 4, 3, [10], []),
  (17, .iconst 0, 1, [], []),
  (18, .ireturn, 1, [1], [])]
def mX5_isOneOf : pv_M := (⟨"CliffGarden$Reader", "isOneOf", "(ILjava/lang/String;)Z"⟩, prog_7_method_7_code, 2, some .boolean, rX5_isOneOf)
def rX5_readClause : List pv_R := [
  (0, .aload_n 0, 1, [], []),
  (1, .invokevirtual 39, 3, [46, 0, 5], [18]),
  (4, .istore_n 1, 1, [], []),
  (5, .iload_n 1, 1, [], []),
  (6, .ldc 62, 2, [1, 0, 0], [654]),
  (8, .invokestatic 64, 3, [50, 2], [89]),
  (11, .ifCond .ne 9, 3, [11], []),
  (14, .aload_n 0, 1, [], []),
  (15, .iconst 1, 1, [], []),
  (16, .invokevirtual 53, 3, [47, 1, 5], [56]),
  (19, .ireturn, 1, [1], []),
  (20, .aload_n 0, 1, [], []),
  (21, .getfield 13, 3, [5, 1], [12]),
  (24, .getfield 27, 3, [7, 7], [78]),
  (27, .istore_n 2, 1, [], []),
  (28, .iload_n 2, 1, [], []),
  (29, .bipush 14, 2, [], []),
  (31, .if_icmp .lt 9, 3, [22], []),
  (34, .aload_n 0, 1, [], []),
  (35, .iconst 4, 1, [], []),
  (36, .invokevirtual 53, 3, [47, 1, 5], [56]),
  (39, .ireturn, 1, [1], []),
  (40, .aload_n 0, 1, [], []),
  (41, .dup, 1, [], []),
  (42, .getfield 21, 3, [5, 3], [9]),
  (45, .iconst 1, 1, [], []),
  (46, .iadd, 1, [], []),
  (47, .putfield 21, 3, [5, 3], [9]),
  (50, .aload_n 0, 1, [], []),
  (51, .getfield 13, 3, [5, 1], [12]),
  (54, .getfield 68, 3, [7, 2], [341]),
  (57, .iload_n 2, 1, [], []),
  (58, .iload_n 1, 1, [], []),
  (59, .iastore, 1, [], []),
  (60, .aload_n 0, 1, [], []),
  (61, .getfield 13, 3, [5, 1], [12]),
  (64, .getfield 71, 3, [7, 3], [342]),
  (67, .iload_n 2, 1, [], []),
  (68, .aload_n 0, 1, [], []),
  (69, .getfield 13, 3, [5, 1], [12]),
  (72, .getfield 32, 3, [7, 8], [49]),
  (75, .iastore, 1, [], []),
  (76, .aload_n 0, 1, [], []),
  (77, .iconst 0, 1, [], []),
  (78, .invokevirtual 74, 3, [57, 1, 5], [128]),
  (81, .ifCond .eq 12, 3, [50], []),
  (84, .aload_n 0, 1, [], []),
  (85, .bipush 40, 2, [], []),
  (87, .invokevirtual 43, 3, [48, 1, 5], [93]),
  (90, .ifCond .ne 5, 3, [52], []),
  (93, .iconst 0, 1, [], []),
  (94, .ireturn, 1, [1], []),
  (95, .aload_n 0, 1, [], []),
  (96, .getfield 13, 3, [5, 1], [12]),
  (99, .getfield 77, 3, [7, 4], [343]),
  (102, .iload_n 2, 1, [], []),
  (103, .aload_n 0, 1, [], []),
  (104, .getfield 13, 3, [5, 1], [12]),
  (107, .getfield 32, 3, [7, 8], [49]),
  (110, .iastore, 1, [], []),
  (111, .aload_n 0, 1, [], []),
  (112, .iconst 1, 1, [], []),
  (113, .invokevirtual 80, 3, [52, 1, 5], [266]),
  (116, .ifCond .eq 12, 3, [68], []),
  (119, .aload_n 0, 1, [], []),
  (120, .bipush 41, 2, [], []),
  (122, .invokevirtual 43, 3, [48, 1, 5], [93]),
  (125, .ifCond .ne 5, 3, [70], []),
  (128, .iconst 0, 1, [], []),
  (129, .ireturn, 1, [1], []),
  (130, .aload_n 0, 1, [], []),
  (131, .getfield 13, 3, [5, 1], [12]),
  (134, .getfield 83, 3, [7, 5], [344]),
  (137, .iload_n 2, 1, [], []),
  (138, .aload_n 0, 1, [], []),
  (139, .getfield 13, 3, [5, 1], [12]),
  (142, .getfield 32, 3, [7, 8], [49]),
  (145, .iastore, 1, [], []),
  (146, .aload_n 0, 1, [], []),
  (147, .getfield 13, 3, [5, 1], [12]),
  (150, .dup, 1, [], []),
  (151, .getfield 27, 3, [7, 7], [78]),
  (154, .iconst 1, 1, [], []),
  (155, .iadd, 1, [], []),
  (156, .putfield 27, 3, [7, 7], [78]),
  (159, .iconst 1, 1, [], []),
  (160, .ireturn, 1, [1], [])]
def mX5_readClause : pv_M := (⟨"CliffGarden$Reader", "readClause", "()Z"⟩, prog_7_method_8_code, 3, some .boolean, rX5_readClause)
def rX5_readCondition : List pv_R := [
  (0, .aload_n 0, 1, [], []),
  (1, .iload_n 1, 1, [], []),
  (2, .invokevirtual 86, 3, [53, 1, 5], [267]),
  (5, .istore_n 2, 1, [], []),
  (6, .iconst 0, 1, [], []),
  (7, .istore_n 3, 1, [], []),
  (8, .iload_n 3, 1, [], []),
  (9, .sipush 200, 3, [], []),
  (12, .if_icmp .ge 51, 3, [32], []),
  (15, .iload_n 2, 1, [], []),
  (16, .ifCond .eq 47, 3, [32], []),
  (19, .aload_n 0, 1, [], []),
  (20, .invokevirtual 39, 3, [46, 0, 5], [18]),
  (23, .bipush 124, 2, [], []),
  (25, .if_icmp .ne 38, 3, [32], []),
  (28, .aload_n 0, 1, [], []),
  (29, .invokevirtual 89, 3, [54, 0, 5], [268]),
  (32, .istore 4, 2, [], []),
  (34, .aload_n 0, 1, [], []),
  (35, .iload_n 1, 1, [], []),
  (36, .invokevirtual 86, 3, [53, 1, 5], [267]),
  (39, .istore_n 2, 1, [], []),
  (40, .aload_n 0, 1, [], []),
  (41, .getfield 13, 3, [5, 1], [12]),
  (44, .getfield 92, 3, [7, 1], [206]),
  (47, .iload 4, 2, [], []),
  (49, .aload_n 0, 1, [], []),
  (50, .getfield 13, 3, [5, 1], [12]),
  (53, .getfield 32, 3, [7, 8], [49]),
  (56, .iastore, 1, [], []),
  (57, .iinc 3 1, 3, [], []),
  (60, .goto (-52), 3, [6], []),
  (63, .iload_n 2, 1, [], []),
  (64, .ireturn, 1, [1], [])]
def mX5_readCondition : pv_M := (⟨"CliffGarden$Reader", "readCondition", "(I)Z"⟩, prog_7_method_9_code, 5, some .boolean, rX5_readCondition)
def rX5_readPart : List pv_R := [
  (0, .aload_n 0, 1, [], []),
  (1, .iload_n 1, 1, [], []),
  (2, .invokevirtual 95, 3, [55, 1, 5], [176]),
  (5, .istore_n 2, 1, [], []),
  (6, .iconst 0, 1, [], []),
  (7, .istore_n 3, 1, [], []),
  (8, .iload_n 3, 1, [], []),
  (9, .sipush 200, 3, [], []),
  (12, .if_icmp .ge 51, 3, [32], []),
  (15, .iload_n 2, 1, [], []),
  (16, .ifCond .eq 47, 3, [32], []),
  (19, .aload_n 0, 1, [], []),
  (20, .invokevirtual 39, 3, [46, 0, 5], [18]),
  (23, .bipush 38, 2, [], []),
  (25, .if_icmp .ne 38, 3, [32], []),
  (28, .aload_n 0, 1, [], []),
  (29, .invokevirtual 89, 3, [54, 0, 5], [268]),
  (32, .istore 4, 2, [], []),
  (34, .aload_n 0, 1, [], []),
  (35, .iload_n 1, 1, [], []),
  (36, .invokevirtual 95, 3, [55, 1, 5], [176]),
  (39, .istore_n 2, 1, [], []),
  (40, .aload_n 0, 1, [], []),
  (41, .getfield 13, 3, [5, 1], [12]),
  (44, .getfield 92, 3, [7, 1], [206]),
  (47, .iload 4, 2, [], []),
  (49, .aload_n 0, 1, [], []),
  (50, .getfield 13, 3, [5, 1], [12]),
  (53, .getfield 32, 3, [7, 8], [49]),
  (56, .iastore, 1, [], []),
  (57, .iinc 3 1, 3, [], []),
  (60, .goto (-52), 3, [6], []),
  (63, .iload_n 2, 1, [], []),
  (64, .ireturn, 1, [1], [])]
def mX5_readPart : pv_M := (⟨"CliffGarden$Reader", "readPart", "(I)Z"⟩, prog_7_method_10_code, 5, some .boolean, rX5_readPart)
def rX5_readJump : List pv_R := [
  (0, .aload_n 0, 1, [], []),
  (1, .getfield 13, 3, [5, 1], [12]),
  (4, .getfield 32, 3, [7, 8], [49]),
  (7, .sipush 199, 3, [], []),
  (10, .invokestatic 98, 3, [1], [539]),
  (13, .istore_n 1, 1, [], []),
  (14, .aload_n 0, 1, [], []),
  (15, .getfield 13, 3, [5, 1], [12]),
  (18, .aload_n 0, 1, [], []),
  (19, .invokevirtual 39, 3, [46, 0, 5], [18]),
  (22, .iconst 0, 1, [], []),
  (23, .invokevirtual 104, 3, [75, 2, 7], [57]),
  (26, .aload_n 0, 1, [], []),
  (27, .dup, 1, [], []),
  (28, .getfield 21, 3, [5, 3], [9]),
  (31, .iconst 1, 1, [], []),
  (32, .iadd, 1, [], []),
  (33, .putfield 21, 3, [5, 3], [9]),
  (36, .iload_n 1, 1, [], []),
  (37, .ireturn, 1, [0], [])]
def mX5_readJump : pv_M := (⟨"CliffGarden$Reader", "readJump", "()I"⟩, prog_7_method_11_code, 2, some .int, rX5_readJump)
def rX5_readPiece : List pv_R := [
  (0, .aload_n 0, 1, [], []),
  (1, .invokevirtual 39, 3, [46, 0, 5], [18]),
  (4, .istore_n 2, 1, [], []),
  (5, .iload_n 2, 1, [], []),
  (6, .bipush 40, 2, [], []),
  (8, .if_icmp .ne 36, 3, [24], []),
  (11, .aload_n 0, 1, [], []),
  (12, .iload_n 1, 1, [], []),
  (13, .invokevirtual 108, 3, [49, 1, 5], [177]),
  (16, .ifCond .eq 26, 3, [22], []),
  (19, .aload_n 0, 1, [], []),
  (20, .iload_n 1, 1, [], []),
  (21, .iconst 1, 1, [], []),
  (22, .iadd, 1, [], []),
  (23, .invokevirtual 80, 3, [52, 1, 5], [266]),
  (26, .ifCond .eq 16, 3, [22], []),
  (29, .aload_n 0, 1, [], []),
  (30, .bipush 41, 2, [], []),
  (32, .invokevirtual 43, 3, [48, 1, 5], [93]),
  (35, .ifCond .eq 7, 3, [22], []),
  (38, .iconst 1, 1, [], []),
  (39, .goto 4, 3, [23], []),
  (42, .iconst 0, 1, [], []),
  (43, .ireturn, 1, [1], []),
  (44, .iload_n 2, 1, [], []),
  (45, .bipush 33, 2, [], []),
  (47, .if_icmp .ne 35, 3, [46], []),
  (50, .aload_n 0, 1, [], []),
  (51, .iload_n 1, 1, [], []),
  (52, .invokevirtual 108, 3, [49, 1, 5], [177]),
  (55, .ifCond .eq 13, 3, [37], []),
  (58, .aload_n 0, 1, [], []),
  (59, .iload_n 1, 1, [], []),
  (60, .iconst 1, 1, [], []),
  (61, .iadd, 1, [], []),
  (62, .invokevirtual 95, 3, [55, 1, 5], [176]),
  (65, .ifCond .ne 5, 3, [39], []),
  (68, .iconst 0, 1, [], []),
  (69, .ireturn, 1, [1], []),
  (70, .aload_n 0, 1, [], []),
  (71, .getfield 13, 3, [5, 1], [12]),
  (74, .bipush 33, 2, [], []),
  (76, .iconst 0, 1, [], []),
  (77, .invokevirtual 104, 3, [75, 2, 7], [57]),
  (80, .iconst 1, 1, [], []),
  (81, .ireturn, 1, [1], []),
  (82, .aload_n 0, 1, [], []),
  (83, .iload_n 1, 1, [], []),
  (84, .invokevirtual 111, 3, [56, 1, 5], [578]),
  (87, .ireturn, 1, [1], [])]
def mX5_readPiece : pv_M := (⟨"CliffGarden$Reader", "readPiece", "(I)Z"⟩, prog_7_method_12_code, 3, some .boolean, rX5_readPiece)
def rX5_readComparison : List pv_R := [
  (0, .aload_n 0, 1, [], []),
  (1, .iload_n 1, 1, [], []),
  (2, .invokevirtual 74, 3, [57, 1, 5], [128]),
  (5, .ifCond .ne 5, 3, [6], []),
  (8, .iconst 0, 1, [], []),
  (9, .ireturn, 1, [1], []),
  (10, .aload_n 0, 1, [], []),
  (11, .invokevirtual 39, 3, [46, 0, 5], [18]),
  (14, .istore_n 2, 1, [], []),
  (15, .iload_n 2, 1, [], []),
  (16, .ldc 114, 2, [2, 0, 0], [655]),
  (18, .invokestatic 64, 3, [50, 2], [89]),
  (21, .ifCond .ne 9, 3, [17], []),
  (24, .aload_n 0, 1, [], []),
  (25, .iconst 1, 1, [], []),
  (26, .invokevirtual 53, 3, [47, 1, 5], [56]),
  (29, .ireturn, 1, [1], []),
  (30, .aload_n 0, 1, [], []),
  (31, .dup, 1, [], []),
  (32, .getfield 21, 3, [5, 3], [9]),
  (35, .iconst 1, 1, [], []),
  (36, .iadd, 1, [], []),
  (37, .putfield 21, 3, [5, 3], [9]),
  (40, .aload_n 0, 1, [], []),
  (41, .iload_n 1, 1, [], []),
  (42, .invokevirtual 74, 3, [57, 1, 5], [128]),
  (45, .ifCond .ne 5, 3, [29], []),
  (48, .iconst 0, 1, [], []),
  (49, .ireturn, 1, [1], []),
  (50, .aload_n 0, 1, [], []),
  (51, .getfield 13, 3, [5, 1], [12]),
  (54, .iload_n 2, 1, [], []),
  (55, .iconst 0, 1, [], []),
  (56, .invokevirtual 104, 3, [75, 2, 7], [57]),
  (59, .iconst 1, 1, [], []),
  (60, .ireturn, 1, [1], [])]
def mX5_readComparison : pv_M := (⟨"CliffGarden$Reader", "readComparison", "(I)Z"⟩, prog_7_method_13_code, 3, some .boolean, rX5_readComparison)
def rX5_readSum : List pv_R := [
  (0, .aload_n 0, 1, [], []),
  (1, .iload_n 1, 1, [], []),
  (2, .invokevirtual 116, 3, [58, 1, 5], [269]),
  (5, .istore_n 2, 1, [], []),
  (6, .iconst 0, 1, [], []),
  (7, .istore_n 3, 1, [], []),
  (8, .iload_n 3, 1, [], []),
  (9, .sipush 200, 3, [], []),
  (12, .if_icmp .ge 57, 3, [36], []),
  (15, .iload_n 2, 1, [], []),
  (16, .ifCond .eq 53, 3, [36], []),
  (19, .aload_n 0, 1, [], []),
  (20, .invokevirtual 39, 3, [46, 0, 5], [18]),
  (23, .ldc 119, 2, [3, 0, 0], [656]),
  (25, .invokestatic 64, 3, [50, 2], [89]),
  (28, .ifCond .eq 41, 3, [36], []),
  (31, .aload_n 0, 1, [], []),
  (32, .invokevirtual 39, 3, [46, 0, 5], [18]),
  (35, .istore 4, 2, [], []),
  (37, .aload_n 0, 1, [], []),
  (38, .dup, 1, [], []),
  (39, .getfield 21, 3, [5, 3], [9]),
  (42, .iconst 1, 1, [], []),
  (43, .iadd, 1, [], []),
  (44, .putfield 21, 3, [5, 3], [9]),
  (47, .aload_n 0, 1, [], []),
  (48, .iload_n 1, 1, [], []),
  (49, .invokevirtual 116, 3, [58, 1, 5], [269]),
  (52, .istore_n 2, 1, [], []),
  (53, .aload_n 0, 1, [], []),
  (54, .getfield 13, 3, [5, 1], [12]),
  (57, .iload 4, 2, [], []),
  (59, .iconst 0, 1, [], []),
  (60, .invokevirtual 104, 3, [75, 2, 7], [57]),
  (63, .iinc 3 1, 3, [], []),
  (66, .goto (-58), 3, [6], []),
  (69, .iload_n 2, 1, [], []),
  (70, .ireturn, 1, [1], [])]
def mX5_readSum : pv_M := (⟨"CliffGarden$Reader", "readSum", "(I)Z"⟩, prog_7_method_14_code, 5, some .boolean, rX5_readSum)
def rX5_readTerm : List pv_R := [
  (0, .aload_n 0, 1, [], []),
  (1, .iload_n 1, 1, [], []),
  (2, .invokevirtual 121, 3, [59, 1, 5], [270]),
  (5, .istore_n 2, 1, [], []),
  (6, .iconst 0, 1, [], []),
  (7, .istore_n 3, 1, [], []),
  (8, .iload_n 3, 1, [], []),
  (9, .sipush 200, 3, [], []),
  (12, .if_icmp .ge 57, 3, [36], []),
  (15, .iload_n 2, 1, [], []),
  (16, .ifCond .eq 53, 3, [36], []),
  (19, .aload_n 0, 1, [], []),
  (20, .invokevirtual 39, 3, [46, 0, 5], [18]),
  (23, .ldc 124, 2, [4, 0, 0], [657]),
  (25, .invokestatic 64, 3, [50, 2], [89]),
  (28, .ifCond .eq 41, 3, [36], []),
  (31, .aload_n 0, 1, [], []),
  (32, .invokevirtual 39, 3, [46, 0, 5], [18]),
  (35, .istore 4, 2, [], []),
  (37, .aload_n 0, 1, [], []),
  (38, .dup, 1, [], []),
  (39, .getfield 21, 3, [5, 3], [9]),
  (42, .iconst 1, 1, [], []),
  (43, .iadd, 1, [], []),
  (44, .putfield 21, 3, [5, 3], [9]),
  (47, .aload_n 0, 1, [], []),
  (48, .iload_n 1, 1, [], []),
  (49, .invokevirtual 121, 3, [59, 1, 5], [270]),
  (52, .istore_n 2, 1, [], []),
  (53, .aload_n 0, 1, [], []),
  (54, .getfield 13, 3, [5, 1], [12]),
  (57, .iload 4, 2, [], []),
  (59, .iconst 0, 1, [], []),
  (60, .invokevirtual 104, 3, [75, 2, 7], [57]),
  (63, .iinc 3 1, 3, [], []),
  (66, .goto (-58), 3, [6], []),
  (69, .iload_n 2, 1, [], []),
  (70, .ireturn, 1, [1], [])]
def mX5_readTerm : pv_M := (⟨"CliffGarden$Reader", "readTerm", "(I)Z"⟩, prog_7_method_15_code, 5, some .boolean, rX5_readTerm)
def rX5_readFactor : List pv_R := [
  (0, .aload_n 0, 1, [], []),
  (1, .invokevirtual 39, 3, [46, 0, 5], [18]),
  (4, .istore_n 2, 1, [], []),
  (5, .iload_n 2, 1, [], []),
  (6, .bipush 91, 2, [], []),
  (8, .if_icmp .ne 36, 3, [24], []),
  (11, .aload_n 0, 1, [], []),
  (12, .iload_n 1, 1, [], []),
  (13, .invokevirtual 108, 3, [49, 1, 5], [177]),
  (16, .ifCond .eq 26, 3, [22], []),
  (19, .aload_n 0, 1, [], []),
  (20, .iload_n 1, 1, [], []),
  (21, .iconst 1, 1, [], []),
  (22, .iadd, 1, [], []),
  (23, .invokevirtual 74, 3, [57, 1, 5], [128]),
  (26, .ifCond .eq 16, 3, [22], []),
  (29, .aload_n 0, 1, [], []),
  (30, .bipush 93, 2, [], []),
  (32, .invokevirtual 43, 3, [48, 1, 5], [93]),
  (35, .ifCond .eq 7, 3, [22], []),
  (38, .iconst 1, 1, [], []),
  (39, .goto 4, 3, [23], []),
  (42, .iconst 0, 1, [], []),
  (43, .ireturn, 1, [1], []),
  (44, .iload_n 2, 1, [], []),
  (45, .invokestatic 126, 3, [60, 1], [170]),
  (48, .ifCond .eq 8, 3, [30], []),
  (51, .aload_n 0, 1, [], []),
  (52, .invokevirtual 129, 3, [61, 0, 5], [579]),
  (55, .ireturn, 1, [1], []),
  (56, .iload_n 2, 1, [], []),
  (57, .ldc 132, 2, [0, 0, 0], [305]),
  (59, .invokestatic 64, 3, [50, 2], [89]),
  (62, .ifCond .ne 9, 3, [38], []),
  (65, .aload_n 0, 1, [], []),
  (66, .iconst 1, 1, [], []),
  (67, .invokevirtual 53, 3, [47, 1, 5], [56]),
  (70, .ireturn, 1, [1], []),
  (71, .aload_n 0, 1, [], []),
  (72, .getfield 13, 3, [5, 1], [12]),
  (75, .bipush 107, 2, [], []),
  (77, .ldc 132, 2, [0, 1, 2], [305]),
  (79, .iload_n 2, 1, [], []),
  (80, .i2c, 1, [], []),
  (81, .nop, 0, [], []),
  (84, .invokevirtual 104, 3, [75, 2, 7], [57]),
  (87, .aload_n 0, 1, [], []),
  (88, .dup, 1, [], []),
  (89, .getfield 21, 3, [5, 3], [9]),
  (92, .iconst 1, 1, [], []),
  (93, .iadd, 1, [], []),
  (94, .putfield 21, 3, [5, 3], [9]),
  (97, .iconst 1, 1, [], []),
  (98, .ireturn, 1, [1], [])]
def mX5_readFactor : pv_M := (⟨"CliffGarden$Reader", "readFactor", "(I)Z"⟩, prog_7_method_16_code, 3, some .boolean, rX5_readFactor)
def rX5_isDigit : List pv_R := [
  (0, .iload_n 0, 1, [], []),
  (1, .bipush 48, 2, [], []),
  (3, .if_icmp .lt 13, 3, [8], []),
  (6, .iload_n 0, 1, [], []),
  (7, .bipush 57, 2, [], []),
  (9, .if_icmp .gt 7, 3, [8], []),
  (12, .iconst 1, 1, [], []),
  (13, .goto 4, 3, [9], []),
  (16, .iconst 0, 1, [], []),
  (17, .ireturn, 1, [1], [])]
def mX5_isDigit : pv_M := (⟨"CliffGarden$Reader", "isDigit", "(I)Z"⟩, prog_7_method_17_code, 1, some .boolean, rX5_isDigit)
def rX5_readNumber : List pv_R := [
  (0, .iconst 0, 1, [], []),
  (1, .istore_n 1, 1, [], []),
  (2, .iconst 0, 1, [], []),
  (3, .istore_n 2, 1, [], []),
  (4, .iload_n 2, 1, [], []),
  (5, .iconst 5, 1, [], []),
  (6, .if_icmp .ge 42, 3, [28], []),
  (9, .aload_n 0, 1, [], []),
  (10, .invokevirtual 39, 3, [46, 0, 5], [18]),
  (13, .invokestatic 126, 3, [60, 1], [170]),
  (16, .ifCond .eq 32, 3, [28], []),
  (19, .bipush 10, 2, [], []),
  (21, .iload_n 1, 1, [], []),
  (22, .imul, 1, [], []),
  (23, .aload_n 0, 1, [], []),
  (24, .invokevirtual 39, 3, [46, 0, 5], [18]),
  (27, .iadd, 1, [], []),
  (28, .bipush 48, 2, [], []),
  (30, .isub, 1, [], []),
  (31, .istore_n 1, 1, [], []),
  (32, .aload_n 0, 1, [], []),
  (33, .dup, 1, [], []),
  (34, .getfield 21, 3, [5, 3], [9]),
  (37, .iconst 1, 1, [], []),
  (38, .iadd, 1, [], []),
  (39, .putfield 21, 3, [5, 3], [9]),
  (42, .iinc 2 1, 3, [], []),
  (45, .goto (-41), 3, [4], []),
  (48, .aload_n 0, 1, [], []),
  (49, .invokevirtual 39, 3, [46, 0, 5], [18]),
  (52, .invokestatic 126, 3, [60, 1], [170]),
  (55, .ifCond .eq 9, 3, [36], []),
  (58, .aload_n 0, 1, [], []),
  (59, .iconst 2, 1, [], []),
  (60, .invokevirtual 53, 3, [47, 1, 5], [56]),
  (63, .ireturn, 1, [1], []),
  (64, .aload_n 0, 1, [], []),
  (65, .getfield 13, 3, [5, 1], [12]),
  (68, .bipush 48, 2, [], []),
  (70, .iload_n 1, 1, [], []),
  (71, .invokevirtual 104, 3, [75, 2, 7], [57]),
  (74, .iconst 1, 1, [], []),
  (75, .ireturn, 1, [1], [])]
def mX5_readNumber : pv_M := (⟨"CliffGarden$Reader", "readNumber", "()Z"⟩, prog_7_method_18_code, 3, some .boolean, rX5_readNumber)
def rX6_init : List pv_R := [
  (0, .aload_n 0, 1, [], []),
  (1, .invokespecial 5, 3, [9], [531]),
  (4, .aload_n 0, 1, [], []),
  (5, .bipush 8, 2, [], []),
  (7, .newarray .int, 2, [], []),
  (9, .putfield 11, 3, [6, 0], [407]),
  (12, .aload_n 0, 1, [], []),
  (13, .bipush 72, 2, [], []),
  (15, .newarray .int, 2, [], []),
  (17, .putfield 15, 3, [6, 1], [408]),
  (20, .aload_n 0, 1, [], []),
  (21, .bipush 8, 2, [], []),
  (23, .newarray .int, 2, [], []),
  (25, .putfield 18, 3, [6, 2], [409]),
  (28, .aload_n 0, 1, [], []),
  (29, .bipush 8, 2, [], []),
  (31, .newarray .int, 2, [], []),
  (33, .putfield 21, 3, [6, 3], [410]),
  (36, .aload_n 0, 1, [], []),
  (37, .bipush 8, 2, [], []),
  (39, .newarray .int, 2, [], []),
  (41, .putfield 24, 3, [6, 4], [411]),
  (44, .aload_n 0, 1, [], []),
  (45, .sipush 2304, 3, [], []),
  (48, .newarray .int, 2, [], []),
  (50, .putfield 27, 3, [6, 5], [412]),
  (53, .aload_n 0, 1, [], []),
  (54, .bipush 8, 2, [], []),
  (56, .newarray .int, 2, [], []),
  (58, .putfield 30, 3, [6, 6], [413]),
  (61, .return_, 1, [], [])]
def mX6_init : pv_M := (⟨"CliffGarden$Rounds", "<init>", "()V"⟩, prog_8_method_1_code, 1, none, rX6_init)
def rX6_tell : List pv_R := [
  (0, .aload_n 0, 1, [], []),
  (1, .iconst 0, 1, [], []),
  (2, .putfield 33, 3, [6, 7], [22]),
  (5, .iconst 0, 1, [], []),
  (6, .istore_n 3, 1, [], []),
  (7, .iload_n 3, 1, [], []),
  (8, .bipush 48, 2, [], []),
  (10, .if_icmp .ge 46, 3, [30], []),
  (13, .lload_n 1, 1, [], []),
  (14, .iload_n 3, 1, [], []),
  (15, .invokestatic 37, 3, [142, 2], [551]),
  (18, .ifCond .eq 32, 3, [28], []),
  (21, .aload_n 0, 1, [], []),
  (22, .getfield 33, 3, [6, 7], [22]),
  (25, .bipush 8, 2, [], []),
  (27, .if_icmp .ge 23, 3, [28], []),
  (30, .aload_n 0, 1, [], []),
  (31, .getfield 11, 3, [6, 0], [36]),
  (34, .aload_n 0, 1, [], []),
  (35, .getfield 33, 3, [6, 7], [22]),
  (38, .iload_n 3, 1, [], []),
  (39, .iastore, 1, [], []),
  (40, .aload_n 0, 1, [], []),
  (41, .dup, 1, [], []),
  (42, .getfield 33, 3, [6, 7], [22]),
  (45, .iconst 1, 1, [], []),
  (46, .iadd, 1, [], []),
  (47, .putfield 33, 3, [6, 7], [22]),
  (50, .iinc 3 1, 3, [], []),
  (53, .goto (-46), 3, [5], []),
  (56, .return_, 1, [], [])]
def mX6_tell : pv_M := (⟨"CliffGarden$Rounds", "tell", "(J)V"⟩, prog_8_method_2_code, 4, none, rX6_tell)
def rX6_asWork : List pv_R := [
  (0, .iconst 0, 1, [], []),
  (1, .istore_n 2, 1, [], []),
  (2, .iload_n 2, 1, [], []),
  (3, .aload_n 0, 1, [], []),
  (4, .getfield 33, 3, [6, 7], [22]),
  (7, .if_icmp .ge 98, 3, [66], []),
  (10, .iconst 0, 1, [], []),
  (11, .istore_n 3, 1, [], []),
  (12, .iload_n 3, 1, [], []),
  (13, .aload_n 0, 1, [], []),
  (14, .getfield 33, 3, [6, 7], [22]),
  (17, .if_icmp .ge 37, 3, [33], []),
  (20, .aload_n 0, 1, [], []),
  (21, .getfield 15, 3, [6, 1], [99]),
  (24, .iload_n 3, 1, [], []),
  (25, .bipush 8, 2, [], []),
  (27, .imul, 1, [], []),
  (28, .iload_n 2, 1, [], []),
  (29, .iadd, 1, [], []),
  (30, .aload_n 0, 1, [], []),
  (31, .getfield 11, 3, [6, 0], [36]),
  (34, .iload_n 3, 1, [], []),
  (35, .iaload, 1, [], []),
  (36, .aload_n 0, 1, [], []),
  (37, .getfield 11, 3, [6, 0], [36]),
  (40, .iload_n 2, 1, [], []),
  (41, .iaload, 1, [], []),
  (42, .invokestatic 41, 3, [65, 2], [255]),
  (45, .iconst 1, 1, [], []),
  (46, .iadd, 1, [], []),
  (47, .iastore, 1, [], []),
  (48, .iinc 3 1, 3, [], []),
  (51, .goto (-39), 3, [8], []),
  (54, .aload_n 0, 1, [], []),
  (55, .getfield 15, 3, [6, 1], [99]),
  (58, .bipush 64, 2, [], []),
  (60, .iload_n 2, 1, [], []),
  (61, .iadd, 1, [], []),
  (62, .iload_n 1, 1, [], []),
  (63, .bipush 6, 2, [], []),
  (65, .imul, 1, [], []),
  (66, .aload_n 0, 1, [], []),
  (67, .getfield 11, 3, [6, 0], [36]),
  (70, .iload_n 2, 1, [], []),
  (71, .iaload, 1, [], []),
  (72, .invokestatic 41, 3, [65, 2], [255]),
  (75, .iconst 1, 1, [], []),
  (76, .iadd, 1, [], []),
  (77, .iastore, 1, [], []),
  (78, .aload_n 0, 1, [], []),
  (79, .getfield 18, 3, [6, 2], [139]),
  (82, .iload_n 2, 1, [], []),
  (83, .iconst 0, 1, [], []),
  (84, .iastore, 1, [], []),
  (85, .aload_n 0, 1, [], []),
  (86, .getfield 21, 3, [6, 3], [100]),
  (89, .iload_n 2, 1, [], []),
  (90, .iconst 0, 1, [], []),
  (91, .iastore, 1, [], []),
  (92, .aload_n 0, 1, [], []),
  (93, .getfield 24, 3, [6, 4], [140]),
  (96, .iload_n 2, 1, [], []),
  (97, .iconst 0, 1, [], []),
  (98, .iastore, 1, [], []),
  (99, .iinc 2 1, 3, [], []),
  (102, .goto (-100), 3, [2], []),
  (105, .return_, 1, [], [])]
def mX6_asWork : pv_M := (⟨"CliffGarden$Rounds", "asWork", "(I)V"⟩, prog_8_method_3_code, 4, none, rX6_asWork)
def rX6_hoursBetween : List pv_R := [
  (0, .iconst 2, 1, [], []),
  (1, .iload_n 0, 1, [], []),
  (2, .bipush 6, 2, [], []),
  (4, .idiv, 1, [], []),
  (5, .iload_n 1, 1, [], []),
  (6, .bipush 6, 2, [], []),
  (8, .idiv, 1, [], []),
  (9, .isub, 1, [], []),
  (10, .invokestatic 45, 3, [2], [249]),
  (13, .imul, 1, [], []),
  (14, .iload_n 0, 1, [], []),
  (15, .bipush 6, 2, [], []),
  (17, .irem, 1, [], []),
  (18, .iload_n 1, 1, [], []),
  (19, .bipush 6, 2, [], []),
  (21, .irem, 1, [], []),
  (22, .isub, 1, [], []),
  (23, .invokestatic 45, 3, [2], [249]),
  (26, .iadd, 1, [], []),
  (27, .ireturn, 1, [0], [])]
def mX6_hoursBetween : pv_M := (⟨"CliffGarden$Rounds", "hoursBetween", "(II)I"⟩, prog_8_method_4_code, 2, some .int, rX6_hoursBetween)
def rX6_asMending : List pv_R := [
  (0, .aload_n 0, 1, [], []),
  (1, .getfield 15, 3, [6, 1], [99]),
  (4, .iconst 0, 1, [], []),
  (5, .invokestatic 51, 3, [250, 2], [552]),
  (8, .iconst 0, 1, [], []),
  (9, .istore_n 2, 1, [], []),
  (10, .iload_n 2, 1, [], []),
  (11, .aload_n 0, 1, [], []),
  (12, .getfield 33, 3, [6, 7], [22]),
  (15, .if_icmp .ge 99, 3, [72], []),
  (18, .aload_n 0, 1, [], []),
  (19, .getfield 11, 3, [6, 0], [36]),
  (22, .iload_n 2, 1, [], []),
  (23, .iaload, 1, [], []),
  (24, .bipush 6, 2, [], []),
  (26, .irem, 1, [], []),
  (27, .istore_n 3, 1, [], []),
  (28, .aload_n 0, 1, [], []),
  (29, .getfield 18, 3, [6, 2], [139]),
  (32, .iload_n 2, 1, [], []),
  (33, .aload_n 1, 1, [], []),
  (34, .aload_n 0, 1, [], []),
  (35, .getfield 11, 3, [6, 0], [36]),
  (38, .iload_n 2, 1, [], []),
  (39, .iaload, 1, [], []),
  (40, .bipush 6, 2, [], []),
  (42, .idiv, 1, [], []),
  (43, .iaload, 1, [], []),
  (44, .iastore, 1, [], []),
  (45, .aload_n 0, 1, [], []),
  (46, .getfield 21, 3, [6, 3], [100]),
  (49, .iload_n 2, 1, [], []),
  (50, .iconst 1, 1, [], []),
  (51, .iload_n 3, 1, [], []),
  (52, .iadd, 1, [], []),
  (53, .iastore, 1, [], []),
  (54, .iload_n 2, 1, [], []),
  (55, .ifCond .le 30, 3, [55], []),
  (58, .iload_n 3, 1, [], []),
  (59, .ifCond .le 26, 3, [55], []),
  (62, .aload_n 0, 1, [], []),
  (63, .getfield 11, 3, [6, 0], [36]),
  (66, .iload_n 2, 1, [], []),
  (67, .iconst 1, 1, [], []),
  (68, .isub, 1, [], []),
  (69, .iaload, 1, [], []),
  (70, .aload_n 0, 1, [], []),
  (71, .getfield 11, 3, [6, 0], [36]),
  (74, .iload_n 2, 1, [], []),
  (75, .iaload, 1, [], []),
  (76, .iconst 1, 1, [], []),
  (77, .isub, 1, [], []),
  (78, .if_icmp .ne 7, 3, [55], []),
  (81, .iconst 1, 1, [], []),
  (82, .goto 4, 3, [56], []),
  (85, .iconst 0, 1, [], []),
  (86, .istore 4, 2, [], []),
  (88, .aload_n 0, 1, [], []),
  (89, .getfield 24, 3, [6, 4], [140]),
  (92, .iload_n 2, 1, [], []),
  (93, .iload 4, 2, [], []),
  (95, .ifCond .eq 11, 3, [68], []),
  (98, .iconst 1, 1, [], []),
  (99, .iload_n 2, 1, [], []),
  (100, .iconst 1, 1, [], []),
  (101, .isub, 1, [], []),
  (102, .ishl, 1, [], []),
  (103, .goto 4, 3, [69], []),
  (106, .iconst 0, 1, [], []),
  (107, .iastore, 1, [], []),
  (108, .iinc 2 1, 3, [], []),
  (111, .goto (-101), 3, [6], []),
  (114, .return_, 1, [], [])]
def mX6_asMending : pv_M := (⟨"CliffGarden$Rounds", "asMending", "([I)V"⟩, prog_8_method_5_code, 5, none, rX6_asMending)
def rX6_solve : List pv_R := [
  (0, .iconst 1, 1, [], []),
  (1, .aload_n 0, 1, [], []),
  (2, .getfield 33, 3, [6, 7], [22]),
  (5, .ishl, 1, [], []),
  (6, .iconst 1, 1, [], []),
  (7, .isub, 1, [], []),
  (8, .istore_n 1, 1, [], []),
  (9, .iload_n 1, 1, [], []),
  (10, .istore_n 2, 1, [], []),
  (11, .iload_n 2, 1, [], []),
  (12, .ifCond .lt 100, 3, [63], []),
  (15, .aload_n 0, 1, [], []),
  (16, .iload_n 2, 1, [], []),
  (17, .invokevirtual 57, 3, [68, 1, 6], [271]),
  (20, .istore_n 3, 1, [], []),
  (21, .iconst 0, 1, [], []),
  (22, .istore 4, 2, [], []),
  (24, .iload 4, 2, [], []),
  (26, .bipush 9, 2, [], []),
  (28, .if_icmp .ge 78, 3, [61], []),
  (31, .iload_n 2, 1, [], []),
  (32, .ifCond .ne 18, 3, [29], []),
  (35, .iload 4, 2, [], []),
  (37, .bipush 8, 2, [], []),
  (39, .if_icmp .ne 7, 3, [27], []),
  (42, .iconst 1, 1, [], []),
  (43, .goto 21, 3, [38], []),
  (46, .iconst 0, 1, [], []),
  (47, .goto 17, 3, [38], []),
  (50, .iload_n 2, 1, [], []),
  (51, .iload 4, 2, [], []),
  (53, .ishr, 1, [], []),
  (54, .iconst 1, 1, [], []),
  (55, .iand, 1, [], []),
  (56, .ifCond .eq 7, 3, [37], []),
  (59, .iconst 1, 1, [], []),
  (60, .goto 4, 3, [38], []),
  (63, .iconst 0, 1, [], []),
  (64, .istore 5, 2, [], []),
  (66, .iload 5, 2, [], []),
  (68, .ifCond .eq 32, 3, [59], []),
  (71, .aload_n 0, 1, [], []),
  (72, .getfield 27, 3, [6, 5], [101]),
  (75, .iload_n 2, 1, [], []),
  (76, .bipush 9, 2, [], []),
  (78, .imul, 1, [], []),
  (79, .iload 4, 2, [], []),
  (81, .iadd, 1, [], []),
  (82, .iload_n 2, 1, [], []),
  (83, .iload_n 1, 1, [], []),
  (84, .if_icmp .ne 7, 3, [53], []),
  (87, .iconst 0, 1, [], []),
  (88, .goto 11, 3, [58], []),
  (91, .aload_n 0, 1, [], []),
  (92, .iload_n 2, 1, [], []),
  (93, .iload 4, 2, [], []),
  (95, .iload_n 3, 1, [], []),
  (96, .invokevirtual 60, 3, [69, 3, 6], [580]),
  (99, .iastore, 1, [], []),
  (100, .iinc 4 1, 3, [], []),
  (103, .goto (-79), 3, [17], []),
  (106, .iinc 2 (-1), 3, [], []),
  (109, .goto (-98), 3, [9], []),
  (112, .aload_n 0, 1, [], []),
  (113, .iload_n 1, 1, [], []),
  (114, .invokevirtual 64, 3, [71, 1, 6], [581]),
  (117, .return_, 1, [], [])]
def mX6_solve : pv_M := (⟨"CliffGarden$Rounds", "solve", "()V"⟩, prog_8_method_6_code, 6, none, rX6_solve)
def rX6_spentOn : List pv_R := [
  (0, .iconst 0, 1, [], []),
  (1, .istore_n 2, 1, [], []),
  (2, .iconst 0, 1, [], []),
  (3, .istore_n 3, 1, [], []),
  (4, .iload_n 3, 1, [], []),
  (5, .aload_n 0, 1, [], []),
  (6, .getfield 33, 3, [6, 7], [22]),
  (9, .if_icmp .ge 26, 3, [23], []),
  (12, .iload_n 1, 1, [], []),
  (13, .iload_n 3, 1, [], []),
  (14, .ishr, 1, [], []),
  (15, .iconst 1, 1, [], []),
  (16, .iand, 1, [], []),
  (17, .ifCond .eq 12, 3, [21], []),
  (20, .iload_n 2, 1, [], []),
  (21, .aload_n 0, 1, [], []),
  (22, .getfield 21, 3, [6, 3], [100]),
  (25, .iload_n 3, 1, [], []),
  (26, .iaload, 1, [], []),
  (27, .iadd, 1, [], []),
  (28, .istore_n 2, 1, [], []),
  (29, .iinc 3 1, 3, [], []),
  (32, .goto (-28), 3, [4], []),
  (35, .iload_n 2, 1, [], []),
  (36, .ireturn, 1, [0], [])]
def mX6_spentOn : pv_M := (⟨"CliffGarden$Rounds", "spentOn", "(I)I"⟩, prog_8_method_7_code, 4, some .int, rX6_spentOn)
def rX6_leastOnward : List pv_R := [
  (0, .ldc 68, 2, [1000000000], [239]),
  (2, .istore 4, 2, [], []),
  (4, .iconst 0, 1, [], []),
  (5, .istore 5, 2, [], []),
  (7, .iload 5, 2, [], []),
  (9, .aload_n 0, 1, [], []),
  (10, .getfield 33, 3, [6, 7], [22]),
  (13, .if_icmp .ge 25, 3, [19], []),
  (16, .iload 4, 2, [], []),
  (18, .aload_n 0, 1, [], []),
  (19, .iload_n 1, 1, [], []),
  (20, .iload_n 2, 1, [], []),
  (21, .iload 5, 2, [], []),
  (23, .iload_n 3, 1, [], []),
  (24, .invokevirtual 69, 3, [70, 4, 6], [272]),
  (27, .invokestatic 73, 3, [1], [540]),
  (30, .istore 4, 2, [], []),
  (32, .iinc 5 1, 3, [], []),
  (35, .goto (-28), 3, [4], []),
  (38, .iload 4, 2, [], []),
  (40, .ireturn, 1, [0], [])]
def mX6_leastOnward : pv_M := (⟨"CliffGarden$Rounds", "leastOnward", "(III)I"⟩, prog_8_method_8_code, 6, some .int, rX6_leastOnward)
def rX6_costVia : List pv_R := [
  (0, .iload_n 1, 1, [], []),
  (1, .iload_n 3, 1, [], []),
  (2, .ishr, 1, [], []),
  (3, .iconst 1, 1, [], []),
  (4, .iand, 1, [], []),
  (5, .ifCond .ne 16, 3, [15], []),
  (8, .aload_n 0, 1, [], []),
  (9, .getfield 24, 3, [6, 4], [140]),
  (12, .iload_n 3, 1, [], []),
  (13, .iaload, 1, [], []),
  (14, .iload_n 1, 1, [], []),
  (15, .iconst (-1), 1, [], []),
  (16, .ixor, 1, [], []),
  (17, .iand, 1, [], []),
  (18, .ifCond .eq 6, 3, [17], []),
  (21, .ldc 68, 2, [1000000000], [239]),
  (23, .ireturn, 1, [0], []),
  (24, .aload_n 0, 1, [], []),
  (25, .getfield 15, 3, [6, 1], [99]),
  (28, .iload_n 2, 1, [], []),
  (29, .bipush 8, 2, [], []),
  (31, .imul, 1, [], []),
  (32, .iload_n 3, 1, [], []),
  (33, .iadd, 1, [], []),
  (34, .iaload, 1, [], []),
  (35, .aload_n 0, 1, [], []),
  (36, .getfield 18, 3, [6, 2], [139]),
  (39, .iload_n 3, 1, [], []),
  (40, .iaload, 1, [], []),
  (41, .iload 4, 2, [], []),
  (43, .aload_n 0, 1, [], []),
  (44, .getfield 21, 3, [6, 3], [100]),
  (47, .iload_n 3, 1, [], []),
  (48, .iaload, 1, [], []),
  (49, .iadd, 1, [], []),
  (50, .imul, 1, [], []),
  (51, .iadd, 1, [], []),
  (52, .istore 5, 2, [], []),
  (54, .iload 5, 2, [], []),
  (56, .aload_n 0, 1, [], []),
  (57, .getfield 27, 3, [6, 5], [101]),
  (60, .iload_n 1, 1, [], []),
  (61, .iconst 1, 1, [], []),
  (62, .iload_n 3, 1, [], []),
  (63, .ishl, 1, [], []),
  (64, .ior, 1, [], []),
  (65, .bipush 9, 2, [], []),
  (67, .imul, 1, [], []),
  (68, .iload_n 3, 1, [], []),
  (69, .iadd, 1, [], []),
  (70, .iaload, 1, [], []),
  (71, .iadd, 1, [], []),
  (72, .ireturn, 1, [0], [])]
def mX6_costVia : pv_M := (⟨"CliffGarden$Rounds", "costVia", "(IIII)I"⟩, prog_8_method_9_code, 6, some .int, rX6_costVia)
def rX6_findRow : List pv_R := [
  (0, .iconst 0, 1, [], []),
  (1, .istore_n 2, 1, [], []),
  (2, .bipush 8, 2, [], []),
  (4, .istore_n 3, 1, [], []),
  (5, .iconst 0, 1, [], []),
  (6, .istore 4, 2, [], []),
  (8, .iload 4, 2, [], []),
  (10, .aload_n 0, 1, [], []),
  (11, .getfield 33, 3, [6, 7], [22]),
  (14, .if_icmp .ge 89, 3, [60], []),
  (17, .iload_n 2, 1, [], []),
  (18, .iload_n 1, 1, [], []),
  (19, .if_icmp .eq 84, 3, [60], []),
  (22, .aload_n 0, 1, [], []),
  (23, .iload_n 2, 1, [], []),
  (24, .invokevirtual 57, 3, [68, 1, 6], [271]),
  (27, .istore 5, 2, [], []),
  (29, .iconst 0, 1, [], []),
  (30, .istore 6, 2, [], []),
  (32, .iload 6, 2, [], []),
  (34, .aload_n 0, 1, [], []),
  (35, .getfield 33, 3, [6, 7], [22]),
  (38, .iconst 1, 1, [], []),
  (39, .isub, 1, [], []),
  (40, .if_icmp .ge 33, 3, [42], []),
  (43, .aload_n 0, 1, [], []),
  (44, .iload_n 2, 1, [], []),
  (45, .iload_n 3, 1, [], []),
  (46, .iload 6, 2, [], []),
  (48, .iload 5, 2, [], []),
  (50, .invokevirtual 69, 3, [70, 4, 6], [272]),
  (53, .aload_n 0, 1, [], []),
  (54, .getfield 27, 3, [6, 5], [101]),
  (57, .iload_n 2, 1, [], []),
  (58, .bipush 9, 2, [], []),
  (60, .imul, 1, [], []),
  (61, .iload_n 3, 1, [], []),
  (62, .iadd, 1, [], []),
  (63, .iaload, 1, [], []),
  (64, .if_icmp .eq 9, 3, [42], []),
  (67, .iinc 6 1, 3, [], []),
  (70, .goto (-38), 3, [19], []),
  (73, .aload_n 0, 1, [], []),
  (74, .getfield 30, 3, [6, 6], [207]),
  (77, .iload 4, 2, [], []),
  (79, .aload_n 0, 1, [], []),
  (80, .getfield 11, 3, [6, 0], [36]),
  (83, .iload 6, 2, [], []),
  (85, .iaload, 1, [], []),
  (86, .iastore, 1, [], []),
  (87, .iload_n 2, 1, [], []),
  (88, .iconst 1, 1, [], []),
  (89, .iload 6, 2, [], []),
  (91, .ishl, 1, [], []),
  (92, .ior, 1, [], []),
  (93, .istore_n 2, 1, [], []),
  (94, .iload 6, 2, [], []),
  (96, .istore_n 3, 1, [], []),
  (97, .iinc 4 1, 3, [], []),
  (100, .goto (-92), 3, [6], []),
  (103, .return_, 1, [], [])]
def mX6_findRow : pv_M := (⟨"CliffGarden$Rounds", "findRow", "(I)V"⟩, prog_8_method_10_code, 7, none, rX6_findRow)
def rX6_least : List pv_R := [
  (0, .aload_n 0, 1, [], []),
  (1, .getfield 27, 3, [6, 5], [101]),
  (4, .bipush 8, 2, [], []),
  (6, .iaload, 1, [], []),
  (7, .ireturn, 1, [0], [])]
def mX6_least : pv_M := (⟨"CliffGarden$Rounds", "least", "()I"⟩, prog_8_method_11_code, 1, some .int, rX6_least)
def rX6_cellAt : List pv_R := [
  (0, .iload_n 1, 1, [], []),
  (1, .bipush 7, 2, [], []),
  (3, .invokestatic 76, 3, [138, 2], [553]),
  (6, .ifCond .eq 12, 3, [9], []),
  (9, .aload_n 0, 1, [], []),
  (10, .getfield 30, 3, [6, 6], [207]),
  (13, .iload_n 1, 1, [], []),
  (14, .iaload, 1, [], []),
  (15, .goto 4, 3, [10], []),
  (18, .iconst (-1), 1, [], []),
  (19, .ireturn, 1, [0], [])]
def mX6_cellAt : pv_M := (⟨"CliffGarden$Rounds", "cellAt", "(I)I"⟩, prog_8_method_12_code, 2, some .int, rX6_cellAt)
def rX7_init : List pv_R := [
  (0, .aload_n 0, 1, [], []),
  (1, .invokespecial 1, 3, [9], [532]),
  (4, .aload_n 0, 1, [], []),
  (5, .sipush 200, 3, [], []),
  (8, .newarray .int, 2, [], []),
  (10, .putfield 9, 3, [7, 0], [414]),
  (13, .aload_n 0, 1, [], []),
  (14, .sipush 200, 3, [], []),
  (17, .newarray .int, 2, [], []),
  (19, .putfield 13, 3, [7, 1], [415]),
  (22, .aload_n 0, 1, [], []),
  (23, .bipush 14, 2, [], []),
  (25, .newarray .int, 2, [], []),
  (27, .putfield 16, 3, [7, 2], [416]),
  (30, .aload_n 0, 1, [], []),
  (31, .bipush 14, 2, [], []),
  (33, .newarray .int, 2, [], []),
  (35, .putfield 19, 3, [7, 3], [417]),
  (38, .aload_n 0, 1, [], []),
  (39, .bipush 14, 2, [], []),
  (41, .newarray .int, 2, [], []),
  (43, .putfield 22, 3, [7, 4], [418]),
  (46, .aload_n 0, 1, [], []),
  (47, .bipush 14, 2, [], []),
  (49, .newarray .int, 2, [], []),
  (51, .putfield 25, 3, [7, 5], [419]),
  (54, .aload_n 0, 1, [], []),
  (55, .bipush 40, 2, [], []),
  (57, .newarray .int, 2, [], []),
  (59, .putfield 28, 3, [7, 6], [420]),
  (62, .return_, 1, [], [])]
def mX7_init : pv_M := (⟨"CliffGarden$Statute", "<init>", "()V"⟩, prog_9_method_1_code, 1, none, rX7_init)
def rX7_put : List pv_R := [
  (0, .aload_n 0, 1, [], []),
  (1, .getfield 31, 3, [7, 8], [79]),
  (4, .sipush 200, 3, [], []),
  (7, .if_icmp .ge 33, 3, [22], []),
  (10, .aload_n 0, 1, [], []),
  (11, .getfield 9, 3, [7, 0], [208]),
  (14, .aload_n 0, 1, [], []),
  (15, .getfield 31, 3, [7, 8], [79]),
  (18, .iload_n 1, 1, [], []),
  (19, .iastore, 1, [], []),
  (20, .aload_n 0, 1, [], []),
  (21, .getfield 13, 3, [7, 1], [102]),
  (24, .aload_n 0, 1, [], []),
  (25, .getfield 31, 3, [7, 8], [79]),
  (28, .iload_n 2, 1, [], []),
  (29, .iastore, 1, [], []),
  (30, .aload_n 0, 1, [], []),
  (31, .dup, 1, [], []),
  (32, .getfield 31, 3, [7, 8], [79]),
  (35, .iconst 1, 1, [], []),
  (36, .iadd, 1, [], []),
  (37, .putfield 31, 3, [7, 8], [79]),
  (40, .return_, 1, [], [])]
def mX7_put : pv_M := (⟨"CliffGarden$Statute", "put", "(II)V"⟩, prog_9_method_2_code, 3, none, rX7_put)
def rX7_answer : List pv_R := [
  (0, .iconst 0, 1, [], []),
  (1, .istore 4, 2, [], []),
  (3, .iload 4, 2, [], []),
  (5, .aload_n 0, 1, [], []),
  (6, .getfield 35, 3, [7, 7], [348]),
  (9, .if_icmp .ge 77, 3, [45], []),
  (12, .iload 4, 2, [], []),
  (14, .bipush 14, 2, [], []),
  (16, .if_icmp .ge 70, 3, [45], []),
  (19, .aload_n 0, 1, [], []),
  (20, .getfield 16, 3, [7, 2], [345]),
  (23, .iload 4, 2, [], []),
  (25, .iaload, 1, [], []),
  (26, .iload_n 1, 1, [], []),
  (27, .if_icmp .ne 53, 3, [43], []),
  (30, .aload_n 0, 1, [], []),
  (31, .aload_n 0, 1, [], []),
  (32, .getfield 22, 3, [7, 4], [209]),
  (35, .iload 4, 2, [], []),
  (37, .iaload, 1, [], []),
  (38, .aload_n 0, 1, [], []),
  (39, .getfield 25, 3, [7, 5], [347]),
  (42, .iload 4, 2, [], []),
  (44, .iaload, 1, [], []),
  (45, .aload_n 3, 1, [], []),
  (46, .invokevirtual 38, 3, [77, 3, 7], [273]),
  (49, .ifCond .eq 31, 3, [43], []),
  (52, .iconst 0, 1, [], []),
  (53, .iload_n 2, 1, [], []),
  (54, .aload_n 0, 1, [], []),
  (55, .aload_n 0, 1, [], []),
  (56, .getfield 19, 3, [7, 3], [346]),
  (59, .iload 4, 2, [], []),
  (61, .iaload, 1, [], []),
  (62, .aload_n 0, 1, [], []),
  (63, .getfield 22, 3, [7, 4], [209]),
  (66, .iload 4, 2, [], []),
  (68, .iaload, 1, [], []),
  (69, .aload_n 3, 1, [], []),
  (70, .invokevirtual 38, 3, [77, 3, 7], [273]),
  (73, .invokestatic 42, 3, [1], [541]),
  (76, .invokestatic 48, 3, [0], [250]),
  (79, .ireturn, 1, [0], []),
  (80, .iinc 4 1, 3, [], []),
  (83, .goto (-80), 3, [2], []),
  (86, .iconst 0, 1, [], []),
  (87, .ireturn, 1, [0], [])]
def mX7_answer : pv_M := (⟨"CliffGarden$Statute", "answer", "(II[I)I"⟩, prog_9_method_3_code, 5, some .int, rX7_answer)
def rX7_reckon : List pv_R := [
  (0, .aload_n 0, 1, [], []),
  (1, .iconst 0, 1, [], []),
  (2, .putfield 51, 3, [7, 9], [15]),
  (5, .iload_n 1, 1, [], []),
  (6, .istore 4, 2, [], []),
  (8, .iload 4, 2, [], []),
  (10, .iload_n 2, 1, [], []),
  (11, .if_icmp .ge 307, 3, [170], []),
  (14, .iload 4, 2, [], []),
  (16, .sipush 200, 3, [], []),
  (19, .if_icmp .ge 299, 3, [170], []),
  (22, .aload_n 0, 1, [], []),
  (23, .getfield 9, 3, [7, 0], [208]),
  (26, .iload 4, 2, [], []),
  (28, .iaload, 1, [], []),
  (29, .istore 5, 2, [], []),
  (31, .iload 5, 2, [], []),
  (33, .bipush 48, 2, [], []),
  (35, .if_icmp .eq 10, 3, [22], []),
  (38, .iload 5, 2, [], []),
  (40, .bipush 107, 2, [], []),
  (42, .if_icmp .ne 62, 3, [54], []),
  (45, .aload_n 0, 1, [], []),
  (46, .getfield 51, 3, [7, 9], [15]),
  (49, .bipush 40, 2, [], []),
  (51, .if_icmp .lt 5, 3, [28], []),
  (54, .iconst 0, 1, [], []),
  (55, .ireturn, 1, [0], []),
  (56, .aload_n 0, 1, [], []),
  (57, .getfield 28, 3, [7, 6], [37]),
  (60, .aload_n 0, 1, [], []),
  (61, .getfield 51, 3, [7, 9], [15]),
  (64, .iload 5, 2, [], []),
  (66, .bipush 48, 2, [], []),
  (68, .if_icmp .ne 13, 3, [40], []),
  (71, .aload_n 0, 1, [], []),
  (72, .getfield 13, 3, [7, 1], [102]),
  (75, .iload 4, 2, [], []),
  (77, .iaload, 1, [], []),
  (78, .goto 12, 3, [46], []),
  (81, .aload_n 3, 1, [], []),
  (82, .aload_n 0, 1, [], []),
  (83, .getfield 13, 3, [7, 1], [102]),
  (86, .iload 4, 2, [], []),
  (88, .iaload, 1, [], []),
  (89, .iaload, 1, [], []),
  (90, .iastore, 1, [], []),
  (91, .aload_n 0, 1, [], []),
  (92, .dup, 1, [], []),
  (93, .getfield 51, 3, [7, 9], [15]),
  (96, .iconst 1, 1, [], []),
  (97, .iadd, 1, [], []),
  (98, .putfield 51, 3, [7, 9], [15]),
  (101, .goto 211, 3, [168], []),
  (104, .aload_n 0, 1, [], []),
  (105, .getfield 51, 3, [7, 9], [15]),
  (108, .iconst 1, 1, [], []),
  (109, .if_icmp .ge 5, 3, [60], []),
  (112, .iconst 0, 1, [], []),
  (113, .ireturn, 1, [0], []),
  (114, .iload 5, 2, [], []),
  (116, .bipush 33, 2, [], []),
  (118, .if_icmp .ne 30, 3, [80], []),
  (121, .aload_n 0, 1, [], []),
  (122, .getfield 28, 3, [7, 6], [37]),
  (125, .aload_n 0, 1, [], []),
  (126, .getfield 51, 3, [7, 9], [15]),
  (129, .iconst 1, 1, [], []),
  (130, .isub, 1, [], []),
  (131, .iconst 1, 1, [], []),
  (132, .aload_n 0, 1, [], []),
  (133, .getfield 28, 3, [7, 6], [37]),
  (136, .aload_n 0, 1, [], []),
  (137, .getfield 51, 3, [7, 9], [15]),
  (140, .iconst 1, 1, [], []),
  (141, .isub, 1, [], []),
  (142, .iaload, 1, [], []),
  (143, .isub, 1, [], []),
  (144, .iastore, 1, [], []),
  (145, .goto 167, 3, [168], []),
  (148, .iload 5, 2, [], []),
  (150, .bipush 38, 2, [], []),
  (152, .if_icmp .eq 10, 3, [86], []),
  (155, .iload 5, 2, [], []),
  (157, .bipush 124, 2, [], []),
  (159, .if_icmp .ne 69, 3, [121], []),
  (162, .aload_n 0, 1, [], []),
  (163, .getfield 28, 3, [7, 6], [37]),
  (166, .aload_n 0, 1, [], []),
  (167, .getfield 51, 3, [7, 9], [15]),
  (170, .iconst 1, 1, [], []),
  (171, .isub, 1, [], []),
  (172, .iaload, 1, [], []),
  (173, .ifCond .eq 7, 3, [96], []),
  (176, .iconst 1, 1, [], []),
  (177, .goto 4, 3, [97], []),
  (180, .iconst 0, 1, [], []),
  (181, .iload 5, 2, [], []),
  (183, .bipush 124, 2, [], []),
  (185, .if_icmp .ne 7, 3, [102], []),
  (188, .iconst 1, 1, [], []),
  (189, .goto 4, 3, [103], []),
  (192, .iconst 0, 1, [], []),
  (193, .if_icmp .ne 22, 3, [114], []),
  (196, .iload 4, 2, [], []),
  (198, .aload_n 0, 1, [], []),
  (199, .getfield 13, 3, [7, 1], [102]),
  (202, .iload 4, 2, [], []),
  (204, .iaload, 1, [], []),
  (205, .iconst 1, 1, [], []),
  (206, .isub, 1, [], []),
  (207, .invokestatic 48, 3, [0], [250]),
  (210, .istore 4, 2, [], []),
  (212, .goto 100, 3, [168], []),
  (215, .aload_n 0, 1, [], []),
  (216, .dup, 1, [], []),
  (217, .getfield 51, 3, [7, 9], [15]),
  (220, .iconst 1, 1, [], []),
  (221, .isub, 1, [], []),
  (222, .putfield 51, 3, [7, 9], [15]),
  (225, .goto 87, 3, [168], []),
  (228, .aload_n 0, 1, [], []),
  (229, .getfield 51, 3, [7, 9], [15]),
  (232, .iconst 2, 1, [], []),
  (233, .if_icmp .lt 31, 3, [139], []),
  (236, .aload_n 0, 1, [], []),
  (237, .getfield 28, 3, [7, 6], [37]),
  (240, .aload_n 0, 1, [], []),
  (241, .getfield 51, 3, [7, 9], [15]),
  (244, .iconst 1, 1, [], []),
  (245, .isub, 1, [], []),
  (246, .iaload, 1, [], []),
  (247, .ifCond .ne 19, 3, [141], []),
  (250, .iload 5, 2, [], []),
  (252, .bipush 47, 2, [], []),
  (254, .if_icmp .eq 10, 3, [139], []),
  (257, .iload 5, 2, [], []),
  (259, .bipush 37, 2, [], []),
  (261, .if_icmp .ne 5, 3, [141], []),
  (264, .iconst 0, 1, [], []),
  (265, .ireturn, 1, [0], []),
  (266, .aload_n 0, 1, [], []),
  (267, .dup, 1, [], []),
  (268, .getfield 51, 3, [7, 9], [15]),
  (271, .iconst 1, 1, [], []),
  (272, .isub, 1, [], []),
  (273, .putfield 51, 3, [7, 9], [15]),
  (276, .aload_n 0, 1, [], []),
  (277, .getfield 28, 3, [7, 6], [37]),
  (280, .aload_n 0, 1, [], []),
  (281, .getfield 51, 3, [7, 9], [15]),
  (284, .iconst 1, 1, [], []),
  (285, .isub, 1, [], []),
  (286, .iload 5, 2, [], []),
  (288, .aload_n 0, 1, [], []),
  (289, .getfield 28, 3, [7, 6], [37]),
  (292, .aload_n 0, 1, [], []),
  (293, .getfield 51, 3, [7, 9], [15]),
  (296, .iconst 1, 1, [], []),
  (297, .isub, 1, [], []),
  (298, .iaload, 1, [], []),
  (299, .aload_n 0, 1, [], []),
  (300, .getfield 28, 3, [7, 6], [37]),
  (303, .aload_n 0, 1, [], []),
  (304, .getfield 51, 3, [7, 9], [15]),
  (307, .iaload, 1, [], []),
  (308, .invokestatic 54, 3, [78, 3], [554]),
  (311, .iastore, 1, [], []),
  (312, .iinc 4 1, 3, [], []),
  (315, .goto (-307), 3, [5], []),
  (318, .aload_n 0, 1, [], []),
  (319, .getfield 51, 3, [7, 9], [15]),
  (322, .ifCond .le 12, 3, [178], []),
  (325, .aload_n 0, 1, [], []),
  (326, .getfield 28, 3, [7, 6], [37]),
  (329, .iconst 0, 1, [], []),
  (330, .iaload, 1, [], []),
  (331, .goto 4, 3, [179], []),
  (334, .iconst 0, 1, [], []),
  (335, .ireturn, 1, [0], [])]
def mX7_reckon : pv_M := (⟨"CliffGarden$Statute", "reckon", "(II[I)I"⟩, prog_9_method_4_code, 6, some .int, rX7_reckon)
def rX7_joined : List pv_R := [
  (0, .iload_n 0, 1, [], []),
  (1, .lookupswitch 125 #[(37, 91), (42, 75), (43, 67), (45, 71), (47, 79), (60, 103), (62, 114)], 67, [44, 37, 22, 42, 10, 43, 2, 45, 6, 47, 14, 60, 30, 62, 37], []),
  (68, .iload_n 1, 1, [], []),
  (69, .iload_n 2, 1, [], []),
  (70, .iadd, 1, [], []),
  (71, .ireturn, 1, [0], []),
  (72, .iload_n 1, 1, [], []),
  (73, .iload_n 2, 1, [], []),
  (74, .isub, 1, [], []),
  (75, .ireturn, 1, [0], []),
  (76, .iload_n 1, 1, [], []),
  (77, .iload_n 2, 1, [], []),
  (78, .imul, 1, [], []),
  (79, .ireturn, 1, [0], []),
  (80, .iload_n 2, 1, [], []),
  (81, .ifCond .ne 7, 3, [18], []),
  (84, .iconst 0, 1, [], []),
  (85, .goto 6, 3, [21], []),
  (88, .iload_n 1, 1, [], []),
  (89, .iload_n 2, 1, [], []),
  (90, .idiv, 1, [], []),
  (91, .ireturn, 1, [0], []),
  (92, .iload_n 2, 1, [], []),
  (93, .ifCond .ne 7, 3, [26], []),
  (96, .iconst 0, 1, [], []),
  (97, .goto 6, 3, [29], []),
  (100, .iload_n 1, 1, [], []),
  (101, .iload_n 2, 1, [], []),
  (102, .irem, 1, [], []),
  (103, .ireturn, 1, [0], []),
  (104, .iload_n 1, 1, [], []),
  (105, .iload_n 2, 1, [], []),
  (106, .if_icmp .ge 7, 3, [35], []),
  (109, .iconst 1, 1, [], []),
  (110, .goto 4, 3, [36], []),
  (113, .iconst 0, 1, [], []),
  (114, .ireturn, 1, [0], []),
  (115, .iload_n 1, 1, [], []),
  (116, .iload_n 2, 1, [], []),
  (117, .if_icmp .le 7, 3, [42], []),
  (120, .iconst 1, 1, [], []),
  (121, .goto 4, 3, [43], []),
  (124, .iconst 0, 1, [], []),
  (125, .ireturn, 1, [0], []),
  (126, .iload_n 1, 1, [], []),
  (127, .iload_n 2, 1, [], []),
  (128, .if_icmp .ne 7, 3, [49], []),
  (131, .iconst 1, 1, [], []),
  (132, .goto 4, 3, [50], []),
  (135, .iconst 0, 1, [], []),
  (136, .ireturn, 1, [0], [])]
def mX7_joined : pv_M := (⟨"CliffGarden$Statute", "joined", "(III)I"⟩, prog_9_method_5_code, 3, some .int, rX7_joined)
def rX8_init : List pv_R := [
  (0, .aload_n 0, 1, [], []),
  (1, .invokespecial 3, 3, [9], [533]),
  (4, .aload_n 0, 1, [], []),
  (5, .bipush 24, 2, [], []),
  (7, .newarray .int, 2, [], []),
  (9, .putfield 11, 3, [8, 0], [421]),
  (12, .aload_n 0, 1, [], []),
  (13, .bipush 24, 2, [], []),
  (15, .newarray .int, 2, [], []),
  (17, .putfield 15, 3, [8, 1], [422]),
  (20, .return_, 1, [], [])]
def mX8_init : pv_M := (⟨"CliffGarden$Swallow", "<init>", "()V"⟩, prog_10_method_1_code, 1, none, rX8_init)
def rX8_fly : List pv_R := [
  (0, .aload_n 0, 1, [], []),
  (1, .getfield 11, 3, [8, 0], [80]),
  (4, .iconst 0, 1, [], []),
  (5, .invokestatic 18, 3, [250, 2], [256]),
  (8, .aload_n 0, 1, [], []),
  (9, .iload_n 1, 1, [], []),
  (10, .iconst 0, 1, [], []),
  (11, .iconst 1, 1, [], []),
  (12, .iload_n 2, 1, [], []),
  (13, .iload_n 3, 1, [], []),
  (14, .invokevirtual 24, 3, [81, 5, 8], [129]),
  (17, .aload_n 0, 1, [], []),
  (18, .iconst 1, 1, [], []),
  (19, .putfield 28, 3, [8, 3], [81]),
  (22, .iconst 0, 1, [], []),
  (23, .istore 5, 2, [], []),
  (25, .iload 5, 2, [], []),
  (27, .iload 4, 2, [], []),
  (29, .if_icmp .ge 134, 3, [94], []),
  (32, .aload_n 0, 1, [], []),
  (33, .getfield 11, 3, [8, 0], [80]),
  (36, .iconst 0, 1, [], []),
  (37, .aload_n 0, 1, [], []),
  (38, .getfield 15, 3, [8, 1], [103]),
  (41, .iconst 0, 1, [], []),
  (42, .bipush 24, 2, [], []),
  (44, .invokestatic 32, 3, [3], [542]),
  (47, .aload_n 0, 1, [], []),
  (48, .getfield 11, 3, [8, 0], [80]),
  (51, .iconst 0, 1, [], []),
  (52, .invokestatic 18, 3, [250, 2], [256]),
  (55, .iconst 0, 1, [], []),
  (56, .istore 6, 2, [], []),
  (58, .iload 6, 2, [], []),
  (60, .bipush 24, 2, [], []),
  (62, .if_icmp .ge 85, 3, [86], []),
  (65, .iload 6, 2, [], []),
  (67, .iconst 3, 1, [], []),
  (68, .idiv, 1, [], []),
  (69, .istore 7, 2, [], []),
  (71, .aload_n 0, 1, [], []),
  (72, .iconst 0, 1, [], []),
  (73, .iload 7, 2, [], []),
  (75, .iconst 1, 1, [], []),
  (76, .isub, 1, [], []),
  (77, .invokestatic 38, 3, [0], [543]),
  (80, .iload 6, 2, [], []),
  (82, .iconst 3, 1, [], []),
  (83, .irem, 1, [], []),
  (84, .aload_n 0, 1, [], []),
  (85, .getfield 15, 3, [8, 1], [103]),
  (88, .iload 6, 2, [], []),
  (90, .iaload, 1, [], []),
  (91, .iload_n 2, 1, [], []),
  (92, .iload_n 3, 1, [], []),
  (93, .invokevirtual 24, 3, [81, 5, 8], [129]),
  (96, .aload_n 0, 1, [], []),
  (97, .iload 7, 2, [], []),
  (99, .iload 6, 2, [], []),
  (101, .iconst 3, 1, [], []),
  (102, .irem, 1, [], []),
  (103, .aload_n 0, 1, [], []),
  (104, .getfield 15, 3, [8, 1], [103]),
  (107, .iload 6, 2, [], []),
  (109, .iaload, 1, [], []),
  (110, .iload_n 2, 1, [], []),
  (111, .iload_n 3, 1, [], []),
  (112, .invokevirtual 24, 3, [81, 5, 8], [129]),
  (115, .aload_n 0, 1, [], []),
  (116, .bipush 7, 2, [], []),
  (118, .iload 7, 2, [], []),
  (120, .iconst 1, 1, [], []),
  (121, .iadd, 1, [], []),
  (122, .invokestatic 44, 3, [1], [544]),
  (125, .iload 6, 2, [], []),
  (127, .iconst 3, 1, [], []),
  (128, .irem, 1, [], []),
  (129, .aload_n 0, 1, [], []),
  (130, .getfield 15, 3, [8, 1], [103]),
  (133, .iload 6, 2, [], []),
  (135, .iaload, 1, [], []),
  (136, .iload_n 2, 1, [], []),
  (137, .iload_n 3, 1, [], []),
  (138, .invokevirtual 24, 3, [81, 5, 8], [129]),
  (141, .iinc 6 1, 3, [], []),
  (144, .goto (-86), 3, [33], []),
  (147, .aload_n 0, 1, [], []),
  (148, .dup, 1, [], []),
  (149, .getfield 28, 3, [8, 3], [81]),
  (152, .iconst 3, 1, [], []),
  (153, .imul, 1, [], []),
  (154, .putfield 28, 3, [8, 3], [81]),
  (157, .iinc 5 1, 3, [], []),
  (160, .goto (-135), 3, [16], []),
  (163, .aload_n 0, 1, [], []),
  (164, .iconst 0, 1, [], []),
  (165, .putfield 47, 3, [8, 2], [62]),
  (168, .iconst 0, 1, [], []),
  (169, .istore 5, 2, [], []),
  (171, .iload 5, 2, [], []),
  (173, .bipush 8, 2, [], []),
  (175, .if_icmp .ge 29, 3, [117], []),
  (178, .aload_n 0, 1, [], []),
  (179, .dup, 1, [], []),
  (180, .getfield 47, 3, [8, 2], [62]),
  (183, .aload_n 0, 1, [], []),
  (184, .getfield 11, 3, [8, 0], [80]),
  (187, .iload 5, 2, [], []),
  (189, .iconst 3, 1, [], []),
  (190, .imul, 1, [], []),
  (191, .iconst 2, 1, [], []),
  (192, .iadd, 1, [], []),
  (193, .iaload, 1, [], []),
  (194, .iadd, 1, [], []),
  (195, .putfield 47, 3, [8, 2], [62]),
  (198, .iinc 5 1, 3, [], []),
  (201, .goto (-30), 3, [99], []),
  (204, .aload_n 0, 1, [], []),
  (205, .iload 4, 2, [], []),
  (207, .invokevirtual 50, 3, [82, 1, 8], [582]),
  (210, .return_, 1, [], [])]
def mX8_fly : pv_M := (⟨"CliffGarden$Swallow", "fly", "(IIII)V"⟩, prog_10_method_2_code, 8, none, rX8_fly)
def rX8_arrive : List pv_R := [
  (0, .iload_n 2, 1, [], []),
  (1, .istore 6, 2, [], []),
  (3, .iload 6, 2, [], []),
  (5, .ifCond .ne 15, 3, [12], []),
  (8, .iload 5, 2, [], []),
  (10, .iload_n 1, 1, [], []),
  (11, .ishr, 1, [], []),
  (12, .iconst 1, 1, [], []),
  (13, .iand, 1, [], []),
  (14, .ifCond .eq 6, 3, [12], []),
  (17, .iconst 1, 1, [], []),
  (18, .istore 6, 2, [], []),
  (20, .iload 6, 2, [], []),
  (22, .iconst 1, 1, [], []),
  (23, .if_icmp .ne 12, 3, [20], []),
  (26, .iload_n 1, 1, [], []),
  (27, .iload 4, 2, [], []),
  (29, .if_icmp .ne 6, 3, [20], []),
  (32, .iconst 2, 1, [], []),
  (33, .istore 6, 2, [], []),
  (35, .aload_n 0, 1, [], []),
  (36, .getfield 11, 3, [8, 0], [80]),
  (39, .iload_n 1, 1, [], []),
  (40, .iconst 3, 1, [], []),
  (41, .imul, 1, [], []),
  (42, .iload 6, 2, [], []),
  (44, .iadd, 1, [], []),
  (45, .dup2, 1, [], []),
  (46, .iaload, 1, [], []),
  (47, .iload_n 3, 1, [], []),
  (48, .iadd, 1, [], []),
  (49, .iastore, 1, [], []),
  (50, .return_, 1, [], [])]
def mX8_arrive : pv_M := (⟨"CliffGarden$Swallow", "arrive", "(IIIII)V"⟩, prog_10_method_3_code, 7, none, rX8_arrive)
def rX8_cancel : List pv_R := [
  (0, .iconst 0, 1, [], []),
  (1, .istore_n 2, 1, [], []),
  (2, .iload_n 2, 1, [], []),
  (3, .iload_n 1, 1, [], []),
  (4, .if_icmp .ge 38, 3, [24], []),
  (7, .aload_n 0, 1, [], []),
  (8, .getfield 47, 3, [8, 2], [62]),
  (11, .iconst 3, 1, [], []),
  (12, .irem, 1, [], []),
  (13, .ifCond .ne 29, 3, [24], []),
  (16, .aload_n 0, 1, [], []),
  (17, .dup, 1, [], []),
  (18, .getfield 47, 3, [8, 2], [62]),
  (21, .iconst 3, 1, [], []),
  (22, .idiv, 1, [], []),
  (23, .putfield 47, 3, [8, 2], [62]),
  (26, .aload_n 0, 1, [], []),
  (27, .dup, 1, [], []),
  (28, .getfield 28, 3, [8, 3], [81]),
  (31, .iconst 3, 1, [], []),
  (32, .idiv, 1, [], []),
  (33, .putfield 28, 3, [8, 3], [81]),
  (36, .iinc 2 1, 3, [], []),
  (39, .goto (-37), 3, [2], []),
  (42, .return_, 1, [], [])]
def mX8_cancel : pv_M := (⟨"CliffGarden$Swallow", "cancel", "(I)V"⟩, prog_10_method_4_code, 3, none, rX8_cancel)
def rX9_init : List pv_R := [
  (0, .aload_n 0, 1, [], []),
  (1, .invokespecial 1, 3, [9], [534]),
  (4, .aload_n 0, 1, [], []),
  (5, .sipush 220, 3, [], []),
  (8, .newarray .int, 2, [], []),
  (10, .putfield 9, 3, [9, 0], [423]),
  (13, .return_, 1, [], [])]
def mX9_init : pv_M := (⟨"CliffGarden$Tape", "<init>", "()V"⟩, prog_11_method_1_code, 1, none, rX9_init)
def rX9_append : List pv_R := [
  (0, .bipush 24, 2, [], []),
  (2, .istore_n 2, 1, [], []),
  (3, .iload_n 2, 1, [], []),
  (4, .ifCond .lt 45, 3, [26], []),
  (7, .aload_n 0, 1, [], []),
  (8, .getfield 13, 3, [9, 1], [104]),
  (11, .sipush 220, 3, [], []),
  (14, .if_icmp .ge 35, 3, [26], []),
  (17, .aload_n 0, 1, [], []),
  (18, .getfield 9, 3, [9, 0], [210]),
  (21, .aload_n 0, 1, [], []),
  (22, .getfield 13, 3, [9, 1], [104]),
  (25, .iload_n 1, 1, [], []),
  (26, .iload_n 2, 1, [], []),
  (27, .iushr, 1, [], []),
  (28, .sipush 255, 3, [], []),
  (31, .iand, 1, [], []),
  (32, .iastore, 1, [], []),
  (33, .aload_n 0, 1, [], []),
  (34, .dup, 1, [], []),
  (35, .getfield 13, 3, [9, 1], [104]),
  (38, .iconst 1, 1, [], []),
  (39, .iadd, 1, [], []),
  (40, .putfield 13, 3, [9, 1], [104]),
  (43, .iinc 2 (-8), 3, [], []),
  (46, .goto (-43), 3, [2], []),
  (49, .return_, 1, [], [])]
def mX9_append : pv_M := (⟨"CliffGarden$Tape", "append", "(I)V"⟩, prog_11_method_2_code, 3, none, rX9_append)
def rX9_numberAt : List pv_R := [
  (0, .iconst 0, 1, [], []),
  (1, .istore_n 2, 1, [], []),
  (2, .iconst 4, 1, [], []),
  (3, .iload_n 1, 1, [], []),
  (4, .imul, 1, [], []),
  (5, .istore_n 3, 1, [], []),
  (6, .iload_n 3, 1, [], []),
  (7, .ifCond .lt 37, 3, [29], []),
  (10, .iload_n 3, 1, [], []),
  (11, .iconst 4, 1, [], []),
  (12, .iload_n 1, 1, [], []),
  (13, .imul, 1, [], []),
  (14, .iconst 4, 1, [], []),
  (15, .iadd, 1, [], []),
  (16, .if_icmp .ge 28, 3, [29], []),
  (19, .iload_n 3, 1, [], []),
  (20, .sipush 220, 3, [], []),
  (23, .if_icmp .ge 21, 3, [29], []),
  (26, .iload_n 2, 1, [], []),
  (27, .bipush 8, 2, [], []),
  (29, .ishl, 1, [], []),
  (30, .aload_n 0, 1, [], []),
  (31, .getfield 9, 3, [9, 0], [210]),
  (34, .iload_n 3, 1, [], []),
  (35, .iaload, 1, [], []),
  (36, .ior, 1, [], []),
  (37, .istore_n 2, 1, [], []),
  (38, .iinc 3 1, 3, [], []),
  (41, .goto (-35), 3, [6], []),
  (44, .iload_n 2, 1, [], []),
  (45, .ireturn, 1, [0], [])]
def mX9_numberAt : pv_M := (⟨"CliffGarden$Tape", "numberAt", "(I)I"⟩, prog_11_method_3_code, 4, some .int, rX9_numberAt)
def rX10_init : List pv_R := [
  (0, .aload_n 0, 1, [], []),
  (1, .invokespecial 3, 3, [9], [535]),
  (4, .aload_n 0, 1, [], []),
  (5, .bipush 8, 2, [], []),
  (7, .newarray .int, 2, [], []),
  (9, .putfield 9, 3, [10, 2], [424]),
  (12, .aload_n 0, 1, [], []),
  (13, .bipush 8, 2, [], []),
  (15, .newarray .int, 2, [], []),
  (17, .putfield 15, 3, [10, 3], [425]),
  (20, .aload_n 0, 1, [], []),
  (21, .iconst 4, 1, [], []),
  (22, .newarray .int, 2, [], []),
  (24, .putfield 18, 3, [10, 4], [426]),
  (27, .aload_n 0, 1, [], []),
  (28, .iconst 4, 1, [], []),
  (29, .newarray .int, 2, [], []),
  (31, .putfield 21, 3, [10, 5], [427]),
  (34, .aload_n 0, 1, [], []),
  (35, .bipush 8, 2, [], []),
  (37, .newarray .int, 2, [], []),
  (39, .putfield 24, 3, [10, 6], [428]),
  (42, .aload_n 0, 1, [], []),
  (43, .bipush 48, 2, [], []),
  (45, .newarray .int, 2, [], []),
  (47, .putfield 27, 3, [10, 7], [429]),
  (50, .aload_n 0, 1, [], []),
  (51, .sipush 1008, 3, [], []),
  (54, .newarray .int, 2, [], []),
  (56, .putfield 30, 3, [10, 8], [430]),
  (59, .aload_n 0, 1, [], []),
  (60, .aload_n 1, 1, [], []),
  (61, .putfield 33, 3, [10, 0], [431]),
  (64, .aload_n 0, 1, [], []),
  (65, .aload_n 2, 1, [], []),
  (66, .putfield 37, 3, [10, 1], [432]),
  (69, .return_, 1, [], [])]
def mX10_init : pv_M := (⟨"CliffGarden$Water", "<init>", "(LCliffGarden$Nets;LCliffGarden$Court;)V"⟩, prog_12_method_1_code, 3, none, rX10_init)
def rX10_pour : List pv_R := [
  (0, .aload_n 1, 1, [], []),
  (1, .iconst 0, 1, [], []),
  (2, .aload_n 0, 1, [], []),
  (3, .getfield 9, 3, [10, 2], [44]),
  (6, .iconst 0, 1, [], []),
  (7, .bipush 8, 2, [], []),
  (9, .invokestatic 41, 3, [3], [251]),
  (12, .iconst 0, 1, [], []),
  (13, .istore_n 3, 1, [], []),
  (14, .iload_n 3, 1, [], []),
  (15, .bipush 6, 2, [], []),
  (17, .if_icmp .ge 141, 3, [82], []),
  (20, .aload_n 0, 1, [], []),
  (21, .getfield 9, 3, [10, 2], [44]),
  (24, .iconst 0, 1, [], []),
  (25, .aload_n 0, 1, [], []),
  (26, .getfield 15, 3, [10, 3], [211]),
  (29, .iconst 0, 1, [], []),
  (30, .bipush 8, 2, [], []),
  (32, .invokestatic 41, 3, [3], [251]),
  (35, .aload_n 0, 1, [], []),
  (36, .getfield 9, 3, [10, 2], [44]),
  (39, .iconst 0, 1, [], []),
  (40, .invokestatic 47, 3, [250, 2], [555]),
  (43, .iconst 0, 1, [], []),
  (44, .istore 4, 2, [], []),
  (46, .iload 4, 2, [], []),
  (48, .bipush 8, 2, [], []),
  (50, .if_icmp .ge 102, 3, [80], []),
  (53, .iload 4, 2, [], []),
  (55, .bipush 6, 2, [], []),
  (57, .imul, 1, [], []),
  (58, .iload_n 3, 1, [], []),
  (59, .iadd, 1, [], []),
  (60, .istore 5, 2, [], []),
  (62, .aload_n 0, 1, [], []),
  (63, .getfield 15, 3, [10, 3], [211]),
  (66, .iload 4, 2, [], []),
  (68, .iaload, 1, [], []),
  (69, .istore 6, 2, [], []),
  (71, .aload_n 2, 1, [], []),
  (72, .iload 5, 2, [], []),
  (74, .iload 6, 2, [], []),
  (76, .ifCond .ne 7, 3, [46], []),
  (79, .iconst 0, 1, [], []),
  (80, .goto 17, 3, [52], []),
  (83, .iload 6, 2, [], []),
  (85, .aload_n 0, 1, [], []),
  (86, .getfield 33, 3, [10, 0], [82]),
  (89, .iload 5, 2, [], []),
  (91, .invokevirtual 53, 3, [24, 1, 3], [274]),
  (94, .invokestatic 59, 3, [1], [252]),
  (97, .iastore, 1, [], []),
  (98, .iload 6, 2, [], []),
  (100, .aload_n 2, 1, [], []),
  (101, .iload 5, 2, [], []),
  (103, .iaload, 1, [], []),
  (104, .if_icmp .le 42, 3, [78], []),
  (107, .aload_n 0, 1, [], []),
  (108, .iload 6, 2, [], []),
  (110, .aload_n 2, 1, [], []),
  (111, .iload 5, 2, [], []),
  (113, .iaload, 1, [], []),
  (114, .isub, 1, [], []),
  (115, .iload 4, 2, [], []),
  (117, .aload_n 0, 1, [], []),
  (118, .getfield 33, 3, [10, 0], [82]),
  (121, .iload 5, 2, [], []),
  (123, .invokevirtual 65, 3, [21, 1, 3], [583]),
  (126, .ifCond .eq 16, 3, [76], []),
  (129, .aload_n 0, 1, [], []),
  (130, .getfield 33, 3, [10, 0], [82]),
  (133, .getfield 69, 3, [3, 4], [350]),
  (136, .iload 5, 2, [], []),
  (138, .iaload, 1, [], []),
  (139, .goto 4, 3, [77], []),
  (142, .iconst 0, 1, [], []),
  (143, .invokevirtual 72, 3, [88, 3, 10], [584]),
  (146, .iinc 4 1, 3, [], []),
  (149, .goto (-103), 3, [26], []),
  (152, .iinc 3 1, 3, [], []),
  (155, .goto (-141), 3, [9], []),
  (158, .return_, 1, [], [])]
def mX10_pour : pv_M := (⟨"CliffGarden$Water", "pour", "([I[I)V"⟩, prog_12_method_2_code, 7, none, rX10_pour)
def rX10_passOn : List pv_R := [
  (0, .iload_n 2, 1, [], []),
  (1, .ifCond .le 9, 3, [6], []),
  (4, .iload_n 2, 1, [], []),
  (5, .iconst 1, 1, [], []),
  (6, .isub, 1, [], []),
  (7, .goto 4, 3, [7], []),
  (10, .iload_n 2, 1, [], []),
  (11, .istore 4, 2, [], []),
  (13, .iload_n 2, 1, [], []),
  (14, .bipush 7, 2, [], []),
  (16, .if_icmp .ge 9, 3, [15], []),
  (19, .iload_n 2, 1, [], []),
  (20, .iconst 1, 1, [], []),
  (21, .iadd, 1, [], []),
  (22, .goto 4, 3, [16], []),
  (25, .iload_n 2, 1, [], []),
  (26, .istore 5, 2, [], []),
  (28, .iload_n 3, 1, [], []),
  (29, .tableswitch 86 1 3 #[27, 41, 55], 27, [60, 19, 28, 37], []),
  (56, .aload_n 0, 1, [], []),
  (57, .getfield 9, 3, [10, 2], [44]),
  (60, .iload 4, 2, [], []),
  (62, .dup2, 1, [], []),
  (63, .iaload, 1, [], []),
  (64, .iload_n 1, 1, [], []),
  (65, .iadd, 1, [], []),
  (66, .iastore, 1, [], []),
  (67, .goto 58, 3, [68], []),
  (70, .aload_n 0, 1, [], []),
  (71, .getfield 9, 3, [10, 2], [44]),
  (74, .iload 5, 2, [], []),
  (76, .dup2, 1, [], []),
  (77, .iaload, 1, [], []),
  (78, .iload_n 1, 1, [], []),
  (79, .iadd, 1, [], []),
  (80, .iastore, 1, [], []),
  (81, .goto 44, 3, [68], []),
  (84, .aload_n 0, 1, [], []),
  (85, .getfield 9, 3, [10, 2], [44]),
  (88, .iload 4, 2, [], []),
  (90, .dup2, 1, [], []),
  (91, .iaload, 1, [], []),
  (92, .iload_n 1, 1, [], []),
  (93, .iload_n 1, 1, [], []),
  (94, .iconst 2, 1, [], []),
  (95, .idiv, 1, [], []),
  (96, .isub, 1, [], []),
  (97, .iadd, 1, [], []),
  (98, .iastore, 1, [], []),
  (99, .aload_n 0, 1, [], []),
  (100, .getfield 9, 3, [10, 2], [44]),
  (103, .iload 5, 2, [], []),
  (105, .dup2, 1, [], []),
  (106, .iaload, 1, [], []),
  (107, .iload_n 1, 1, [], []),
  (108, .iconst 2, 1, [], []),
  (109, .idiv, 1, [], []),
  (110, .iadd, 1, [], []),
  (111, .iastore, 1, [], []),
  (112, .goto 13, 3, [68], []),
  (115, .aload_n 0, 1, [], []),
  (116, .getfield 9, 3, [10, 2], [44]),
  (119, .iload_n 2, 1, [], []),
  (120, .dup2, 1, [], []),
  (121, .iaload, 1, [], []),
  (122, .iload_n 1, 1, [], []),
  (123, .iadd, 1, [], []),
  (124, .iastore, 1, [], []),
  (125, .return_, 1, [], [])]
def mX10_passOn : pv_M := (⟨"CliffGarden$Water", "passOn", "(III)V"⟩, prog_12_method_3_code, 6, none, rX10_passOn)
def rX10_share : List pv_R := [
  (0, .aload_n 0, 1, [], []),
  (1, .iconst 0, 1, [], []),
  (2, .putfield 76, 3, [10, 9], [50]),
  (5, .iconst 0, 1, [], []),
  (6, .istore_n 3, 1, [], []),
  (7, .iload_n 3, 1, [], []),
  (8, .bipush 8, 2, [], []),
  (10, .if_icmp .ge 52, 3, [37], []),
  (13, .aload_n 0, 1, [], []),
  (14, .getfield 24, 3, [10, 6], [105]),
  (17, .iload_n 3, 1, [], []),
  (18, .iconst 0, 1, [], []),
  (19, .iastore, 1, [], []),
  (20, .iload_n 2, 1, [], []),
  (21, .iload_n 3, 1, [], []),
  (22, .ishr, 1, [], []),
  (23, .iconst 1, 1, [], []),
  (24, .iand, 1, [], []),
  (25, .ifCond .eq 31, 3, [35], []),
  (28, .aload_n 0, 1, [], []),
  (29, .getfield 76, 3, [10, 9], [50]),
  (32, .iconst 4, 1, [], []),
  (33, .if_icmp .ge 23, 3, [35], []),
  (36, .aload_n 0, 1, [], []),
  (37, .getfield 18, 3, [10, 4], [141]),
  (40, .aload_n 0, 1, [], []),
  (41, .getfield 76, 3, [10, 9], [50]),
  (44, .iload_n 3, 1, [], []),
  (45, .iastore, 1, [], []),
  (46, .aload_n 0, 1, [], []),
  (47, .dup, 1, [], []),
  (48, .getfield 76, 3, [10, 9], [50]),
  (51, .iconst 1, 1, [], []),
  (52, .iadd, 1, [], []),
  (53, .putfield 76, 3, [10, 9], [50]),
  (56, .iinc 3 1, 3, [], []),
  (59, .goto (-52), 3, [5], []),
  (62, .aload_n 0, 1, [], []),
  (63, .iload_n 1, 1, [], []),
  (64, .invokevirtual 80, 3, [90, 1, 10], [585]),
  (67, .aload_n 0, 1, [], []),
  (68, .iconst (-1), 1, [], []),
  (69, .putfield 84, 3, [10, 10], [142]),
  (72, .aload_n 0, 1, [], []),
  (73, .iconst 0, 1, [], []),
  (74, .iload_n 1, 1, [], []),
  (75, .invokevirtual 87, 3, [91, 2, 10], [275]),
  (78, .return_, 1, [], [])]
def mX10_share : pv_M := (⟨"CliffGarden$Water", "share", "(II)V"⟩, prog_12_method_4_code, 4, none, rX10_share)
def rX10_reckonGrowth : List pv_R := [
  (0, .iconst 0, 1, [], []),
  (1, .istore_n 2, 1, [], []),
  (2, .iload_n 2, 1, [], []),
  (3, .bipush 48, 2, [], []),
  (5, .if_icmp .ge 81, 3, [44], []),
  (8, .iload_n 1, 1, [], []),
  (9, .aload_n 0, 1, [], []),
  (10, .getfield 33, 3, [10, 0], [82]),
  (13, .iload_n 2, 1, [], []),
  (14, .invokevirtual 53, 3, [24, 1, 3], [274]),
  (17, .invokestatic 59, 3, [1], [252]),
  (20, .istore_n 3, 1, [], []),
  (21, .iconst 0, 1, [], []),
  (22, .istore 4, 2, [], []),
  (24, .iload 4, 2, [], []),
  (26, .iload_n 3, 1, [], []),
  (27, .if_icmp .gt 53, 3, [42], []),
  (30, .iload 4, 2, [], []),
  (32, .bipush 20, 2, [], []),
  (34, .if_icmp .gt 46, 3, [42], []),
  (37, .aload_n 0, 1, [], []),
  (38, .getfield 30, 3, [10, 8], [214]),
  (41, .iload_n 2, 1, [], []),
  (42, .bipush 21, 2, [], []),
  (44, .imul, 1, [], []),
  (45, .iload 4, 2, [], []),
  (47, .iadd, 1, [], []),
  (48, .aload_n 0, 1, [], []),
  (49, .getfield 33, 3, [10, 0], [82]),
  (52, .iload_n 2, 1, [], []),
  (53, .invokevirtual 91, 3, [22, 1, 3], [586]),
  (56, .ifCond .eq 16, 3, [38], []),
  (59, .aload_n 0, 1, [], []),
  (60, .getfield 37, 3, [10, 1], [349]),
  (63, .iload_n 2, 1, [], []),
  (64, .iload 4, 2, [], []),
  (66, .invokevirtual 94, 3, [4, 2, 1], [587]),
  (69, .goto 4, 3, [39], []),
  (72, .iconst 0, 1, [], []),
  (73, .iastore, 1, [], []),
  (74, .iinc 4 1, 3, [], []),
  (77, .goto (-53), 3, [14], []),
  (80, .iinc 2 1, 3, [], []),
  (83, .goto (-81), 3, [2], []),
  (86, .return_, 1, [], [])]
def mX10_reckonGrowth : pv_M := (⟨"CliffGarden$Water", "reckonGrowth", "(I)V"⟩, prog_12_method_5_code, 5, none, rX10_reckonGrowth)
def rX10_tryValve : List pv_R := [
  (0, .iload_n 1, 1, [], []),
  (1, .aload_n 0, 1, [], []),
  (2, .getfield 76, 3, [10, 9], [50]),
  (5, .if_icmp .ge 8, 3, [7], []),
  (8, .iload_n 1, 1, [], []),
  (9, .iconst 4, 1, [], []),
  (10, .if_icmp .lt 8, 3, [10], []),
  (13, .aload_n 0, 1, [], []),
  (14, .invokevirtual 99, 3, [92, 0, 10], [588]),
  (17, .return_, 1, [], []),
  (18, .iconst 0, 1, [], []),
  (19, .istore_n 3, 1, [], []),
  (20, .iload_n 3, 1, [], []),
  (21, .iload_n 2, 1, [], []),
  (22, .if_icmp .gt 37, 3, [36], []),
  (25, .iload_n 3, 1, [], []),
  (26, .bipush 9, 2, [], []),
  (28, .if_icmp .gt 31, 3, [36], []),
  (31, .aload_n 0, 1, [], []),
  (32, .getfield 24, 3, [10, 6], [105]),
  (35, .aload_n 0, 1, [], []),
  (36, .getfield 18, 3, [10, 4], [141]),
  (39, .iload_n 1, 1, [], []),
  (40, .iaload, 1, [], []),
  (41, .iload_n 3, 1, [], []),
  (42, .iastore, 1, [], []),
  (43, .aload_n 0, 1, [], []),
  (44, .iload_n 1, 1, [], []),
  (45, .iconst 1, 1, [], []),
  (46, .iadd, 1, [], []),
  (47, .iload_n 2, 1, [], []),
  (48, .iload_n 3, 1, [], []),
  (49, .isub, 1, [], []),
  (50, .invokevirtual 87, 3, [91, 2, 10], [275]),
  (53, .iinc 3 1, 3, [], []),
  (56, .goto (-36), 3, [12], []),
  (59, .return_, 1, [], [])]
def mX10_tryValve : pv_M := (⟨"CliffGarden$Water", "tryValve", "(II)V"⟩, prog_12_method_6_code, 4, none, rX10_tryValve)
def rX10_weighTrial : List pv_R := [
  (0, .aload_n 0, 1, [], []),
  (1, .aload_n 0, 1, [], []),
  (2, .getfield 24, 3, [10, 6], [105]),
  (5, .aload_n 0, 1, [], []),
  (6, .getfield 27, 3, [10, 7], [213]),
  (9, .invokevirtual 102, 3, [87, 2, 10], [589]),
  (12, .iconst 0, 1, [], []),
  (13, .istore_n 1, 1, [], []),
  (14, .iconst 0, 1, [], []),
  (15, .istore_n 2, 1, [], []),
  (16, .iload_n 2, 1, [], []),
  (17, .bipush 48, 2, [], []),
  (19, .if_icmp .ge 28, 3, [29], []),
  (22, .iload_n 1, 1, [], []),
  (23, .aload_n 0, 1, [], []),
  (24, .getfield 30, 3, [10, 8], [214]),
  (27, .iload_n 2, 1, [], []),
  (28, .bipush 21, 2, [], []),
  (30, .imul, 1, [], []),
  (31, .aload_n 0, 1, [], []),
  (32, .getfield 27, 3, [10, 7], [213]),
  (35, .iload_n 2, 1, [], []),
  (36, .iaload, 1, [], []),
  (37, .iadd, 1, [], []),
  (38, .iaload, 1, [], []),
  (39, .iadd, 1, [], []),
  (40, .istore_n 1, 1, [], []),
  (41, .iinc 2 1, 3, [], []),
  (44, .goto (-28), 3, [10], []),
  (47, .iload_n 1, 1, [], []),
  (48, .aload_n 0, 1, [], []),
  (49, .getfield 84, 3, [10, 10], [142]),
  (52, .if_icmp .le 41, 3, [55], []),
  (55, .aload_n 0, 1, [], []),
  (56, .iload_n 1, 1, [], []),
  (57, .putfield 84, 3, [10, 10], [142]),
  (60, .iconst 0, 1, [], []),
  (61, .istore_n 2, 1, [], []),
  (62, .iload_n 2, 1, [], []),
  (63, .aload_n 0, 1, [], []),
  (64, .getfield 76, 3, [10, 9], [50]),
  (67, .if_icmp .ge 26, 3, [55], []),
  (70, .aload_n 0, 1, [], []),
  (71, .getfield 21, 3, [10, 5], [212]),
  (74, .iload_n 2, 1, [], []),
  (75, .aload_n 0, 1, [], []),
  (76, .getfield 24, 3, [10, 6], [105]),
  (79, .aload_n 0, 1, [], []),
  (80, .getfield 18, 3, [10, 4], [141]),
  (83, .iload_n 2, 1, [], []),
  (84, .iaload, 1, [], []),
  (85, .iaload, 1, [], []),
  (86, .iastore, 1, [], []),
  (87, .iinc 2 1, 3, [], []),
  (90, .goto (-28), 3, [38], []),
  (93, .return_, 1, [], [])]
def mX10_weighTrial : pv_M := (⟨"CliffGarden$Water", "weighTrial", "()V"⟩, prog_12_method_7_code, 3, none, rX10_weighTrial)
def rX10_dropsAt : List pv_R := [
  (0, .iload_n 1, 1, [], []),
  (1, .iconst 3, 1, [], []),
  (2, .invokestatic 106, 3, [138, 2], [556]),
  (5, .ifCond .eq 12, 3, [9], []),
  (8, .aload_n 0, 1, [], []),
  (9, .getfield 21, 3, [10, 5], [212]),
  (12, .iload_n 1, 1, [], []),
  (13, .iaload, 1, [], []),
  (14, .goto 4, 3, [10], []),
  (17, .iconst (-1), 1, [], []),
  (18, .ireturn, 1, [0], [])]
def mX10_dropsAt : pv_M := (⟨"CliffGarden$Water", "dropsAt", "(I)I"⟩, prog_12_method_8_code, 2, some .int, rX10_dropsAt)
def rX11_init : List pv_R := [
  (0, .aload_n 0, 1, [], []),
  (1, .invokespecial 3, 3, [9], [536]),
  (4, .aload_n 0, 1, [], []),
  (5, .new 9, 3, [3], [514]),
  (8, .dup, 1, [], []),
  (9, .invokespecial 11, 3, [19, 0, 0], [643]),
  (12, .putfield 12, 3, [11, 0], [433]),
  (15, .aload_n 0, 1, [], []),
  (16, .new 16, 3, [0], [515]),
  (19, .dup, 1, [], []),
  (20, .invokespecial 18, 3, [0, 0, 0], [644]),
  (23, .putfield 19, 3, [11, 1], [434]),
  (26, .aload_n 0, 1, [], []),
  (27, .new 23, 3, [2], [516]),
  (30, .dup, 1, [], []),
  (31, .invokespecial 25, 3, [14, 0, 0], [645]),
  (34, .putfield 26, 3, [11, 2], [435]),
  (37, .aload_n 0, 1, [], []),
  (38, .new 30, 3, [1], [517]),
  (41, .dup, 1, [], []),
  (42, .aload_n 0, 1, [], []),
  (43, .getfield 12, 3, [11, 0], [0]),
  (46, .aload_n 0, 1, [], []),
  (47, .getfield 19, 3, [11, 1], [10]),
  (50, .aload_n 0, 1, [], []),
  (51, .getfield 26, 3, [11, 2], [7]),
  (54, .invokespecial 32, 3, [3, 3, 0], [646]),
  (57, .putfield 35, 3, [11, 3], [436]),
  (60, .aload_n 0, 1, [], []),
  (61, .new 39, 3, [10], [518]),
  (64, .dup, 1, [], []),
  (65, .aload_n 0, 1, [], []),
  (66, .getfield 12, 3, [11, 0], [0]),
  (69, .aload_n 0, 1, [], []),
  (70, .getfield 35, 3, [11, 3], [23]),
  (73, .invokespecial 41, 3, [86, 2, 0], [647]),
  (76, .putfield 44, 3, [11, 4], [437]),
  (79, .aload_n 0, 1, [], []),
  (80, .new 48, 3, [9], [519]),
  (83, .dup, 1, [], []),
  (84, .invokespecial 50, 3, [83, 0, 0], [648]),
  (87, .putfield 51, 3, [11, 5], [438]),
  (90, .aload_n 0, 1, [], []),
  (91, .new 55, 3, [5], [520]),
  (94, .dup, 1, [], []),
  (95, .invokespecial 57, 3, [44, 0, 0], [649]),
  (98, .putfield 58, 3, [11, 6], [439]),
  (101, .aload_n 0, 1, [], []),
  (102, .new 62, 3, [6], [521]),
  (105, .dup, 1, [], []),
  (106, .invokespecial 64, 3, [62, 0, 0], [650]),
  (109, .putfield 65, 3, [11, 7], [440]),
  (112, .aload_n 0, 1, [], []),
  (113, .new 69, 3, [4], [522]),
  (116, .dup, 1, [], []),
  (117, .aload_n 0, 1, [], []),
  (118, .getfield 12, 3, [11, 0], [0]),
  (121, .aload_n 0, 1, [], []),
  (122, .getfield 19, 3, [11, 1], [10]),
  (125, .invokespecial 71, 3, [37, 2, 0], [651]),
  (128, .putfield 74, 3, [11, 8], [441]),
  (131, .aload_n 0, 1, [], []),
  (132, .new 78, 3, [8], [523]),
  (135, .dup, 1, [], []),
  (136, .invokespecial 80, 3, [79, 0, 0], [652]),
  (139, .putfield 81, 3, [11, 9], [442]),
  (142, .aload_n 0, 1, [], []),
  (143, .new 85, 3, [7], [524]),
  (146, .dup, 1, [], []),
  (147, .invokespecial 87, 3, [74, 0, 0], [653]),
  (150, .putfield 88, 3, [11, 10], [107]),
  (153, .aload_n 0, 1, [], []),
  (154, .iconst 1, 1, [], []),
  (155, .putfield 92, 3, [11, 11], [64]),
  (158, .return_, 1, [], [])]
def mX11_init : pv_M := (⟨"CliffGarden", "<init>", "()V"⟩, prog_1_method_1_code, 1, none, rX11_init)
def rX11_hang : List pv_R := [
  (0, .iload_n 1, 1, [], []),
  (1, .iload_n 2, 1, [], []),
  (2, .invokestatic 96, 3, [141, 2], [90]),
  (5, .ifCond .eq 42, 3, [20], []),
  (8, .iload_n 3, 1, [], []),
  (9, .bipush 9, 2, [], []),
  (11, .invokestatic 100, 3, [138, 2], [11]),
  (14, .ifCond .eq 33, 3, [20], []),
  (17, .iload 4, 2, [], []),
  (19, .sipush 9999, 3, [], []),
  (22, .invokestatic 100, 3, [138, 2], [11]),
  (25, .ifCond .eq 22, 3, [20], []),
  (28, .iload 5, 2, [], []),
  (30, .bipush 7, 2, [], []),
  (32, .invokestatic 100, 3, [138, 2], [11]),
  (35, .ifCond .eq 12, 3, [20], []),
  (38, .iload 6, 2, [], []),
  (40, .iconst 3, 1, [], []),
  (41, .invokestatic 100, 3, [138, 2], [11]),
  (44, .ifCond .ne 5, 3, [22], []),
  (47, .iconst 0, 1, [], []),
  (48, .ireturn, 1, [1], []),
  (49, .iload_n 1, 1, [], []),
  (50, .bipush 6, 2, [], []),
  (52, .imul, 1, [], []),
  (53, .iload_n 2, 1, [], []),
  (54, .iadd, 1, [], []),
  (55, .istore 7, 2, [], []),
  (57, .aload_n 0, 1, [], []),
  (58, .getfield 12, 3, [11, 0], [0]),
  (61, .iload 7, 2, [], []),
  (63, .invokevirtual 103, 3, [21, 1, 3], [41]),
  (66, .ifCond .ne 21, 3, [42], []),
  (69, .iload_n 2, 1, [], []),
  (70, .ifCond .le 19, 3, [44], []),
  (73, .aload_n 0, 1, [], []),
  (74, .getfield 12, 3, [11, 0], [0]),
  (77, .iload 7, 2, [], []),
  (79, .iconst 1, 1, [], []),
  (80, .isub, 1, [], []),
  (81, .invokevirtual 103, 3, [21, 1, 3], [41]),
  (84, .ifCond .ne 5, 3, [44], []),
  (87, .iconst 0, 1, [], []),
  (88, .ireturn, 1, [1], []),
  (89, .aload_n 0, 1, [], []),
  (90, .getfield 12, 3, [11, 0], [0]),
  (93, .dup, 1, [], []),
  (94, .getfield 107, 3, [3, 0], [108]),
  (97, .lconst 1, 1, [], []),
  (98, .iload 7, 2, [], []),
  (100, .lshl, 1, [], []),
  (101, .lor, 1, [], []),
  (102, .putfield 107, 3, [3, 0], [108]),
  (105, .aload_n 0, 1, [], []),
  (106, .getfield 12, 3, [11, 0], [0]),
  (109, .getfield 111, 3, [3, 2], [215]),
  (112, .iload 7, 2, [], []),
  (114, .iload_n 3, 1, [], []),
  (115, .iastore, 1, [], []),
  (116, .aload_n 0, 1, [], []),
  (117, .getfield 12, 3, [11, 0], [0]),
  (120, .getfield 115, 3, [3, 1], [109]),
  (123, .iload 7, 2, [], []),
  (125, .iload 4, 2, [], []),
  (127, .iastore, 1, [], []),
  (128, .aload_n 0, 1, [], []),
  (129, .getfield 12, 3, [11, 0], [0]),
  (132, .getfield 118, 3, [3, 3], [352]),
  (135, .iload 7, 2, [], []),
  (137, .iload 5, 2, [], []),
  (139, .iastore, 1, [], []),
  (140, .aload_n 0, 1, [], []),
  (141, .getfield 12, 3, [11, 0], [0]),
  (144, .getfield 121, 3, [3, 4], [353]),
  (147, .iload 7, 2, [], []),
  (149, .iload 6, 2, [], []),
  (151, .iastore, 1, [], []),
  (152, .aload_n 0, 1, [], []),
  (153, .getfield 12, 3, [11, 0], [0]),
  (156, .getfield 124, 3, [3, 7], [144]),
  (159, .iload 7, 2, [], []),
  (161, .iconst 0, 1, [], []),
  (162, .iastore, 1, [], []),
  (163, .aload_n 0, 1, [], []),
  (164, .getfield 12, 3, [11, 0], [0]),
  (167, .getfield 127, 3, [3, 8], [110]),
  (170, .iload 7, 2, [], []),
  (172, .iconst 0, 1, [], []),
  (173, .iastore, 1, [], []),
  (174, .aload_n 0, 1, [], []),
  (175, .getfield 12, 3, [11, 0], [0]),
  (178, .iload 7, 2, [], []),
  (180, .invokevirtual 130, 3, [26, 1, 3], [276]),
  (183, .iconst 1, 1, [], []),
  (184, .ireturn, 1, [1], [])]
def mX11_hang : pv_M := (⟨"CliffGarden", "hang", "(IIIIII)Z"⟩, prog_1_method_2_code, 8, some .boolean, rX11_hang)
def rX11_knot : List pv_R := [
  (0, .aload_n 0, 1, [], []),
  (1, .iload_n 1, 1, [], []),
  (2, .iload_n 2, 1, [], []),
  (3, .invokevirtual 134, 3, [137, 2, 11], [130]),
  (6, .istore 4, 2, [], []),
  (8, .iload 4, 2, [], []),
  (10, .ifCond .lt 13, 3, [11], []),
  (13, .iload_n 3, 1, [], []),
  (14, .sipush 9999, 3, [], []),
  (17, .invokestatic 100, 3, [138, 2], [11]),
  (20, .ifCond .ne 5, 3, [13], []),
  (23, .iconst 0, 1, [], []),
  (24, .ireturn, 1, [1], []),
  (25, .aload_n 0, 1, [], []),
  (26, .getfield 12, 3, [11, 0], [0]),
  (29, .getfield 115, 3, [3, 1], [109]),
  (32, .iload 4, 2, [], []),
  (34, .iload_n 3, 1, [], []),
  (35, .iastore, 1, [], []),
  (36, .iconst 1, 1, [], []),
  (37, .ireturn, 1, [1], [])]
def mX11_knot : pv_M := (⟨"CliffGarden", "knot", "(III)Z"⟩, prog_1_method_3_code, 5, some .boolean, rX11_knot)
def rX11_kind : List pv_R := [
  (0, .iload_n 1, 1, [], []),
  (1, .iconst 5, 1, [], []),
  (2, .invokestatic 100, 3, [138, 2], [11]),
  (5, .ifCond .eq 34, 3, [18], []),
  (8, .iload_n 2, 1, [], []),
  (9, .bipush 20, 2, [], []),
  (11, .invokestatic 100, 3, [138, 2], [11]),
  (14, .ifCond .eq 25, 3, [18], []),
  (17, .iload_n 3, 1, [], []),
  (18, .iconst 1, 1, [], []),
  (19, .if_icmp .lt 20, 3, [18], []),
  (22, .iload_n 3, 1, [], []),
  (23, .sipush 200, 3, [], []),
  (26, .if_icmp .gt 13, 3, [18], []),
  (29, .iload 4, 2, [], []),
  (31, .bipush 99, 2, [], []),
  (33, .invokestatic 100, 3, [138, 2], [11]),
  (36, .ifCond .ne 5, 3, [20], []),
  (39, .iconst 0, 1, [], []),
  (40, .ireturn, 1, [1], []),
  (41, .aload_n 0, 1, [], []),
  (42, .getfield 12, 3, [11, 0], [0]),
  (45, .getfield 138, 3, [3, 10], [216]),
  (48, .iload_n 1, 1, [], []),
  (49, .iload_n 2, 1, [], []),
  (50, .iastore, 1, [], []),
  (51, .aload_n 0, 1, [], []),
  (52, .getfield 12, 3, [11, 0], [0]),
  (55, .getfield 141, 3, [3, 11], [217]),
  (58, .iload_n 1, 1, [], []),
  (59, .iload_n 3, 1, [], []),
  (60, .iastore, 1, [], []),
  (61, .aload_n 0, 1, [], []),
  (62, .getfield 12, 3, [11, 0], [0]),
  (65, .getfield 144, 3, [3, 12], [145]),
  (68, .iload_n 1, 1, [], []),
  (69, .iload 4, 2, [], []),
  (71, .iastore, 1, [], []),
  (72, .iconst 1, 1, [], []),
  (73, .ireturn, 1, [1], [])]
def mX11_kind : pv_M := (⟨"CliffGarden", "kind", "(IIII)Z"⟩, prog_1_method_4_code, 5, some .boolean, rX11_kind)
def rX11_plant : List pv_R := [
  (0, .aload_n 0, 1, [], []),
  (1, .iload_n 1, 1, [], []),
  (2, .iload_n 2, 1, [], []),
  (3, .invokevirtual 134, 3, [137, 2, 11], [130]),
  (6, .istore 5, 2, [], []),
  (8, .iload 5, 2, [], []),
  (10, .ifCond .lt 34, 3, [20], []),
  (13, .iload_n 3, 1, [], []),
  (14, .iconst 5, 1, [], []),
  (15, .invokestatic 100, 3, [138, 2], [11]),
  (18, .ifCond .eq 26, 3, [20], []),
  (21, .iload 4, 2, [], []),
  (23, .sipush 200, 3, [], []),
  (26, .invokestatic 100, 3, [138, 2], [11]),
  (29, .ifCond .eq 15, 3, [20], []),
  (32, .aload_n 0, 1, [], []),
  (33, .getfield 12, 3, [11, 0], [0]),
  (36, .iload 5, 2, [], []),
  (38, .invokevirtual 147, 3, [22, 1, 3], [42]),
  (41, .ifCond .eq 5, 3, [22], []),
  (44, .iconst 0, 1, [], []),
  (45, .ireturn, 1, [1], []),
  (46, .aload_n 0, 1, [], []),
  (47, .getfield 12, 3, [11, 0], [0]),
  (50, .iload 5, 2, [], []),
  (52, .iload_n 3, 1, [], []),
  (53, .iload 4, 2, [], []),
  (55, .invokevirtual 150, 3, [25, 3, 3], [590]),
  (58, .iconst 1, 1, [], []),
  (59, .ireturn, 1, [1], [])]
def mX11_plant : pv_M := (⟨"CliffGarden", "plant", "(IIII)Z"⟩, prog_1_method_5_code, 6, some .boolean, rX11_plant)
def rX11_valve : List pv_R := [
  (0, .iload_n 1, 1, [], []),
  (1, .invokestatic 154, 3, [139, 1], [33]),
  (4, .ifCond .eq 12, 3, [7], []),
  (7, .iload_n 2, 1, [], []),
  (8, .bipush 99, 2, [], []),
  (10, .invokestatic 100, 3, [138, 2], [11]),
  (13, .ifCond .ne 5, 3, [9], []),
  (16, .iconst 0, 1, [], []),
  (17, .ireturn, 1, [1], []),
  (18, .aload_n 0, 1, [], []),
  (19, .getfield 19, 3, [11, 1], [10]),
  (22, .getfield 157, 3, [0, 0], [146]),
  (25, .iload_n 1, 1, [], []),
  (26, .iload_n 2, 1, [], []),
  (27, .iastore, 1, [], []),
  (28, .iconst 1, 1, [], []),
  (29, .ireturn, 1, [1], [])]
def mX11_valve : pv_M := (⟨"CliffGarden", "valve", "(II)Z"⟩, prog_1_method_6_code, 3, some .boolean, rX11_valve)
def rX11_kitchen : List pv_R := [
  (0, .iload_n 1, 1, [], []),
  (1, .invokestatic 154, 3, [139, 1], [33]),
  (4, .ifCond .eq 20, 3, [10], []),
  (7, .iload_n 2, 1, [], []),
  (8, .invokestatic 160, 3, [140, 1], [125]),
  (11, .ifCond .eq 13, 3, [10], []),
  (14, .iload_n 3, 1, [], []),
  (15, .sipush 9999, 3, [], []),
  (18, .invokestatic 100, 3, [138, 2], [11]),
  (21, .ifCond .ne 5, 3, [12], []),
  (24, .iconst 0, 1, [], []),
  (25, .ireturn, 1, [1], []),
  (26, .aload_n 0, 1, [], []),
  (27, .getfield 19, 3, [11, 1], [10]),
  (30, .getfield 163, 3, [0, 1], [354]),
  (33, .iload_n 1, 1, [], []),
  (34, .iload_n 2, 1, [], []),
  (35, .iastore, 1, [], []),
  (36, .aload_n 0, 1, [], []),
  (37, .getfield 19, 3, [11, 1], [10]),
  (40, .getfield 166, 3, [0, 2], [147]),
  (43, .iload_n 1, 1, [], []),
  (44, .iload_n 3, 1, [], []),
  (45, .iastore, 1, [], []),
  (46, .iconst 1, 1, [], []),
  (47, .ireturn, 1, [1], [])]
def mX11_kitchen : pv_M := (⟨"CliffGarden", "kitchen", "(III)Z"⟩, prog_1_method_7_code, 4, some .boolean, rX11_kitchen)
def rX11_rope : List pv_R := [
  (0, .iload_n 1, 1, [], []),
  (1, .invokestatic 154, 3, [139, 1], [33]),
  (4, .ifCond .eq 22, 3, [11], []),
  (7, .iload_n 2, 1, [], []),
  (8, .sipush 999, 3, [], []),
  (11, .invokestatic 100, 3, [138, 2], [11]),
  (14, .ifCond .eq 12, 3, [11], []),
  (17, .iload_n 3, 1, [], []),
  (18, .bipush 99, 2, [], []),
  (20, .invokestatic 100, 3, [138, 2], [11]),
  (23, .ifCond .ne 5, 3, [13], []),
  (26, .iconst 0, 1, [], []),
  (27, .ireturn, 1, [1], []),
  (28, .aload_n 0, 1, [], []),
  (29, .getfield 19, 3, [11, 1], [10]),
  (32, .getfield 169, 3, [0, 5], [355]),
  (35, .iload_n 1, 1, [], []),
  (36, .iload_n 2, 1, [], []),
  (37, .iastore, 1, [], []),
  (38, .aload_n 0, 1, [], []),
  (39, .getfield 19, 3, [11, 1], [10]),
  (42, .getfield 172, 3, [0, 6], [218]),
  (45, .iload_n 1, 1, [], []),
  (46, .iload_n 3, 1, [], []),
  (47, .iastore, 1, [], []),
  (48, .iconst 1, 1, [], []),
  (49, .ireturn, 1, [1], [])]
def mX11_rope : pv_M := (⟨"CliffGarden", "rope", "(III)Z"⟩, prog_1_method_8_code, 4, some .boolean, rX11_rope)
def rX11_seed : List pv_R := [
  (0, .iload_n 1, 1, [], []),
  (1, .ldc 175, 2, [65535], [240]),
  (3, .invokestatic 100, 3, [138, 2], [11]),
  (6, .ifCond .ne 5, 3, [6], []),
  (9, .iconst 0, 1, [], []),
  (10, .ireturn, 1, [1], []),
  (11, .aload_n 0, 1, [], []),
  (12, .iload_n 1, 1, [], []),
  (13, .putfield 92, 3, [11, 11], [64]),
  (16, .iconst 1, 1, [], []),
  (17, .ireturn, 1, [1], [])]
def mX11_seed : pv_M := (⟨"CliffGarden", "seed", "(I)Z"⟩, prog_1_method_9_code, 2, some .boolean, rX11_seed)
def rX11_feed : List pv_R := [
  (0, .aload_n 0, 1, [], []),
  (1, .getfield 51, 3, [11, 5], [20]),
  (4, .getfield 176, 3, [9, 1], [51]),
  (7, .bipush 20, 2, [], []),
  (9, .iadd, 1, [], []),
  (10, .sipush 220, 3, [], []),
  (13, .if_icmp .le 5, 3, [9], []),
  (16, .iconst (-1), 1, [], []),
  (17, .ireturn, 1, [0], []),
  (18, .aload_n 0, 1, [], []),
  (19, .getfield 51, 3, [11, 5], [20]),
  (22, .iload_n 1, 1, [], []),
  (23, .invokevirtual 179, 3, [84, 1, 9], [94]),
  (26, .aload_n 0, 1, [], []),
  (27, .getfield 51, 3, [11, 5], [20]),
  (30, .iload_n 2, 1, [], []),
  (31, .invokevirtual 179, 3, [84, 1, 9], [94]),
  (34, .aload_n 0, 1, [], []),
  (35, .getfield 51, 3, [11, 5], [20]),
  (38, .iload_n 3, 1, [], []),
  (39, .invokevirtual 179, 3, [84, 1, 9], [94]),
  (42, .aload_n 0, 1, [], []),
  (43, .getfield 51, 3, [11, 5], [20]),
  (46, .iload 4, 2, [], []),
  (48, .invokevirtual 179, 3, [84, 1, 9], [94]),
  (51, .aload_n 0, 1, [], []),
  (52, .getfield 51, 3, [11, 5], [20]),
  (55, .iload 5, 2, [], []),
  (57, .invokevirtual 179, 3, [84, 1, 9], [94]),
  (60, .aload_n 0, 1, [], []),
  (61, .getfield 51, 3, [11, 5], [20]),
  (64, .getfield 176, 3, [9, 1], [51]),
  (67, .ireturn, 1, [0], [])]
def mX11_feed : pv_M := (⟨"CliffGarden", "feed", "(IIIII)I"⟩, prog_1_method_10_code, 6, some .int, rX11_feed)
def rX11_law : List pv_R := [
  (0, .iload_n 1, 1, [], []),
  (1, .iconst 1, 1, [], []),
  (2, .if_icmp .lt 21, 3, [11], []),
  (5, .iload_n 1, 1, [], []),
  (6, .sipush 200, 3, [], []),
  (9, .if_icmp .gt 14, 3, [11], []),
  (12, .iload_n 1, 1, [], []),
  (13, .aload_n 0, 1, [], []),
  (14, .getfield 51, 3, [11, 5], [20]),
  (17, .getfield 176, 3, [9, 1], [51]),
  (20, .if_icmp .le 5, 3, [13], []),
  (23, .iconst (-1), 1, [], []),
  (24, .ireturn, 1, [0], []),
  (25, .aload_n 0, 1, [], []),
  (26, .getfield 58, 3, [11, 6], [351]),
  (29, .aload_n 0, 1, [], []),
  (30, .getfield 51, 3, [11, 5], [20]),
  (33, .iload_n 1, 1, [], []),
  (34, .aload_n 0, 1, [], []),
  (35, .getfield 88, 3, [11, 10], [107]),
  (38, .invokevirtual 182, 3, [45, 3, 5], [591]),
  (41, .istore_n 2, 1, [], []),
  (42, .aload_n 0, 1, [], []),
  (43, .getfield 51, 3, [11, 5], [20]),
  (46, .iconst 0, 1, [], []),
  (47, .putfield 176, 3, [9, 1], [51]),
  (50, .iload_n 2, 1, [], []),
  (51, .ifCond .lt 27, 3, [40], []),
  (54, .aload_n 0, 1, [], []),
  (55, .getfield 35, 3, [11, 3], [23]),
  (58, .getfield 186, 3, [1, 4], [148]),
  (61, .astore_n 3, 1, [], []),
  (62, .aload_n 0, 1, [], []),
  (63, .getfield 35, 3, [11, 3], [23]),
  (66, .aload_n 0, 1, [], []),
  (67, .getfield 88, 3, [11, 10], [107]),
  (70, .putfield 186, 3, [1, 4], [148]),
  (73, .aload_n 0, 1, [], []),
  (74, .aload_n 3, 1, [], []),
  (75, .putfield 88, 3, [11, 10], [107]),
  (78, .iload_n 2, 1, [], []),
  (79, .ireturn, 1, [0], [])]
def mX11_law : pv_M := (⟨"CliffGarden", "law", "(I)I"⟩, prog_1_method_11_code, 4, some .int, rX11_law)
def rX11_cell : List pv_R := [
  (0, .iload_n 1, 1, [], []),
  (1, .iload_n 2, 1, [], []),
  (2, .invokestatic 96, 3, [141, 2], [90]),
  (5, .ifCond .ne 7, 3, [6], []),
  (8, .sipush (-1000), 3, [], []),
  (11, .ireturn, 1, [0], []),
  (12, .iload_n 1, 1, [], []),
  (13, .bipush 6, 2, [], []),
  (15, .imul, 1, [], []),
  (16, .iload_n 2, 1, [], []),
  (17, .iadd, 1, [], []),
  (18, .istore 4, 2, [], []),
  (20, .iload_n 3, 1, [], []),
  (21, .ifCond .ne 21, 3, [23], []),
  (24, .aload_n 0, 1, [], []),
  (25, .getfield 12, 3, [11, 0], [0]),
  (28, .iload 4, 2, [], []),
  (30, .invokevirtual 103, 3, [21, 1, 3], [41]),
  (33, .ifCond .eq 7, 3, [21], []),
  (36, .iconst 1, 1, [], []),
  (37, .goto 4, 3, [22], []),
  (40, .iconst 0, 1, [], []),
  (41, .ireturn, 1, [0], []),
  (42, .aload_n 0, 1, [], []),
  (43, .getfield 12, 3, [11, 0], [0]),
  (46, .iload 4, 2, [], []),
  (48, .invokevirtual 103, 3, [21, 1, 3], [41]),
  (51, .ifCond .eq 16, 3, [34], []),
  (54, .aload_n 0, 1, [], []),
  (55, .getfield 12, 3, [11, 0], [0]),
  (58, .iload 4, 2, [], []),
  (60, .iload_n 3, 1, [], []),
  (61, .invokevirtual 189, 3, [28, 2, 3], [592]),
  (64, .goto 6, 3, [35], []),
  (67, .sipush (-1000), 3, [], []),
  (70, .ireturn, 1, [0], [])]
def mX11_cell : pv_M := (⟨"CliffGarden", "cell", "(III)I"⟩, prog_1_method_12_code, 5, some .int, rX11_cell)
def rX11_byLaw : List pv_R := [
  (0, .iload_n 1, 1, [], []),
  (1, .iload_n 2, 1, [], []),
  (2, .invokestatic 96, 3, [141, 2], [90]),
  (5, .ifCond .eq 11, 3, [8], []),
  (8, .iload_n 3, 1, [], []),
  (9, .iconst 2, 1, [], []),
  (10, .invokestatic 100, 3, [138, 2], [11]),
  (13, .ifCond .ne 5, 3, [10], []),
  (16, .iconst (-1), 1, [], []),
  (17, .ireturn, 1, [0], []),
  (18, .iload_n 1, 1, [], []),
  (19, .bipush 6, 2, [], []),
  (21, .imul, 1, [], []),
  (22, .iload_n 2, 1, [], []),
  (23, .iadd, 1, [], []),
  (24, .istore 4, 2, [], []),
  (26, .aload_n 0, 1, [], []),
  (27, .getfield 12, 3, [11, 0], [0]),
  (30, .iload 4, 2, [], []),
  (32, .invokevirtual 103, 3, [21, 1, 3], [41]),
  (35, .ifCond .ne 6, 3, [23], []),
  (38, .bipush (-2), 2, [], []),
  (40, .ireturn, 1, [0], []),
  (41, .iload_n 3, 1, [], []),
  (42, .iconst 2, 1, [], []),
  (43, .if_icmp .ne 13, 3, [31], []),
  (46, .aload_n 0, 1, [], []),
  (47, .getfield 35, 3, [11, 3], [23]),
  (50, .iload 4, 2, [], []),
  (52, .invokevirtual 192, 3, [6, 1, 1], [277]),
  (55, .ireturn, 1, [0], []),
  (56, .aload_n 0, 1, [], []),
  (57, .getfield 12, 3, [11, 0], [0]),
  (60, .iload 4, 2, [], []),
  (62, .invokevirtual 147, 3, [22, 1, 3], [42]),
  (65, .ifCond .ne 5, 3, [38], []),
  (68, .iconst (-1), 1, [], []),
  (69, .ireturn, 1, [0], []),
  (70, .iload_n 3, 1, [], []),
  (71, .ifCond .ne 25, 3, [50], []),
  (74, .aload_n 0, 1, [], []),
  (75, .getfield 35, 3, [11, 3], [23]),
  (78, .iload 4, 2, [], []),
  (80, .aload_n 0, 1, [], []),
  (81, .getfield 12, 3, [11, 0], [0]),
  (84, .getfield 127, 3, [3, 8], [110]),
  (87, .iload 4, 2, [], []),
  (89, .iaload, 1, [], []),
  (90, .invokevirtual 196, 3, [4, 2, 1], [278]),
  (93, .goto 12, 3, [54], []),
  (96, .aload_n 0, 1, [], []),
  (97, .getfield 35, 3, [11, 3], [23]),
  (100, .iload 4, 2, [], []),
  (102, .invokevirtual 199, 3, [5, 1, 1], [279]),
  (105, .ireturn, 1, [0], [])]
def mX11_byLaw : pv_M := (⟨"CliffGarden", "byLaw", "(III)I"⟩, prog_1_method_13_code, 5, some .int, rX11_byLaw)
def rX11_water : List pv_R := [
  (0, .aload_n 0, 1, [], []),
  (1, .invokevirtual 202, 3, [128, 0, 11], [280]),
  (4, .ireturn, 1, [0], [])]
def mX11_water : pv_M := (⟨"CliffGarden", "water", "()I"⟩, prog_1_method_14_code, 1, some .int, rX11_water)
def rX11_fall : List pv_R := [
  (0, .aload_n 0, 1, [], []),
  (1, .iload_n 1, 1, [], []),
  (2, .iload_n 2, 1, [], []),
  (3, .invokevirtual 134, 3, [137, 2, 11], [130]),
  (6, .istore_n 3, 1, [], []),
  (7, .iload_n 3, 1, [], []),
  (8, .ifCond .lt 14, 3, [12], []),
  (11, .aload_n 0, 1, [], []),
  (12, .getfield 12, 3, [11, 0], [0]),
  (15, .iload_n 3, 1, [], []),
  (16, .invokevirtual 147, 3, [22, 1, 3], [42]),
  (19, .ifCond .ne 5, 3, [14], []),
  (22, .iconst (-1), 1, [], []),
  (23, .ireturn, 1, [0], []),
  (24, .aload_n 0, 1, [], []),
  (25, .iload_n 3, 1, [], []),
  (26, .iconst 1, 1, [], []),
  (27, .invokevirtual 206, 3, [134, 2, 11], [178]),
  (30, .ireturn, 1, [0], [])]
def mX11_fall : pv_M := (⟨"CliffGarden", "fall", "(II)I"⟩, prog_1_method_15_code, 4, some .int, rX11_fall)
def rX11_go : List pv_R := [
  (0, .aload_n 0, 1, [], []),
  (1, .invokevirtual 210, 3, [132, 0, 11], [281]),
  (4, .ireturn, 1, [0], [])]
def mX11_go : pv_M := (⟨"CliffGarden", "go", "()I"⟩, prog_1_method_16_code, 1, some .int, rX11_go)
def rX11_day : List pv_R := [
  (0, .aload_n 0, 1, [], []),
  (1, .getfield 26, 3, [11, 2], [7]),
  (4, .getfield 213, 3, [2, 10], [219]),
  (7, .istore_n 1, 1, [], []),
  (8, .aload_n 0, 1, [], []),
  (9, .invokevirtual 202, 3, [128, 0, 11], [280]),
  (12, .pop, 1, [], []),
  (13, .aload_n 0, 1, [], []),
  (14, .invokevirtual 216, 3, [129, 0, 11], [593]),
  (17, .aload_n 0, 1, [], []),
  (18, .invokevirtual 219, 3, [130, 0, 11], [594]),
  (21, .aload_n 0, 1, [], []),
  (22, .invokevirtual 222, 3, [131, 0, 11], [595]),
  (25, .aload_n 0, 1, [], []),
  (26, .invokevirtual 210, 3, [132, 0, 11], [281]),
  (29, .pop, 1, [], []),
  (30, .aload_n 0, 1, [], []),
  (31, .getfield 19, 3, [11, 1], [10]),
  (34, .dup, 1, [], []),
  (35, .getfield 225, 3, [0, 8], [111]),
  (38, .iconst 1, 1, [], []),
  (39, .iadd, 1, [], []),
  (40, .putfield 225, 3, [0, 8], [111]),
  (43, .aload_n 0, 1, [], []),
  (44, .getfield 26, 3, [11, 2], [7]),
  (47, .getfield 213, 3, [2, 10], [219]),
  (50, .iload_n 1, 1, [], []),
  (51, .isub, 1, [], []),
  (52, .ireturn, 1, [0], [])]
def mX11_day : pv_M := (⟨"CliffGarden", "day", "()I"⟩, prog_1_method_17_code, 2, some .int, rX11_day)
def rX11_torn : List pv_R := [
  (0, .aload_n 0, 1, [], []),
  (1, .iload_n 1, 1, [], []),
  (2, .iload_n 2, 1, [], []),
  (3, .invokevirtual 134, 3, [137, 2, 11], [130]),
  (6, .istore_n 3, 1, [], []),
  (7, .iload_n 3, 1, [], []),
  (8, .ifCond .ge 9, 3, [9], []),
  (11, .ldc2_w 228, 3, [18446744073709551615], [243]),
  (14, .goto 11, 3, [13], []),
  (17, .aload_n 0, 1, [], []),
  (18, .getfield 12, 3, [11, 0], [0]),
  (21, .iload_n 3, 1, [], []),
  (22, .invokevirtual 230, 3, [34, 1, 3], [596]),
  (25, .lreturn, 1, [], [])]
def mX11_torn : pv_M := (⟨"CliffGarden", "torn", "(II)J"⟩, prog_1_method_18_code, 4, some .long, rX11_torn)
def rX11_fallIs : List pv_R := [
  (0, .aload_n 0, 1, [], []),
  (1, .getfield 26, 3, [11, 2], [7]),
  (4, .iload_n 1, 1, [], []),
  (5, .invokevirtual 234, 3, [17, 1, 2], [179]),
  (8, .ifCond .eq 15, 3, [11], []),
  (11, .aload_n 0, 1, [], []),
  (12, .getfield 26, 3, [11, 2], [7]),
  (15, .iload_n 1, 1, [], []),
  (16, .iload_n 2, 1, [], []),
  (17, .invokevirtual 237, 3, [18, 2, 2], [597]),
  (20, .goto 6, 3, [12], []),
  (23, .sipush (-1000), 3, [], []),
  (26, .ireturn, 1, [0], [])]
def mX11_fallIs : pv_M := (⟨"CliffGarden", "fallIs", "(II)I"⟩, prog_1_method_19_code, 3, some .int, rX11_fallIs)
def rX11_claimed : List pv_R := [
  (0, .aload_n 0, 1, [], []),
  (1, .getfield 26, 3, [11, 2], [7]),
  (4, .iload_n 1, 1, [], []),
  (5, .invokevirtual 234, 3, [17, 1, 2], [179]),
  (8, .ifCond .eq 15, 3, [11], []),
  (11, .iload_n 2, 1, [], []),
  (12, .iconst 1, 1, [], []),
  (13, .if_icmp .lt 10, 3, [11], []),
  (16, .iload_n 2, 1, [], []),
  (17, .sipush 256, 3, [], []),
  (20, .if_icmp .lt 5, 3, [13], []),
  (23, .iconst (-1), 1, [], []),
  (24, .ireturn, 1, [0], []),
  (25, .aload_n 0, 1, [], []),
  (26, .iload_n 1, 1, [], []),
  (27, .iload_n 2, 1, [], []),
  (28, .invokevirtual 238, 3, [136, 2, 11], [282]),
  (31, .ireturn, 1, [0], [])]
def mX11_claimed : pv_M := (⟨"CliffGarden", "claimed", "(II)I"⟩, prog_1_method_20_code, 3, some .int, rX11_claimed)
def rX11_right : List pv_R := [
  (0, .aload_n 0, 1, [], []),
  (1, .getfield 26, 3, [11, 2], [7]),
  (4, .iload_n 1, 1, [], []),
  (5, .invokevirtual 234, 3, [17, 1, 2], [179]),
  (8, .ifCond .eq 15, 3, [11], []),
  (11, .iload_n 2, 1, [], []),
  (12, .iconst 1, 1, [], []),
  (13, .if_icmp .lt 10, 3, [11], []),
  (16, .iload_n 2, 1, [], []),
  (17, .sipush 256, 3, [], []),
  (20, .if_icmp .lt 5, 3, [13], []),
  (23, .iconst (-1), 1, [], []),
  (24, .ireturn, 1, [0], []),
  (25, .aload_n 0, 1, [], []),
  (26, .getfield 26, 3, [11, 2], [7]),
  (29, .getfield 241, 3, [2, 6], [83]),
  (32, .iload_n 1, 1, [], []),
  (33, .iaload, 1, [], []),
  (34, .istore_n 3, 1, [], []),
  (35, .aload_n 0, 1, [], []),
  (36, .iload_n 1, 1, [], []),
  (37, .iload_n 2, 1, [], []),
  (38, .invokevirtual 238, 3, [136, 2, 11], [282]),
  (41, .istore 4, 2, [], []),
  (43, .iload_n 3, 1, [], []),
  (44, .invokestatic 160, 3, [140, 1], [125]),
  (47, .ifCond .eq 17, 3, [33], []),
  (50, .iload 4, 2, [], []),
  (52, .invokestatic 160, 3, [140, 1], [125]),
  (55, .ifCond .eq 9, 3, [33], []),
  (58, .iload_n 3, 1, [], []),
  (59, .iload 4, 2, [], []),
  (61, .if_icmp .ne 5, 3, [35], []),
  (64, .iconst (-1), 1, [], []),
  (65, .ireturn, 1, [0], []),
  (66, .aload_n 0, 1, [], []),
  (67, .getfield 19, 3, [11, 1], [10]),
  (70, .getfield 244, 3, [0, 7], [112]),
  (73, .iload_n 3, 1, [], []),
  (74, .dup2, 1, [], []),
  (75, .iaload, 1, [], []),
  (76, .aload_n 0, 1, [], []),
  (77, .getfield 26, 3, [11, 2], [7]),
  (80, .getfield 247, 3, [2, 7], [65]),
  (83, .iload_n 1, 1, [], []),
  (84, .iaload, 1, [], []),
  (85, .isub, 1, [], []),
  (86, .iastore, 1, [], []),
  (87, .aload_n 0, 1, [], []),
  (88, .getfield 19, 3, [11, 1], [10]),
  (91, .getfield 244, 3, [0, 7], [112]),
  (94, .iload 4, 2, [], []),
  (96, .dup2, 1, [], []),
  (97, .iaload, 1, [], []),
  (98, .aload_n 0, 1, [], []),
  (99, .getfield 26, 3, [11, 2], [7]),
  (102, .getfield 247, 3, [2, 7], [65]),
  (105, .iload_n 1, 1, [], []),
  (106, .iaload, 1, [], []),
  (107, .iadd, 1, [], []),
  (108, .iastore, 1, [], []),
  (109, .aload_n 0, 1, [], []),
  (110, .getfield 26, 3, [11, 2], [7]),
  (113, .getfield 241, 3, [2, 6], [83]),
  (116, .iload_n 1, 1, [], []),
  (117, .iload 4, 2, [], []),
  (119, .iastore, 1, [], []),
  (120, .aload_n 0, 1, [], []),
  (121, .getfield 26, 3, [11, 2], [7]),
  (124, .getfield 247, 3, [2, 7], [65]),
  (127, .iload_n 1, 1, [], []),
  (128, .iaload, 1, [], []),
  (129, .ireturn, 1, [0], [])]
def mX11_right : pv_M := (⟨"CliffGarden", "right", "(II)I"⟩, prog_1_method_21_code, 5, some .int, rX11_right)
def rX11_food : List pv_R := [
  (0, .iload_n 1, 1, [], []),
  (1, .invokestatic 160, 3, [140, 1], [125]),
  (4, .ifCond .eq 15, 3, [9], []),
  (7, .aload_n 0, 1, [], []),
  (8, .getfield 19, 3, [11, 1], [10]),
  (11, .getfield 244, 3, [0, 7], [112]),
  (14, .iload_n 1, 1, [], []),
  (15, .iaload, 1, [], []),
  (16, .goto 4, 3, [10], []),
  (19, .iconst (-1), 1, [], []),
  (20, .ireturn, 1, [0], [])]
def mX11_food : pv_M := (⟨"CliffGarden", "food", "(I)I"⟩, prog_1_method_22_code, 2, some .int, rX11_food)
def rX11_kitchenIs : List pv_R := [
  (0, .iload_n 1, 1, [], []),
  (1, .invokestatic 154, 3, [139, 1], [33]),
  (4, .ifCond .eq 15, 3, [9], []),
  (7, .aload_n 0, 1, [], []),
  (8, .getfield 19, 3, [11, 1], [10]),
  (11, .iload_n 1, 1, [], []),
  (12, .iload_n 2, 1, [], []),
  (13, .invokevirtual 248, 3, [2, 2, 0], [598]),
  (16, .goto 4, 3, [10], []),
  (19, .iconst (-1), 1, [], []),
  (20, .ireturn, 1, [0], [])]
def mX11_kitchenIs : pv_M := (⟨"CliffGarden", "kitchenIs", "(II)I"⟩, prog_1_method_23_code, 3, some .int, rX11_kitchenIs)
def rX11_mayWork : List pv_R := [
  (0, .iload_n 1, 1, [], []),
  (1, .iconst 1, 1, [], []),
  (2, .if_icmp .lt 17, 3, [10], []),
  (5, .iload_n 1, 1, [], []),
  (6, .bipush 99, 2, [], []),
  (8, .if_icmp .gt 11, 3, [10], []),
  (11, .iload_n 2, 1, [], []),
  (12, .iload_n 3, 1, [], []),
  (13, .invokestatic 96, 3, [141, 2], [90]),
  (16, .ifCond .ne 5, 3, [12], []),
  (19, .iconst (-1), 1, [], []),
  (20, .ireturn, 1, [0], []),
  (21, .aload_n 0, 1, [], []),
  (22, .getfield 19, 3, [11, 1], [10]),
  (25, .iload_n 1, 1, [], []),
  (26, .iload_n 2, 1, [], []),
  (27, .iload_n 3, 1, [], []),
  (28, .invokevirtual 249, 3, [1, 3, 0], [283]),
  (31, .ifCond .eq 7, 3, [21], []),
  (34, .iconst 1, 1, [], []),
  (35, .goto 4, 3, [22], []),
  (38, .iconst 0, 1, [], []),
  (39, .ireturn, 1, [0], [])]
def mX11_mayWork : pv_M := (⟨"CliffGarden", "mayWork", "(III)I"⟩, prog_1_method_24_code, 4, some .int, rX11_mayWork)
def rX11_work : List pv_R := [
  (0, .lload_n 3, 1, [], []),
  (1, .bipush 8, 2, [], []),
  (3, .invokestatic 253, 3, [143, 2], [171]),
  (6, .istore 6, 2, [], []),
  (8, .iload_n 1, 1, [], []),
  (9, .iconst 1, 1, [], []),
  (10, .if_icmp .lt 35, 3, [22], []),
  (13, .iload_n 1, 1, [], []),
  (14, .bipush 99, 2, [], []),
  (16, .if_icmp .gt 29, 3, [22], []),
  (19, .iload_n 2, 1, [], []),
  (20, .invokestatic 154, 3, [139, 1], [33]),
  (23, .ifCond .eq 22, 3, [22], []),
  (26, .iload 6, 2, [], []),
  (28, .iconst 1, 1, [], []),
  (29, .if_icmp .lt 16, 3, [22], []),
  (32, .iload 5, 2, [], []),
  (34, .iconst (-1), 1, [], []),
  (35, .if_icmp .lt 10, 3, [22], []),
  (38, .iload 5, 2, [], []),
  (40, .iload 6, 2, [], []),
  (42, .if_icmp .lt 6, 3, [24], []),
  (45, .bipush (-3), 2, [], []),
  (47, .ireturn, 1, [0], []),
  (48, .iconst 0, 1, [], []),
  (49, .istore 7, 2, [], []),
  (51, .iload 7, 2, [], []),
  (53, .bipush 48, 2, [], []),
  (55, .if_icmp .ge 42, 3, [48], []),
  (58, .lload_n 3, 1, [], []),
  (59, .iload 7, 2, [], []),
  (61, .invokestatic 257, 3, [142, 2], [257]),
  (64, .ifCond .eq 27, 3, [46], []),
  (67, .aload_n 0, 1, [], []),
  (68, .getfield 19, 3, [11, 1], [10]),
  (71, .iload_n 1, 1, [], []),
  (72, .iload 7, 2, [], []),
  (74, .bipush 6, 2, [], []),
  (76, .idiv, 1, [], []),
  (77, .iload 7, 2, [], []),
  (79, .bipush 6, 2, [], []),
  (81, .irem, 1, [], []),
  (82, .invokevirtual 249, 3, [1, 3, 0], [283]),
  (85, .ifCond .ne 6, 3, [46], []),
  (88, .bipush (-2), 2, [], []),
  (90, .ireturn, 1, [0], []),
  (91, .iinc 7 1, 3, [], []),
  (94, .goto (-43), 3, [26], []),
  (97, .aload_n 0, 1, [], []),
  (98, .getfield 65, 3, [11, 7], [30]),
  (101, .lload_n 3, 1, [], []),
  (102, .invokevirtual 261, 3, [63, 1, 6], [284]),
  (105, .aload_n 0, 1, [], []),
  (106, .getfield 65, 3, [11, 7], [30]),
  (109, .iload_n 2, 1, [], []),
  (110, .invokevirtual 265, 3, [64, 1, 6], [599]),
  (113, .aload_n 0, 1, [], []),
  (114, .getfield 65, 3, [11, 7], [30]),
  (117, .invokevirtual 268, 3, [67, 0, 6], [285]),
  (120, .iload 5, 2, [], []),
  (122, .iconst (-1), 1, [], []),
  (123, .if_icmp .ne 13, 3, [66], []),
  (126, .aload_n 0, 1, [], []),
  (127, .getfield 65, 3, [11, 7], [30]),
  (130, .invokevirtual 271, 3, [72, 0, 6], [286]),
  (133, .goto 12, 3, [70], []),
  (136, .aload_n 0, 1, [], []),
  (137, .getfield 65, 3, [11, 7], [30]),
  (140, .iload 5, 2, [], []),
  (142, .invokevirtual 274, 3, [73, 1, 6], [287]),
  (145, .ireturn, 1, [0], [])]
def mX11_work : pv_M := (⟨"CliffGarden", "work", "(IIJI)I"⟩, prog_1_method_25_code, 8, some .int, rX11_work)
def rX11_pollen : List pv_R := [
  (0, .iload_n 1, 1, [], []),
  (1, .invokestatic 154, 3, [139, 1], [33]),
  (4, .ifCond .eq 40, 3, [20], []),
  (7, .iload_n 2, 1, [], []),
  (8, .invokestatic 154, 3, [139, 1], [33]),
  (11, .ifCond .eq 33, 3, [20], []),
  (14, .iload_n 3, 1, [], []),
  (15, .iconst 5, 1, [], []),
  (16, .invokestatic 100, 3, [138, 2], [11]),
  (19, .ifCond .eq 25, 3, [20], []),
  (22, .iload 4, 2, [], []),
  (24, .iconst 1, 1, [], []),
  (25, .if_icmp .lt 19, 3, [20], []),
  (28, .iload 4, 2, [], []),
  (30, .bipush 12, 2, [], []),
  (32, .if_icmp .gt 12, 3, [20], []),
  (35, .iload 5, 2, [], []),
  (37, .iconst 1, 1, [], []),
  (38, .invokestatic 100, 3, [138, 2], [11]),
  (41, .ifCond .ne 7, 3, [22], []),
  (44, .ldc2_w 228, 3, [18446744073709551615], [243]),
  (47, .lreturn, 1, [], []),
  (48, .aload_n 0, 1, [], []),
  (49, .getfield 81, 3, [11, 9], [143]),
  (52, .iload_n 1, 1, [], []),
  (53, .iload_n 2, 1, [], []),
  (54, .aload_n 0, 1, [], []),
  (55, .getfield 12, 3, [11, 0], [0]),
  (58, .iload_n 3, 1, [], []),
  (59, .invokevirtual 277, 3, [35, 1, 3], [600]),
  (62, .iload 4, 2, [], []),
  (64, .invokevirtual 280, 3, [80, 4, 8], [601]),
  (67, .iload 5, 2, [], []),
  (69, .ifCond .ne 14, 3, [39], []),
  (72, .aload_n 0, 1, [], []),
  (73, .getfield 81, 3, [11, 9], [143]),
  (76, .getfield 284, 3, [8, 2], [356]),
  (79, .i2l, 1, [], []),
  (80, .goto 11, 3, [43], []),
  (83, .aload_n 0, 1, [], []),
  (84, .getfield 81, 3, [11, 9], [143]),
  (87, .getfield 287, 3, [8, 3], [357]),
  (90, .i2l, 1, [], []),
  (91, .lreturn, 1, [], [])]
def mX11_pollen : pv_M := (⟨"CliffGarden", "pollen", "(IIIII)J"⟩, prog_1_method_26_code, 6, some .long, rX11_pollen)
def rX11_pollinate : List pv_R := [
  (0, .iload_n 1, 1, [], []),
  (1, .invokestatic 154, 3, [139, 1], [33]),
  (4, .ifCond .eq 11, 3, [7], []),
  (7, .iload_n 2, 1, [], []),
  (8, .iconst 5, 1, [], []),
  (9, .invokestatic 100, 3, [138, 2], [11]),
  (12, .ifCond .ne 5, 3, [9], []),
  (15, .iconst (-1), 1, [], []),
  (16, .ireturn, 1, [0], []),
  (17, .iconst 0, 1, [], []),
  (18, .istore_n 3, 1, [], []),
  (19, .iconst 0, 1, [], []),
  (20, .istore 4, 2, [], []),
  (22, .iload 4, 2, [], []),
  (24, .bipush 6, 2, [], []),
  (26, .if_icmp .ge 71, 3, [49], []),
  (29, .iload_n 1, 1, [], []),
  (30, .bipush 6, 2, [], []),
  (32, .imul, 1, [], []),
  (33, .iload 4, 2, [], []),
  (35, .iadd, 1, [], []),
  (36, .istore 5, 2, [], []),
  (38, .aload_n 0, 1, [], []),
  (39, .getfield 12, 3, [11, 0], [0]),
  (42, .iload 5, 2, [], []),
  (44, .invokevirtual 147, 3, [22, 1, 3], [42]),
  (47, .ifCond .eq 44, 3, [47], []),
  (50, .aload_n 0, 1, [], []),
  (51, .getfield 12, 3, [11, 0], [0]),
  (54, .getfield 290, 3, [3, 5], [358]),
  (57, .iload 5, 2, [], []),
  (59, .iaload, 1, [], []),
  (60, .iload_n 2, 1, [], []),
  (61, .if_icmp .ne 30, 3, [47], []),
  (64, .aload_n 0, 1, [], []),
  (65, .getfield 12, 3, [11, 0], [0]),
  (68, .getfield 293, 3, [3, 9], [220]),
  (71, .iload 5, 2, [], []),
  (73, .baload, 1, [1], []),
  (74, .ifCond .ne 17, 3, [47], []),
  (77, .aload_n 0, 1, [], []),
  (78, .getfield 12, 3, [11, 0], [0]),
  (81, .getfield 293, 3, [3, 9], [220]),
  (84, .iload 5, 2, [], []),
  (86, .iconst 1, 1, [], []),
  (87, .bastore, 1, [1], []),
  (88, .iinc 3 1, 3, [], []),
  (91, .iinc 4 1, 3, [], []),
  (94, .goto (-72), 3, [13], []),
  (97, .iload_n 3, 1, [], []),
  (98, .ireturn, 1, [0], [])]
def mX11_pollinate : pv_M := (⟨"CliffGarden", "pollinate", "(II)I"⟩, prog_1_method_27_code, 6, some .int, rX11_pollinate)
def rX11_planted : List pv_R := [
  (0, .lload_n 1, 1, [], []),
  (1, .iconst 5, 1, [], []),
  (2, .invokestatic 253, 3, [143, 2], [171]),
  (5, .istore 4, 2, [], []),
  (7, .iload 4, 2, [], []),
  (9, .iconst 1, 1, [], []),
  (10, .if_icmp .lt 20, 3, [16], []),
  (13, .iload_n 3, 1, [], []),
  (14, .iconst (-1), 1, [], []),
  (15, .if_icmp .lt 15, 3, [16], []),
  (18, .iload_n 3, 1, [], []),
  (19, .iload 4, 2, [], []),
  (21, .if_icmp .lt 12, 3, [18], []),
  (24, .iload_n 3, 1, [], []),
  (25, .bipush 10, 2, [], []),
  (27, .if_icmp .eq 6, 3, [18], []),
  (30, .bipush (-3), 2, [], []),
  (32, .ireturn, 1, [0], []),
  (33, .iconst 0, 1, [], []),
  (34, .istore 5, 2, [], []),
  (36, .iload 5, 2, [], []),
  (38, .bipush 48, 2, [], []),
  (40, .if_icmp .ge 45, 3, [41], []),
  (43, .lload_n 1, 1, [], []),
  (44, .iload 5, 2, [], []),
  (46, .invokestatic 257, 3, [142, 2], [257]),
  (49, .ifCond .eq 30, 3, [39], []),
  (52, .aload_n 0, 1, [], []),
  (53, .getfield 12, 3, [11, 0], [0]),
  (56, .iload 5, 2, [], []),
  (58, .invokevirtual 103, 3, [21, 1, 3], [41]),
  (61, .ifCond .eq 15, 3, [37], []),
  (64, .aload_n 0, 1, [], []),
  (65, .getfield 12, 3, [11, 0], [0]),
  (68, .iload 5, 2, [], []),
  (70, .invokevirtual 147, 3, [22, 1, 3], [42]),
  (73, .ifCond .eq 6, 3, [39], []),
  (76, .bipush (-3), 2, [], []),
  (78, .ireturn, 1, [0], []),
  (79, .iinc 5 1, 3, [], []),
  (82, .goto (-46), 3, [20], []),
  (85, .aload_n 0, 1, [], []),
  (86, .getfield 74, 3, [11, 8], [106]),
  (89, .lload_n 1, 1, [], []),
  (90, .invokevirtual 297, 3, [38, 1, 4], [602]),
  (93, .ifCond .ne 6, 3, [48], []),
  (96, .bipush (-2), 2, [], []),
  (98, .ireturn, 1, [0], []),
  (99, .iload_n 3, 1, [], []),
  (100, .bipush 10, 2, [], []),
  (102, .if_icmp .ne 10, 3, [54], []),
  (105, .aload_n 0, 1, [], []),
  (106, .getfield 74, 3, [11, 8], [106]),
  (109, .invokevirtual 301, 3, [42, 0, 4], [603]),
  (112, .iload_n 3, 1, [], []),
  (113, .iconst (-1), 1, [], []),
  (114, .if_icmp .eq 9, 3, [60], []),
  (117, .iload_n 3, 1, [], []),
  (118, .bipush 10, 2, [], []),
  (120, .if_icmp .ne 13, 3, [64], []),
  (123, .aload_n 0, 1, [], []),
  (124, .getfield 74, 3, [11, 8], [106]),
  (127, .getfield 304, 3, [4, 7], [359]),
  (130, .goto 11, 3, [68], []),
  (133, .aload_n 0, 1, [], []),
  (134, .getfield 74, 3, [11, 8], [106]),
  (137, .iload_n 3, 1, [], []),
  (138, .invokevirtual 307, 3, [43, 1, 4], [604]),
  (141, .ireturn, 1, [0], [])]
def mX11_planted : pv_M := (⟨"CliffGarden", "planted", "(JI)I"⟩, prog_1_method_28_code, 6, some .int, rX11_planted)
def rX11_drought : List pv_R := [
  (0, .iload_n 1, 1, [], []),
  (1, .bipush 36, 2, [], []),
  (3, .invokestatic 100, 3, [138, 2], [11]),
  (6, .ifCond .eq 15, 3, [10], []),
  (9, .iload_n 2, 1, [], []),
  (10, .iconst 1, 1, [], []),
  (11, .if_icmp .lt 10, 3, [10], []),
  (14, .iload_n 2, 1, [], []),
  (15, .sipush 256, 3, [], []),
  (18, .if_icmp .lt 6, 3, [12], []),
  (21, .bipush (-2), 2, [], []),
  (23, .ireturn, 1, [0], []),
  (24, .iload_n 2, 1, [], []),
  (25, .invokestatic 310, 3, [248, 1], [557]),
  (28, .istore 4, 2, [], []),
  (30, .iload 4, 2, [], []),
  (32, .iconst 4, 1, [], []),
  (33, .if_icmp .gt 14, 3, [24], []),
  (36, .iload_n 3, 1, [], []),
  (37, .iconst (-1), 1, [], []),
  (38, .if_icmp .lt 9, 3, [24], []),
  (41, .iload_n 3, 1, [], []),
  (42, .iload 4, 2, [], []),
  (44, .if_icmp .lt 6, 3, [26], []),
  (47, .bipush (-2), 2, [], []),
  (49, .ireturn, 1, [0], []),
  (50, .aload_n 0, 1, [], []),
  (51, .getfield 44, 3, [11, 4], [63]),
  (54, .iload_n 1, 1, [], []),
  (55, .iload_n 2, 1, [], []),
  (56, .invokevirtual 315, 3, [89, 2, 10], [605]),
  (59, .iload_n 3, 1, [], []),
  (60, .iconst (-1), 1, [], []),
  (61, .if_icmp .ne 13, 3, [38], []),
  (64, .aload_n 0, 1, [], []),
  (65, .getfield 44, 3, [11, 4], [63]),
  (68, .getfield 319, 3, [10, 10], [360]),
  (71, .goto 11, 3, [42], []),
  (74, .aload_n 0, 1, [], []),
  (75, .getfield 44, 3, [11, 4], [63]),
  (78, .iload_n 3, 1, [], []),
  (79, .invokevirtual 322, 3, [93, 1, 10], [606]),
  (82, .ireturn, 1, [0], [])]
def mX11_drought : pv_M := (⟨"CliffGarden", "drought", "(III)I"⟩, prog_1_method_29_code, 5, some .int, rX11_drought)
def rX11_mended : List pv_R := [
  (0, .lload_n 1, 1, [], []),
  (1, .bipush 8, 2, [], []),
  (3, .invokestatic 253, 3, [143, 2], [171]),
  (6, .istore 4, 2, [], []),
  (8, .iload 4, 2, [], []),
  (10, .iconst 1, 1, [], []),
  (11, .if_icmp .lt 28, 3, [21], []),
  (14, .lload_n 1, 1, [], []),
  (15, .aload_n 0, 1, [], []),
  (16, .getfield 12, 3, [11, 0], [0]),
  (19, .getfield 107, 3, [3, 0], [108]),
  (22, .land, 1, [], []),
  (23, .lconst 0, 1, [], []),
  (24, .lcmp, 1, [], []),
  (25, .ifCond .ne 14, 3, [21], []),
  (28, .iload_n 3, 1, [], []),
  (29, .iconst (-1), 1, [], []),
  (30, .if_icmp .lt 9, 3, [21], []),
  (33, .iload_n 3, 1, [], []),
  (34, .iload 4, 2, [], []),
  (36, .if_icmp .lt 6, 3, [23], []),
  (39, .bipush (-3), 2, [], []),
  (41, .ireturn, 1, [0], []),
  (42, .aload_n 0, 1, [], []),
  (43, .getfield 65, 3, [11, 7], [30]),
  (46, .lload_n 1, 1, [], []),
  (47, .invokevirtual 261, 3, [63, 1, 6], [284]),
  (50, .aload_n 0, 1, [], []),
  (51, .getfield 65, 3, [11, 7], [30]),
  (54, .aload_n 0, 1, [], []),
  (55, .getfield 19, 3, [11, 1], [10]),
  (58, .getfield 172, 3, [0, 6], [218]),
  (61, .invokevirtual 325, 3, [66, 1, 6], [607]),
  (64, .aload_n 0, 1, [], []),
  (65, .getfield 65, 3, [11, 7], [30]),
  (68, .invokevirtual 268, 3, [67, 0, 6], [285]),
  (71, .iload_n 3, 1, [], []),
  (72, .iconst (-1), 1, [], []),
  (73, .if_icmp .ne 13, 3, [43], []),
  (76, .aload_n 0, 1, [], []),
  (77, .getfield 65, 3, [11, 7], [30]),
  (80, .invokevirtual 271, 3, [72, 0, 6], [286]),
  (83, .goto 11, 3, [47], []),
  (86, .aload_n 0, 1, [], []),
  (87, .getfield 65, 3, [11, 7], [30]),
  (90, .iload_n 3, 1, [], []),
  (91, .invokevirtual 274, 3, [73, 1, 6], [287]),
  (94, .ireturn, 1, [0], [])]
def mX11_mended : pv_M := (⟨"CliffGarden", "mended", "(JI)I"⟩, prog_1_method_30_code, 5, some .int, rX11_mended)
def rX11_hail : List pv_R := [
  (0, .iload_n 1, 1, [], []),
  (1, .bipush 63, 2, [], []),
  (3, .invokestatic 100, 3, [138, 2], [11]),
  (6, .ifCond .ne 5, 3, [6], []),
  (9, .iconst (-1), 1, [], []),
  (10, .ireturn, 1, [0], []),
  (11, .iconst 0, 1, [], []),
  (12, .istore_n 2, 1, [], []),
  (13, .iconst 0, 1, [], []),
  (14, .istore_n 3, 1, [], []),
  (15, .iload_n 3, 1, [], []),
  (16, .bipush 8, 2, [], []),
  (18, .if_icmp .ge 33, 3, [27], []),
  (21, .aload_n 0, 1, [], []),
  (22, .getfield 12, 3, [11, 0], [0]),
  (25, .iload_n 3, 1, [], []),
  (26, .iload_n 1, 1, [], []),
  (27, .invokevirtual 329, 3, [36, 2, 3], [608]),
  (30, .aload_n 0, 1, [], []),
  (31, .getfield 19, 3, [11, 1], [10]),
  (34, .getfield 166, 3, [0, 2], [147]),
  (37, .iload_n 3, 1, [], []),
  (38, .iaload, 1, [], []),
  (39, .if_icmp .le 6, 3, [25], []),
  (42, .iinc 2 1, 3, [], []),
  (45, .iinc 3 1, 3, [], []),
  (48, .goto (-33), 3, [10], []),
  (51, .iload_n 2, 1, [], []),
  (52, .ireturn, 1, [0], [])]
def mX11_hail : pv_M := (⟨"CliffGarden", "hail", "(I)I"⟩, prog_1_method_31_code, 4, some .int, rX11_hail)
def rX11_check : List pv_R := [
  (0, .iload_n 1, 1, [], []),
  (1, .invokestatic 154, 3, [139, 1], [33]),
  (4, .ifCond .eq 20, 3, [12], []),
  (7, .iload_n 2, 1, [], []),
  (8, .ifCond .lt 16, 3, [12], []),
  (11, .iload_n 2, 1, [], []),
  (12, .aload_n 0, 1, [], []),
  (13, .getfield 51, 3, [11, 5], [20]),
  (16, .getfield 176, 3, [9, 1], [51]),
  (19, .iconst 4, 1, [], []),
  (20, .idiv, 1, [], []),
  (21, .if_icmp .le 6, 3, [14], []),
  (24, .bipush (-2), 2, [], []),
  (26, .ireturn, 1, [0], []),
  (27, .aload_n 0, 1, [], []),
  (28, .getfield 51, 3, [11, 5], [20]),
  (31, .iconst 0, 1, [], []),
  (32, .putfield 176, 3, [9, 1], [51]),
  (35, .iconst 0, 1, [], []),
  (36, .istore_n 3, 1, [], []),
  (37, .iload_n 3, 1, [], []),
  (38, .iload_n 2, 1, [], []),
  (39, .if_icmp .ge 66, 3, [55], []),
  (42, .iload_n 3, 1, [], []),
  (43, .bipush 6, 2, [], []),
  (45, .if_icmp .ge 60, 3, [55], []),
  (48, .iload_n 1, 1, [], []),
  (49, .bipush 6, 2, [], []),
  (51, .imul, 1, [], []),
  (52, .iload_n 3, 1, [], []),
  (53, .iadd, 1, [], []),
  (54, .istore 4, 2, [], []),
  (56, .aload_n 0, 1, [], []),
  (57, .getfield 12, 3, [11, 0], [0]),
  (60, .iload 4, 2, [], []),
  (62, .invokevirtual 147, 3, [22, 1, 3], [42]),
  (65, .ifCond .eq 16, 3, [43], []),
  (68, .aload_n 0, 1, [], []),
  (69, .getfield 12, 3, [11, 0], [0]),
  (72, .getfield 332, 3, [3, 6], [149]),
  (75, .iload 4, 2, [], []),
  (77, .iaload, 1, [], []),
  (78, .goto 4, 3, [44], []),
  (81, .iconst (-1), 1, [], []),
  (82, .istore 5, 2, [], []),
  (84, .aload_n 0, 1, [], []),
  (85, .getfield 51, 3, [11, 5], [20]),
  (88, .iload_n 3, 1, [], []),
  (89, .invokevirtual 335, 3, [85, 1, 9], [609]),
  (92, .iload 5, 2, [], []),
  (94, .if_icmp .eq 5, 3, [53], []),
  (97, .iload_n 3, 1, [], []),
  (98, .ireturn, 1, [0], []),
  (99, .iinc 3 1, 3, [], []),
  (102, .goto (-65), 3, [20], []),
  (105, .iload_n 2, 1, [], []),
  (106, .bipush 6, 2, [], []),
  (108, .if_icmp .ne 7, 3, [60], []),
  (111, .iconst (-1), 1, [], []),
  (112, .goto 9, 3, [63], []),
  (115, .iload_n 2, 1, [], []),
  (116, .bipush 6, 2, [], []),
  (118, .invokestatic 338, 3, [1], [253]),
  (121, .ireturn, 1, [0], [])]
def mX11_check : pv_M := (⟨"CliffGarden", "check", "(II)I"⟩, prog_1_method_32_code, 6, some .int, rX11_check)
def rX11_count : List pv_R := [
  (0, .iload_n 1, 1, [], []),
  (1, .tableswitch 102 0 6 #[43, 54, 62, 70, 81, 89, 94], 43, [31, 2, 7, 11, 15, 20, 24, 27], []),
  (44, .aload_n 0, 1, [], []),
  (45, .getfield 12, 3, [11, 0], [0]),
  (48, .getfield 107, 3, [3, 0], [108]),
  (51, .invokestatic 343, 3, [249, 1], [258]),
  (54, .ireturn, 1, [0], []),
  (55, .aload_n 0, 1, [], []),
  (56, .getfield 19, 3, [11, 1], [10]),
  (59, .getfield 225, 3, [0, 8], [111]),
  (62, .ireturn, 1, [0], []),
  (63, .aload_n 0, 1, [], []),
  (64, .getfield 26, 3, [11, 2], [7]),
  (67, .getfield 348, 3, [2, 9], [361]),
  (70, .ireturn, 1, [0], []),
  (71, .aload_n 0, 1, [], []),
  (72, .getfield 35, 3, [11, 3], [23]),
  (75, .getfield 186, 3, [1, 4], [148]),
  (78, .getfield 351, 3, [7, 7], [362]),
  (81, .ireturn, 1, [0], []),
  (82, .aload_n 0, 1, [], []),
  (83, .getfield 51, 3, [11, 5], [20]),
  (86, .getfield 176, 3, [9, 1], [51]),
  (89, .ireturn, 1, [0], []),
  (90, .aload_n 0, 1, [], []),
  (91, .getfield 92, 3, [11, 11], [64]),
  (94, .ireturn, 1, [0], []),
  (95, .aload_n 0, 1, [], []),
  (96, .getfield 12, 3, [11, 0], [0]),
  (99, .invokevirtual 354, 3, [27, 0, 3], [610]),
  (102, .ireturn, 1, [0], []),
  (103, .aload_n 0, 1, [], []),
  (104, .iload_n 1, 1, [], []),
  (105, .invokevirtual 357, 3, [127, 1, 11], [611]),
  (108, .ireturn, 1, [0], [])]
def mX11_count : pv_M := (⟨"CliffGarden", "count", "(I)I"⟩, prog_1_method_33_code, 2, some .int, rX11_count)
def rX11_countOfRow : List pv_R := [
  (0, .iload_n 1, 1, [], []),
  (1, .bipush 10, 2, [], []),
  (3, .if_icmp .lt 22, 3, [14], []),
  (6, .iload_n 1, 1, [], []),
  (7, .bipush 18, 2, [], []),
  (9, .if_icmp .ge 16, 3, [14], []),
  (12, .aload_n 0, 1, [], []),
  (13, .getfield 19, 3, [11, 1], [10]),
  (16, .getfield 157, 3, [0, 0], [146]),
  (19, .iload_n 1, 1, [], []),
  (20, .bipush 10, 2, [], []),
  (22, .isub, 1, [], []),
  (23, .iaload, 1, [], []),
  (24, .ireturn, 1, [0], []),
  (25, .iload_n 1, 1, [], []),
  (26, .bipush 20, 2, [], []),
  (28, .if_icmp .lt 9, 3, [20], []),
  (31, .iload_n 1, 1, [], []),
  (32, .bipush 38, 2, [], []),
  (34, .if_icmp .lt 5, 3, [22], []),
  (37, .iconst (-1), 1, [], []),
  (38, .ireturn, 1, [0], []),
  (39, .iload_n 1, 1, [], []),
  (40, .bipush 20, 2, [], []),
  (42, .isub, 1, [], []),
  (43, .iconst 3, 1, [], []),
  (44, .idiv, 1, [], []),
  (45, .istore_n 2, 1, [], []),
  (46, .iload_n 1, 1, [], []),
  (47, .bipush 20, 2, [], []),
  (49, .isub, 1, [], []),
  (50, .iconst 3, 1, [], []),
  (51, .irem, 1, [], []),
  (52, .istore_n 3, 1, [], []),
  (53, .iload_n 3, 1, [], []),
  (54, .ifCond .ne 13, 3, [42], []),
  (57, .aload_n 0, 1, [], []),
  (58, .getfield 12, 3, [11, 0], [0]),
  (61, .getfield 138, 3, [3, 10], [216]),
  (64, .iload_n 2, 1, [], []),
  (65, .iaload, 1, [], []),
  (66, .ireturn, 1, [0], []),
  (67, .iload_n 3, 1, [], []),
  (68, .iconst 1, 1, [], []),
  (69, .if_icmp .ne 15, 3, [51], []),
  (72, .aload_n 0, 1, [], []),
  (73, .getfield 12, 3, [11, 0], [0]),
  (76, .getfield 141, 3, [3, 11], [217]),
  (79, .iload_n 2, 1, [], []),
  (80, .iaload, 1, [], []),
  (81, .goto 12, 3, [56], []),
  (84, .aload_n 0, 1, [], []),
  (85, .getfield 12, 3, [11, 0], [0]),
  (88, .getfield 144, 3, [3, 12], [145]),
  (91, .iload_n 2, 1, [], []),
  (92, .iaload, 1, [], []),
  (93, .ireturn, 1, [0], [])]
def mX11_countOfRow : pv_M := (⟨"CliffGarden", "countOfRow", "(I)I"⟩, prog_1_method_34_code, 4, some .int, rX11_countOfRow)
def rX11_letWaterFlow : List pv_R := [
  (0, .aload_n 0, 1, [], []),
  (1, .getfield 44, 3, [11, 4], [63]),
  (4, .aload_n 0, 1, [], []),
  (5, .getfield 19, 3, [11, 1], [10]),
  (8, .getfield 157, 3, [0, 0], [146]),
  (11, .aload_n 0, 1, [], []),
  (12, .getfield 12, 3, [11, 0], [0]),
  (15, .getfield 127, 3, [3, 8], [110]),
  (18, .invokevirtual 360, 3, [87, 2, 10], [612]),
  (21, .iconst 0, 1, [], []),
  (22, .istore_n 1, 1, [], []),
  (23, .iconst 0, 1, [], []),
  (24, .istore_n 2, 1, [], []),
  (25, .iload_n 2, 1, [], []),
  (26, .bipush 8, 2, [], []),
  (28, .if_icmp .ge 42, 3, [39], []),
  (31, .aload_n 0, 1, [], []),
  (32, .getfield 19, 3, [11, 1], [10]),
  (35, .getfield 364, 3, [0, 3], [363]),
  (38, .iload_n 2, 1, [], []),
  (39, .dup2, 1, [], []),
  (40, .iaload, 1, [], []),
  (41, .aload_n 0, 1, [], []),
  (42, .getfield 44, 3, [11, 4], [63]),
  (45, .getfield 367, 3, [10, 2], [221]),
  (48, .iload_n 2, 1, [], []),
  (49, .iaload, 1, [], []),
  (50, .iadd, 1, [], []),
  (51, .iastore, 1, [], []),
  (52, .iload_n 1, 1, [], []),
  (53, .aload_n 0, 1, [], []),
  (54, .getfield 44, 3, [11, 4], [63]),
  (57, .getfield 367, 3, [10, 2], [221]),
  (60, .iload_n 2, 1, [], []),
  (61, .iaload, 1, [], []),
  (62, .iadd, 1, [], []),
  (63, .istore_n 1, 1, [], []),
  (64, .iinc 2 1, 3, [], []),
  (67, .goto (-42), 3, [13], []),
  (70, .iload_n 1, 1, [], []),
  (71, .ireturn, 1, [0], [])]
def mX11_letWaterFlow : pv_M := (⟨"CliffGarden", "letWaterFlow", "()I"⟩, prog_1_method_35_code, 3, some .int, rX11_letWaterFlow)
def rX11_letCropsGrow : List pv_R := [
  (0, .iconst 0, 1, [], []),
  (1, .istore_n 1, 1, [], []),
  (2, .iload_n 1, 1, [], []),
  (3, .bipush 48, 2, [], []),
  (5, .if_icmp .ge 62, 3, [34], []),
  (8, .aload_n 0, 1, [], []),
  (9, .getfield 12, 3, [11, 0], [0]),
  (12, .iload_n 1, 1, [], []),
  (13, .invokevirtual 147, 3, [22, 1, 3], [42]),
  (16, .ifCond .eq 45, 3, [32], []),
  (19, .aload_n 0, 1, [], []),
  (20, .getfield 12, 3, [11, 0], [0]),
  (23, .getfield 332, 3, [3, 6], [149]),
  (26, .iload_n 1, 1, [], []),
  (27, .sipush 200, 3, [], []),
  (30, .aload_n 0, 1, [], []),
  (31, .getfield 12, 3, [11, 0], [0]),
  (34, .getfield 332, 3, [3, 6], [149]),
  (37, .iload_n 1, 1, [], []),
  (38, .iaload, 1, [], []),
  (39, .aload_n 0, 1, [], []),
  (40, .getfield 35, 3, [11, 3], [23]),
  (43, .iload_n 1, 1, [], []),
  (44, .aload_n 0, 1, [], []),
  (45, .getfield 12, 3, [11, 0], [0]),
  (48, .getfield 127, 3, [3, 8], [110]),
  (51, .iload_n 1, 1, [], []),
  (52, .iaload, 1, [], []),
  (53, .invokevirtual 196, 3, [4, 2, 1], [278]),
  (56, .iadd, 1, [], []),
  (57, .invokestatic 338, 3, [1], [253]),
  (60, .iastore, 1, [], []),
  (61, .iinc 1 1, 3, [], []),
  (64, .goto (-62), 3, [2], []),
  (67, .return_, 1, [], [])]
def mX11_letCropsGrow : pv_M := (⟨"CliffGarden", "letCropsGrow", "()V"⟩, prog_1_method_36_code, 2, none, rX11_letCropsGrow)
def rX11_letCropsFall : List pv_R := [
  (0, .iconst 0, 1, [], []),
  (1, .istore_n 1, 1, [], []),
  (2, .iload_n 1, 1, [], []),
  (3, .bipush 48, 2, [], []),
  (5, .if_icmp .ge 65, 3, [36], []),
  (8, .aload_n 0, 1, [], []),
  (9, .getfield 12, 3, [11, 0], [0]),
  (12, .iload_n 1, 1, [], []),
  (13, .invokevirtual 147, 3, [22, 1, 3], [42]),
  (16, .ifCond .eq 48, 3, [34], []),
  (19, .aload_n 0, 1, [], []),
  (20, .sipush 25173, 3, [], []),
  (23, .aload_n 0, 1, [], []),
  (24, .getfield 92, 3, [11, 11], [64]),
  (27, .imul, 1, [], []),
  (28, .sipush 13849, 3, [], []),
  (31, .iadd, 1, [], []),
  (32, .ldc 175, 2, [65535], [240]),
  (34, .iand, 1, [], []),
  (35, .putfield 92, 3, [11, 11], [64]),
  (38, .aload_n 0, 1, [], []),
  (39, .getfield 92, 3, [11, 11], [64]),
  (42, .sipush 1000, 3, [], []),
  (45, .irem, 1, [], []),
  (46, .aload_n 0, 1, [], []),
  (47, .getfield 35, 3, [11, 3], [23]),
  (50, .iload_n 1, 1, [], []),
  (51, .invokevirtual 199, 3, [5, 1, 1], [279]),
  (54, .if_icmp .ge 10, 3, [34], []),
  (57, .aload_n 0, 1, [], []),
  (58, .iload_n 1, 1, [], []),
  (59, .iconst 1, 1, [], []),
  (60, .invokevirtual 206, 3, [134, 2, 11], [178]),
  (63, .pop, 1, [], []),
  (64, .iinc 1 1, 3, [], []),
  (67, .goto (-65), 3, [2], []),
  (70, .return_, 1, [], [])]
def mX11_letCropsFall : pv_M := (⟨"CliffGarden", "letCropsFall", "()V"⟩, prog_1_method_37_code, 2, none, rX11_letCropsFall)
def rX11_letKnotsAge : List pv_R := [
  (0, .iconst 0, 1, [], []),
  (1, .istore_n 1, 1, [], []),
  (2, .iload_n 1, 1, [], []),
  (3, .bipush 48, 2, [], []),
  (5, .if_icmp .ge 51, 3, [29], []),
  (8, .aload_n 0, 1, [], []),
  (9, .getfield 12, 3, [11, 0], [0]),
  (12, .iload_n 1, 1, [], []),
  (13, .invokevirtual 103, 3, [21, 1, 3], [41]),
  (16, .ifCond .eq 34, 3, [27], []),
  (19, .aload_n 0, 1, [], []),
  (20, .getfield 12, 3, [11, 0], [0]),
  (23, .getfield 115, 3, [3, 1], [109]),
  (26, .iload_n 1, 1, [], []),
  (27, .iconst 0, 1, [], []),
  (28, .aload_n 0, 1, [], []),
  (29, .getfield 12, 3, [11, 0], [0]),
  (32, .getfield 115, 3, [3, 1], [109]),
  (35, .iload_n 1, 1, [], []),
  (36, .iaload, 1, [], []),
  (37, .aload_n 0, 1, [], []),
  (38, .getfield 35, 3, [11, 3], [23]),
  (41, .iload_n 1, 1, [], []),
  (42, .invokevirtual 192, 3, [6, 1, 1], [277]),
  (45, .isub, 1, [], []),
  (46, .invokestatic 370, 3, [0], [545]),
  (49, .iastore, 1, [], []),
  (50, .iinc 1 1, 3, [], []),
  (53, .goto (-51), 3, [2], []),
  (56, .return_, 1, [], [])]
def mX11_letKnotsAge : pv_M := (⟨"CliffGarden", "letKnotsAge", "()V"⟩, prog_1_method_38_code, 2, none, rX11_letKnotsAge)
def rX11_letKnotsGo : List pv_R := [
  (0, .iconst 0, 1, [], []),
  (1, .istore_n 1, 1, [], []),
  (2, .iconst 0, 1, [], []),
  (3, .istore_n 2, 1, [], []),
  (4, .iload_n 2, 1, [], []),
  (5, .bipush 48, 2, [], []),
  (7, .if_icmp .ge 32, 3, [24], []),
  (10, .aload_n 0, 1, [], []),
  (11, .getfield 12, 3, [11, 0], [0]),
  (14, .invokevirtual 373, 3, [31, 0, 3], [613]),
  (17, .istore_n 3, 1, [], []),
  (18, .iload_n 3, 1, [], []),
  (19, .iconst (-1), 1, [], []),
  (20, .if_icmp .ne 5, 3, [16], []),
  (23, .iload_n 1, 1, [], []),
  (24, .ireturn, 1, [0], []),
  (25, .iload_n 1, 1, [], []),
  (26, .aload_n 0, 1, [], []),
  (27, .iload_n 3, 1, [], []),
  (28, .invokevirtual 376, 3, [133, 1, 11], [614]),
  (31, .iadd, 1, [], []),
  (32, .istore_n 1, 1, [], []),
  (33, .iinc 2 1, 3, [], []),
  (36, .goto (-32), 3, [4], []),
  (39, .iload_n 1, 1, [], []),
  (40, .ireturn, 1, [0], [])]
def mX11_letKnotsGo : pv_M := (⟨"CliffGarden", "letKnotsGo", "()I"⟩, prog_1_method_39_code, 4, some .int, rX11_letKnotsGo)
def rX11_tearDown : List pv_R := [
  (0, .aload_n 0, 1, [], []),
  (1, .getfield 12, 3, [11, 0], [0]),
  (4, .iload_n 1, 1, [], []),
  (5, .invokevirtual 379, 3, [29, 1, 3], [615]),
  (8, .istore_n 2, 1, [], []),
  (9, .iconst 0, 1, [], []),
  (10, .istore_n 3, 1, [], []),
  (11, .iload_n 1, 1, [], []),
  (12, .invokestatic 382, 3, [20, 1], [558]),
  (15, .iconst 1, 1, [], []),
  (16, .isub, 1, [], []),
  (17, .istore 4, 2, [], []),
  (19, .iload 4, 2, [], []),
  (21, .iload_n 1, 1, [], []),
  (22, .if_icmp .lt 66, 3, [45], []),
  (25, .aload_n 0, 1, [], []),
  (26, .getfield 12, 3, [11, 0], [0]),
  (29, .iload 4, 2, [], []),
  (31, .invokevirtual 103, 3, [21, 1, 3], [41]),
  (34, .ifCond .eq 48, 3, [43], []),
  (37, .aload_n 0, 1, [], []),
  (38, .getfield 12, 3, [11, 0], [0]),
  (41, .iload 4, 2, [], []),
  (43, .invokevirtual 147, 3, [22, 1, 3], [42]),
  (46, .ifCond .eq 11, 3, [30], []),
  (49, .aload_n 0, 1, [], []),
  (50, .iload 4, 2, [], []),
  (52, .iconst 0, 1, [], []),
  (53, .invokevirtual 206, 3, [134, 2, 11], [178]),
  (56, .pop, 1, [], []),
  (57, .aload_n 0, 1, [], []),
  (58, .getfield 12, 3, [11, 0], [0]),
  (61, .getfield 111, 3, [3, 2], [215]),
  (64, .iload 4, 2, [], []),
  (66, .iconst 0, 1, [], []),
  (67, .iastore, 1, [], []),
  (68, .aload_n 0, 1, [], []),
  (69, .getfield 12, 3, [11, 0], [0]),
  (72, .getfield 124, 3, [3, 7], [144]),
  (75, .iload 4, 2, [], []),
  (77, .iconst 0, 1, [], []),
  (78, .iastore, 1, [], []),
  (79, .iinc 3 1, 3, [], []),
  (82, .iinc 4 (-1), 3, [], []),
  (85, .goto (-66), 3, [12], []),
  (88, .aload_n 0, 1, [], []),
  (89, .getfield 12, 3, [11, 0], [0]),
  (92, .iload_n 1, 1, [], []),
  (93, .iload_n 2, 1, [], []),
  (94, .invokevirtual 385, 3, [32, 2, 3], [616]),
  (97, .iload_n 3, 1, [], []),
  (98, .ireturn, 1, [0], [])]
def mX11_tearDown : pv_M := (⟨"CliffGarden", "tearDown", "(I)I"⟩, prog_1_method_40_code, 5, some .int, rX11_tearDown)
def rX11_dropCrop : List pv_R := [
  (0, .aload_n 0, 1, [], []),
  (1, .getfield 26, 3, [11, 2], [7]),
  (4, .aload_n 0, 1, [], []),
  (5, .getfield 12, 3, [11, 0], [0]),
  (8, .iload_n 1, 1, [], []),
  (9, .aload_n 0, 1, [], []),
  (10, .getfield 19, 3, [11, 1], [10]),
  (13, .getfield 225, 3, [0, 8], [111]),
  (16, .invokevirtual 388, 3, [15, 3, 2], [617]),
  (19, .istore_n 3, 1, [], []),
  (20, .aload_n 0, 1, [], []),
  (21, .getfield 12, 3, [11, 0], [0]),
  (24, .iload_n 1, 1, [], []),
  (25, .invokevirtual 130, 3, [26, 1, 3], [276]),
  (28, .iload_n 2, 1, [], []),
  (29, .ifCond .eq 14, 3, [21], []),
  (32, .aload_n 0, 1, [], []),
  (33, .getfield 35, 3, [11, 3], [23]),
  (36, .iload_n 3, 1, [], []),
  (37, .invokevirtual 392, 3, [7, 1, 1], [618]),
  (40, .goto 5, 3, [22], []),
  (43, .bipush 6, 2, [], []),
  (45, .istore 4, 2, [], []),
  (47, .aload_n 0, 1, [], []),
  (48, .getfield 26, 3, [11, 2], [7]),
  (51, .getfield 395, 3, [2, 5], [364]),
  (54, .iload_n 3, 1, [], []),
  (55, .iload 4, 2, [], []),
  (57, .iastore, 1, [], []),
  (58, .iload 4, 2, [], []),
  (60, .bipush 6, 2, [], []),
  (62, .if_icmp .ge 55, 3, [64], []),
  (65, .aload_n 0, 1, [], []),
  (66, .getfield 12, 3, [11, 0], [0]),
  (69, .getfield 124, 3, [3, 7], [144]),
  (72, .iload_n 1, 1, [], []),
  (73, .iload_n 1, 1, [], []),
  (74, .bipush 6, 2, [], []),
  (76, .irem, 1, [], []),
  (77, .isub, 1, [], []),
  (78, .iload 4, 2, [], []),
  (80, .iadd, 1, [], []),
  (81, .dup2, 1, [], []),
  (82, .iaload, 1, [], []),
  (83, .aload_n 0, 1, [], []),
  (84, .getfield 26, 3, [11, 2], [7]),
  (87, .getfield 398, 3, [2, 2], [150]),
  (90, .iload_n 3, 1, [], []),
  (91, .iaload, 1, [], []),
  (92, .iadd, 1, [], []),
  (93, .iastore, 1, [], []),
  (94, .aload_n 0, 1, [], []),
  (95, .getfield 26, 3, [11, 2], [7]),
  (98, .getfield 241, 3, [2, 6], [83]),
  (101, .iload_n 3, 1, [], []),
  (102, .iconst (-1), 1, [], []),
  (103, .iastore, 1, [], []),
  (104, .aload_n 0, 1, [], []),
  (105, .getfield 26, 3, [11, 2], [7]),
  (108, .getfield 247, 3, [2, 7], [65]),
  (111, .iload_n 3, 1, [], []),
  (112, .iconst 0, 1, [], []),
  (113, .iastore, 1, [], []),
  (114, .goto 26, 3, [77], []),
  (117, .aload_n 0, 1, [], []),
  (118, .getfield 26, 3, [11, 2], [7]),
  (121, .getfield 241, 3, [2, 6], [83]),
  (124, .iload_n 3, 1, [], []),
  (125, .aload_n 0, 1, [], []),
  (126, .getfield 35, 3, [11, 3], [23]),
  (129, .iload_n 3, 1, [], []),
  (130, .invokevirtual 399, 3, [8, 1, 1], [619]),
  (133, .iastore, 1, [], []),
  (134, .aload_n 0, 1, [], []),
  (135, .iload_n 3, 1, [], []),
  (136, .iload_n 1, 1, [], []),
  (137, .invokevirtual 402, 3, [135, 2, 11], [620]),
  (140, .aload_n 0, 1, [], []),
  (141, .getfield 26, 3, [11, 2], [7]),
  (144, .invokevirtual 405, 3, [16, 0, 2], [621]),
  (147, .iload 4, 2, [], []),
  (149, .ireturn, 1, [0], [])]
def mX11_dropCrop : pv_M := (⟨"CliffGarden", "dropCrop", "(IZ)I"⟩, prog_1_method_41_code, 5, some .int, rX11_dropCrop)
def rX11_landInKitchen : List pv_R := [
  (0, .aload_n 0, 1, [], []),
  (1, .getfield 26, 3, [11, 2], [7]),
  (4, .getfield 241, 3, [2, 6], [83]),
  (7, .iload_n 1, 1, [], []),
  (8, .iaload, 1, [], []),
  (9, .istore_n 3, 1, [], []),
  (10, .iload_n 2, 1, [], []),
  (11, .bipush 6, 2, [], []),
  (13, .idiv, 1, [], []),
  (14, .istore 4, 2, [], []),
  (16, .aload_n 0, 1, [], []),
  (17, .getfield 26, 3, [11, 2], [7]),
  (20, .getfield 247, 3, [2, 7], [65]),
  (23, .iload_n 1, 1, [], []),
  (24, .aload_n 0, 1, [], []),
  (25, .getfield 26, 3, [11, 2], [7]),
  (28, .getfield 398, 3, [2, 2], [150]),
  (31, .iload_n 1, 1, [], []),
  (32, .iaload, 1, [], []),
  (33, .aload_n 0, 1, [], []),
  (34, .getfield 12, 3, [11, 0], [0]),
  (37, .getfield 144, 3, [3, 12], [145]),
  (40, .aload_n 0, 1, [], []),
  (41, .getfield 26, 3, [11, 2], [7]),
  (44, .getfield 408, 3, [2, 1], [365]),
  (47, .iload_n 1, 1, [], []),
  (48, .iaload, 1, [], []),
  (49, .iaload, 1, [], []),
  (50, .imul, 1, [], []),
  (51, .iastore, 1, [], []),
  (52, .aload_n 0, 1, [], []),
  (53, .getfield 19, 3, [11, 1], [10]),
  (56, .getfield 244, 3, [0, 7], [112]),
  (59, .iload_n 3, 1, [], []),
  (60, .dup2, 1, [], []),
  (61, .iaload, 1, [], []),
  (62, .aload_n 0, 1, [], []),
  (63, .getfield 26, 3, [11, 2], [7]),
  (66, .getfield 247, 3, [2, 7], [65]),
  (69, .iload_n 1, 1, [], []),
  (70, .iaload, 1, [], []),
  (71, .iadd, 1, [], []),
  (72, .iastore, 1, [], []),
  (73, .aload_n 0, 1, [], []),
  (74, .getfield 26, 3, [11, 2], [7]),
  (77, .getfield 398, 3, [2, 2], [150]),
  (80, .iload_n 1, 1, [], []),
  (81, .iaload, 1, [], []),
  (82, .bipush 6, 2, [], []),
  (84, .iload_n 2, 1, [], []),
  (85, .bipush 6, 2, [], []),
  (87, .irem, 1, [], []),
  (88, .isub, 1, [], []),
  (89, .imul, 1, [], []),
  (90, .aload_n 0, 1, [], []),
  (91, .getfield 19, 3, [11, 1], [10]),
  (94, .getfield 166, 3, [0, 2], [147]),
  (97, .iload 4, 2, [], []),
  (99, .iaload, 1, [], []),
  (100, .if_icmp .le 17, 3, [69], []),
  (103, .aload_n 0, 1, [], []),
  (104, .getfield 19, 3, [11, 1], [10]),
  (107, .getfield 409, 3, [0, 4], [366]),
  (110, .iload 4, 2, [], []),
  (112, .dup2, 1, [], []),
  (113, .iaload, 1, [], []),
  (114, .iconst 1, 1, [], []),
  (115, .iadd, 1, [], []),
  (116, .iastore, 1, [], []),
  (117, .return_, 1, [], [])]
def mX11_landInKitchen : pv_M := (⟨"CliffGarden", "landInKitchen", "(II)V"⟩, prog_1_method_42_code, 5, none, rX11_landInKitchen)
def rX11_claimantOf : List pv_R := [
  (0, .iconst 0, 1, [], []),
  (1, .istore_n 3, 1, [], []),
  (2, .bipush (-2), 2, [], []),
  (4, .istore 4, 2, [], []),
  (6, .iconst 0, 1, [], []),
  (7, .istore 5, 2, [], []),
  (9, .iload 5, 2, [], []),
  (11, .bipush 8, 2, [], []),
  (13, .if_icmp .ge 43, 3, [30], []),
  (16, .iload_n 2, 1, [], []),
  (17, .iload 5, 2, [], []),
  (19, .ishr, 1, [], []),
  (20, .iconst 1, 1, [], []),
  (21, .iand, 1, [], []),
  (22, .ifCond .eq 28, 3, [28], []),
  (25, .aload_n 0, 1, [], []),
  (26, .getfield 35, 3, [11, 3], [23]),
  (29, .iload_n 1, 1, [], []),
  (30, .iload 5, 2, [], []),
  (32, .invokevirtual 412, 3, [9, 2, 1], [622]),
  (35, .istore 6, 2, [], []),
  (37, .iload 6, 2, [], []),
  (39, .iload_n 3, 1, [], []),
  (40, .if_icmp .le 10, 3, [28], []),
  (43, .iload 6, 2, [], []),
  (45, .istore_n 3, 1, [], []),
  (46, .iload 5, 2, [], []),
  (48, .istore 4, 2, [], []),
  (50, .iinc 5 1, 3, [], []),
  (53, .goto (-44), 3, [6], []),
  (56, .iload 4, 2, [], []),
  (58, .ireturn, 1, [0], [])]
def mX11_claimantOf : pv_M := (⟨"CliffGarden", "claimantOf", "(II)I"⟩, prog_1_method_43_code, 7, some .int, rX11_claimantOf)
def rX11_hungCell : List pv_R := [
  (0, .iload_n 1, 1, [], []),
  (1, .iload_n 2, 1, [], []),
  (2, .invokestatic 96, 3, [141, 2], [90]),
  (5, .ifCond .eq 19, 3, [13], []),
  (8, .aload_n 0, 1, [], []),
  (9, .getfield 12, 3, [11, 0], [0]),
  (12, .iload_n 1, 1, [], []),
  (13, .bipush 6, 2, [], []),
  (15, .imul, 1, [], []),
  (16, .iload_n 2, 1, [], []),
  (17, .iadd, 1, [], []),
  (18, .invokevirtual 103, 3, [21, 1, 3], [41]),
  (21, .ifCond .ne 5, 3, [15], []),
  (24, .iconst (-1), 1, [], []),
  (25, .ireturn, 1, [0], []),
  (26, .iload_n 1, 1, [], []),
  (27, .bipush 6, 2, [], []),
  (29, .imul, 1, [], []),
  (30, .iload_n 2, 1, [], []),
  (31, .iadd, 1, [], []),
  (32, .ireturn, 1, [0], [])]
def mX11_hungCell : pv_M := (⟨"CliffGarden", "hungCell", "(II)I"⟩, prog_1_method_44_code, 3, some .int, rX11_hungCell)
def rX11_within : List pv_R := [
  (0, .iload_n 0, 1, [], []),
  (1, .ifCond .lt 12, 3, [7], []),
  (4, .iload_n 0, 1, [], []),
  (5, .iload_n 1, 1, [], []),
  (6, .if_icmp .gt 7, 3, [7], []),
  (9, .iconst 1, 1, [], []),
  (10, .goto 4, 3, [8], []),
  (13, .iconst 0, 1, [], []),
  (14, .ireturn, 1, [1], [])]
def mX11_within : pv_M := (⟨"CliffGarden", "within", "(II)Z"⟩, prog_1_method_45_code, 2, some .boolean, rX11_within)
def rX11_isColumn : List pv_R := [
  (0, .iload_n 0, 1, [], []),
  (1, .bipush 7, 2, [], []),
  (3, .invokestatic 100, 3, [138, 2], [11]),
  (6, .ireturn, 1, [1], [])]
def mX11_isColumn : pv_M := (⟨"CliffGarden", "isColumn", "(I)Z"⟩, prog_1_method_46_code, 1, some .boolean, rX11_isColumn)
def rX11_isPerson : List pv_R := [
  (0, .iload_n 0, 1, [], []),
  (1, .bipush 7, 2, [], []),
  (3, .invokestatic 100, 3, [138, 2], [11]),
  (6, .ireturn, 1, [1], [])]
def mX11_isPerson : pv_M := (⟨"CliffGarden", "isPerson", "(I)Z"⟩, prog_1_method_47_code, 1, some .boolean, rX11_isPerson)
def rX11_isCell : List pv_R := [
  (0, .iload_n 0, 1, [], []),
  (1, .invokestatic 154, 3, [139, 1], [33]),
  (4, .ifCond .eq 15, 3, [9], []),
  (7, .iload_n 1, 1, [], []),
  (8, .iconst 5, 1, [], []),
  (9, .invokestatic 100, 3, [138, 2], [11]),
  (12, .ifCond .eq 7, 3, [9], []),
  (15, .iconst 1, 1, [], []),
  (16, .goto 4, 3, [10], []),
  (19, .iconst 0, 1, [], []),
  (20, .ireturn, 1, [1], [])]
def mX11_isCell : pv_M := (⟨"CliffGarden", "isCell", "(II)Z"⟩, prog_1_method_48_code, 2, some .boolean, rX11_isCell)
def rX11_isTold : List pv_R := [
  (0, .lload_n 0, 1, [], []),
  (1, .iload_n 2, 1, [], []),
  (2, .lushr, 1, [], []),
  (3, .lconst 1, 1, [], []),
  (4, .land, 1, [], []),
  (5, .lconst 0, 1, [], []),
  (6, .lcmp, 1, [], []),
  (7, .ifCond .eq 7, 3, [10], []),
  (10, .iconst 1, 1, [], []),
  (11, .goto 4, 3, [11], []),
  (14, .iconst 0, 1, [], []),
  (15, .ireturn, 1, [1], [])]
def mX11_isTold : pv_M := (⟨"CliffGarden", "isTold", "(JI)Z"⟩, prog_1_method_49_code, 3, some .boolean, rX11_isTold)
def rX11_toldCells : List pv_R := [
  (0, .lload_n 0, 1, [], []),
  (1, .invokestatic 343, 3, [249, 1], [258]),
  (4, .istore_n 3, 1, [], []),
  (5, .lload_n 0, 1, [], []),
  (6, .bipush 48, 2, [], []),
  (8, .lushr, 1, [], []),
  (9, .lconst 0, 1, [], []),
  (10, .lcmp, 1, [], []),
  (11, .ifCond .ne 8, 3, [12], []),
  (14, .iload_n 3, 1, [], []),
  (15, .iload_n 2, 1, [], []),
  (16, .if_icmp .le 7, 3, [14], []),
  (19, .iconst 0, 1, [], []),
  (20, .goto 4, 3, [15], []),
  (23, .iload_n 3, 1, [], []),
  (24, .ireturn, 1, [0], [])]
def mX11_toldCells : pv_M := (⟨"CliffGarden", "toldCells", "(JI)I"⟩, prog_1_method_50_code, 4, some .int, rX11_toldCells)
def rX12_init : List pv_R := [
  (0, .aload_n 0, 1, [], []),
  (1, .invokespecial 1, 3, [9], [537]),
  (4, .aload_n 0, 1, [], []),
  (5, .bipush 48, 2, [], []),
  (7, .newarray .boolean, 2, [], []),
  (9, .putfield 7, 3, [12, 4], [443]),
  (12, .aload_n 0, 1, [], []),
  (13, .bipush 48, 2, [], []),
  (15, .newarray .boolean, 2, [], []),
  (17, .putfield 13, 3, [12, 5], [444]),
  (20, .aload_n 0, 1, [], []),
  (21, .bipush 48, 2, [], []),
  (23, .newarray .int, 2, [], []),
  (25, .putfield 16, 3, [12, 6], [445]),
  (28, .aload_n 0, 1, [], []),
  (29, .bipush 48, 2, [], []),
  (31, .newarray .int, 2, [], []),
  (33, .putfield 20, 3, [12, 7], [446]),
  (36, .aload_n 0, 1, [], []),
  (37, .bipush 48, 2, [], []),
  (39, .newarray .int, 2, [], []),
  (41, .putfield 23, 3, [12, 8], [447]),
  (44, .aload_n 0, 1, [], []),
  (45, .bipush 48, 2, [], []),
  (47, .newarray .int, 2, [], []),
  (49, .putfield 26, 3, [12, 9], [448]),
  (52, .aload_n 0, 1, [], []),
  (53, .bipush 48, 2, [], []),
  (55, .newarray .int, 2, [], []),
  (57, .putfield 29, 3, [12, 10], [449]),
  (60, .aload_n 0, 1, [], []),
  (61, .bipush 48, 2, [], []),
  (63, .newarray .int, 2, [], []),
  (65, .putfield 32, 3, [12, 11], [450]),
  (68, .aload_n 0, 1, [], []),
  (69, .bipush 48, 2, [], []),
  (71, .newarray .int, 2, [], []),
  (73, .putfield 35, 3, [12, 12], [451]),
  (76, .aload_n 0, 1, [], []),
  (77, .bipush 48, 2, [], []),
  (79, .newarray .int, 2, [], []),
  (81, .putfield 38, 3, [12, 13], [452]),
  (84, .aload_n 0, 1, [], []),
  (85, .bipush 6, 2, [], []),
  (87, .newarray .int, 2, [], []),
  (89, .putfield 41, 3, [12, 14], [453]),
  (92, .aload_n 0, 1, [], []),
  (93, .bipush 6, 2, [], []),
  (95, .newarray .int, 2, [], []),
  (97, .putfield 44, 3, [12, 15], [454]),
  (100, .aload_n 0, 1, [], []),
  (101, .bipush 6, 2, [], []),
  (103, .newarray .int, 2, [], []),
  (105, .putfield 47, 3, [12, 16], [455]),
  (108, .aload_n 0, 1, [], []),
  (109, .bipush 8, 2, [], []),
  (111, .newarray .int, 2, [], []),
  (113, .putfield 50, 3, [12, 17], [456]),
  (116, .aload_n 0, 1, [], []),
  (117, .bipush 8, 2, [], []),
  (119, .newarray .int, 2, [], []),
  (121, .putfield 53, 3, [12, 18], [457]),
  (124, .aload_n 0, 1, [], []),
  (125, .bipush 8, 2, [], []),
  (127, .newarray .int, 2, [], []),
  (129, .putfield 56, 3, [12, 19], [458]),
  (132, .aload_n 0, 1, [], []),
  (133, .bipush 8, 2, [], []),
  (135, .newarray .int, 2, [], []),
  (137, .putfield 59, 3, [12, 20], [459]),
  (140, .aload_n 0, 1, [], []),
  (141, .bipush 8, 2, [], []),
  (143, .newarray .int, 2, [], []),
  (145, .putfield 62, 3, [12, 21], [460]),
  (148, .aload_n 0, 1, [], []),
  (149, .bipush 8, 2, [], []),
  (151, .newarray .int, 2, [], []),
  (153, .putfield 65, 3, [12, 22], [461]),
  (156, .aload_n 0, 1, [], []),
  (157, .bipush 8, 2, [], []),
  (159, .newarray .int, 2, [], []),
  (161, .putfield 68, 3, [12, 23], [462]),
  (164, .aload_n 0, 1, [], []),
  (165, .bipush 8, 2, [], []),
  (167, .newarray .int, 2, [], []),
  (169, .putfield 71, 3, [12, 24], [463]),
  (172, .aload_n 0, 1, [], []),
  (173, .sipush 220, 3, [], []),
  (176, .newarray .byte, 2, [], []),
  (178, .putfield 74, 3, [12, 25], [464]),
  (181, .aload_n 0, 1, [], []),
  (182, .sipush 220, 3, [], []),
  (185, .newarray .int, 2, [], []),
  (187, .putfield 78, 3, [12, 36], [465]),
  (190, .aload_n 0, 1, [], []),
  (191, .sipush 220, 3, [], []),
  (194, .newarray .int, 2, [], []),
  (196, .putfield 81, 3, [12, 37], [466]),
  (199, .aload_n 0, 1, [], []),
  (200, .bipush 14, 2, [], []),
  (202, .newarray .int, 2, [], []),
  (204, .putfield 84, 3, [12, 38], [467]),
  (207, .aload_n 0, 1, [], []),
  (208, .bipush 14, 2, [], []),
  (210, .newarray .int, 2, [], []),
  (212, .putfield 87, 3, [12, 39], [468]),
  (215, .aload_n 0, 1, [], []),
  (216, .bipush 14, 2, [], []),
  (218, .newarray .int, 2, [], []),
  (220, .putfield 90, 3, [12, 40], [469]),
  (223, .aload_n 0, 1, [], []),
  (224, .bipush 14, 2, [], []),
  (226, .newarray .int, 2, [], []),
  (228, .putfield 93, 3, [12, 41], [470]),
  (231, .aload_n 0, 1, [], []),
  (232, .sipush 220, 3, [], []),
  (235, .newarray .int, 2, [], []),
  (237, .putfield 96, 3, [12, 42], [471]),
  (240, .aload_n 0, 1, [], []),
  (241, .bipush 14, 2, [], []),
  (243, .newarray .int, 2, [], []),
  (245, .putfield 99, 3, [12, 43], [472]),
  (248, .aload_n 0, 1, [], []),
  (249, .bipush 14, 2, [], []),
  (251, .newarray .int, 2, [], []),
  (253, .putfield 102, 3, [12, 44], [473]),
  (256, .aload_n 0, 1, [], []),
  (257, .bipush 14, 2, [], []),
  (259, .newarray .int, 2, [], []),
  (261, .putfield 105, 3, [12, 45], [474]),
  (264, .aload_n 0, 1, [], []),
  (265, .bipush 14, 2, [], []),
  (267, .newarray .int, 2, [], []),
  (269, .putfield 108, 3, [12, 46], [475]),
  (272, .aload_n 0, 1, [], []),
  (273, .sipush 220, 3, [], []),
  (276, .newarray .int, 2, [], []),
  (278, .putfield 111, 3, [12, 47], [476]),
  (281, .aload_n 0, 1, [], []),
  (282, .bipush 14, 2, [], []),
  (284, .newarray .int, 2, [], []),
  (286, .putfield 114, 3, [12, 48], [477]),
  (289, .aload_n 0, 1, [], []),
  (290, .bipush 8, 2, [], []),
  (292, .newarray .int, 2, [], []),
  (294, .putfield 117, 3, [12, 49], [478]),
  (297, .aload_n 0, 1, [], []),
  (298, .bipush 8, 2, [], []),
  (300, .newarray .int, 2, [], []),
  (302, .putfield 120, 3, [12, 50], [479]),
  (305, .aload_n 0, 1, [], []),
  (306, .bipush 60, 2, [], []),
  (308, .newarray .int, 2, [], []),
  (310, .putfield 123, 3, [12, 51], [480]),
  (313, .aload_n 0, 1, [], []),
  (314, .bipush 60, 2, [], []),
  (316, .newarray .int, 2, [], []),
  (318, .putfield 126, 3, [12, 52], [481]),
  (321, .aload_n 0, 1, [], []),
  (322, .bipush 60, 2, [], []),
  (324, .newarray .int, 2, [], []),
  (326, .putfield 129, 3, [12, 53], [482]),
  (329, .aload_n 0, 1, [], []),
  (330, .bipush 60, 2, [], []),
  (332, .newarray .int, 2, [], []),
  (334, .putfield 132, 3, [12, 54], [483]),
  (337, .aload_n 0, 1, [], []),
  (338, .bipush 60, 2, [], []),
  (340, .newarray .int, 2, [], []),
  (342, .putfield 135, 3, [12, 55], [484]),
  (345, .aload_n 0, 1, [], []),
  (346, .bipush 60, 2, [], []),
  (348, .newarray .int, 2, [], []),
  (350, .putfield 138, 3, [12, 56], [485]),
  (353, .aload_n 0, 1, [], []),
  (354, .bipush 60, 2, [], []),
  (356, .newarray .int, 2, [], []),
  (358, .putfield 141, 3, [12, 57], [486]),
  (361, .aload_n 0, 1, [], []),
  (362, .bipush 60, 2, [], []),
  (364, .newarray .boolean, 2, [], []),
  (366, .putfield 144, 3, [12, 58], [487]),
  (369, .aload_n 0, 1, [], []),
  (370, .bipush 60, 2, [], []),
  (372, .newarray .boolean, 2, [], []),
  (374, .putfield 147, 3, [12, 59], [488]),
  (377, .aload_n 0, 1, [], []),
  (378, .bipush 48, 2, [], []),
  (380, .newarray .boolean, 2, [], []),
  (382, .putfield 150, 3, [12, 60], [489]),
  (385, .aload_n 0, 1, [], []),
  (386, .bipush 48, 2, [], []),
  (388, .newarray .int, 2, [], []),
  (390, .putfield 153, 3, [12, 61], [490]),
  (393, .aload_n 0, 1, [], []),
  (394, .bipush 48, 2, [], []),
  (396, .newarray .int, 2, [], []),
  (398, .putfield 156, 3, [12, 62], [491]),
  (401, .aload_n 0, 1, [], []),
  (402, .bipush 8, 2, [], []),
  (404, .newarray .int, 2, [], []),
  (406, .putfield 159, 3, [12, 64], [492]),
  (409, .aload_n 0, 1, [], []),
  (410, .bipush 8, 2, [], []),
  (412, .newarray .int, 2, [], []),
  (414, .putfield 162, 3, [12, 65], [493]),
  (417, .aload_n 0, 1, [], []),
  (418, .bipush 8, 2, [], []),
  (420, .newarray .int, 2, [], []),
  (422, .putfield 165, 3, [12, 66], [494]),
  (425, .aload_n 0, 1, [], []),
  (426, .sipush 2048, 3, [], []),
  (429, .newarray .int, 2, [], []),
  (431, .putfield 168, 3, [12, 67], [495]),
  (434, .aload_n 0, 1, [], []),
  (435, .bipush 8, 2, [], []),
  (437, .newarray .long, 2, [], []),
  (439, .putfield 171, 3, [12, 68], [496]),
  (442, .aload_n 0, 1, [], []),
  (443, .bipush 8, 2, [], []),
  (445, .newarray .long, 2, [], []),
  (447, .putfield 175, 3, [12, 69], [497]),
  (450, .aload_n 0, 1, [], []),
  (451, .bipush 8, 2, [], []),
  (453, .newarray .long, 2, [], []),
  (455, .putfield 178, 3, [12, 70], [498]),
  (458, .aload_n 0, 1, [], []),
  (459, .bipush 8, 2, [], []),
  (461, .newarray .long, 2, [], []),
  (463, .putfield 181, 3, [12, 71], [499]),
  (466, .aload_n 0, 1, [], []),
  (467, .bipush 48, 2, [], []),
  (469, .newarray .int, 2, [], []),
  (471, .putfield 184, 3, [12, 72], [500]),
  (474, .aload_n 0, 1, [], []),
  (475, .bipush 48, 2, [], []),
  (477, .newarray .int, 2, [], []),
  (479, .putfield 187, 3, [12, 73], [501]),
  (482, .aload_n 0, 1, [], []),
  (483, .iconst 4, 1, [], []),
  (484, .newarray .int, 2, [], []),
  (486, .putfield 190, 3, [12, 74], [502]),
  (489, .aload_n 0, 1, [], []),
  (490, .iconst 4, 1, [], []),
  (491, .newarray .int, 2, [], []),
  (493, .putfield 193, 3, [12, 75], [503]),
  (496, .aload_n 0, 1, [], []),
  (497, .iconst 4, 1, [], []),
  (498, .newarray .int, 2, [], []),
  (500, .putfield 196, 3, [12, 76], [504]),
  (503, .aload_n 0, 1, [], []),
  (504, .sipush 256, 3, [], []),
  (507, .newarray .int, 2, [], []),
  (509, .putfield 199, 3, [12, 77], [505]),
  (512, .iconst 0, 1, [], []),
  (513, .istore_n 1, 1, [], []),
  (514, .iload_n 1, 1, [], []),
  (515, .bipush 6, 2, [], []),
  (517, .if_icmp .ge 31, 3, [276], []),
  (520, .aload_n 0, 1, [], []),
  (521, .getfield 41, 3, [12, 14], [113]),
  (524, .iload_n 1, 1, [], []),
  (525, .iconst 1, 1, [], []),
  (526, .iastore, 1, [], []),
  (527, .aload_n 0, 1, [], []),
  (528, .getfield 44, 3, [12, 15], [45]),
  (531, .iload_n 1, 1, [], []),
  (532, .bipush 50, 2, [], []),
  (534, .iastore, 1, [], []),
  (535, .aload_n 0, 1, [], []),
  (536, .getfield 47, 3, [12, 16], [85]),
  (539, .iload_n 1, 1, [], []),
  (540, .iconst 1, 1, [], []),
  (541, .iastore, 1, [], []),
  (542, .iinc 1 1, 3, [], []),
  (545, .goto (-31), 3, [256], []),
  (548, .iconst 0, 1, [], []),
  (549, .istore_n 1, 1, [], []),
  (550, .iload_n 1, 1, [], []),
  (551, .bipush 8, 2, [], []),
  (553, .if_icmp .ge 25, 3, [293], []),
  (556, .aload_n 0, 1, [], []),
  (557, .getfield 56, 3, [12, 19], [67]),
  (560, .iload_n 1, 1, [], []),
  (561, .sipush 9999, 3, [], []),
  (564, .iastore, 1, [], []),
  (565, .aload_n 0, 1, [], []),
  (566, .getfield 71, 3, [12, 24], [157]),
  (569, .iload_n 1, 1, [], []),
  (570, .iconst 1, 1, [], []),
  (571, .iastore, 1, [], []),
  (572, .iinc 1 1, 3, [], []),
  (575, .goto (-25), 3, [278], []),
  (578, .iconst 0, 1, [], []),
  (579, .istore_n 1, 1, [], []),
  (580, .iload_n 1, 1, [], []),
  (581, .bipush 48, 2, [], []),
  (583, .if_icmp .ge 16, 3, [305], []),
  (586, .aload_n 0, 1, [], []),
  (587, .getfield 29, 3, [12, 10], [4]),
  (590, .iload_n 1, 1, [], []),
  (591, .iconst (-1), 1, [], []),
  (592, .iastore, 1, [], []),
  (593, .iinc 1 1, 3, [], []),
  (596, .goto (-16), 3, [295], []),
  (599, .aload_n 0, 1, [], []),
  (600, .iconst 1, 1, [], []),
  (601, .putfield 202, 3, [12, 1], [71]),
  (604, .return_, 1, [], [])]
def mX12_init : pv_M := (⟨"CliffGardenModel", "<init>", "()V"⟩, prog_14_method_1_code, 2, none, rX12_init)
def rX12_in : List pv_R := [
  (0, .iload_n 0, 1, [], []),
  (1, .iload_n 1, 1, [], []),
  (2, .if_icmp .lt 12, 3, [8], []),
  (5, .iload_n 0, 1, [], []),
  (6, .iload_n 2, 1, [], []),
  (7, .if_icmp .gt 7, 3, [8], []),
  (10, .iconst 1, 1, [], []),
  (11, .goto 4, 3, [9], []),
  (14, .iconst 0, 1, [], []),
  (15, .ireturn, 1, [1], [])]
def mX12_in : pv_M := (⟨"CliffGardenModel", "in", "(III)Z"⟩, prog_14_method_2_code, 3, some .boolean, rX12_in)
def rX12_less : List pv_R := [
  (0, .iload_n 0, 1, [], []),
  (1, .iload_n 1, 1, [], []),
  (2, .if_icmp .ge 7, 3, [5], []),
  (5, .iload_n 0, 1, [], []),
  (6, .goto 4, 3, [6], []),
  (9, .iload_n 1, 1, [], []),
  (10, .ireturn, 1, [0], [])]
def mX12_less : pv_M := (⟨"CliffGardenModel", "less", "(II)I"⟩, prog_14_method_3_code, 2, some .int, rX12_less)
def rX12_more : List pv_R := [
  (0, .iload_n 0, 1, [], []),
  (1, .iload_n 1, 1, [], []),
  (2, .if_icmp .le 7, 3, [5], []),
  (5, .iload_n 0, 1, [], []),
  (6, .goto 4, 3, [6], []),
  (9, .iload_n 1, 1, [], []),
  (10, .ireturn, 1, [0], [])]
def mX12_more : pv_M := (⟨"CliffGardenModel", "more", "(II)I"⟩, prog_14_method_4_code, 2, some .int, rX12_more)
def rX12_isCell : List pv_R := [
  (0, .iload_n 0, 1, [], []),
  (1, .iconst 0, 1, [], []),
  (2, .bipush 7, 2, [], []),
  (4, .invokestatic 206, 3, [145, 3], [1]),
  (7, .ifCond .eq 16, 3, [12], []),
  (10, .iload_n 1, 1, [], []),
  (11, .iconst 0, 1, [], []),
  (12, .iconst 5, 1, [], []),
  (13, .invokestatic 206, 3, [145, 3], [1]),
  (16, .ifCond .eq 7, 3, [12], []),
  (19, .iconst 1, 1, [], []),
  (20, .goto 4, 3, [13], []),
  (23, .iconst 0, 1, [], []),
  (24, .ireturn, 1, [1], [])]
def mX12_isCell : pv_M := (⟨"CliffGardenModel", "isCell", "(II)Z"⟩, prog_14_method_5_code, 2, some .boolean, rX12_isCell)
def rX12_at : List pv_R := [
  (0, .bipush 6, 2, [], []),
  (2, .iload_n 0, 1, [], []),
  (3, .imul, 1, [], []),
  (4, .iload_n 1, 1, [], []),
  (5, .iadd, 1, [], []),
  (6, .ireturn, 1, [0], [])]
def mX12_at : pv_M := (⟨"CliffGardenModel", "at", "(II)I"⟩, prog_14_method_6_code, 2, some .int, rX12_at)
def rX12_isHung : List pv_R := [
  (0, .iload_n 1, 1, [], []),
  (1, .iload_n 2, 1, [], []),
  (2, .invokestatic 210, 3, [148, 2], [91]),
  (5, .ifCond .eq 20, 3, [13], []),
  (8, .aload_n 0, 1, [], []),
  (9, .getfield 7, 3, [12, 4], [3]),
  (12, .iload_n 1, 1, [], []),
  (13, .iload_n 2, 1, [], []),
  (14, .invokestatic 214, 3, [149, 2], [16]),
  (17, .baload, 1, [1], []),
  (18, .ifCond .eq 7, 3, [13], []),
  (21, .iconst 1, 1, [], []),
  (22, .goto 4, 3, [14], []),
  (25, .iconst 0, 1, [], []),
  (26, .ireturn, 1, [1], [])]
def mX12_isHung : pv_M := (⟨"CliffGardenModel", "isHung", "(II)Z"⟩, prog_14_method_7_code, 3, some .boolean, rX12_isHung)
def rX12_hang : List pv_R := [
  (0, .iload_n 1, 1, [], []),
  (1, .iload_n 2, 1, [], []),
  (2, .invokestatic 210, 3, [148, 2], [91]),
  (5, .ifCond .eq 78, 3, [42], []),
  (8, .iload_n 3, 1, [], []),
  (9, .iconst 0, 1, [], []),
  (10, .bipush 9, 2, [], []),
  (12, .invokestatic 206, 3, [145, 3], [1]),
  (15, .ifCond .eq 68, 3, [42], []),
  (18, .iload 4, 2, [], []),
  (20, .iconst 0, 1, [], []),
  (21, .sipush 9999, 3, [], []),
  (24, .invokestatic 206, 3, [145, 3], [1]),
  (27, .ifCond .eq 56, 3, [42], []),
  (30, .iload 5, 2, [], []),
  (32, .iconst 0, 1, [], []),
  (33, .bipush 7, 2, [], []),
  (35, .invokestatic 206, 3, [145, 3], [1]),
  (38, .ifCond .eq 45, 3, [42], []),
  (41, .iload 6, 2, [], []),
  (43, .iconst 0, 1, [], []),
  (44, .iconst 3, 1, [], []),
  (45, .invokestatic 206, 3, [145, 3], [1]),
  (48, .ifCond .eq 35, 3, [42], []),
  (51, .aload_n 0, 1, [], []),
  (52, .getfield 7, 3, [12, 4], [3]),
  (55, .iload_n 1, 1, [], []),
  (56, .iload_n 2, 1, [], []),
  (57, .invokestatic 214, 3, [149, 2], [16]),
  (60, .baload, 1, [1], []),
  (61, .ifCond .ne 22, 3, [42], []),
  (64, .iload_n 2, 1, [], []),
  (65, .ifCond .le 20, 3, [44], []),
  (68, .aload_n 0, 1, [], []),
  (69, .getfield 7, 3, [12, 4], [3]),
  (72, .iload_n 1, 1, [], []),
  (73, .iload_n 2, 1, [], []),
  (74, .iconst 1, 1, [], []),
  (75, .isub, 1, [], []),
  (76, .invokestatic 214, 3, [149, 2], [16]),
  (79, .baload, 1, [1], []),
  (80, .ifCond .ne 5, 3, [44], []),
  (83, .iconst 0, 1, [], []),
  (84, .ireturn, 1, [1], []),
  (85, .iload_n 1, 1, [], []),
  (86, .iload_n 2, 1, [], []),
  (87, .invokestatic 214, 3, [149, 2], [16]),
  (90, .istore 7, 2, [], []),
  (92, .aload_n 0, 1, [], []),
  (93, .getfield 7, 3, [12, 4], [3]),
  (96, .iload 7, 2, [], []),
  (98, .iconst 1, 1, [], []),
  (99, .bastore, 1, [1], []),
  (100, .aload_n 0, 1, [], []),
  (101, .getfield 20, 3, [12, 7], [84]),
  (104, .iload 7, 2, [], []),
  (106, .iload_n 3, 1, [], []),
  (107, .iastore, 1, [], []),
  (108, .aload_n 0, 1, [], []),
  (109, .getfield 16, 3, [12, 6], [24]),
  (112, .iload 7, 2, [], []),
  (114, .iload 4, 2, [], []),
  (116, .iastore, 1, [], []),
  (117, .aload_n 0, 1, [], []),
  (118, .getfield 23, 3, [12, 8], [151]),
  (121, .iload 7, 2, [], []),
  (123, .iload 5, 2, [], []),
  (125, .iastore, 1, [], []),
  (126, .aload_n 0, 1, [], []),
  (127, .getfield 26, 3, [12, 9], [152]),
  (130, .iload 7, 2, [], []),
  (132, .iload 6, 2, [], []),
  (134, .iastore, 1, [], []),
  (135, .aload_n 0, 1, [], []),
  (136, .iload 7, 2, [], []),
  (138, .invokevirtual 218, 3, [152, 1, 12], [180]),
  (141, .aload_n 0, 1, [], []),
  (142, .getfield 35, 3, [12, 12], [66]),
  (145, .iload 7, 2, [], []),
  (147, .iconst 0, 1, [], []),
  (148, .iastore, 1, [], []),
  (149, .aload_n 0, 1, [], []),
  (150, .getfield 38, 3, [12, 13], [38]),
  (153, .iload 7, 2, [], []),
  (155, .iconst 0, 1, [], []),
  (156, .iastore, 1, [], []),
  (157, .iconst 1, 1, [], []),
  (158, .ireturn, 1, [1], [])]
def mX12_hang : pv_M := (⟨"CliffGardenModel", "hang", "(IIIIII)Z"⟩, prog_14_method_8_code, 8, some .boolean, rX12_hang)
def rX12_empties : List pv_R := [
  (0, .aload_n 0, 1, [], []),
  (1, .getfield 29, 3, [12, 10], [4]),
  (4, .iload_n 1, 1, [], []),
  (5, .iconst (-1), 1, [], []),
  (6, .iastore, 1, [], []),
  (7, .aload_n 0, 1, [], []),
  (8, .getfield 32, 3, [12, 11], [19]),
  (11, .iload_n 1, 1, [], []),
  (12, .iconst 0, 1, [], []),
  (13, .iastore, 1, [], []),
  (14, .aload_n 0, 1, [], []),
  (15, .getfield 13, 3, [12, 5], [52]),
  (18, .iload_n 1, 1, [], []),
  (19, .iconst 0, 1, [], []),
  (20, .bastore, 1, [1], []),
  (21, .return_, 1, [], [])]
def mX12_empties : pv_M := (⟨"CliffGardenModel", "empties", "(I)V"⟩, prog_14_method_9_code, 2, none, rX12_empties)
def rX12_knot : List pv_R := [
  (0, .aload_n 0, 1, [], []),
  (1, .iload_n 1, 1, [], []),
  (2, .iload_n 2, 1, [], []),
  (3, .invokevirtual 222, 3, [150, 2, 12], [131]),
  (6, .ifCond .eq 14, 3, [10], []),
  (9, .iload_n 3, 1, [], []),
  (10, .iconst 0, 1, [], []),
  (11, .sipush 9999, 3, [], []),
  (14, .invokestatic 206, 3, [145, 3], [1]),
  (17, .ifCond .ne 5, 3, [12], []),
  (20, .iconst 0, 1, [], []),
  (21, .ireturn, 1, [1], []),
  (22, .aload_n 0, 1, [], []),
  (23, .getfield 16, 3, [12, 6], [24]),
  (26, .iload_n 1, 1, [], []),
  (27, .iload_n 2, 1, [], []),
  (28, .invokestatic 214, 3, [149, 2], [16]),
  (31, .iload_n 3, 1, [], []),
  (32, .iastore, 1, [], []),
  (33, .iconst 1, 1, [], []),
  (34, .ireturn, 1, [1], [])]
def mX12_knot : pv_M := (⟨"CliffGardenModel", "knot", "(III)Z"⟩, prog_14_method_10_code, 4, some .boolean, rX12_knot)
def rX12_kind : List pv_R := [
  (0, .iload_n 1, 1, [], []),
  (1, .iconst 0, 1, [], []),
  (2, .iconst 5, 1, [], []),
  (3, .invokestatic 206, 3, [145, 3], [1]),
  (6, .ifCond .eq 35, 3, [20], []),
  (9, .iload_n 2, 1, [], []),
  (10, .iconst 0, 1, [], []),
  (11, .bipush 20, 2, [], []),
  (13, .invokestatic 206, 3, [145, 3], [1]),
  (16, .ifCond .eq 25, 3, [20], []),
  (19, .iload_n 3, 1, [], []),
  (20, .iconst 1, 1, [], []),
  (21, .sipush 200, 3, [], []),
  (24, .invokestatic 206, 3, [145, 3], [1]),
  (27, .ifCond .eq 14, 3, [20], []),
  (30, .iload 4, 2, [], []),
  (32, .iconst 0, 1, [], []),
  (33, .bipush 99, 2, [], []),
  (35, .invokestatic 206, 3, [145, 3], [1]),
  (38, .ifCond .ne 5, 3, [22], []),
  (41, .iconst 0, 1, [], []),
  (42, .ireturn, 1, [1], []),
  (43, .aload_n 0, 1, [], []),
  (44, .getfield 41, 3, [12, 14], [113]),
  (47, .iload_n 1, 1, [], []),
  (48, .iload_n 2, 1, [], []),
  (49, .iastore, 1, [], []),
  (50, .aload_n 0, 1, [], []),
  (51, .getfield 44, 3, [12, 15], [45]),
  (54, .iload_n 1, 1, [], []),
  (55, .iload_n 3, 1, [], []),
  (56, .iastore, 1, [], []),
  (57, .aload_n 0, 1, [], []),
  (58, .getfield 47, 3, [12, 16], [85]),
  (61, .iload_n 1, 1, [], []),
  (62, .iload 4, 2, [], []),
  (64, .iastore, 1, [], []),
  (65, .iconst 1, 1, [], []),
  (66, .ireturn, 1, [1], [])]
def mX12_kind : pv_M := (⟨"CliffGardenModel", "kind", "(IIII)Z"⟩, prog_14_method_11_code, 5, some .boolean, rX12_kind)
def rX12_plant : List pv_R := [
  (0, .aload_n 0, 1, [], []),
  (1, .iload_n 1, 1, [], []),
  (2, .iload_n 2, 1, [], []),
  (3, .invokevirtual 222, 3, [150, 2, 12], [131]),
  (6, .ifCond .eq 38, 3, [23], []),
  (9, .aload_n 0, 1, [], []),
  (10, .getfield 29, 3, [12, 10], [4]),
  (13, .iload_n 1, 1, [], []),
  (14, .iload_n 2, 1, [], []),
  (15, .invokestatic 214, 3, [149, 2], [16]),
  (18, .iaload, 1, [], []),
  (19, .iconst (-1), 1, [], []),
  (20, .if_icmp .ne 24, 3, [23], []),
  (23, .iload_n 3, 1, [], []),
  (24, .iconst 0, 1, [], []),
  (25, .iconst 5, 1, [], []),
  (26, .invokestatic 206, 3, [145, 3], [1]),
  (29, .ifCond .eq 15, 3, [23], []),
  (32, .iload 4, 2, [], []),
  (34, .iconst 0, 1, [], []),
  (35, .sipush 200, 3, [], []),
  (38, .invokestatic 206, 3, [145, 3], [1]),
  (41, .ifCond .ne 5, 3, [25], []),
  (44, .iconst 0, 1, [], []),
  (45, .ireturn, 1, [1], []),
  (46, .aload_n 0, 1, [], []),
  (47, .getfield 29, 3, [12, 10], [4]),
  (50, .iload_n 1, 1, [], []),
  (51, .iload_n 2, 1, [], []),
  (52, .invokestatic 214, 3, [149, 2], [16]),
  (55, .iload_n 3, 1, [], []),
  (56, .iastore, 1, [], []),
  (57, .aload_n 0, 1, [], []),
  (58, .getfield 32, 3, [12, 11], [19]),
  (61, .iload_n 1, 1, [], []),
  (62, .iload_n 2, 1, [], []),
  (63, .invokestatic 214, 3, [149, 2], [16]),
  (66, .iload 4, 2, [], []),
  (68, .iastore, 1, [], []),
  (69, .iconst 1, 1, [], []),
  (70, .ireturn, 1, [1], [])]
def mX12_plant : pv_M := (⟨"CliffGardenModel", "plant", "(IIII)Z"⟩, prog_14_method_12_code, 5, some .boolean, rX12_plant)
def rX12_valve : List pv_R := [
  (0, .iload_n 1, 1, [], []),
  (1, .iconst 0, 1, [], []),
  (2, .bipush 7, 2, [], []),
  (4, .invokestatic 206, 3, [145, 3], [1]),
  (7, .ifCond .eq 13, 3, [10], []),
  (10, .iload_n 2, 1, [], []),
  (11, .iconst 0, 1, [], []),
  (12, .bipush 99, 2, [], []),
  (14, .invokestatic 206, 3, [145, 3], [1]),
  (17, .ifCond .ne 5, 3, [12], []),
  (20, .iconst 0, 1, [], []),
  (21, .ireturn, 1, [1], []),
  (22, .aload_n 0, 1, [], []),
  (23, .getfield 50, 3, [12, 17], [153]),
  (26, .iload_n 1, 1, [], []),
  (27, .iload_n 2, 1, [], []),
  (28, .iastore, 1, [], []),
  (29, .iconst 1, 1, [], []),
  (30, .ireturn, 1, [1], [])]
def mX12_valve : pv_M := (⟨"CliffGardenModel", "valve", "(II)Z"⟩, prog_14_method_13_code, 3, some .boolean, rX12_valve)
def rX12_kitchen : List pv_R := [
  (0, .iload_n 1, 1, [], []),
  (1, .iconst 0, 1, [], []),
  (2, .bipush 7, 2, [], []),
  (4, .invokestatic 206, 3, [145, 3], [1]),
  (7, .ifCond .eq 24, 3, [15], []),
  (10, .iload_n 2, 1, [], []),
  (11, .iconst 0, 1, [], []),
  (12, .bipush 7, 2, [], []),
  (14, .invokestatic 206, 3, [145, 3], [1]),
  (17, .ifCond .eq 14, 3, [15], []),
  (20, .iload_n 3, 1, [], []),
  (21, .iconst 0, 1, [], []),
  (22, .sipush 9999, 3, [], []),
  (25, .invokestatic 206, 3, [145, 3], [1]),
  (28, .ifCond .ne 5, 3, [17], []),
  (31, .iconst 0, 1, [], []),
  (32, .ireturn, 1, [1], []),
  (33, .aload_n 0, 1, [], []),
  (34, .getfield 53, 3, [12, 18], [154]),
  (37, .iload_n 1, 1, [], []),
  (38, .iload_n 2, 1, [], []),
  (39, .iastore, 1, [], []),
  (40, .aload_n 0, 1, [], []),
  (41, .getfield 56, 3, [12, 19], [67]),
  (44, .iload_n 1, 1, [], []),
  (45, .iload_n 3, 1, [], []),
  (46, .iastore, 1, [], []),
  (47, .iconst 1, 1, [], []),
  (48, .ireturn, 1, [1], [])]
def mX12_kitchen : pv_M := (⟨"CliffGardenModel", "kitchen", "(III)Z"⟩, prog_14_method_14_code, 4, some .boolean, rX12_kitchen)
def rX12_rope : List pv_R := [
  (0, .iload_n 1, 1, [], []),
  (1, .iconst 0, 1, [], []),
  (2, .bipush 7, 2, [], []),
  (4, .invokestatic 206, 3, [145, 3], [1]),
  (7, .ifCond .eq 24, 3, [15], []),
  (10, .iload_n 2, 1, [], []),
  (11, .iconst 0, 1, [], []),
  (12, .sipush 999, 3, [], []),
  (15, .invokestatic 206, 3, [145, 3], [1]),
  (18, .ifCond .eq 13, 3, [15], []),
  (21, .iload_n 3, 1, [], []),
  (22, .iconst 0, 1, [], []),
  (23, .bipush 99, 2, [], []),
  (25, .invokestatic 206, 3, [145, 3], [1]),
  (28, .ifCond .ne 5, 3, [17], []),
  (31, .iconst 0, 1, [], []),
  (32, .ireturn, 1, [1], []),
  (33, .aload_n 0, 1, [], []),
  (34, .getfield 68, 3, [12, 23], [222]),
  (37, .iload_n 1, 1, [], []),
  (38, .iload_n 2, 1, [], []),
  (39, .iastore, 1, [], []),
  (40, .aload_n 0, 1, [], []),
  (41, .getfield 71, 3, [12, 24], [157]),
  (44, .iload_n 1, 1, [], []),
  (45, .iload_n 3, 1, [], []),
  (46, .iastore, 1, [], []),
  (47, .iconst 1, 1, [], []),
  (48, .ireturn, 1, [1], [])]
def mX12_rope : pv_M := (⟨"CliffGardenModel", "rope", "(III)Z"⟩, prog_14_method_15_code, 4, some .boolean, rX12_rope)
def rX12_seed : List pv_R := [
  (0, .iload_n 1, 1, [], []),
  (1, .iconst 0, 1, [], []),
  (2, .ldc 225, 2, [65535], [506]),
  (4, .invokestatic 206, 3, [145, 3], [1]),
  (7, .ifCond .ne 5, 3, [7], []),
  (10, .iconst 0, 1, [], []),
  (11, .ireturn, 1, [1], []),
  (12, .aload_n 0, 1, [], []),
  (13, .iload_n 1, 1, [], []),
  (14, .putfield 202, 3, [12, 1], [71]),
  (17, .iconst 1, 1, [], []),
  (18, .ireturn, 1, [1], [])]
def mX12_seed : pv_M := (⟨"CliffGardenModel", "seed", "(I)Z"⟩, prog_14_method_16_code, 2, some .boolean, rX12_seed)
def rX12_types : List pv_R := [
  (0, .iconst 3, 1, [], []),
  (1, .istore_n 2, 1, [], []),
  (2, .iload_n 2, 1, [], []),
  (3, .ifCond .lt 35, 3, [23], []),
  (6, .aload_n 0, 1, [], []),
  (7, .getfield 74, 3, [12, 25], [158]),
  (10, .aload_n 0, 1, [], []),
  (11, .getfield 226, 3, [12, 26], [31]),
  (14, .iload_n 1, 1, [], []),
  (15, .bipush 8, 2, [], []),
  (17, .iload_n 2, 1, [], []),
  (18, .imul, 1, [], []),
  (19, .ishr, 1, [], []),
  (20, .i2b, 1, [], []),
  (21, .bastore, 1, [2], []),
  (22, .aload_n 0, 1, [], []),
  (23, .aload_n 0, 1, [], []),
  (24, .getfield 226, 3, [12, 26], [31]),
  (27, .iconst 1, 1, [], []),
  (28, .iadd, 1, [], []),
  (29, .putfield 226, 3, [12, 26], [31]),
  (32, .iinc 2 (-1), 3, [], []),
  (35, .goto (-33), 3, [2], []),
  (38, .return_, 1, [], [])]
def mX12_types : pv_M := (⟨"CliffGardenModel", "types", "(I)V"⟩, prog_14_method_17_code, 3, none, rX12_types)
def rX12_feed : List pv_R := [
  (0, .aload_n 0, 1, [], []),
  (1, .getfield 226, 3, [12, 26], [31]),
  (4, .bipush 20, 2, [], []),
  (6, .iadd, 1, [], []),
  (7, .sipush 220, 3, [], []),
  (10, .if_icmp .le 5, 3, [8], []),
  (13, .iconst (-1), 1, [], []),
  (14, .ireturn, 1, [0], []),
  (15, .aload_n 0, 1, [], []),
  (16, .iload_n 1, 1, [], []),
  (17, .invokevirtual 229, 3, [160, 1, 12], [95]),
  (20, .aload_n 0, 1, [], []),
  (21, .iload_n 2, 1, [], []),
  (22, .invokevirtual 229, 3, [160, 1, 12], [95]),
  (25, .aload_n 0, 1, [], []),
  (26, .iload_n 3, 1, [], []),
  (27, .invokevirtual 229, 3, [160, 1, 12], [95]),
  (30, .aload_n 0, 1, [], []),
  (31, .iload 4, 2, [], []),
  (33, .invokevirtual 229, 3, [160, 1, 12], [95]),
  (36, .aload_n 0, 1, [], []),
  (37, .iload 5, 2, [], []),
  (39, .invokevirtual 229, 3, [160, 1, 12], [95]),
  (42, .aload_n 0, 1, [], []),
  (43, .getfield 226, 3, [12, 26], [31]),
  (46, .ireturn, 1, [0], [])]
def mX12_feed : pv_M := (⟨"CliffGardenModel", "feed", "(IIIII)I"⟩, prog_14_method_18_code, 6, some .int, rX12_feed)
def rX12_here : List pv_R := [
  (0, .aload_n 0, 1, [], []),
  (1, .getfield 232, 3, [12, 27], [2]),
  (4, .aload_n 0, 1, [], []),
  (5, .getfield 235, 3, [12, 28], [166]),
  (8, .if_icmp .ge 19, 3, [13], []),
  (11, .aload_n 0, 1, [], []),
  (12, .getfield 74, 3, [12, 25], [158]),
  (15, .aload_n 0, 1, [], []),
  (16, .getfield 232, 3, [12, 27], [2]),
  (19, .baload, 1, [2], []),
  (20, .sipush 255, 3, [], []),
  (23, .iand, 1, [], []),
  (24, .goto 4, 3, [14], []),
  (27, .iconst (-1), 1, [], []),
  (28, .ireturn, 1, [0], [])]
def mX12_here : pv_M := (⟨"CliffGardenModel", "here", "()I"⟩, prog_14_method_19_code, 1, some .int, rX12_here)
def rX12_isDigit : List pv_R := [
  (0, .aload_n 0, 1, [], []),
  (1, .invokevirtual 238, 3, [162, 0, 12], [14]),
  (4, .bipush 48, 2, [], []),
  (6, .if_icmp .lt 16, 3, [10], []),
  (9, .aload_n 0, 1, [], []),
  (10, .invokevirtual 238, 3, [162, 0, 12], [14]),
  (13, .bipush 57, 2, [], []),
  (15, .if_icmp .gt 7, 3, [10], []),
  (18, .iconst 1, 1, [], []),
  (19, .goto 4, 3, [11], []),
  (22, .iconst 0, 1, [], []),
  (23, .ireturn, 1, [1], [])]
def mX12_isDigit : pv_M := (⟨"CliffGardenModel", "isDigit", "()Z"⟩, prog_14_method_20_code, 1, some .boolean, rX12_isDigit)
def rX12_wrongAt : List pv_R := [
  (0, .aload_n 0, 1, [], []),
  (1, .sipush (-1000), 3, [], []),
  (4, .iload_n 1, 1, [], []),
  (5, .imul, 1, [], []),
  (6, .iload_n 2, 1, [], []),
  (7, .isub, 1, [], []),
  (8, .putfield 242, 3, [12, 29], [238]),
  (11, .iconst 0, 1, [], []),
  (12, .ireturn, 1, [1], [])]
def mX12_wrongAt : pv_M := (⟨"CliffGardenModel", "wrongAt", "(II)Z"⟩, prog_14_method_21_code, 3, some .boolean, rX12_wrongAt)
def rX12_takes : List pv_R := [
  (0, .aload_n 0, 1, [], []),
  (1, .invokevirtual 238, 3, [162, 0, 12], [14]),
  (4, .iload_n 1, 1, [], []),
  (5, .if_icmp .eq 13, 3, [10], []),
  (8, .aload_n 0, 1, [], []),
  (9, .iconst 1, 1, [], []),
  (10, .aload_n 0, 1, [], []),
  (11, .getfield 232, 3, [12, 27], [2]),
  (14, .invokevirtual 245, 3, [164, 2, 12], [34]),
  (17, .ireturn, 1, [1], []),
  (18, .aload_n 0, 1, [], []),
  (19, .aload_n 0, 1, [], []),
  (20, .getfield 232, 3, [12, 27], [2]),
  (23, .iconst 1, 1, [], []),
  (24, .iadd, 1, [], []),
  (25, .putfield 232, 3, [12, 27], [2]),
  (28, .iconst 1, 1, [], []),
  (29, .ireturn, 1, [1], [])]
def mX12_takes : pv_M := (⟨"CliffGardenModel", "takes", "(I)Z"⟩, prog_14_method_22_code, 2, some .boolean, rX12_takes)
def rX12_readsNumber : List pv_R := [
  (0, .aload_n 0, 1, [], []),
  (1, .getfield 232, 3, [12, 27], [2]),
  (4, .istore_n 1, 1, [], []),
  (5, .aload_n 0, 1, [], []),
  (6, .iconst 0, 1, [], []),
  (7, .putfield 248, 3, [12, 34], [122]),
  (10, .aload_n 0, 1, [], []),
  (11, .invokevirtual 251, 3, [163, 0, 12], [288]),
  (14, .ifCond .eq 55, 3, [39], []),
  (17, .aload_n 0, 1, [], []),
  (18, .getfield 232, 3, [12, 27], [2]),
  (21, .iload_n 1, 1, [], []),
  (22, .iconst 5, 1, [], []),
  (23, .iadd, 1, [], []),
  (24, .if_icmp .ne 13, 3, [21], []),
  (27, .aload_n 0, 1, [], []),
  (28, .iconst 2, 1, [], []),
  (29, .aload_n 0, 1, [], []),
  (30, .getfield 232, 3, [12, 27], [2]),
  (33, .invokevirtual 245, 3, [164, 2, 12], [34]),
  (36, .ireturn, 1, [1], []),
  (37, .aload_n 0, 1, [], []),
  (38, .bipush 10, 2, [], []),
  (40, .aload_n 0, 1, [], []),
  (41, .getfield 248, 3, [12, 34], [122]),
  (44, .imul, 1, [], []),
  (45, .aload_n 0, 1, [], []),
  (46, .invokevirtual 238, 3, [162, 0, 12], [14]),
  (49, .iadd, 1, [], []),
  (50, .bipush 48, 2, [], []),
  (52, .isub, 1, [], []),
  (53, .putfield 248, 3, [12, 34], [122]),
  (56, .aload_n 0, 1, [], []),
  (57, .aload_n 0, 1, [], []),
  (58, .getfield 232, 3, [12, 27], [2]),
  (61, .iconst 1, 1, [], []),
  (62, .iadd, 1, [], []),
  (63, .putfield 232, 3, [12, 27], [2]),
  (66, .goto (-56), 3, [6], []),
  (69, .iconst 1, 1, [], []),
  (70, .ireturn, 1, [1], [])]
def mX12_readsNumber : pv_M := (⟨"CliffGardenModel", "readsNumber", "()Z"⟩, prog_14_method_23_code, 2, some .boolean, rX12_readsNumber)
def rX12_notes : List pv_R := [
  (0, .aload_n 0, 1, [], []),
  (1, .getfield 78, 3, [12, 36], [114]),
  (4, .aload_n 0, 1, [], []),
  (5, .getfield 255, 3, [12, 31], [32]),
  (8, .ldc_w 258, 3, [1048576], [28]),
  (11, .iload_n 1, 1, [], []),
  (12, .imul, 1, [], []),
  (13, .iload_n 2, 1, [], []),
  (14, .iadd, 1, [], []),
  (15, .iastore, 1, [], []),
  (16, .aload_n 0, 1, [], []),
  (17, .aload_n 0, 1, [], []),
  (18, .getfield 255, 3, [12, 31], [32]),
  (21, .iconst 1, 1, [], []),
  (22, .iadd, 1, [], []),
  (23, .putfield 255, 3, [12, 31], [32]),
  (26, .return_, 1, [], [])]
def mX12_notes : pv_M := (⟨"CliffGardenModel", "notes", "(II)V"⟩, prog_14_method_24_code, 3, none, rX12_notes)
def rX12_opens : List pv_R := [
  (0, .aload_n 0, 1, [], []),
  (1, .getfield 259, 3, [12, 30], [26]),
  (4, .bipush 6, 2, [], []),
  (6, .if_icmp .ne 13, 3, [10], []),
  (9, .aload_n 0, 1, [], []),
  (10, .iconst 5, 1, [], []),
  (11, .aload_n 0, 1, [], []),
  (12, .getfield 232, 3, [12, 27], [2]),
  (15, .invokevirtual 245, 3, [164, 2, 12], [34]),
  (18, .ireturn, 1, [1], []),
  (19, .aload_n 0, 1, [], []),
  (20, .aload_n 0, 1, [], []),
  (21, .getfield 259, 3, [12, 30], [26]),
  (24, .iconst 1, 1, [], []),
  (25, .iadd, 1, [], []),
  (26, .putfield 259, 3, [12, 30], [26]),
  (29, .aload_n 0, 1, [], []),
  (30, .getfield 81, 3, [12, 37], [68]),
  (33, .aload_n 0, 1, [], []),
  (34, .getfield 262, 3, [12, 32], [6]),
  (37, .ldc_w 258, 3, [1048576], [28]),
  (40, .iload_n 1, 1, [], []),
  (41, .imul, 1, [], []),
  (42, .iastore, 1, [], []),
  (43, .aload_n 0, 1, [], []),
  (44, .aload_n 0, 1, [], []),
  (45, .getfield 262, 3, [12, 32], [6]),
  (48, .iconst 1, 1, [], []),
  (49, .iadd, 1, [], []),
  (50, .putfield 262, 3, [12, 32], [6]),
  (53, .aload_n 0, 1, [], []),
  (54, .aload_n 0, 1, [], []),
  (55, .getfield 232, 3, [12, 27], [2]),
  (58, .iconst 1, 1, [], []),
  (59, .iadd, 1, [], []),
  (60, .putfield 232, 3, [12, 27], [2]),
  (63, .iconst 1, 1, [], []),
  (64, .ireturn, 1, [1], [])]
def mX12_opens : pv_M := (⟨"CliffGardenModel", "opens", "(I)Z"⟩, prog_14_method_25_code, 2, some .boolean, rX12_opens)
def rX12_top : List pv_R := [
  (0, .aload_n 0, 1, [], []),
  (1, .getfield 262, 3, [12, 32], [6]),
  (4, .ifCond .ne 7, 3, [5], []),
  (7, .iconst (-1), 1, [], []),
  (8, .goto 18, 3, [14], []),
  (11, .aload_n 0, 1, [], []),
  (12, .getfield 81, 3, [12, 37], [68]),
  (15, .aload_n 0, 1, [], []),
  (16, .getfield 262, 3, [12, 32], [6]),
  (19, .iconst 1, 1, [], []),
  (20, .isub, 1, [], []),
  (21, .iaload, 1, [], []),
  (22, .ldc_w 258, 3, [1048576], [28]),
  (25, .idiv, 1, [], []),
  (26, .ireturn, 1, [0], [])]
def mX12_top : pv_M := (⟨"CliffGardenModel", "top", "()I"⟩, prog_14_method_26_code, 1, some .int, rX12_top)
def rX12_factOf : List pv_R := [
  (0, .iload_n 0, 1, [], []),
  (1, .tableswitch 147 98 121 #[144, 147, 135, 147, 147, 147, 147, 147, 123, 111, 117, 141, 121, 147, 132, 147, 129, 119, 138, 147, 147, 126, 115, 113], 111, [30, 28, 30, 22, 30, 30, 30, 30, 30, 14, 2, 8, 26, 12, 30, 20, 30, 18, 10, 24, 30, 30, 16, 6, 4], []),
  (112, .iconst 0, 1, [], []),
  (113, .ireturn, 1, [0], []),
  (114, .iconst 1, 1, [], []),
  (115, .ireturn, 1, [0], []),
  (116, .iconst 2, 1, [], []),
  (117, .ireturn, 1, [0], []),
  (118, .iconst 3, 1, [], []),
  (119, .ireturn, 1, [0], []),
  (120, .iconst 4, 1, [], []),
  (121, .ireturn, 1, [0], []),
  (122, .iconst 5, 1, [], []),
  (123, .ireturn, 1, [0], []),
  (124, .bipush 6, 2, [], []),
  (126, .ireturn, 1, [0], []),
  (127, .bipush 7, 2, [], []),
  (129, .ireturn, 1, [0], []),
  (130, .bipush 8, 2, [], []),
  (132, .ireturn, 1, [0], []),
  (133, .bipush 9, 2, [], []),
  (135, .ireturn, 1, [0], []),
  (136, .bipush 10, 2, [], []),
  (138, .ireturn, 1, [0], []),
  (139, .bipush 11, 2, [], []),
  (141, .ireturn, 1, [0], []),
  (142, .bipush 12, 2, [], []),
  (144, .ireturn, 1, [0], []),
  (145, .bipush 13, 2, [], []),
  (147, .ireturn, 1, [0], []),
  (148, .iconst (-1), 1, [], []),
  (149, .ireturn, 1, [0], [])]
def mX12_factOf : pv_M := (⟨"CliffGardenModel", "factOf", "(I)I"⟩, prog_14_method_27_code, 1, some .int, rX12_factOf)
def rX12_sumSign : List pv_R := [
  (0, .iload_n 0, 1, [], []),
  (1, .bipush 43, 2, [], []),
  (3, .if_icmp .ne 7, 3, [5], []),
  (6, .iconst 2, 1, [], []),
  (7, .goto 45, 3, [26], []),
  (10, .iload_n 0, 1, [], []),
  (11, .bipush 45, 2, [], []),
  (13, .if_icmp .ne 7, 3, [10], []),
  (16, .iconst 3, 1, [], []),
  (17, .goto 35, 3, [26], []),
  (20, .iload_n 0, 1, [], []),
  (21, .bipush 42, 2, [], []),
  (23, .if_icmp .ne 7, 3, [15], []),
  (26, .iconst 4, 1, [], []),
  (27, .goto 25, 3, [26], []),
  (30, .iload_n 0, 1, [], []),
  (31, .bipush 47, 2, [], []),
  (33, .if_icmp .ne 7, 3, [20], []),
  (36, .iconst 5, 1, [], []),
  (37, .goto 15, 3, [26], []),
  (40, .iload_n 0, 1, [], []),
  (41, .bipush 37, 2, [], []),
  (43, .if_icmp .ne 8, 3, [25], []),
  (46, .bipush 6, 2, [], []),
  (48, .goto 4, 3, [26], []),
  (51, .iconst (-1), 1, [], []),
  (52, .ireturn, 1, [0], [])]
def mX12_sumSign : pv_M := (⟨"CliffGardenModel", "sumSign", "(I)I"⟩, prog_14_method_28_code, 1, some .int, rX12_sumSign)
def rX12_closesSums : List pv_R := [
  (0, .aload_n 0, 1, [], []),
  (1, .invokevirtual 265, 3, [169, 0, 12], [46]),
  (4, .iconst 4, 1, [], []),
  (5, .if_icmp .lt 12, 3, [8], []),
  (8, .aload_n 0, 1, [], []),
  (9, .invokevirtual 265, 3, [169, 0, 12], [46]),
  (12, .bipush 6, 2, [], []),
  (14, .if_icmp .le 23, 3, [18], []),
  (17, .iload_n 1, 1, [], []),
  (18, .ifCond .eq 41, 3, [30], []),
  (21, .aload_n 0, 1, [], []),
  (22, .invokevirtual 265, 3, [169, 0, 12], [46]),
  (25, .iconst 2, 1, [], []),
  (26, .if_icmp .eq 11, 3, [18], []),
  (29, .aload_n 0, 1, [], []),
  (30, .invokevirtual 265, 3, [169, 0, 12], [46]),
  (33, .iconst 3, 1, [], []),
  (34, .if_icmp .ne 25, 3, [30], []),
  (37, .aload_n 0, 1, [], []),
  (38, .aload_n 0, 1, [], []),
  (39, .invokevirtual 265, 3, [169, 0, 12], [46]),
  (42, .iconst 0, 1, [], []),
  (43, .invokevirtual 268, 3, [167, 2, 12], [74]),
  (46, .aload_n 0, 1, [], []),
  (47, .aload_n 0, 1, [], []),
  (48, .getfield 262, 3, [12, 32], [6]),
  (51, .iconst 1, 1, [], []),
  (52, .isub, 1, [], []),
  (53, .putfield 262, 3, [12, 32], [6]),
  (56, .goto (-56), 3, [0], []),
  (59, .return_, 1, [], [])]
def mX12_closesSums : pv_M := (⟨"CliffGardenModel", "closesSums", "(Z)V"⟩, prog_14_method_29_code, 2, none, rX12_closesSums)
def rX12_readsFactor : List pv_R := [
  (0, .aload_n 0, 1, [], []),
  (1, .invokevirtual 238, 3, [162, 0, 12], [14]),
  (4, .bipush 91, 2, [], []),
  (6, .if_icmp .ne 14, 3, [10], []),
  (9, .aload_n 0, 1, [], []),
  (10, .bipush 14, 2, [], []),
  (12, .invokevirtual 272, 3, [168, 1, 12], [181]),
  (15, .ifCond .ne (-15), 3, [0], []),
  (18, .iconst 0, 1, [], []),
  (19, .ireturn, 1, [1], []),
  (20, .aload_n 0, 1, [], []),
  (21, .invokevirtual 251, 3, [163, 0, 12], [288]),
  (24, .ifCond .eq 23, 3, [25], []),
  (27, .aload_n 0, 1, [], []),
  (28, .invokevirtual 276, 3, [166, 0, 12], [623]),
  (31, .ifCond .ne 5, 3, [18], []),
  (34, .iconst 0, 1, [], []),
  (35, .ireturn, 1, [1], []),
  (36, .aload_n 0, 1, [], []),
  (37, .iconst 0, 1, [], []),
  (38, .aload_n 0, 1, [], []),
  (39, .getfield 248, 3, [12, 34], [122]),
  (42, .invokevirtual 268, 3, [167, 2, 12], [74]),
  (45, .iconst 1, 1, [], []),
  (46, .ireturn, 1, [1], []),
  (47, .aload_n 0, 1, [], []),
  (48, .invokevirtual 238, 3, [162, 0, 12], [14]),
  (51, .invokestatic 279, 3, [170, 1], [559]),
  (54, .istore_n 1, 1, [], []),
  (55, .iload_n 1, 1, [], []),
  (56, .iconst (-1), 1, [], []),
  (57, .if_icmp .ne 13, 3, [38], []),
  (60, .aload_n 0, 1, [], []),
  (61, .iconst 1, 1, [], []),
  (62, .aload_n 0, 1, [], []),
  (63, .getfield 232, 3, [12, 27], [2]),
  (66, .invokevirtual 245, 3, [164, 2, 12], [34]),
  (69, .ireturn, 1, [1], []),
  (70, .aload_n 0, 1, [], []),
  (71, .iconst 1, 1, [], []),
  (72, .iload_n 1, 1, [], []),
  (73, .invokevirtual 268, 3, [167, 2, 12], [74]),
  (76, .aload_n 0, 1, [], []),
  (77, .aload_n 0, 1, [], []),
  (78, .getfield 232, 3, [12, 27], [2]),
  (81, .iconst 1, 1, [], []),
  (82, .iadd, 1, [], []),
  (83, .putfield 232, 3, [12, 27], [2]),
  (86, .iconst 1, 1, [], []),
  (87, .ireturn, 1, [1], [])]
def mX12_readsFactor : pv_M := (⟨"CliffGardenModel", "readsFactor", "()Z"⟩, prog_14_method_30_code, 2, some .boolean, rX12_readsFactor)
def rX12_hasOpenSum : List pv_R := [
  (0, .iload_n 1, 1, [], []),
  (1, .istore_n 2, 1, [], []),
  (2, .iload_n 2, 1, [], []),
  (3, .aload_n 0, 1, [], []),
  (4, .getfield 262, 3, [12, 32], [6]),
  (7, .if_icmp .ge 26, 3, [18], []),
  (10, .aload_n 0, 1, [], []),
  (11, .getfield 81, 3, [12, 37], [68]),
  (14, .iload_n 2, 1, [], []),
  (15, .iaload, 1, [], []),
  (16, .ldc_w 258, 3, [1048576], [28]),
  (19, .idiv, 1, [], []),
  (20, .bipush 14, 2, [], []),
  (22, .if_icmp .ne 5, 3, [16], []),
  (25, .iconst 1, 1, [], []),
  (26, .ireturn, 1, [1], []),
  (27, .iinc 2 1, 3, [], []),
  (30, .goto (-28), 3, [2], []),
  (33, .iconst 0, 1, [], []),
  (34, .ireturn, 1, [1], [])]
def mX12_hasOpenSum : pv_M := (⟨"CliffGardenModel", "hasOpenSum", "(I)Z"⟩, prog_14_method_31_code, 3, some .boolean, rX12_hasOpenSum)
def rX12_readsSum : List pv_R := [
  (0, .aload_n 0, 1, [], []),
  (1, .getfield 262, 3, [12, 32], [6]),
  (4, .istore_n 1, 1, [], []),
  (5, .aload_n 0, 1, [], []),
  (6, .invokevirtual 283, 3, [173, 0, 12], [289]),
  (9, .ifCond .ne 5, 3, [8], []),
  (12, .iconst 0, 1, [], []),
  (13, .ireturn, 1, [1], []),
  (14, .aload_n 0, 1, [], []),
  (15, .invokevirtual 238, 3, [162, 0, 12], [14]),
  (18, .invokestatic 286, 3, [171, 1], [560]),
  (21, .istore_n 2, 1, [], []),
  (22, .iload_n 2, 1, [], []),
  (23, .iconst (-1), 1, [], []),
  (24, .if_icmp .eq 60, 3, [48], []),
  (27, .aload_n 0, 1, [], []),
  (28, .iload_n 2, 1, [], []),
  (29, .iconst 4, 1, [], []),
  (30, .if_icmp .ge 7, 3, [21], []),
  (33, .iconst 1, 1, [], []),
  (34, .goto 4, 3, [22], []),
  (37, .iconst 0, 1, [], []),
  (38, .invokevirtual 289, 3, [172, 1, 12], [182]),
  (41, .aload_n 0, 1, [], []),
  (42, .getfield 81, 3, [12, 37], [68]),
  (45, .aload_n 0, 1, [], []),
  (46, .getfield 262, 3, [12, 32], [6]),
  (49, .ldc_w 258, 3, [1048576], [28]),
  (52, .iload_n 2, 1, [], []),
  (53, .imul, 1, [], []),
  (54, .iastore, 1, [], []),
  (55, .aload_n 0, 1, [], []),
  (56, .aload_n 0, 1, [], []),
  (57, .getfield 262, 3, [12, 32], [6]),
  (60, .iconst 1, 1, [], []),
  (61, .iadd, 1, [], []),
  (62, .putfield 262, 3, [12, 32], [6]),
  (65, .aload_n 0, 1, [], []),
  (66, .aload_n 0, 1, [], []),
  (67, .getfield 232, 3, [12, 27], [2]),
  (70, .iconst 1, 1, [], []),
  (71, .iadd, 1, [], []),
  (72, .putfield 232, 3, [12, 27], [2]),
  (75, .aload_n 0, 1, [], []),
  (76, .invokevirtual 283, 3, [173, 0, 12], [289]),
  (79, .ifCond .ne 85, 3, [93], []),
  (82, .iconst 0, 1, [], []),
  (83, .ireturn, 1, [1], []),
  (84, .aload_n 0, 1, [], []),
  (85, .invokevirtual 238, 3, [162, 0, 12], [14]),
  (88, .bipush 93, 2, [], []),
  (90, .if_icmp .ne 49, 3, [78], []),
  (93, .aload_n 0, 1, [], []),
  (94, .iload_n 1, 1, [], []),
  (95, .invokevirtual 293, 3, [174, 1, 12], [290]),
  (98, .ifCond .eq 41, 3, [78], []),
  (101, .aload_n 0, 1, [], []),
  (102, .iconst 1, 1, [], []),
  (103, .invokevirtual 289, 3, [172, 1, 12], [182]),
  (106, .aload_n 0, 1, [], []),
  (107, .aload_n 0, 1, [], []),
  (108, .getfield 262, 3, [12, 32], [6]),
  (111, .iconst 1, 1, [], []),
  (112, .isub, 1, [], []),
  (113, .putfield 262, 3, [12, 32], [6]),
  (116, .aload_n 0, 1, [], []),
  (117, .aload_n 0, 1, [], []),
  (118, .getfield 259, 3, [12, 30], [26]),
  (121, .iconst 1, 1, [], []),
  (122, .isub, 1, [], []),
  (123, .putfield 259, 3, [12, 30], [26]),
  (126, .aload_n 0, 1, [], []),
  (127, .aload_n 0, 1, [], []),
  (128, .getfield 232, 3, [12, 27], [2]),
  (131, .iconst 1, 1, [], []),
  (132, .iadd, 1, [], []),
  (133, .putfield 232, 3, [12, 27], [2]),
  (136, .goto 28, 3, [93], []),
  (139, .aload_n 0, 1, [], []),
  (140, .iload_n 1, 1, [], []),
  (141, .invokevirtual 293, 3, [174, 1, 12], [290]),
  (144, .ifCond .eq 13, 3, [88], []),
  (147, .aload_n 0, 1, [], []),
  (148, .iconst 1, 1, [], []),
  (149, .aload_n 0, 1, [], []),
  (150, .getfield 232, 3, [12, 27], [2]),
  (153, .invokevirtual 245, 3, [164, 2, 12], [34]),
  (156, .ireturn, 1, [1], []),
  (157, .aload_n 0, 1, [], []),
  (158, .iconst 1, 1, [], []),
  (159, .invokevirtual 289, 3, [172, 1, 12], [182]),
  (162, .iconst 1, 1, [], []),
  (163, .ireturn, 1, [1], []),
  (164, .goto (-150), 3, [8], [])]
def mX12_readsSum : pv_M := (⟨"CliffGardenModel", "readsSum", "()Z"⟩, prog_14_method_32_code, 3, some .boolean, rX12_readsSum)
def rX12_endsPiece : List pv_R := [
  (0, .aload_n 0, 1, [], []),
  (1, .invokevirtual 265, 3, [169, 0, 12], [46]),
  (4, .bipush 10, 2, [], []),
  (6, .if_icmp .ne 33, 3, [21], []),
  (9, .aload_n 0, 1, [], []),
  (10, .bipush 10, 2, [], []),
  (12, .iconst 0, 1, [], []),
  (13, .invokevirtual 268, 3, [167, 2, 12], [74]),
  (16, .aload_n 0, 1, [], []),
  (17, .aload_n 0, 1, [], []),
  (18, .getfield 262, 3, [12, 32], [6]),
  (21, .iconst 1, 1, [], []),
  (22, .isub, 1, [], []),
  (23, .putfield 262, 3, [12, 32], [6]),
  (26, .aload_n 0, 1, [], []),
  (27, .aload_n 0, 1, [], []),
  (28, .getfield 259, 3, [12, 30], [26]),
  (31, .iconst 1, 1, [], []),
  (32, .isub, 1, [], []),
  (33, .putfield 259, 3, [12, 30], [26]),
  (36, .goto (-36), 3, [0], []),
  (39, .return_, 1, [], [])]
def mX12_endsPiece : pv_M := (⟨"CliffGardenModel", "endsPiece", "()V"⟩, prog_14_method_33_code, 1, none, rX12_endsPiece)
def rX12_lands : List pv_R := [
  (0, .aload_n 0, 1, [], []),
  (1, .invokevirtual 265, 3, [169, 0, 12], [46]),
  (4, .bipush 11, 2, [], []),
  (6, .if_icmp .eq 16, 3, [10], []),
  (9, .iload_n 1, 1, [], []),
  (10, .ifCond .eq 66, 3, [42], []),
  (13, .aload_n 0, 1, [], []),
  (14, .invokevirtual 265, 3, [169, 0, 12], [46]),
  (17, .bipush 12, 2, [], []),
  (19, .if_icmp .ne 57, 3, [42], []),
  (22, .aload_n 0, 1, [], []),
  (23, .getfield 81, 3, [12, 37], [68]),
  (26, .aload_n 0, 1, [], []),
  (27, .getfield 262, 3, [12, 32], [6]),
  (30, .iconst 1, 1, [], []),
  (31, .isub, 1, [], []),
  (32, .iaload, 1, [], []),
  (33, .ldc_w 258, 3, [1048576], [28]),
  (36, .irem, 1, [], []),
  (37, .istore_n 2, 1, [], []),
  (38, .aload_n 0, 1, [], []),
  (39, .getfield 78, 3, [12, 36], [114]),
  (42, .iload_n 2, 1, [], []),
  (43, .ldc_w 258, 3, [1048576], [28]),
  (46, .aload_n 0, 1, [], []),
  (47, .getfield 78, 3, [12, 36], [114]),
  (50, .iload_n 2, 1, [], []),
  (51, .iaload, 1, [], []),
  (52, .ldc_w 258, 3, [1048576], [28]),
  (55, .idiv, 1, [], []),
  (56, .imul, 1, [], []),
  (57, .aload_n 0, 1, [], []),
  (58, .getfield 255, 3, [12, 31], [32]),
  (61, .iadd, 1, [], []),
  (62, .iastore, 1, [], []),
  (63, .aload_n 0, 1, [], []),
  (64, .aload_n 0, 1, [], []),
  (65, .getfield 262, 3, [12, 32], [6]),
  (68, .iconst 1, 1, [], []),
  (69, .isub, 1, [], []),
  (70, .putfield 262, 3, [12, 32], [6]),
  (73, .goto (-73), 3, [0], []),
  (76, .return_, 1, [], [])]
def mX12_lands : pv_M := (⟨"CliffGardenModel", "lands", "(Z)V"⟩, prog_14_method_34_code, 3, none, rX12_lands)
def rX12_jumps : List pv_R := [
  (0, .aload_n 0, 1, [], []),
  (1, .getfield 81, 3, [12, 37], [68]),
  (4, .aload_n 0, 1, [], []),
  (5, .getfield 262, 3, [12, 32], [6]),
  (8, .ldc_w 258, 3, [1048576], [28]),
  (11, .iload_n 1, 1, [], []),
  (12, .imul, 1, [], []),
  (13, .aload_n 0, 1, [], []),
  (14, .getfield 255, 3, [12, 31], [32]),
  (17, .iadd, 1, [], []),
  (18, .iastore, 1, [], []),
  (19, .aload_n 0, 1, [], []),
  (20, .aload_n 0, 1, [], []),
  (21, .getfield 262, 3, [12, 32], [6]),
  (24, .iconst 1, 1, [], []),
  (25, .iadd, 1, [], []),
  (26, .putfield 262, 3, [12, 32], [6]),
  (29, .aload_n 0, 1, [], []),
  (30, .iload_n 1, 1, [], []),
  (31, .iconst 0, 1, [], []),
  (32, .invokevirtual 268, 3, [167, 2, 12], [74]),
  (35, .aload_n 0, 1, [], []),
  (36, .aload_n 0, 1, [], []),
  (37, .getfield 232, 3, [12, 27], [2]),
  (40, .iconst 1, 1, [], []),
  (41, .iadd, 1, [], []),
  (42, .putfield 232, 3, [12, 27], [2]),
  (45, .return_, 1, [], [])]
def mX12_jumps : pv_M := (⟨"CliffGardenModel", "jumps", "(I)V"⟩, prog_14_method_35_code, 2, none, rX12_jumps)
def rX12_readsCompared : List pv_R := [
  (0, .aload_n 0, 1, [], []),
  (1, .invokevirtual 296, 3, [175, 0, 12], [183]),
  (4, .ifCond .ne 5, 3, [5], []),
  (7, .iconst 0, 1, [], []),
  (8, .ireturn, 1, [1], []),
  (9, .aload_n 0, 1, [], []),
  (10, .invokevirtual 238, 3, [162, 0, 12], [14]),
  (13, .bipush 60, 2, [], []),
  (15, .if_icmp .ne 8, 3, [11], []),
  (18, .bipush 7, 2, [], []),
  (20, .goto 32, 3, [24], []),
  (23, .aload_n 0, 1, [], []),
  (24, .invokevirtual 238, 3, [162, 0, 12], [14]),
  (27, .bipush 62, 2, [], []),
  (29, .if_icmp .ne 8, 3, [17], []),
  (32, .bipush 8, 2, [], []),
  (34, .goto 18, 3, [24], []),
  (37, .aload_n 0, 1, [], []),
  (38, .invokevirtual 238, 3, [162, 0, 12], [14]),
  (41, .bipush 61, 2, [], []),
  (43, .if_icmp .ne 8, 3, [23], []),
  (46, .bipush 9, 2, [], []),
  (48, .goto 4, 3, [24], []),
  (51, .iconst (-1), 1, [], []),
  (52, .istore_n 1, 1, [], []),
  (53, .iload_n 1, 1, [], []),
  (54, .iconst (-1), 1, [], []),
  (55, .if_icmp .ne 13, 3, [34], []),
  (58, .aload_n 0, 1, [], []),
  (59, .iconst 1, 1, [], []),
  (60, .aload_n 0, 1, [], []),
  (61, .getfield 232, 3, [12, 27], [2]),
  (64, .invokevirtual 245, 3, [164, 2, 12], [34]),
  (67, .ireturn, 1, [1], []),
  (68, .aload_n 0, 1, [], []),
  (69, .aload_n 0, 1, [], []),
  (70, .getfield 232, 3, [12, 27], [2]),
  (73, .iconst 1, 1, [], []),
  (74, .iadd, 1, [], []),
  (75, .putfield 232, 3, [12, 27], [2]),
  (78, .aload_n 0, 1, [], []),
  (79, .invokevirtual 296, 3, [175, 0, 12], [183]),
  (82, .ifCond .ne 5, 3, [45], []),
  (85, .iconst 0, 1, [], []),
  (86, .ireturn, 1, [1], []),
  (87, .aload_n 0, 1, [], []),
  (88, .iload_n 1, 1, [], []),
  (89, .iconst 0, 1, [], []),
  (90, .invokevirtual 268, 3, [167, 2, 12], [74]),
  (93, .aload_n 0, 1, [], []),
  (94, .invokevirtual 299, 3, [176, 0, 12], [291]),
  (97, .iconst 1, 1, [], []),
  (98, .ireturn, 1, [1], [])]
def mX12_readsCompared : pv_M := (⟨"CliffGardenModel", "readsCompared", "()Z"⟩, prog_14_method_36_code, 2, some .boolean, rX12_readsCompared)
def rX12_readsCondition : List pv_R := [
  (0, .aload_n 0, 1, [], []),
  (1, .invokevirtual 238, 3, [162, 0, 12], [14]),
  (4, .bipush 40, 2, [], []),
  (6, .if_icmp .eq 13, 3, [10], []),
  (9, .aload_n 0, 1, [], []),
  (10, .iconst 1, 1, [], []),
  (11, .aload_n 0, 1, [], []),
  (12, .getfield 232, 3, [12, 27], [2]),
  (15, .invokevirtual 245, 3, [164, 2, 12], [34]),
  (18, .ireturn, 1, [1], []),
  (19, .aload_n 0, 1, [], []),
  (20, .iconst 0, 1, [], []),
  (21, .putfield 259, 3, [12, 30], [26]),
  (24, .aload_n 0, 1, [], []),
  (25, .iconst 0, 1, [], []),
  (26, .putfield 262, 3, [12, 32], [6]),
  (29, .aload_n 0, 1, [], []),
  (30, .bipush 13, 2, [], []),
  (32, .invokevirtual 272, 3, [168, 1, 12], [181]),
  (35, .ifCond .ne 5, 3, [22], []),
  (38, .iconst 0, 1, [], []),
  (39, .ireturn, 1, [1], []),
  (40, .aload_n 0, 1, [], []),
  (41, .invokevirtual 238, 3, [162, 0, 12], [14]),
  (44, .bipush 33, 2, [], []),
  (46, .if_icmp .eq 12, 3, [30], []),
  (49, .aload_n 0, 1, [], []),
  (50, .invokevirtual 238, 3, [162, 0, 12], [14]),
  (53, .bipush 40, 2, [], []),
  (55, .if_icmp .ne 28, 3, [42], []),
  (58, .aload_n 0, 1, [], []),
  (59, .aload_n 0, 1, [], []),
  (60, .invokevirtual 238, 3, [162, 0, 12], [14]),
  (63, .bipush 33, 2, [], []),
  (65, .if_icmp .ne 8, 3, [37], []),
  (68, .bipush 10, 2, [], []),
  (70, .goto 5, 3, [38], []),
  (73, .bipush 13, 2, [], []),
  (75, .invokevirtual 272, 3, [168, 1, 12], [181]),
  (78, .ifCond .ne (-38), 3, [22], []),
  (81, .iconst 0, 1, [], []),
  (82, .ireturn, 1, [1], []),
  (83, .aload_n 0, 1, [], []),
  (84, .invokevirtual 302, 3, [179, 0, 12], [624]),
  (87, .ifCond .ne 5, 3, [47], []),
  (90, .iconst 0, 1, [], []),
  (91, .ireturn, 1, [1], []),
  (92, .aload_n 0, 1, [], []),
  (93, .invokevirtual 238, 3, [162, 0, 12], [14]),
  (96, .bipush 41, 2, [], []),
  (98, .if_icmp .ne 54, 3, [80], []),
  (101, .aload_n 0, 1, [], []),
  (102, .iconst 1, 1, [], []),
  (103, .invokevirtual 305, 3, [177, 1, 12], [292]),
  (106, .aload_n 0, 1, [], []),
  (107, .aload_n 0, 1, [], []),
  (108, .getfield 262, 3, [12, 32], [6]),
  (111, .iconst 1, 1, [], []),
  (112, .isub, 1, [], []),
  (113, .putfield 262, 3, [12, 32], [6]),
  (116, .aload_n 0, 1, [], []),
  (117, .aload_n 0, 1, [], []),
  (118, .getfield 259, 3, [12, 30], [26]),
  (121, .iconst 1, 1, [], []),
  (122, .isub, 1, [], []),
  (123, .putfield 259, 3, [12, 30], [26]),
  (126, .aload_n 0, 1, [], []),
  (127, .aload_n 0, 1, [], []),
  (128, .getfield 232, 3, [12, 27], [2]),
  (131, .iconst 1, 1, [], []),
  (132, .iadd, 1, [], []),
  (133, .putfield 232, 3, [12, 27], [2]),
  (136, .aload_n 0, 1, [], []),
  (137, .getfield 262, 3, [12, 32], [6]),
  (140, .ifCond .ne 5, 3, [77], []),
  (143, .iconst 1, 1, [], []),
  (144, .ireturn, 1, [1], []),
  (145, .aload_n 0, 1, [], []),
  (146, .invokevirtual 299, 3, [176, 0, 12], [291]),
  (149, .goto (-57), 3, [47], []),
  (152, .aload_n 0, 1, [], []),
  (153, .invokevirtual 238, 3, [162, 0, 12], [14]),
  (156, .bipush 38, 2, [], []),
  (158, .if_icmp .eq 22, 3, [94], []),
  (161, .aload_n 0, 1, [], []),
  (162, .invokevirtual 238, 3, [162, 0, 12], [14]),
  (165, .bipush 124, 2, [], []),
  (167, .if_icmp .eq 13, 3, [94], []),
  (170, .aload_n 0, 1, [], []),
  (171, .iconst 1, 1, [], []),
  (172, .aload_n 0, 1, [], []),
  (173, .getfield 232, 3, [12, 27], [2]),
  (176, .invokevirtual 245, 3, [164, 2, 12], [34]),
  (179, .ireturn, 1, [1], []),
  (180, .aload_n 0, 1, [], []),
  (181, .aload_n 0, 1, [], []),
  (182, .invokevirtual 238, 3, [162, 0, 12], [14]),
  (185, .bipush 124, 2, [], []),
  (187, .if_icmp .ne 7, 3, [101], []),
  (190, .iconst 1, 1, [], []),
  (191, .goto 4, 3, [102], []),
  (194, .iconst 0, 1, [], []),
  (195, .invokevirtual 305, 3, [177, 1, 12], [292]),
  (198, .aload_n 0, 1, [], []),
  (199, .aload_n 0, 1, [], []),
  (200, .invokevirtual 238, 3, [162, 0, 12], [14]),
  (203, .bipush 38, 2, [], []),
  (205, .if_icmp .ne 8, 3, [110], []),
  (208, .bipush 11, 2, [], []),
  (210, .goto 5, 3, [111], []),
  (213, .bipush 12, 2, [], []),
  (215, .invokevirtual 308, 3, [178, 1, 12], [625]),
  (218, .goto (-178), 3, [22], [])]
def mX12_readsCondition : pv_M := (⟨"CliffGardenModel", "readsCondition", "()Z"⟩, prog_14_method_37_code, 1, some .boolean, rX12_readsCondition)
def rX12_canBegin : List pv_R := [
  (0, .iload_n 0, 1, [], []),
  (1, .bipush 103, 2, [], []),
  (3, .if_icmp .eq 33, 3, [18], []),
  (6, .iload_n 0, 1, [], []),
  (7, .bipush 102, 2, [], []),
  (9, .if_icmp .eq 27, 3, [18], []),
  (12, .iload_n 0, 1, [], []),
  (13, .bipush 97, 2, [], []),
  (15, .if_icmp .eq 21, 3, [18], []),
  (18, .iload_n 0, 1, [], []),
  (19, .bipush 99, 2, [], []),
  (21, .if_icmp .eq 15, 3, [18], []),
  (24, .iload_n 0, 1, [], []),
  (25, .bipush 111, 2, [], []),
  (27, .if_icmp .eq 9, 3, [18], []),
  (30, .iload_n 0, 1, [], []),
  (31, .bipush 113, 2, [], []),
  (33, .if_icmp .ne 7, 3, [20], []),
  (36, .iconst 1, 1, [], []),
  (37, .goto 4, 3, [21], []),
  (40, .iconst 0, 1, [], []),
  (41, .ireturn, 1, [1], [])]
def mX12_canBegin : pv_M := (⟨"CliffGardenModel", "canBegin", "(I)Z"⟩, prog_14_method_38_code, 1, some .boolean, rX12_canBegin)
def rX12_readsClause : List pv_R := [
  (0, .aload_n 0, 1, [], []),
  (1, .invokevirtual 238, 3, [162, 0, 12], [14]),
  (4, .istore_n 1, 1, [], []),
  (5, .iload_n 1, 1, [], []),
  (6, .invokestatic 311, 3, [181, 1], [561]),
  (9, .ifCond .ne 13, 3, [12], []),
  (12, .aload_n 0, 1, [], []),
  (13, .iconst 1, 1, [], []),
  (14, .aload_n 0, 1, [], []),
  (15, .getfield 232, 3, [12, 27], [2]),
  (18, .invokevirtual 245, 3, [164, 2, 12], [34]),
  (21, .ireturn, 1, [1], []),
  (22, .aload_n 0, 1, [], []),
  (23, .getfield 314, 3, [12, 33], [27]),
  (26, .bipush 14, 2, [], []),
  (28, .if_icmp .ne 13, 3, [22], []),
  (31, .aload_n 0, 1, [], []),
  (32, .iconst 4, 1, [], []),
  (33, .aload_n 0, 1, [], []),
  (34, .getfield 232, 3, [12, 27], [2]),
  (37, .invokevirtual 245, 3, [164, 2, 12], [34]),
  (40, .ireturn, 1, [1], []),
  (41, .aload_n 0, 1, [], []),
  (42, .getfield 84, 3, [12, 38], [223]),
  (45, .aload_n 0, 1, [], []),
  (46, .getfield 314, 3, [12, 33], [27]),
  (49, .iload_n 1, 1, [], []),
  (50, .iastore, 1, [], []),
  (51, .aload_n 0, 1, [], []),
  (52, .aload_n 0, 1, [], []),
  (53, .getfield 232, 3, [12, 27], [2]),
  (56, .iconst 1, 1, [], []),
  (57, .iadd, 1, [], []),
  (58, .putfield 232, 3, [12, 27], [2]),
  (61, .aload_n 0, 1, [], []),
  (62, .getfield 87, 3, [12, 39], [224]),
  (65, .aload_n 0, 1, [], []),
  (66, .getfield 314, 3, [12, 33], [27]),
  (69, .aload_n 0, 1, [], []),
  (70, .getfield 255, 3, [12, 31], [32]),
  (73, .iastore, 1, [], []),
  (74, .aload_n 0, 1, [], []),
  (75, .iconst 0, 1, [], []),
  (76, .putfield 259, 3, [12, 30], [26]),
  (79, .aload_n 0, 1, [], []),
  (80, .iconst 0, 1, [], []),
  (81, .putfield 262, 3, [12, 32], [6]),
  (84, .aload_n 0, 1, [], []),
  (85, .invokevirtual 296, 3, [175, 0, 12], [183]),
  (88, .ifCond .ne 5, 3, [52], []),
  (91, .iconst 0, 1, [], []),
  (92, .ireturn, 1, [1], []),
  (93, .aload_n 0, 1, [], []),
  (94, .getfield 90, 3, [12, 40], [225]),
  (97, .aload_n 0, 1, [], []),
  (98, .getfield 314, 3, [12, 33], [27]),
  (101, .aload_n 0, 1, [], []),
  (102, .getfield 255, 3, [12, 31], [32]),
  (105, .iastore, 1, [], []),
  (106, .aload_n 0, 1, [], []),
  (107, .invokevirtual 317, 3, [180, 0, 12], [626]),
  (110, .ifCond .ne 5, 3, [64], []),
  (113, .iconst 0, 1, [], []),
  (114, .ireturn, 1, [1], []),
  (115, .aload_n 0, 1, [], []),
  (116, .getfield 93, 3, [12, 41], [226]),
  (119, .aload_n 0, 1, [], []),
  (120, .getfield 314, 3, [12, 33], [27]),
  (123, .aload_n 0, 1, [], []),
  (124, .getfield 255, 3, [12, 31], [32]),
  (127, .iastore, 1, [], []),
  (128, .aload_n 0, 1, [], []),
  (129, .aload_n 0, 1, [], []),
  (130, .getfield 314, 3, [12, 33], [27]),
  (133, .iconst 1, 1, [], []),
  (134, .iadd, 1, [], []),
  (135, .putfield 314, 3, [12, 33], [27]),
  (138, .iconst 1, 1, [], []),
  (139, .ireturn, 1, [1], [])]
def mX12_readsClause : pv_M := (⟨"CliffGardenModel", "readsClause", "()Z"⟩, prog_14_method_39_code, 2, some .boolean, rX12_readsClause)
def rX12_law : List pv_R := [
  (0, .iload_n 1, 1, [], []),
  (1, .iconst 1, 1, [], []),
  (2, .sipush 200, 3, [], []),
  (5, .invokestatic 206, 3, [145, 3], [1]),
  (8, .ifCond .eq 11, 3, [9], []),
  (11, .iload_n 1, 1, [], []),
  (12, .aload_n 0, 1, [], []),
  (13, .getfield 226, 3, [12, 26], [31]),
  (16, .if_icmp .le 5, 3, [11], []),
  (19, .iconst (-1), 1, [], []),
  (20, .ireturn, 1, [0], []),
  (21, .aload_n 0, 1, [], []),
  (22, .iconst 0, 1, [], []),
  (23, .putfield 232, 3, [12, 27], [2]),
  (26, .aload_n 0, 1, [], []),
  (27, .iload_n 1, 1, [], []),
  (28, .putfield 235, 3, [12, 28], [166]),
  (31, .aload_n 0, 1, [], []),
  (32, .iconst 0, 1, [], []),
  (33, .putfield 255, 3, [12, 31], [32]),
  (36, .aload_n 0, 1, [], []),
  (37, .iconst 0, 1, [], []),
  (38, .putfield 314, 3, [12, 33], [27]),
  (41, .aload_n 0, 1, [], []),
  (42, .invokevirtual 320, 3, [182, 0, 12], [293]),
  (45, .istore_n 2, 1, [], []),
  (46, .iload_n 2, 1, [], []),
  (47, .ifCond .eq 39, 3, [45], []),
  (50, .aload_n 0, 1, [], []),
  (51, .getfield 232, 3, [12, 27], [2]),
  (54, .aload_n 0, 1, [], []),
  (55, .getfield 235, 3, [12, 28], [166]),
  (58, .if_icmp .ge 28, 3, [45], []),
  (61, .aload_n 0, 1, [], []),
  (62, .bipush 59, 2, [], []),
  (64, .invokevirtual 323, 3, [165, 1, 12], [627]),
  (67, .ifCond .eq 14, 3, [42], []),
  (70, .aload_n 0, 1, [], []),
  (71, .invokevirtual 320, 3, [182, 0, 12], [293]),
  (74, .ifCond .eq 7, 3, [42], []),
  (77, .iconst 1, 1, [], []),
  (78, .goto 4, 3, [43], []),
  (81, .iconst 0, 1, [], []),
  (82, .istore_n 2, 1, [], []),
  (83, .goto (-37), 3, [26], []),
  (86, .aload_n 0, 1, [], []),
  (87, .iconst 0, 1, [], []),
  (88, .putfield 226, 3, [12, 26], [31]),
  (91, .iload_n 2, 1, [], []),
  (92, .ifCond .ne 8, 3, [53], []),
  (95, .aload_n 0, 1, [], []),
  (96, .getfield 242, 3, [12, 29], [238]),
  (99, .ireturn, 1, [0], []),
  (100, .aload_n 0, 1, [], []),
  (101, .aload_n 0, 1, [], []),
  (102, .getfield 314, 3, [12, 33], [27]),
  (105, .putfield 326, 3, [12, 35], [167]),
  (108, .iconst 0, 1, [], []),
  (109, .istore_n 3, 1, [], []),
  (110, .iload_n 3, 1, [], []),
  (111, .aload_n 0, 1, [], []),
  (112, .getfield 255, 3, [12, 31], [32]),
  (115, .if_icmp .ge 21, 3, [73], []),
  (118, .aload_n 0, 1, [], []),
  (119, .getfield 96, 3, [12, 42], [159]),
  (122, .iload_n 3, 1, [], []),
  (123, .aload_n 0, 1, [], []),
  (124, .getfield 78, 3, [12, 36], [114]),
  (127, .iload_n 3, 1, [], []),
  (128, .iaload, 1, [], []),
  (129, .iastore, 1, [], []),
  (130, .iinc 3 1, 3, [], []),
  (133, .goto (-23), 3, [59], []),
  (136, .iconst 0, 1, [], []),
  (137, .istore_n 3, 1, [], []),
  (138, .iload_n 3, 1, [], []),
  (139, .aload_n 0, 1, [], []),
  (140, .getfield 314, 3, [12, 33], [27]),
  (143, .if_icmp .ge 57, 3, [113], []),
  (146, .aload_n 0, 1, [], []),
  (147, .getfield 99, 3, [12, 43], [227]),
  (150, .iload_n 3, 1, [], []),
  (151, .aload_n 0, 1, [], []),
  (152, .getfield 84, 3, [12, 38], [223]),
  (155, .iload_n 3, 1, [], []),
  (156, .iaload, 1, [], []),
  (157, .iastore, 1, [], []),
  (158, .aload_n 0, 1, [], []),
  (159, .getfield 102, 3, [12, 44], [228]),
  (162, .iload_n 3, 1, [], []),
  (163, .aload_n 0, 1, [], []),
  (164, .getfield 87, 3, [12, 39], [224]),
  (167, .iload_n 3, 1, [], []),
  (168, .iaload, 1, [], []),
  (169, .iastore, 1, [], []),
  (170, .aload_n 0, 1, [], []),
  (171, .getfield 105, 3, [12, 45], [160]),
  (174, .iload_n 3, 1, [], []),
  (175, .aload_n 0, 1, [], []),
  (176, .getfield 90, 3, [12, 40], [225]),
  (179, .iload_n 3, 1, [], []),
  (180, .iaload, 1, [], []),
  (181, .iastore, 1, [], []),
  (182, .aload_n 0, 1, [], []),
  (183, .getfield 108, 3, [12, 46], [229]),
  (186, .iload_n 3, 1, [], []),
  (187, .aload_n 0, 1, [], []),
  (188, .getfield 93, 3, [12, 41], [226]),
  (191, .iload_n 3, 1, [], []),
  (192, .iaload, 1, [], []),
  (193, .iastore, 1, [], []),
  (194, .iinc 3 1, 3, [], []),
  (197, .goto (-59), 3, [75], []),
  (200, .aload_n 0, 1, [], []),
  (201, .getfield 314, 3, [12, 33], [27]),
  (204, .ireturn, 1, [0], [])]
def mX12_law : pv_M := (⟨"CliffGardenModel", "law", "(I)I"⟩, prog_14_method_40_code, 4, some .int, rX12_law)
def rX12_reckon : List pv_R := [
  (0, .iload_n 0, 1, [], []),
  (1, .tableswitch 85 2 8 #[43, 47, 51, 55, 59, 63, 74], 43, [36, 2, 6, 10, 14, 18, 22, 29], []),
  (44, .iload_n 1, 1, [], []),
  (45, .iload_n 2, 1, [], []),
  (46, .iadd, 1, [], []),
  (47, .ireturn, 1, [0], []),
  (48, .iload_n 1, 1, [], []),
  (49, .iload_n 2, 1, [], []),
  (50, .isub, 1, [], []),
  (51, .ireturn, 1, [0], []),
  (52, .iload_n 1, 1, [], []),
  (53, .iload_n 2, 1, [], []),
  (54, .imul, 1, [], []),
  (55, .ireturn, 1, [0], []),
  (56, .iload_n 1, 1, [], []),
  (57, .iload_n 2, 1, [], []),
  (58, .idiv, 1, [], []),
  (59, .ireturn, 1, [0], []),
  (60, .iload_n 1, 1, [], []),
  (61, .iload_n 2, 1, [], []),
  (62, .irem, 1, [], []),
  (63, .ireturn, 1, [0], []),
  (64, .iload_n 1, 1, [], []),
  (65, .iload_n 2, 1, [], []),
  (66, .if_icmp .ge 7, 3, [27], []),
  (69, .iconst 1, 1, [], []),
  (70, .goto 4, 3, [28], []),
  (73, .iconst 0, 1, [], []),
  (74, .ireturn, 1, [0], []),
  (75, .iload_n 1, 1, [], []),
  (76, .iload_n 2, 1, [], []),
  (77, .if_icmp .le 7, 3, [34], []),
  (80, .iconst 1, 1, [], []),
  (81, .goto 4, 3, [35], []),
  (84, .iconst 0, 1, [], []),
  (85, .ireturn, 1, [0], []),
  (86, .iload_n 1, 1, [], []),
  (87, .iload_n 2, 1, [], []),
  (88, .if_icmp .ne 7, 3, [41], []),
  (91, .iconst 1, 1, [], []),
  (92, .goto 4, 3, [42], []),
  (95, .iconst 0, 1, [], []),
  (96, .ireturn, 1, [0], [])]
def mX12_reckon : pv_M := (⟨"CliffGardenModel", "reckon", "(III)I"⟩, prog_14_method_41_code, 3, some .int, rX12_reckon)
def rX12_comesTo : List pv_R := [
  (0, .iconst 0, 1, [], []),
  (1, .istore_n 3, 1, [], []),
  (2, .sipush 220, 3, [], []),
  (5, .iload_n 1, 1, [], []),
  (6, .sipush 220, 3, [], []),
  (9, .idiv, 1, [], []),
  (10, .imul, 1, [], []),
  (11, .istore 4, 2, [], []),
  (13, .iload_n 1, 1, [], []),
  (14, .istore 5, 2, [], []),
  (16, .iload 5, 2, [], []),
  (18, .iload_n 2, 1, [], []),
  (19, .if_icmp .ge 216, 3, [136], []),
  (22, .aload_n 0, 1, [], []),
  (23, .getfield 96, 3, [12, 42], [159]),
  (26, .iload 5, 2, [], []),
  (28, .iaload, 1, [], []),
  (29, .ldc_w 258, 3, [1048576], [28]),
  (32, .idiv, 1, [], []),
  (33, .istore 6, 2, [], []),
  (35, .aload_n 0, 1, [], []),
  (36, .getfield 96, 3, [12, 42], [159]),
  (39, .iload 5, 2, [], []),
  (41, .iaload, 1, [], []),
  (42, .ldc_w 258, 3, [1048576], [28]),
  (45, .irem, 1, [], []),
  (46, .istore 7, 2, [], []),
  (48, .iload 5, 2, [], []),
  (50, .iconst 1, 1, [], []),
  (51, .iadd, 1, [], []),
  (52, .istore 5, 2, [], []),
  (54, .iload 6, 2, [], []),
  (56, .ifCond .eq 9, 3, [36], []),
  (59, .iload 6, 2, [], []),
  (61, .iconst 1, 1, [], []),
  (62, .if_icmp .ne 33, 3, [53], []),
  (65, .aload_n 0, 1, [], []),
  (66, .getfield 111, 3, [12, 47], [39]),
  (69, .iload_n 3, 1, [], []),
  (70, .iload 6, 2, [], []),
  (72, .ifCond .ne 8, 3, [43], []),
  (75, .iload 7, 2, [], []),
  (77, .goto 10, 3, [47], []),
  (80, .aload_n 0, 1, [], []),
  (81, .getfield 114, 3, [12, 48], [17]),
  (84, .iload 7, 2, [], []),
  (86, .iaload, 1, [], []),
  (87, .iastore, 1, [], []),
  (88, .iload_n 3, 1, [], []),
  (89, .iconst 1, 1, [], []),
  (90, .iadd, 1, [], []),
  (91, .istore_n 3, 1, [], []),
  (92, .goto 140, 3, [135], []),
  (95, .iload 6, 2, [], []),
  (97, .bipush 10, 2, [], []),
  (99, .if_icmp .ne 24, 3, [71], []),
  (102, .aload_n 0, 1, [], []),
  (103, .getfield 111, 3, [12, 47], [39]),
  (106, .iload_n 3, 1, [], []),
  (107, .iconst 1, 1, [], []),
  (108, .isub, 1, [], []),
  (109, .iconst 1, 1, [], []),
  (110, .aload_n 0, 1, [], []),
  (111, .getfield 111, 3, [12, 47], [39]),
  (114, .iload_n 3, 1, [], []),
  (115, .iconst 1, 1, [], []),
  (116, .isub, 1, [], []),
  (117, .iaload, 1, [], []),
  (118, .isub, 1, [], []),
  (119, .iastore, 1, [], []),
  (120, .goto 112, 3, [135], []),
  (123, .iload 6, 2, [], []),
  (125, .bipush 11, 2, [], []),
  (127, .if_icmp .eq 10, 3, [77], []),
  (130, .iload 6, 2, [], []),
  (132, .bipush 12, 2, [], []),
  (134, .if_icmp .ne 43, 3, [100], []),
  (137, .aload_n 0, 1, [], []),
  (138, .getfield 111, 3, [12, 47], [39]),
  (141, .iload_n 3, 1, [], []),
  (142, .iconst 1, 1, [], []),
  (143, .isub, 1, [], []),
  (144, .iaload, 1, [], []),
  (145, .iload 6, 2, [], []),
  (147, .bipush 12, 2, [], []),
  (149, .if_icmp .ne 7, 3, [88], []),
  (152, .iconst 1, 1, [], []),
  (153, .goto 4, 3, [89], []),
  (156, .iconst 0, 1, [], []),
  (157, .if_icmp .ne 13, 3, [95], []),
  (160, .iload 4, 2, [], []),
  (162, .iload 7, 2, [], []),
  (164, .iadd, 1, [], []),
  (165, .istore 5, 2, [], []),
  (167, .goto 65, 3, [135], []),
  (170, .iload_n 3, 1, [], []),
  (171, .iconst 1, 1, [], []),
  (172, .isub, 1, [], []),
  (173, .istore_n 3, 1, [], []),
  (174, .goto 58, 3, [135], []),
  (177, .iload_n 3, 1, [], []),
  (178, .iconst 1, 1, [], []),
  (179, .isub, 1, [], []),
  (180, .istore_n 3, 1, [], []),
  (181, .iload 6, 2, [], []),
  (183, .iconst 5, 1, [], []),
  (184, .if_icmp .eq 10, 3, [110], []),
  (187, .iload 6, 2, [], []),
  (189, .bipush 6, 2, [], []),
  (191, .if_icmp .ne 14, 3, [117], []),
  (194, .aload_n 0, 1, [], []),
  (195, .getfield 111, 3, [12, 47], [39]),
  (198, .iload_n 3, 1, [], []),
  (199, .iaload, 1, [], []),
  (200, .ifCond .ne 5, 3, [117], []),
  (203, .iconst 0, 1, [], []),
  (204, .ireturn, 1, [0], []),
  (205, .aload_n 0, 1, [], []),
  (206, .getfield 111, 3, [12, 47], [39]),
  (209, .iload_n 3, 1, [], []),
  (210, .iconst 1, 1, [], []),
  (211, .isub, 1, [], []),
  (212, .iload 6, 2, [], []),
  (214, .aload_n 0, 1, [], []),
  (215, .getfield 111, 3, [12, 47], [39]),
  (218, .iload_n 3, 1, [], []),
  (219, .iconst 1, 1, [], []),
  (220, .isub, 1, [], []),
  (221, .iaload, 1, [], []),
  (222, .aload_n 0, 1, [], []),
  (223, .getfield 111, 3, [12, 47], [39]),
  (226, .iload_n 3, 1, [], []),
  (227, .iaload, 1, [], []),
  (228, .invokestatic 329, 3, [184, 3], [562]),
  (231, .iastore, 1, [], []),
  (232, .goto (-216), 3, [10], []),
  (235, .aload_n 0, 1, [], []),
  (236, .getfield 111, 3, [12, 47], [39]),
  (239, .iconst 0, 1, [], []),
  (240, .iaload, 1, [], []),
  (241, .ireturn, 1, [0], [])]
def mX12_comesTo : pv_M := (⟨"CliffGardenModel", "comesTo", "(II)I"⟩, prog_14_method_42_code, 8, some .int, rX12_comesTo)
def rX12_told : List pv_R := [
  (0, .iconst 0, 1, [], []),
  (1, .istore_n 3, 1, [], []),
  (2, .iload_n 3, 1, [], []),
  (3, .aload_n 0, 1, [], []),
  (4, .getfield 326, 3, [12, 35], [167]),
  (7, .if_icmp .ge 82, 3, [49], []),
  (10, .aload_n 0, 1, [], []),
  (11, .getfield 99, 3, [12, 43], [227]),
  (14, .iload_n 3, 1, [], []),
  (15, .iaload, 1, [], []),
  (16, .iload_n 1, 1, [], []),
  (17, .if_icmp .ne 66, 3, [47], []),
  (20, .aload_n 0, 1, [], []),
  (21, .aload_n 0, 1, [], []),
  (22, .getfield 105, 3, [12, 45], [160]),
  (25, .iload_n 3, 1, [], []),
  (26, .iaload, 1, [], []),
  (27, .aload_n 0, 1, [], []),
  (28, .getfield 108, 3, [12, 46], [229]),
  (31, .iload_n 3, 1, [], []),
  (32, .iaload, 1, [], []),
  (33, .invokevirtual 333, 3, [185, 2, 12], [294]),
  (36, .iconst 1, 1, [], []),
  (37, .if_icmp .eq 6, 3, [25], []),
  (40, .goto 43, 3, [47], []),
  (43, .aload_n 0, 1, [], []),
  (44, .aload_n 0, 1, [], []),
  (45, .getfield 102, 3, [12, 44], [228]),
  (48, .iload_n 3, 1, [], []),
  (49, .iaload, 1, [], []),
  (50, .aload_n 0, 1, [], []),
  (51, .getfield 105, 3, [12, 45], [160]),
  (54, .iload_n 3, 1, [], []),
  (55, .iaload, 1, [], []),
  (56, .invokevirtual 333, 3, [185, 2, 12], [294]),
  (59, .istore 4, 2, [], []),
  (61, .iload 4, 2, [], []),
  (63, .ifCond .ge 7, 3, [40], []),
  (66, .iconst 0, 1, [], []),
  (67, .goto 15, 3, [46], []),
  (70, .iload 4, 2, [], []),
  (72, .iload_n 2, 1, [], []),
  (73, .if_icmp .le 7, 3, [45], []),
  (76, .iload_n 2, 1, [], []),
  (77, .goto 5, 3, [46], []),
  (80, .iload 4, 2, [], []),
  (82, .ireturn, 1, [0], []),
  (83, .iinc 3 1, 3, [], []),
  (86, .goto (-84), 3, [2], []),
  (89, .iconst 0, 1, [], []),
  (90, .ireturn, 1, [0], [])]
def mX12_told : pv_M := (⟨"CliffGardenModel", "told", "(II)I"⟩, prog_14_method_43_code, 5, some .int, rX12_told)
def rX12_feelsCell : List pv_R := [
  (0, .aload_n 0, 1, [], []),
  (1, .getfield 114, 3, [12, 48], [17]),
  (4, .iconst 2, 1, [], []),
  (5, .iload_n 1, 1, [], []),
  (6, .bipush 6, 2, [], []),
  (8, .idiv, 1, [], []),
  (9, .iastore, 1, [], []),
  (10, .aload_n 0, 1, [], []),
  (11, .getfield 114, 3, [12, 48], [17]),
  (14, .iconst 3, 1, [], []),
  (15, .iload_n 1, 1, [], []),
  (16, .bipush 6, 2, [], []),
  (18, .irem, 1, [], []),
  (19, .iastore, 1, [], []),
  (20, .aload_n 0, 1, [], []),
  (21, .getfield 114, 3, [12, 48], [17]),
  (24, .iconst 4, 1, [], []),
  (25, .aload_n 0, 1, [], []),
  (26, .getfield 7, 3, [12, 4], [3]),
  (29, .iload_n 1, 1, [], []),
  (30, .baload, 1, [1], []),
  (31, .ifCond .eq 12, 3, [27], []),
  (34, .aload_n 0, 1, [], []),
  (35, .getfield 20, 3, [12, 7], [84]),
  (38, .iload_n 1, 1, [], []),
  (39, .iaload, 1, [], []),
  (40, .goto 4, 3, [28], []),
  (43, .iconst 0, 1, [], []),
  (44, .iastore, 1, [], []),
  (45, .aload_n 0, 1, [], []),
  (46, .getfield 114, 3, [12, 48], [17]),
  (49, .iconst 5, 1, [], []),
  (50, .aload_n 0, 1, [], []),
  (51, .getfield 7, 3, [12, 4], [3]),
  (54, .iload_n 1, 1, [], []),
  (55, .baload, 1, [1], []),
  (56, .ifCond .eq 12, 3, [42], []),
  (59, .aload_n 0, 1, [], []),
  (60, .getfield 16, 3, [12, 6], [24]),
  (63, .iload_n 1, 1, [], []),
  (64, .iaload, 1, [], []),
  (65, .goto 4, 3, [43], []),
  (68, .iconst 0, 1, [], []),
  (69, .iastore, 1, [], []),
  (70, .aload_n 0, 1, [], []),
  (71, .getfield 114, 3, [12, 48], [17]),
  (74, .bipush 6, 2, [], []),
  (76, .aload_n 0, 1, [], []),
  (77, .getfield 7, 3, [12, 4], [3]),
  (80, .iload_n 1, 1, [], []),
  (81, .baload, 1, [1], []),
  (82, .ifCond .eq 12, 3, [57], []),
  (85, .aload_n 0, 1, [], []),
  (86, .getfield 23, 3, [12, 8], [151]),
  (89, .iload_n 1, 1, [], []),
  (90, .iaload, 1, [], []),
  (91, .goto 4, 3, [58], []),
  (94, .iconst 0, 1, [], []),
  (95, .iastore, 1, [], []),
  (96, .aload_n 0, 1, [], []),
  (97, .getfield 114, 3, [12, 48], [17]),
  (100, .bipush 7, 2, [], []),
  (102, .aload_n 0, 1, [], []),
  (103, .getfield 7, 3, [12, 4], [3]),
  (106, .iload_n 1, 1, [], []),
  (107, .baload, 1, [1], []),
  (108, .ifCond .eq 12, 3, [72], []),
  (111, .aload_n 0, 1, [], []),
  (112, .getfield 38, 3, [12, 13], [38]),
  (115, .iload_n 1, 1, [], []),
  (116, .iaload, 1, [], []),
  (117, .goto 4, 3, [73], []),
  (120, .iconst 0, 1, [], []),
  (121, .iastore, 1, [], []),
  (122, .aload_n 0, 1, [], []),
  (123, .getfield 114, 3, [12, 48], [17]),
  (126, .bipush 10, 2, [], []),
  (128, .aload_n 0, 1, [], []),
  (129, .getfield 336, 3, [12, 0], [88]),
  (132, .iastore, 1, [], []),
  (133, .aload_n 0, 1, [], []),
  (134, .getfield 114, 3, [12, 48], [17]),
  (137, .bipush 11, 2, [], []),
  (139, .aload_n 0, 1, [], []),
  (140, .getfield 53, 3, [12, 18], [154]),
  (143, .iload_n 1, 1, [], []),
  (144, .bipush 6, 2, [], []),
  (146, .idiv, 1, [], []),
  (147, .iaload, 1, [], []),
  (148, .iastore, 1, [], []),
  (149, .aload_n 0, 1, [], []),
  (150, .getfield 114, 3, [12, 48], [17]),
  (153, .bipush 12, 2, [], []),
  (155, .iload_n 2, 1, [], []),
  (156, .iastore, 1, [], []),
  (157, .aload_n 0, 1, [], []),
  (158, .getfield 114, 3, [12, 48], [17]),
  (161, .bipush 13, 2, [], []),
  (163, .iload_n 3, 1, [], []),
  (164, .iastore, 1, [], []),
  (165, .return_, 1, [], [])]
def mX12_feelsCell : pv_M := (⟨"CliffGardenModel", "feelsCell", "(III)V"⟩, prog_14_method_44_code, 4, none, rX12_feelsCell)
def rX12_feelsCrop : List pv_R := [
  (0, .aload_n 0, 1, [], []),
  (1, .getfield 114, 3, [12, 48], [17]),
  (4, .iconst 0, 1, [], []),
  (5, .iload_n 1, 1, [], []),
  (6, .iastore, 1, [], []),
  (7, .aload_n 0, 1, [], []),
  (8, .getfield 114, 3, [12, 48], [17]),
  (11, .iconst 1, 1, [], []),
  (12, .iload_n 2, 1, [], []),
  (13, .iastore, 1, [], []),
  (14, .aload_n 0, 1, [], []),
  (15, .getfield 114, 3, [12, 48], [17]),
  (18, .bipush 8, 2, [], []),
  (20, .iload_n 3, 1, [], []),
  (21, .ifCond .eq 7, 3, [17], []),
  (24, .iconst 1, 1, [], []),
  (25, .goto 4, 3, [18], []),
  (28, .iconst 0, 1, [], []),
  (29, .iastore, 1, [], []),
  (30, .aload_n 0, 1, [], []),
  (31, .getfield 114, 3, [12, 48], [17]),
  (34, .bipush 9, 2, [], []),
  (36, .iload 4, 2, [], []),
  (38, .ifCond .eq 7, 3, [26], []),
  (41, .iconst 1, 1, [], []),
  (42, .goto 4, 3, [27], []),
  (45, .iconst 0, 1, [], []),
  (46, .iastore, 1, [], []),
  (47, .return_, 1, [], [])]
def mX12_feelsCrop : pv_M := (⟨"CliffGardenModel", "feelsCrop", "(IIZZ)V"⟩, prog_14_method_45_code, 5, none, rX12_feelsCrop)
def rX12_isRipe : List pv_R := [
  (0, .aload_n 0, 1, [], []),
  (1, .getfield 29, 3, [12, 10], [4]),
  (4, .iload_n 1, 1, [], []),
  (5, .iaload, 1, [], []),
  (6, .iconst (-1), 1, [], []),
  (7, .if_icmp .eq 27, 3, [20], []),
  (10, .aload_n 0, 1, [], []),
  (11, .getfield 32, 3, [12, 11], [19]),
  (14, .iload_n 1, 1, [], []),
  (15, .iaload, 1, [], []),
  (16, .aload_n 0, 1, [], []),
  (17, .getfield 44, 3, [12, 15], [45]),
  (20, .aload_n 0, 1, [], []),
  (21, .getfield 29, 3, [12, 10], [4]),
  (24, .iload_n 1, 1, [], []),
  (25, .iaload, 1, [], []),
  (26, .iaload, 1, [], []),
  (27, .if_icmp .lt 7, 3, [20], []),
  (30, .iconst 1, 1, [], []),
  (31, .goto 4, 3, [21], []),
  (34, .iconst 0, 1, [], []),
  (35, .ireturn, 1, [1], [])]
def mX12_isRipe : pv_M := (⟨"CliffGardenModel", "isRipe", "(I)Z"⟩, prog_14_method_46_code, 2, some .boolean, rX12_isRipe)
def rX12_feels : List pv_R := [
  (0, .aload_n 0, 1, [], []),
  (1, .iload_n 1, 1, [], []),
  (2, .iconst 0, 1, [], []),
  (3, .iconst 0, 1, [], []),
  (4, .invokevirtual 339, 3, [187, 3, 12], [184]),
  (7, .aload_n 0, 1, [], []),
  (8, .aload_n 0, 1, [], []),
  (9, .getfield 29, 3, [12, 10], [4]),
  (12, .iload_n 1, 1, [], []),
  (13, .iaload, 1, [], []),
  (14, .iconst (-1), 1, [], []),
  (15, .if_icmp .ne 7, 3, [14], []),
  (18, .iconst 0, 1, [], []),
  (19, .goto 9, 3, [18], []),
  (22, .aload_n 0, 1, [], []),
  (23, .getfield 29, 3, [12, 10], [4]),
  (26, .iload_n 1, 1, [], []),
  (27, .iaload, 1, [], []),
  (28, .aload_n 0, 1, [], []),
  (29, .getfield 32, 3, [12, 11], [19]),
  (32, .iload_n 1, 1, [], []),
  (33, .iaload, 1, [], []),
  (34, .aload_n 0, 1, [], []),
  (35, .iload_n 1, 1, [], []),
  (36, .invokevirtual 343, 3, [189, 1, 12], [185]),
  (39, .aload_n 0, 1, [], []),
  (40, .getfield 13, 3, [12, 5], [52]),
  (43, .iload_n 1, 1, [], []),
  (44, .baload, 1, [1], []),
  (45, .invokevirtual 346, 3, [188, 4, 12], [186]),
  (48, .return_, 1, [], [])]
def mX12_feels : pv_M := (⟨"CliffGardenModel", "feels", "(I)V"⟩, prog_14_method_47_code, 2, none, rX12_feels)
def rX12_asked : List pv_R := [
  (0, .aload_n 0, 1, [], []),
  (1, .iload_n 1, 1, [], []),
  (2, .invokevirtual 350, 3, [190, 1, 12], [295]),
  (5, .aload_n 0, 1, [], []),
  (6, .iload_n 2, 1, [], []),
  (7, .iload_n 3, 1, [], []),
  (8, .invokevirtual 353, 3, [186, 2, 12], [132]),
  (11, .ireturn, 1, [0], [])]
def mX12_asked : pv_M := (⟨"CliffGardenModel", "asked", "(III)I"⟩, prog_14_method_48_code, 4, some .int, rX12_asked)
def rX12_byLaw : List pv_R := [
  (0, .iload_n 1, 1, [], []),
  (1, .iload_n 2, 1, [], []),
  (2, .invokestatic 210, 3, [148, 2], [91]),
  (5, .ifCond .eq 12, 3, [9], []),
  (8, .iload_n 3, 1, [], []),
  (9, .iconst 0, 1, [], []),
  (10, .iconst 2, 1, [], []),
  (11, .invokestatic 206, 3, [145, 3], [1]),
  (14, .ifCond .ne 5, 3, [11], []),
  (17, .iconst (-1), 1, [], []),
  (18, .ireturn, 1, [0], []),
  (19, .iload_n 1, 1, [], []),
  (20, .iload_n 2, 1, [], []),
  (21, .invokestatic 214, 3, [149, 2], [16]),
  (24, .istore 4, 2, [], []),
  (26, .aload_n 0, 1, [], []),
  (27, .getfield 7, 3, [12, 4], [3]),
  (30, .iload 4, 2, [], []),
  (32, .baload, 1, [1], []),
  (33, .ifCond .ne 6, 3, [22], []),
  (36, .bipush (-2), 2, [], []),
  (38, .ireturn, 1, [0], []),
  (39, .iload_n 3, 1, [], []),
  (40, .iconst 2, 1, [], []),
  (41, .if_icmp .ge 16, 3, [33], []),
  (44, .aload_n 0, 1, [], []),
  (45, .getfield 29, 3, [12, 10], [4]),
  (48, .iload 4, 2, [], []),
  (50, .iaload, 1, [], []),
  (51, .iconst (-1), 1, [], []),
  (52, .if_icmp .ne 5, 3, [33], []),
  (55, .iconst (-1), 1, [], []),
  (56, .ireturn, 1, [0], []),
  (57, .iload_n 3, 1, [], []),
  (58, .ifCond .ne 16, 3, [41], []),
  (61, .aload_n 0, 1, [], []),
  (62, .iload 4, 2, [], []),
  (64, .bipush 103, 2, [], []),
  (66, .bipush 50, 2, [], []),
  (68, .invokevirtual 356, 3, [191, 3, 12], [58]),
  (71, .goto 33, 3, [55], []),
  (74, .iload_n 3, 1, [], []),
  (75, .iconst 1, 1, [], []),
  (76, .if_icmp .ne 17, 3, [50], []),
  (79, .aload_n 0, 1, [], []),
  (80, .iload 4, 2, [], []),
  (82, .bipush 102, 2, [], []),
  (84, .sipush 1000, 3, [], []),
  (87, .invokevirtual 356, 3, [191, 3, 12], [58]),
  (90, .goto 14, 3, [55], []),
  (93, .aload_n 0, 1, [], []),
  (94, .iload 4, 2, [], []),
  (96, .bipush 97, 2, [], []),
  (98, .sipush 999, 3, [], []),
  (101, .invokevirtual 356, 3, [191, 3, 12], [58]),
  (104, .ireturn, 1, [0], [])]
def mX12_byLaw : pv_M := (⟨"CliffGardenModel", "byLaw", "(III)I"⟩, prog_14_method_49_code, 5, some .int, rX12_byLaw)
def rX12_sends : List pv_R := [
  (0, .iload_n 2, 1, [], []),
  (1, .ifCond .lt 9, 3, [5], []),
  (4, .iload_n 2, 1, [], []),
  (5, .bipush 7, 2, [], []),
  (7, .if_icmp .le 7, 3, [7], []),
  (10, .iload_n 1, 1, [], []),
  (11, .goto 4, 3, [8], []),
  (14, .iload_n 2, 1, [], []),
  (15, .istore 4, 2, [], []),
  (17, .aload_n 0, 1, [], []),
  (18, .getfield 120, 3, [12, 50], [115]),
  (21, .iload 4, 2, [], []),
  (23, .aload_n 0, 1, [], []),
  (24, .getfield 120, 3, [12, 50], [115]),
  (27, .iload 4, 2, [], []),
  (29, .iaload, 1, [], []),
  (30, .iload_n 3, 1, [], []),
  (31, .iadd, 1, [], []),
  (32, .iastore, 1, [], []),
  (33, .return_, 1, [], [])]
def mX12_sends : pv_M := (⟨"CliffGardenModel", "sends", "(III)V"⟩, prog_14_method_50_code, 5, none, rX12_sends)
def rX12_drips : List pv_R := [
  (0, .iload_n 1, 1, [], []),
  (1, .bipush 6, 2, [], []),
  (3, .idiv, 1, [], []),
  (4, .istore_n 3, 1, [], []),
  (5, .aload_n 0, 1, [], []),
  (6, .getfield 7, 3, [12, 4], [3]),
  (9, .iload_n 1, 1, [], []),
  (10, .baload, 1, [1], []),
  (11, .ifCond .ne 11, 3, [15], []),
  (14, .aload_n 0, 1, [], []),
  (15, .iload_n 3, 1, [], []),
  (16, .iload_n 3, 1, [], []),
  (17, .iload_n 2, 1, [], []),
  (18, .invokevirtual 359, 3, [193, 3, 12], [75]),
  (21, .return_, 1, [], []),
  (22, .aload_n 0, 1, [], []),
  (23, .getfield 38, 3, [12, 13], [38]),
  (26, .iload_n 1, 1, [], []),
  (27, .aload_n 0, 1, [], []),
  (28, .getfield 29, 3, [12, 10], [4]),
  (31, .iload_n 1, 1, [], []),
  (32, .iaload, 1, [], []),
  (33, .iconst (-1), 1, [], []),
  (34, .if_icmp .ne 7, 3, [26], []),
  (37, .iconst 0, 1, [], []),
  (38, .goto 18, 3, [35], []),
  (41, .iload_n 2, 1, [], []),
  (42, .aload_n 0, 1, [], []),
  (43, .getfield 41, 3, [12, 14], [113]),
  (46, .aload_n 0, 1, [], []),
  (47, .getfield 29, 3, [12, 10], [4]),
  (50, .iload_n 1, 1, [], []),
  (51, .iaload, 1, [], []),
  (52, .iaload, 1, [], []),
  (53, .invokestatic 362, 3, [146, 2], [126]),
  (56, .iastore, 1, [], []),
  (57, .iload_n 2, 1, [], []),
  (58, .aload_n 0, 1, [], []),
  (59, .getfield 38, 3, [12, 13], [38]),
  (62, .iload_n 1, 1, [], []),
  (63, .iaload, 1, [], []),
  (64, .isub, 1, [], []),
  (65, .istore 4, 2, [], []),
  (67, .aload_n 0, 1, [], []),
  (68, .getfield 26, 3, [12, 9], [152]),
  (71, .iload_n 1, 1, [], []),
  (72, .iaload, 1, [], []),
  (73, .tableswitch 64 0 2 #[27, 38, 51], 27, [70, 48, 54, 62], []),
  (100, .aload_n 0, 1, [], []),
  (101, .iload_n 3, 1, [], []),
  (102, .iload_n 3, 1, [], []),
  (103, .iload 4, 2, [], []),
  (105, .invokevirtual 359, 3, [193, 3, 12], [75]),
  (108, .goto 56, 3, [90], []),
  (111, .aload_n 0, 1, [], []),
  (112, .iload_n 3, 1, [], []),
  (113, .iload_n 3, 1, [], []),
  (114, .iconst 1, 1, [], []),
  (115, .isub, 1, [], []),
  (116, .iload 4, 2, [], []),
  (118, .invokevirtual 359, 3, [193, 3, 12], [75]),
  (121, .goto 43, 3, [90], []),
  (124, .aload_n 0, 1, [], []),
  (125, .iload_n 3, 1, [], []),
  (126, .iload_n 3, 1, [], []),
  (127, .iconst 1, 1, [], []),
  (128, .iadd, 1, [], []),
  (129, .iload 4, 2, [], []),
  (131, .invokevirtual 359, 3, [193, 3, 12], [75]),
  (134, .goto 30, 3, [90], []),
  (137, .aload_n 0, 1, [], []),
  (138, .iload_n 3, 1, [], []),
  (139, .iload_n 3, 1, [], []),
  (140, .iconst 1, 1, [], []),
  (141, .isub, 1, [], []),
  (142, .iload 4, 2, [], []),
  (144, .iload 4, 2, [], []),
  (146, .iconst 2, 1, [], []),
  (147, .idiv, 1, [], []),
  (148, .isub, 1, [], []),
  (149, .invokevirtual 359, 3, [193, 3, 12], [75]),
  (152, .aload_n 0, 1, [], []),
  (153, .iload_n 3, 1, [], []),
  (154, .iload_n 3, 1, [], []),
  (155, .iconst 1, 1, [], []),
  (156, .iadd, 1, [], []),
  (157, .iload 4, 2, [], []),
  (159, .iconst 2, 1, [], []),
  (160, .idiv, 1, [], []),
  (161, .invokevirtual 359, 3, [193, 3, 12], [75]),
  (164, .return_, 1, [], [])]
def mX12_drips : pv_M := (⟨"CliffGardenModel", "drips", "(II)V"⟩, prog_14_method_51_code, 5, none, rX12_drips)
def rX12_flows : List pv_R := [
  (0, .iconst 0, 1, [], []),
  (1, .istore_n 1, 1, [], []),
  (2, .iload_n 1, 1, [], []),
  (3, .bipush 6, 2, [], []),
  (5, .if_icmp .ge 85, 3, [50], []),
  (8, .iconst 0, 1, [], []),
  (9, .istore_n 2, 1, [], []),
  (10, .iload_n 2, 1, [], []),
  (11, .bipush 8, 2, [], []),
  (13, .if_icmp .ge 16, 3, [17], []),
  (16, .aload_n 0, 1, [], []),
  (17, .getfield 120, 3, [12, 50], [115]),
  (20, .iload_n 2, 1, [], []),
  (21, .iconst 0, 1, [], []),
  (22, .iastore, 1, [], []),
  (23, .iinc 2 1, 3, [], []),
  (26, .goto (-16), 3, [7], []),
  (29, .iconst 0, 1, [], []),
  (30, .istore_n 2, 1, [], []),
  (31, .iload_n 2, 1, [], []),
  (32, .bipush 8, 2, [], []),
  (34, .if_icmp .ge 24, 3, [33], []),
  (37, .aload_n 0, 1, [], []),
  (38, .iload_n 2, 1, [], []),
  (39, .iload_n 1, 1, [], []),
  (40, .invokestatic 214, 3, [149, 2], [16]),
  (43, .aload_n 0, 1, [], []),
  (44, .getfield 117, 3, [12, 49], [54]),
  (47, .iload_n 2, 1, [], []),
  (48, .iaload, 1, [], []),
  (49, .invokevirtual 365, 3, [194, 2, 12], [628]),
  (52, .iinc 2 1, 3, [], []),
  (55, .goto (-24), 3, [19], []),
  (58, .iconst 0, 1, [], []),
  (59, .istore_n 2, 1, [], []),
  (60, .iload_n 2, 1, [], []),
  (61, .bipush 8, 2, [], []),
  (63, .if_icmp .ge 21, 3, [48], []),
  (66, .aload_n 0, 1, [], []),
  (67, .getfield 117, 3, [12, 49], [54]),
  (70, .iload_n 2, 1, [], []),
  (71, .aload_n 0, 1, [], []),
  (72, .getfield 120, 3, [12, 50], [115]),
  (75, .iload_n 2, 1, [], []),
  (76, .iaload, 1, [], []),
  (77, .iastore, 1, [], []),
  (78, .iinc 2 1, 3, [], []),
  (81, .goto (-21), 3, [35], []),
  (84, .iinc 1 1, 3, [], []),
  (87, .goto (-85), 3, [2], []),
  (90, .return_, 1, [], [])]
def mX12_flows : pv_M := (⟨"CliffGardenModel", "flows", "()V"⟩, prog_14_method_52_code, 3, none, rX12_flows)
def rX12_water : List pv_R := [
  (0, .iconst 0, 1, [], []),
  (1, .istore_n 1, 1, [], []),
  (2, .iload_n 1, 1, [], []),
  (3, .bipush 8, 2, [], []),
  (5, .if_icmp .ge 21, 3, [15], []),
  (8, .aload_n 0, 1, [], []),
  (9, .getfield 117, 3, [12, 49], [54]),
  (12, .iload_n 1, 1, [], []),
  (13, .aload_n 0, 1, [], []),
  (14, .getfield 50, 3, [12, 17], [153]),
  (17, .iload_n 1, 1, [], []),
  (18, .iaload, 1, [], []),
  (19, .iastore, 1, [], []),
  (20, .iinc 1 1, 3, [], []),
  (23, .goto (-21), 3, [2], []),
  (26, .aload_n 0, 1, [], []),
  (27, .invokevirtual 368, 3, [195, 0, 12], [296]),
  (30, .iconst 0, 1, [], []),
  (31, .istore_n 1, 1, [], []),
  (32, .iconst 0, 1, [], []),
  (33, .istore_n 2, 1, [], []),
  (34, .iload_n 2, 1, [], []),
  (35, .bipush 8, 2, [], []),
  (37, .if_icmp .ge 37, 3, [46], []),
  (40, .aload_n 0, 1, [], []),
  (41, .getfield 59, 3, [12, 20], [155]),
  (44, .iload_n 2, 1, [], []),
  (45, .aload_n 0, 1, [], []),
  (46, .getfield 59, 3, [12, 20], [155]),
  (49, .iload_n 2, 1, [], []),
  (50, .iaload, 1, [], []),
  (51, .aload_n 0, 1, [], []),
  (52, .getfield 117, 3, [12, 49], [54]),
  (55, .iload_n 2, 1, [], []),
  (56, .iaload, 1, [], []),
  (57, .iadd, 1, [], []),
  (58, .iastore, 1, [], []),
  (59, .iload_n 1, 1, [], []),
  (60, .aload_n 0, 1, [], []),
  (61, .getfield 117, 3, [12, 49], [54]),
  (64, .iload_n 2, 1, [], []),
  (65, .iaload, 1, [], []),
  (66, .iadd, 1, [], []),
  (67, .istore_n 1, 1, [], []),
  (68, .iinc 2 1, 3, [], []),
  (71, .goto (-37), 3, [21], []),
  (74, .iload_n 1, 1, [], []),
  (75, .ireturn, 1, [0], [])]
def mX12_water : pv_M := (⟨"CliffGardenModel", "water", "()I"⟩, prog_14_method_53_code, 3, some .int, rX12_water)
def rX12_ownLoad : List pv_R := [
  (0, .bipush 10, 2, [], []),
  (2, .aload_n 0, 1, [], []),
  (3, .getfield 20, 3, [12, 7], [84]),
  (6, .iload_n 1, 1, [], []),
  (7, .iaload, 1, [], []),
  (8, .imul, 1, [], []),
  (9, .aload_n 0, 1, [], []),
  (10, .getfield 32, 3, [12, 11], [19]),
  (13, .iload_n 1, 1, [], []),
  (14, .iaload, 1, [], []),
  (15, .iadd, 1, [], []),
  (16, .aload_n 0, 1, [], []),
  (17, .getfield 35, 3, [12, 12], [66]),
  (20, .iload_n 1, 1, [], []),
  (21, .iaload, 1, [], []),
  (22, .iadd, 1, [], []),
  (23, .aload_n 0, 1, [], []),
  (24, .getfield 38, 3, [12, 13], [38]),
  (27, .iload_n 1, 1, [], []),
  (28, .iaload, 1, [], []),
  (29, .iadd, 1, [], []),
  (30, .ireturn, 1, [0], [])]
def mX12_ownLoad : pv_M := (⟨"CliffGardenModel", "ownLoad", "(I)I"⟩, prog_14_method_54_code, 2, some .int, rX12_ownLoad)
def rX12_loadOf : List pv_R := [
  (0, .iconst 0, 1, [], []),
  (1, .istore_n 2, 1, [], []),
  (2, .iload_n 1, 1, [], []),
  (3, .istore_n 3, 1, [], []),
  (4, .iload_n 3, 1, [], []),
  (5, .bipush 6, 2, [], []),
  (7, .iload_n 1, 1, [], []),
  (8, .bipush 6, 2, [], []),
  (10, .idiv, 1, [], []),
  (11, .iconst 1, 1, [], []),
  (12, .iadd, 1, [], []),
  (13, .imul, 1, [], []),
  (14, .if_icmp .ge 30, 3, [28], []),
  (17, .iload_n 2, 1, [], []),
  (18, .aload_n 0, 1, [], []),
  (19, .getfield 7, 3, [12, 4], [3]),
  (22, .iload_n 3, 1, [], []),
  (23, .baload, 1, [1], []),
  (24, .ifCond .eq 11, 3, [23], []),
  (27, .aload_n 0, 1, [], []),
  (28, .iload_n 3, 1, [], []),
  (29, .invokevirtual 371, 3, [197, 1, 12], [629]),
  (32, .goto 4, 3, [24], []),
  (35, .iconst 0, 1, [], []),
  (36, .iadd, 1, [], []),
  (37, .istore_n 2, 1, [], []),
  (38, .iinc 3 1, 3, [], []),
  (41, .goto (-37), 3, [4], []),
  (44, .iload_n 2, 1, [], []),
  (45, .ireturn, 1, [0], [])]
def mX12_loadOf : pv_M := (⟨"CliffGardenModel", "loadOf", "(I)I"⟩, prog_14_method_55_code, 4, some .int, rX12_loadOf)
def rX12_cell : List pv_R := [
  (0, .iload_n 1, 1, [], []),
  (1, .iload_n 2, 1, [], []),
  (2, .invokestatic 210, 3, [148, 2], [91]),
  (5, .ifCond .eq 13, 3, [9], []),
  (8, .iload_n 3, 1, [], []),
  (9, .iconst 0, 1, [], []),
  (10, .bipush 10, 2, [], []),
  (12, .invokestatic 206, 3, [145, 3], [1]),
  (15, .ifCond .ne 7, 3, [11], []),
  (18, .sipush (-1000), 3, [], []),
  (21, .ireturn, 1, [0], []),
  (22, .iload_n 1, 1, [], []),
  (23, .iload_n 2, 1, [], []),
  (24, .invokestatic 214, 3, [149, 2], [16]),
  (27, .istore 4, 2, [], []),
  (29, .iload_n 3, 1, [], []),
  (30, .ifCond .ne 19, 3, [26], []),
  (33, .aload_n 0, 1, [], []),
  (34, .getfield 7, 3, [12, 4], [3]),
  (37, .iload 4, 2, [], []),
  (39, .baload, 1, [1], []),
  (40, .ifCond .eq 7, 3, [24], []),
  (43, .iconst 1, 1, [], []),
  (44, .goto 4, 3, [25], []),
  (47, .iconst 0, 1, [], []),
  (48, .ireturn, 1, [0], []),
  (49, .aload_n 0, 1, [], []),
  (50, .getfield 7, 3, [12, 4], [3]),
  (53, .iload 4, 2, [], []),
  (55, .baload, 1, [1], []),
  (56, .ifCond .ne 7, 3, [33], []),
  (59, .sipush (-1000), 3, [], []),
  (62, .ireturn, 1, [0], []),
  (63, .iload_n 3, 1, [], []),
  (64, .tableswitch 132 1 9 #[52, 60, 68, 76, 84, 92, 100, 108, 116], 52, [84, 35, 40, 45, 50, 55, 60, 65, 70, 75], []),
  (116, .aload_n 0, 1, [], []),
  (117, .getfield 16, 3, [12, 6], [24]),
  (120, .iload 4, 2, [], []),
  (122, .iaload, 1, [], []),
  (123, .ireturn, 1, [0], []),
  (124, .aload_n 0, 1, [], []),
  (125, .getfield 20, 3, [12, 7], [84]),
  (128, .iload 4, 2, [], []),
  (130, .iaload, 1, [], []),
  (131, .ireturn, 1, [0], []),
  (132, .aload_n 0, 1, [], []),
  (133, .getfield 23, 3, [12, 8], [151]),
  (136, .iload 4, 2, [], []),
  (138, .iaload, 1, [], []),
  (139, .ireturn, 1, [0], []),
  (140, .aload_n 0, 1, [], []),
  (141, .getfield 26, 3, [12, 9], [152]),
  (144, .iload 4, 2, [], []),
  (146, .iaload, 1, [], []),
  (147, .ireturn, 1, [0], []),
  (148, .aload_n 0, 1, [], []),
  (149, .getfield 29, 3, [12, 10], [4]),
  (152, .iload 4, 2, [], []),
  (154, .iaload, 1, [], []),
  (155, .ireturn, 1, [0], []),
  (156, .aload_n 0, 1, [], []),
  (157, .getfield 32, 3, [12, 11], [19]),
  (160, .iload 4, 2, [], []),
  (162, .iaload, 1, [], []),
  (163, .ireturn, 1, [0], []),
  (164, .aload_n 0, 1, [], []),
  (165, .getfield 35, 3, [12, 12], [66]),
  (168, .iload 4, 2, [], []),
  (170, .iaload, 1, [], []),
  (171, .ireturn, 1, [0], []),
  (172, .aload_n 0, 1, [], []),
  (173, .getfield 38, 3, [12, 13], [38]),
  (176, .iload 4, 2, [], []),
  (178, .iaload, 1, [], []),
  (179, .ireturn, 1, [0], []),
  (180, .aload_n 0, 1, [], []),
  (181, .getfield 13, 3, [12, 5], [52]),
  (184, .iload 4, 2, [], []),
  (186, .baload, 1, [1], []),
  (187, .ifCond .eq 7, 3, [82], []),
  (190, .iconst 1, 1, [], []),
  (191, .goto 4, 3, [83], []),
  (194, .iconst 0, 1, [], []),
  (195, .ireturn, 1, [0], []),
  (196, .aload_n 0, 1, [], []),
  (197, .iload 4, 2, [], []),
  (199, .invokevirtual 374, 3, [198, 1, 12], [187]),
  (202, .ireturn, 1, [0], [])]
def mX12_cell : pv_M := (⟨"CliffGardenModel", "cell", "(III)I"⟩, prog_14_method_56_code, 5, some .int, rX12_cell)
def rX12_catcher : List pv_R := [
  (0, .iload_n 1, 1, [], []),
  (1, .iconst 1, 1, [], []),
  (2, .iadd, 1, [], []),
  (3, .istore_n 2, 1, [], []),
  (4, .iload_n 2, 1, [], []),
  (5, .bipush 6, 2, [], []),
  (7, .iload_n 1, 1, [], []),
  (8, .bipush 6, 2, [], []),
  (10, .idiv, 1, [], []),
  (11, .iconst 1, 1, [], []),
  (12, .iadd, 1, [], []),
  (13, .imul, 1, [], []),
  (14, .if_icmp .ge 69, 3, [52], []),
  (17, .aload_n 0, 1, [], []),
  (18, .getfield 7, 3, [12, 4], [3]),
  (21, .iload_n 2, 1, [], []),
  (22, .baload, 1, [1], []),
  (23, .ifCond .ne 6, 3, [19], []),
  (26, .goto 51, 3, [50], []),
  (29, .aload_n 0, 1, [], []),
  (30, .iload_n 2, 1, [], []),
  (31, .iload_n 2, 1, [], []),
  (32, .iload_n 1, 1, [], []),
  (33, .isub, 1, [], []),
  (34, .iconst 0, 1, [], []),
  (35, .invokevirtual 339, 3, [187, 3, 12], [184]),
  (38, .aload_n 0, 1, [], []),
  (39, .aload_n 0, 1, [], []),
  (40, .getfield 29, 3, [12, 10], [4]),
  (43, .iload_n 1, 1, [], []),
  (44, .iaload, 1, [], []),
  (45, .aload_n 0, 1, [], []),
  (46, .getfield 32, 3, [12, 11], [19]),
  (49, .iload_n 1, 1, [], []),
  (50, .iaload, 1, [], []),
  (51, .aload_n 0, 1, [], []),
  (52, .iload_n 1, 1, [], []),
  (53, .invokevirtual 343, 3, [189, 1, 12], [185]),
  (56, .aload_n 0, 1, [], []),
  (57, .getfield 13, 3, [12, 5], [52]),
  (60, .iload_n 1, 1, [], []),
  (61, .baload, 1, [1], []),
  (62, .invokevirtual 346, 3, [188, 4, 12], [186]),
  (65, .aload_n 0, 1, [], []),
  (66, .bipush 99, 2, [], []),
  (68, .iconst 1, 1, [], []),
  (69, .invokevirtual 353, 3, [186, 2, 12], [132]),
  (72, .ifCond .le 5, 3, [50], []),
  (75, .iload_n 2, 1, [], []),
  (76, .ireturn, 1, [0], []),
  (77, .iinc 2 1, 3, [], []),
  (80, .goto (-76), 3, [4], []),
  (83, .iconst (-1), 1, [], []),
  (84, .ireturn, 1, [0], [])]
def mX12_catcher : pv_M := (⟨"CliffGardenModel", "catcher", "(I)I"⟩, prog_14_method_57_code, 3, some .int, rX12_catcher)
def rX12_writes : List pv_R := [
  (0, .aload_n 0, 1, [], []),
  (1, .getfield 377, 3, [12, 2], [21]),
  (4, .bipush 60, 2, [], []),
  (6, .if_icmp .ne 4, 3, [5], []),
  (9, .return_, 1, [], []),
  (10, .aload_n 0, 1, [], []),
  (11, .getfield 123, 3, [12, 51], [86]),
  (14, .aload_n 0, 1, [], []),
  (15, .getfield 377, 3, [12, 2], [21]),
  (18, .iload_n 1, 1, [], []),
  (19, .iastore, 1, [], []),
  (20, .aload_n 0, 1, [], []),
  (21, .getfield 126, 3, [12, 52], [161]),
  (24, .aload_n 0, 1, [], []),
  (25, .getfield 377, 3, [12, 2], [21]),
  (28, .aload_n 0, 1, [], []),
  (29, .getfield 29, 3, [12, 10], [4]),
  (32, .iload_n 1, 1, [], []),
  (33, .iaload, 1, [], []),
  (34, .iastore, 1, [], []),
  (35, .aload_n 0, 1, [], []),
  (36, .getfield 129, 3, [12, 53], [162]),
  (39, .aload_n 0, 1, [], []),
  (40, .getfield 377, 3, [12, 2], [21]),
  (43, .aload_n 0, 1, [], []),
  (44, .getfield 32, 3, [12, 11], [19]),
  (47, .iload_n 1, 1, [], []),
  (48, .iaload, 1, [], []),
  (49, .iastore, 1, [], []),
  (50, .aload_n 0, 1, [], []),
  (51, .getfield 132, 3, [12, 54], [116]),
  (54, .aload_n 0, 1, [], []),
  (55, .getfield 377, 3, [12, 2], [21]),
  (58, .iload_n 2, 1, [], []),
  (59, .iastore, 1, [], []),
  (60, .aload_n 0, 1, [], []),
  (61, .getfield 135, 3, [12, 55], [69]),
  (64, .aload_n 0, 1, [], []),
  (65, .getfield 377, 3, [12, 2], [21]),
  (68, .iload_n 3, 1, [], []),
  (69, .iastore, 1, [], []),
  (70, .aload_n 0, 1, [], []),
  (71, .getfield 138, 3, [12, 56], [230]),
  (74, .aload_n 0, 1, [], []),
  (75, .getfield 377, 3, [12, 2], [21]),
  (78, .aload_n 0, 1, [], []),
  (79, .getfield 336, 3, [12, 0], [88]),
  (82, .iastore, 1, [], []),
  (83, .aload_n 0, 1, [], []),
  (84, .getfield 141, 3, [12, 57], [117]),
  (87, .aload_n 0, 1, [], []),
  (88, .getfield 377, 3, [12, 2], [21]),
  (91, .iload 4, 2, [], []),
  (93, .iastore, 1, [], []),
  (94, .aload_n 0, 1, [], []),
  (95, .getfield 144, 3, [12, 58], [231]),
  (98, .aload_n 0, 1, [], []),
  (99, .getfield 377, 3, [12, 2], [21]),
  (102, .aload_n 0, 1, [], []),
  (103, .iload_n 1, 1, [], []),
  (104, .invokevirtual 343, 3, [189, 1, 12], [185]),
  (107, .bastore, 1, [1], []),
  (108, .aload_n 0, 1, [], []),
  (109, .getfield 147, 3, [12, 59], [232]),
  (112, .aload_n 0, 1, [], []),
  (113, .getfield 377, 3, [12, 2], [21]),
  (116, .aload_n 0, 1, [], []),
  (117, .getfield 13, 3, [12, 5], [52]),
  (120, .iload_n 1, 1, [], []),
  (121, .baload, 1, [1], []),
  (122, .bastore, 1, [1], []),
  (123, .aload_n 0, 1, [], []),
  (124, .aload_n 0, 1, [], []),
  (125, .getfield 377, 3, [12, 2], [21]),
  (128, .iconst 1, 1, [], []),
  (129, .iadd, 1, [], []),
  (130, .putfield 377, 3, [12, 2], [21]),
  (133, .return_, 1, [], [])]
def mX12_writes : pv_M := (⟨"CliffGardenModel", "writes", "(IIII)V"⟩, prog_14_method_58_code, 5, none, rX12_writes)
def rX12_falls : List pv_R := [
  (0, .aload_n 0, 1, [], []),
  (1, .aload_n 0, 1, [], []),
  (2, .getfield 380, 3, [12, 3], [123]),
  (5, .iconst 1, 1, [], []),
  (6, .iadd, 1, [], []),
  (7, .putfield 380, 3, [12, 3], [123]),
  (10, .iload_n 2, 1, [], []),
  (11, .ifCond .eq 11, 3, [12], []),
  (14, .aload_n 0, 1, [], []),
  (15, .iload_n 1, 1, [], []),
  (16, .invokevirtual 383, 3, [200, 1, 12], [630]),
  (19, .goto 4, 3, [13], []),
  (22, .iconst (-1), 1, [], []),
  (23, .istore_n 3, 1, [], []),
  (24, .iload_n 3, 1, [], []),
  (25, .iconst (-1), 1, [], []),
  (26, .if_icmp .eq 43, 3, [45], []),
  (29, .aload_n 0, 1, [], []),
  (30, .iload_n 1, 1, [], []),
  (31, .iload_n 3, 1, [], []),
  (32, .bipush 6, 2, [], []),
  (34, .irem, 1, [], []),
  (35, .iconst (-1), 1, [], []),
  (36, .iconst 0, 1, [], []),
  (37, .invokevirtual 386, 3, [201, 4, 12], [297]),
  (40, .aload_n 0, 1, [], []),
  (41, .getfield 35, 3, [12, 12], [66]),
  (44, .iload_n 3, 1, [], []),
  (45, .aload_n 0, 1, [], []),
  (46, .getfield 35, 3, [12, 12], [66]),
  (49, .iload_n 3, 1, [], []),
  (50, .iaload, 1, [], []),
  (51, .aload_n 0, 1, [], []),
  (52, .getfield 32, 3, [12, 11], [19]),
  (55, .iload_n 1, 1, [], []),
  (56, .iaload, 1, [], []),
  (57, .iadd, 1, [], []),
  (58, .iastore, 1, [], []),
  (59, .aload_n 0, 1, [], []),
  (60, .iload_n 1, 1, [], []),
  (61, .invokevirtual 218, 3, [152, 1, 12], [180]),
  (64, .iload_n 3, 1, [], []),
  (65, .bipush 6, 2, [], []),
  (67, .irem, 1, [], []),
  (68, .ireturn, 1, [0], []),
  (69, .bipush 6, 2, [], []),
  (71, .iload_n 1, 1, [], []),
  (72, .bipush 6, 2, [], []),
  (74, .irem, 1, [], []),
  (75, .isub, 1, [], []),
  (76, .istore 4, 2, [], []),
  (78, .aload_n 0, 1, [], []),
  (79, .iload_n 1, 1, [], []),
  (80, .invokevirtual 350, 3, [190, 1, 12], [295]),
  (83, .aload_n 0, 1, [], []),
  (84, .getfield 114, 3, [12, 48], [17]),
  (87, .bipush 12, 2, [], []),
  (89, .iload 4, 2, [], []),
  (91, .iastore, 1, [], []),
  (92, .aload_n 0, 1, [], []),
  (93, .bipush 111, 2, [], []),
  (95, .bipush 7, 2, [], []),
  (97, .invokevirtual 353, 3, [186, 2, 12], [132]),
  (100, .istore 5, 2, [], []),
  (102, .aload_n 0, 1, [], []),
  (103, .getfield 32, 3, [12, 11], [19]),
  (106, .iload_n 1, 1, [], []),
  (107, .iaload, 1, [], []),
  (108, .aload_n 0, 1, [], []),
  (109, .getfield 47, 3, [12, 16], [85]),
  (112, .aload_n 0, 1, [], []),
  (113, .getfield 29, 3, [12, 10], [4]),
  (116, .iload_n 1, 1, [], []),
  (117, .iaload, 1, [], []),
  (118, .iaload, 1, [], []),
  (119, .imul, 1, [], []),
  (120, .istore 6, 2, [], []),
  (122, .aload_n 0, 1, [], []),
  (123, .getfield 65, 3, [12, 22], [53]),
  (126, .iload 5, 2, [], []),
  (128, .aload_n 0, 1, [], []),
  (129, .getfield 65, 3, [12, 22], [53]),
  (132, .iload 5, 2, [], []),
  (134, .iaload, 1, [], []),
  (135, .iload 6, 2, [], []),
  (137, .iadd, 1, [], []),
  (138, .iastore, 1, [], []),
  (139, .aload_n 0, 1, [], []),
  (140, .getfield 32, 3, [12, 11], [19]),
  (143, .iload_n 1, 1, [], []),
  (144, .iaload, 1, [], []),
  (145, .iload 4, 2, [], []),
  (147, .imul, 1, [], []),
  (148, .aload_n 0, 1, [], []),
  (149, .getfield 56, 3, [12, 19], [67]),
  (152, .iload_n 1, 1, [], []),
  (153, .bipush 6, 2, [], []),
  (155, .idiv, 1, [], []),
  (156, .iaload, 1, [], []),
  (157, .if_icmp .le 23, 3, [114], []),
  (160, .aload_n 0, 1, [], []),
  (161, .getfield 62, 3, [12, 21], [156]),
  (164, .iload_n 1, 1, [], []),
  (165, .bipush 6, 2, [], []),
  (167, .idiv, 1, [], []),
  (168, .aload_n 0, 1, [], []),
  (169, .getfield 62, 3, [12, 21], [156]),
  (172, .iload_n 1, 1, [], []),
  (173, .bipush 6, 2, [], []),
  (175, .idiv, 1, [], []),
  (176, .iaload, 1, [], []),
  (177, .iconst 1, 1, [], []),
  (178, .iadd, 1, [], []),
  (179, .iastore, 1, [], []),
  (180, .aload_n 0, 1, [], []),
  (181, .iload_n 1, 1, [], []),
  (182, .bipush 6, 2, [], []),
  (184, .iload 5, 2, [], []),
  (186, .iload 6, 2, [], []),
  (188, .invokevirtual 386, 3, [201, 4, 12], [297]),
  (191, .aload_n 0, 1, [], []),
  (192, .iload_n 1, 1, [], []),
  (193, .invokevirtual 218, 3, [152, 1, 12], [180]),
  (196, .bipush 6, 2, [], []),
  (198, .ireturn, 1, [0], [])]
def mX12_falls : pv_M := (⟨"CliffGardenModel", "falls", "(IZ)I"⟩, prog_14_method_59_code, 7, some .int, rX12_falls)
def rX12_fall : List pv_R := [
  (0, .aload_n 0, 1, [], []),
  (1, .iload_n 1, 1, [], []),
  (2, .iload_n 2, 1, [], []),
  (3, .invokevirtual 222, 3, [150, 2, 12], [131]),
  (6, .ifCond .eq 17, 3, [13], []),
  (9, .aload_n 0, 1, [], []),
  (10, .getfield 29, 3, [12, 10], [4]),
  (13, .iload_n 1, 1, [], []),
  (14, .iload_n 2, 1, [], []),
  (15, .invokestatic 214, 3, [149, 2], [16]),
  (18, .iaload, 1, [], []),
  (19, .iconst (-1), 1, [], []),
  (20, .if_icmp .ne 7, 3, [15], []),
  (23, .iconst (-1), 1, [], []),
  (24, .goto 13, 3, [21], []),
  (27, .aload_n 0, 1, [], []),
  (28, .iload_n 1, 1, [], []),
  (29, .iload_n 2, 1, [], []),
  (30, .invokestatic 214, 3, [149, 2], [16]),
  (33, .iconst 1, 1, [], []),
  (34, .invokevirtual 390, 3, [202, 2, 12], [188]),
  (37, .ireturn, 1, [0], [])]
def mX12_fall : pv_M := (⟨"CliffGardenModel", "fall", "(II)I"⟩, prog_14_method_60_code, 3, some .int, rX12_fall)
def rX12_firstGoing : List pv_R := [
  (0, .iconst 0, 1, [], []),
  (1, .istore_n 1, 1, [], []),
  (2, .iload_n 1, 1, [], []),
  (3, .bipush 48, 2, [], []),
  (5, .if_icmp .ge 34, 3, [22], []),
  (8, .aload_n 0, 1, [], []),
  (9, .getfield 7, 3, [12, 4], [3]),
  (12, .iload_n 1, 1, [], []),
  (13, .baload, 1, [1], []),
  (14, .ifCond .eq 19, 3, [20], []),
  (17, .aload_n 0, 1, [], []),
  (18, .iload_n 1, 1, [], []),
  (19, .invokevirtual 374, 3, [198, 1, 12], [187]),
  (22, .aload_n 0, 1, [], []),
  (23, .getfield 16, 3, [12, 6], [24]),
  (26, .iload_n 1, 1, [], []),
  (27, .iaload, 1, [], []),
  (28, .if_icmp .le 5, 3, [20], []),
  (31, .iload_n 1, 1, [], []),
  (32, .ireturn, 1, [0], []),
  (33, .iinc 1 1, 3, [], []),
  (36, .goto (-34), 3, [2], []),
  (39, .iconst (-1), 1, [], []),
  (40, .ireturn, 1, [0], [])]
def mX12_firstGoing : pv_M := (⟨"CliffGardenModel", "firstGoing", "()I"⟩, prog_14_method_61_code, 2, some .int, rX12_firstGoing)
def rX12_tears : List pv_R := [
  (0, .iload_n 1, 1, [], []),
  (1, .iconst 0, 1, [], []),
  (2, .bipush 47, 2, [], []),
  (4, .invokestatic 206, 3, [145, 3], [1]),
  (7, .ifCond .eq 38, 3, [27], []),
  (10, .iload_n 1, 1, [], []),
  (11, .bipush 6, 2, [], []),
  (13, .irem, 1, [], []),
  (14, .iload_n 2, 1, [], []),
  (15, .if_icmp .ne 30, 3, [27], []),
  (18, .aload_n 0, 1, [], []),
  (19, .getfield 7, 3, [12, 4], [3]),
  (22, .iload_n 1, 1, [], []),
  (23, .baload, 1, [1], []),
  (24, .ifCond .eq 21, 3, [27], []),
  (27, .aload_n 0, 1, [], []),
  (28, .getfield 16, 3, [12, 6], [24]),
  (31, .iload_n 1, 1, [], []),
  (32, .iconst 0, 1, [], []),
  (33, .aload_n 0, 1, [], []),
  (34, .getfield 16, 3, [12, 6], [24]),
  (37, .iload_n 1, 1, [], []),
  (38, .iaload, 1, [], []),
  (39, .iload_n 3, 1, [], []),
  (40, .isub, 1, [], []),
  (41, .invokestatic 394, 3, [147, 2], [172]),
  (44, .iastore, 1, [], []),
  (45, .return_, 1, [], [])]
def mX12_tears : pv_M := (⟨"CliffGardenModel", "tears", "(III)V"⟩, prog_14_method_62_code, 4, none, rX12_tears)
def rX12_goesOff : List pv_R := [
  (0, .aload_n 0, 1, [], []),
  (1, .iload_n 1, 1, [], []),
  (2, .invokevirtual 374, 3, [198, 1, 12], [187]),
  (5, .bipush 10, 2, [], []),
  (7, .idiv, 1, [], []),
  (8, .istore_n 3, 1, [], []),
  (9, .iconst 0, 1, [], []),
  (10, .istore 4, 2, [], []),
  (12, .bipush 6, 2, [], []),
  (14, .iload_n 1, 1, [], []),
  (15, .bipush 6, 2, [], []),
  (17, .idiv, 1, [], []),
  (18, .iconst 1, 1, [], []),
  (19, .iadd, 1, [], []),
  (20, .imul, 1, [], []),
  (21, .iconst 1, 1, [], []),
  (22, .isub, 1, [], []),
  (23, .istore 5, 2, [], []),
  (25, .iload 5, 2, [], []),
  (27, .iload_n 1, 1, [], []),
  (28, .if_icmp .lt 51, 3, [46], []),
  (31, .aload_n 0, 1, [], []),
  (32, .getfield 7, 3, [12, 4], [3]),
  (35, .iload 5, 2, [], []),
  (37, .baload, 1, [1], []),
  (38, .ifCond .ne 6, 3, [27], []),
  (41, .goto 32, 3, [44], []),
  (44, .iload_n 2, 1, [], []),
  (45, .ifCond .eq 22, 3, [40], []),
  (48, .aload_n 0, 1, [], []),
  (49, .getfield 29, 3, [12, 10], [4]),
  (52, .iload 5, 2, [], []),
  (54, .iaload, 1, [], []),
  (55, .iconst (-1), 1, [], []),
  (56, .if_icmp .eq 11, 3, [40], []),
  (59, .aload_n 0, 1, [], []),
  (60, .iload 5, 2, [], []),
  (62, .iconst 0, 1, [], []),
  (63, .invokevirtual 390, 3, [202, 2, 12], [188]),
  (66, .pop, 1, [], []),
  (67, .iload 4, 2, [], []),
  (69, .iconst 1, 1, [], []),
  (70, .iadd, 1, [], []),
  (71, .istore 4, 2, [], []),
  (73, .iinc 5 (-1), 3, [], []),
  (76, .goto (-51), 3, [18], []),
  (79, .iload_n 1, 1, [], []),
  (80, .istore 5, 2, [], []),
  (82, .iload 5, 2, [], []),
  (84, .bipush 6, 2, [], []),
  (86, .iload_n 1, 1, [], []),
  (87, .bipush 6, 2, [], []),
  (89, .idiv, 1, [], []),
  (90, .iconst 1, 1, [], []),
  (91, .iadd, 1, [], []),
  (92, .imul, 1, [], []),
  (93, .if_icmp .ge 17, 3, [64], []),
  (96, .aload_n 0, 1, [], []),
  (97, .getfield 7, 3, [12, 4], [3]),
  (100, .iload 5, 2, [], []),
  (102, .iconst 0, 1, [], []),
  (103, .bastore, 1, [1], []),
  (104, .iinc 5 1, 3, [], []),
  (107, .goto (-25), 3, [48], []),
  (110, .aload_n 0, 1, [], []),
  (111, .iload_n 1, 1, [], []),
  (112, .bipush 6, 2, [], []),
  (114, .isub, 1, [], []),
  (115, .iload_n 1, 1, [], []),
  (116, .bipush 6, 2, [], []),
  (118, .irem, 1, [], []),
  (119, .iload_n 3, 1, [], []),
  (120, .invokevirtual 397, 3, [205, 3, 12], [298]),
  (123, .aload_n 0, 1, [], []),
  (124, .iload_n 1, 1, [], []),
  (125, .bipush 6, 2, [], []),
  (127, .iadd, 1, [], []),
  (128, .iload_n 1, 1, [], []),
  (129, .bipush 6, 2, [], []),
  (131, .irem, 1, [], []),
  (132, .iload_n 3, 1, [], []),
  (133, .invokevirtual 397, 3, [205, 3, 12], [298]),
  (136, .iload 4, 2, [], []),
  (138, .ireturn, 1, [0], [])]
def mX12_goesOff : pv_M := (⟨"CliffGardenModel", "goesOff", "(IZ)I"⟩, prog_14_method_63_code, 6, some .int, rX12_goesOff)
def rX12_go : List pv_R := [
  (0, .iconst 0, 1, [], []),
  (1, .istore_n 1, 1, [], []),
  (2, .aload_n 0, 1, [], []),
  (3, .invokevirtual 400, 3, [204, 0, 12], [133]),
  (6, .istore_n 2, 1, [], []),
  (7, .iload_n 2, 1, [], []),
  (8, .iconst (-1), 1, [], []),
  (9, .if_icmp .eq 20, 3, [19], []),
  (12, .iload_n 1, 1, [], []),
  (13, .aload_n 0, 1, [], []),
  (14, .iload_n 2, 1, [], []),
  (15, .iconst 1, 1, [], []),
  (16, .invokevirtual 403, 3, [206, 2, 12], [189]),
  (19, .iadd, 1, [], []),
  (20, .istore_n 1, 1, [], []),
  (21, .aload_n 0, 1, [], []),
  (22, .invokevirtual 400, 3, [204, 0, 12], [133]),
  (25, .istore_n 2, 1, [], []),
  (26, .goto (-19), 3, [5], []),
  (29, .iload_n 1, 1, [], []),
  (30, .ireturn, 1, [0], [])]
def mX12_go : pv_M := (⟨"CliffGardenModel", "go", "()I"⟩, prog_14_method_64_code, 3, some .int, rX12_go)
def rX12_torn : List pv_R := [
  (0, .aload_n 0, 1, [], []),
  (1, .iload_n 1, 1, [], []),
  (2, .iload_n 2, 1, [], []),
  (3, .invokevirtual 222, 3, [150, 2, 12], [131]),
  (6, .ifCond .ne 7, 3, [7], []),
  (9, .ldc2_w 406, 3, [18446744073709551615], [244]),
  (12, .lreturn, 1, [], []),
  (13, .iconst 0, 1, [], []),
  (14, .istore_n 3, 1, [], []),
  (15, .iload_n 3, 1, [], []),
  (16, .bipush 48, 2, [], []),
  (18, .if_icmp .ge 33, 3, [30], []),
  (21, .aload_n 0, 1, [], []),
  (22, .getfield 150, 3, [12, 60], [163]),
  (25, .iload_n 3, 1, [], []),
  (26, .aload_n 0, 1, [], []),
  (27, .getfield 7, 3, [12, 4], [3]),
  (30, .iload_n 3, 1, [], []),
  (31, .baload, 1, [1], []),
  (32, .bastore, 1, [1], []),
  (33, .aload_n 0, 1, [], []),
  (34, .getfield 153, 3, [12, 61], [233]),
  (37, .iload_n 3, 1, [], []),
  (38, .aload_n 0, 1, [], []),
  (39, .getfield 16, 3, [12, 6], [24]),
  (42, .iload_n 3, 1, [], []),
  (43, .iaload, 1, [], []),
  (44, .iastore, 1, [], []),
  (45, .iinc 3 1, 3, [], []),
  (48, .goto (-33), 3, [9], []),
  (51, .aload_n 0, 1, [], []),
  (52, .iload_n 1, 1, [], []),
  (53, .iload_n 2, 1, [], []),
  (54, .invokestatic 214, 3, [149, 2], [16]),
  (57, .iconst 0, 1, [], []),
  (58, .invokevirtual 403, 3, [206, 2, 12], [189]),
  (61, .pop, 1, [], []),
  (62, .aload_n 0, 1, [], []),
  (63, .invokevirtual 400, 3, [204, 0, 12], [133]),
  (66, .istore_n 3, 1, [], []),
  (67, .iload_n 3, 1, [], []),
  (68, .iconst (-1), 1, [], []),
  (69, .if_icmp .eq 18, 3, [52], []),
  (72, .aload_n 0, 1, [], []),
  (73, .iload_n 3, 1, [], []),
  (74, .iconst 0, 1, [], []),
  (75, .invokevirtual 403, 3, [206, 2, 12], [189]),
  (78, .pop, 1, [], []),
  (79, .aload_n 0, 1, [], []),
  (80, .invokevirtual 400, 3, [204, 0, 12], [133]),
  (83, .istore_n 3, 1, [], []),
  (84, .goto (-17), 3, [40], []),
  (87, .lconst 0, 1, [], []),
  (88, .lstore_n 3, 1, [], []),
  (89, .iconst 0, 1, [], []),
  (90, .istore 5, 2, [], []),
  (92, .iload 5, 2, [], []),
  (94, .bipush 48, 2, [], []),
  (96, .if_icmp .ge 68, 3, [95], []),
  (99, .aload_n 0, 1, [], []),
  (100, .getfield 150, 3, [12, 60], [163]),
  (103, .iload 5, 2, [], []),
  (105, .baload, 1, [1], []),
  (106, .ifCond .eq 22, 3, [75], []),
  (109, .aload_n 0, 1, [], []),
  (110, .getfield 7, 3, [12, 4], [3]),
  (113, .iload 5, 2, [], []),
  (115, .baload, 1, [1], []),
  (116, .ifCond .ne 12, 3, [75], []),
  (119, .lload_n 3, 1, [], []),
  (120, .lconst 1, 1, [], []),
  (121, .iload 5, 2, [], []),
  (123, .lshl, 1, [], []),
  (124, .lor, 1, [], []),
  (125, .goto 4, 3, [76], []),
  (128, .lload_n 3, 1, [], []),
  (129, .lstore_n 3, 1, [], []),
  (130, .aload_n 0, 1, [], []),
  (131, .getfield 7, 3, [12, 4], [3]),
  (134, .iload 5, 2, [], []),
  (136, .aload_n 0, 1, [], []),
  (137, .getfield 150, 3, [12, 60], [163]),
  (140, .iload 5, 2, [], []),
  (142, .baload, 1, [1], []),
  (143, .bastore, 1, [1], []),
  (144, .aload_n 0, 1, [], []),
  (145, .getfield 16, 3, [12, 6], [24]),
  (148, .iload 5, 2, [], []),
  (150, .aload_n 0, 1, [], []),
  (151, .getfield 153, 3, [12, 61], [233]),
  (154, .iload 5, 2, [], []),
  (156, .iaload, 1, [], []),
  (157, .iastore, 1, [], []),
  (158, .iinc 5 1, 3, [], []),
  (161, .goto (-69), 3, [56], []),
  (164, .lload_n 3, 1, [], []),
  (165, .lreturn, 1, [], [])]
def mX12_torn : pv_M := (⟨"CliffGardenModel", "torn", "(II)J"⟩, prog_14_method_65_code, 6, some .long, rX12_torn)
def rX12_day : List pv_R := [
  (0, .aload_n 0, 1, [], []),
  (1, .iconst 0, 1, [], []),
  (2, .putfield 380, 3, [12, 3], [123]),
  (5, .aload_n 0, 1, [], []),
  (6, .invokevirtual 408, 3, [196, 0, 12], [631]),
  (9, .pop, 1, [], []),
  (10, .iconst 0, 1, [], []),
  (11, .istore_n 1, 1, [], []),
  (12, .iload_n 1, 1, [], []),
  (13, .bipush 48, 2, [], []),
  (15, .if_icmp .ge 56, 3, [40], []),
  (18, .aload_n 0, 1, [], []),
  (19, .getfield 7, 3, [12, 4], [3]),
  (22, .iload_n 1, 1, [], []),
  (23, .baload, 1, [1], []),
  (24, .ifCond .eq 41, 3, [38], []),
  (27, .aload_n 0, 1, [], []),
  (28, .getfield 29, 3, [12, 10], [4]),
  (31, .iload_n 1, 1, [], []),
  (32, .iaload, 1, [], []),
  (33, .iconst (-1), 1, [], []),
  (34, .if_icmp .eq 31, 3, [38], []),
  (37, .aload_n 0, 1, [], []),
  (38, .getfield 32, 3, [12, 11], [19]),
  (41, .iload_n 1, 1, [], []),
  (42, .sipush 200, 3, [], []),
  (45, .aload_n 0, 1, [], []),
  (46, .getfield 32, 3, [12, 11], [19]),
  (49, .iload_n 1, 1, [], []),
  (50, .iaload, 1, [], []),
  (51, .aload_n 0, 1, [], []),
  (52, .iload_n 1, 1, [], []),
  (53, .bipush 103, 2, [], []),
  (55, .bipush 50, 2, [], []),
  (57, .invokevirtual 356, 3, [191, 3, 12], [58]),
  (60, .iadd, 1, [], []),
  (61, .invokestatic 362, 3, [146, 2], [126]),
  (64, .iastore, 1, [], []),
  (65, .iinc 1 1, 3, [], []),
  (68, .goto (-56), 3, [8], []),
  (71, .iconst 0, 1, [], []),
  (72, .istore_n 1, 1, [], []),
  (73, .iload_n 1, 1, [], []),
  (74, .bipush 48, 2, [], []),
  (76, .if_icmp .ge 79, 3, [84], []),
  (79, .aload_n 0, 1, [], []),
  (80, .getfield 7, 3, [12, 4], [3]),
  (83, .iload_n 1, 1, [], []),
  (84, .baload, 1, [1], []),
  (85, .ifCond .eq 64, 3, [82], []),
  (88, .aload_n 0, 1, [], []),
  (89, .getfield 29, 3, [12, 10], [4]),
  (92, .iload_n 1, 1, [], []),
  (93, .iaload, 1, [], []),
  (94, .iconst (-1), 1, [], []),
  (95, .if_icmp .ne 6, 3, [57], []),
  (98, .goto 51, 3, [82], []),
  (101, .aload_n 0, 1, [], []),
  (102, .sipush 25173, 3, [], []),
  (105, .aload_n 0, 1, [], []),
  (106, .getfield 202, 3, [12, 1], [71]),
  (109, .imul, 1, [], []),
  (110, .sipush 13849, 3, [], []),
  (113, .iadd, 1, [], []),
  (114, .ldc_w 411, 3, [65536], [507]),
  (117, .irem, 1, [], []),
  (118, .putfield 202, 3, [12, 1], [71]),
  (121, .aload_n 0, 1, [], []),
  (122, .getfield 202, 3, [12, 1], [71]),
  (125, .sipush 1000, 3, [], []),
  (128, .irem, 1, [], []),
  (129, .aload_n 0, 1, [], []),
  (130, .iload_n 1, 1, [], []),
  (131, .bipush 102, 2, [], []),
  (133, .sipush 1000, 3, [], []),
  (136, .invokevirtual 356, 3, [191, 3, 12], [58]),
  (139, .if_icmp .ge 10, 3, [82], []),
  (142, .aload_n 0, 1, [], []),
  (143, .iload_n 1, 1, [], []),
  (144, .iconst 1, 1, [], []),
  (145, .invokevirtual 390, 3, [202, 2, 12], [188]),
  (148, .pop, 1, [], []),
  (149, .iinc 1 1, 3, [], []),
  (152, .goto (-79), 3, [42], []),
  (155, .iconst 0, 1, [], []),
  (156, .istore_n 1, 1, [], []),
  (157, .iload_n 1, 1, [], []),
  (158, .bipush 48, 2, [], []),
  (160, .if_icmp .ge 38, 3, [107], []),
  (163, .aload_n 0, 1, [], []),
  (164, .getfield 156, 3, [12, 62], [234]),
  (167, .iload_n 1, 1, [], []),
  (168, .aload_n 0, 1, [], []),
  (169, .getfield 7, 3, [12, 4], [3]),
  (172, .iload_n 1, 1, [], []),
  (173, .baload, 1, [1], []),
  (174, .ifCond .eq 16, 3, [103], []),
  (177, .aload_n 0, 1, [], []),
  (178, .iload_n 1, 1, [], []),
  (179, .bipush 97, 2, [], []),
  (181, .sipush 999, 3, [], []),
  (184, .invokevirtual 356, 3, [191, 3, 12], [58]),
  (187, .goto 4, 3, [104], []),
  (190, .iconst 0, 1, [], []),
  (191, .iastore, 1, [], []),
  (192, .iinc 1 1, 3, [], []),
  (195, .goto (-38), 3, [86], []),
  (198, .iconst 0, 1, [], []),
  (199, .istore_n 1, 1, [], []),
  (200, .iload_n 1, 1, [], []),
  (201, .bipush 48, 2, [], []),
  (203, .if_icmp .ge 32, 3, [129], []),
  (206, .aload_n 0, 1, [], []),
  (207, .getfield 16, 3, [12, 6], [24]),
  (210, .iload_n 1, 1, [], []),
  (211, .iconst 0, 1, [], []),
  (212, .aload_n 0, 1, [], []),
  (213, .getfield 16, 3, [12, 6], [24]),
  (216, .iload_n 1, 1, [], []),
  (217, .iaload, 1, [], []),
  (218, .aload_n 0, 1, [], []),
  (219, .getfield 156, 3, [12, 62], [234]),
  (222, .iload_n 1, 1, [], []),
  (223, .iaload, 1, [], []),
  (224, .isub, 1, [], []),
  (225, .invokestatic 394, 3, [147, 2], [172]),
  (228, .iastore, 1, [], []),
  (229, .iinc 1 1, 3, [], []),
  (232, .goto (-32), 3, [109], []),
  (235, .aload_n 0, 1, [], []),
  (236, .invokevirtual 412, 3, [207, 0, 12], [632]),
  (239, .pop, 1, [], []),
  (240, .aload_n 0, 1, [], []),
  (241, .aload_n 0, 1, [], []),
  (242, .getfield 336, 3, [12, 0], [88]),
  (245, .iconst 1, 1, [], []),
  (246, .iadd, 1, [], []),
  (247, .putfield 336, 3, [12, 0], [88]),
  (250, .aload_n 0, 1, [], []),
  (251, .getfield 380, 3, [12, 3], [123]),
  (254, .ireturn, 1, [0], [])]
def mX12_day : pv_M := (⟨"CliffGardenModel", "day", "()I"⟩, prog_14_method_66_code, 2, some .int, rX12_day)
def rX12_isFall : List pv_R := [
  (0, .iload_n 1, 1, [], []),
  (1, .ifCond .lt 15, 3, [8], []),
  (4, .iload_n 1, 1, [], []),
  (5, .aload_n 0, 1, [], []),
  (6, .getfield 377, 3, [12, 2], [21]),
  (9, .if_icmp .ge 7, 3, [8], []),
  (12, .iconst 1, 1, [], []),
  (13, .goto 4, 3, [9], []),
  (16, .iconst 0, 1, [], []),
  (17, .ireturn, 1, [1], [])]
def mX12_isFall : pv_M := (⟨"CliffGardenModel", "isFall", "(I)Z"⟩, prog_14_method_67_code, 2, some .boolean, rX12_isFall)
def rX12_fallIs : List pv_R := [
  (0, .aload_n 0, 1, [], []),
  (1, .iload_n 1, 1, [], []),
  (2, .invokevirtual 415, 3, [210, 1, 12], [190]),
  (5, .ifCond .ne 7, 3, [6], []),
  (8, .sipush (-1000), 3, [], []),
  (11, .ireturn, 1, [0], []),
  (12, .iload_n 2, 1, [], []),
  (13, .tableswitch 98 0 6 #[43, 53, 63, 70, 77, 84, 91], 43, [47, 8, 15, 22, 27, 32, 37, 42], []),
  (56, .aload_n 0, 1, [], []),
  (57, .getfield 123, 3, [12, 51], [86]),
  (60, .iload_n 1, 1, [], []),
  (61, .iaload, 1, [], []),
  (62, .bipush 6, 2, [], []),
  (64, .idiv, 1, [], []),
  (65, .ireturn, 1, [0], []),
  (66, .aload_n 0, 1, [], []),
  (67, .getfield 123, 3, [12, 51], [86]),
  (70, .iload_n 1, 1, [], []),
  (71, .iaload, 1, [], []),
  (72, .bipush 6, 2, [], []),
  (74, .irem, 1, [], []),
  (75, .ireturn, 1, [0], []),
  (76, .aload_n 0, 1, [], []),
  (77, .getfield 126, 3, [12, 52], [161]),
  (80, .iload_n 1, 1, [], []),
  (81, .iaload, 1, [], []),
  (82, .ireturn, 1, [0], []),
  (83, .aload_n 0, 1, [], []),
  (84, .getfield 129, 3, [12, 53], [162]),
  (87, .iload_n 1, 1, [], []),
  (88, .iaload, 1, [], []),
  (89, .ireturn, 1, [0], []),
  (90, .aload_n 0, 1, [], []),
  (91, .getfield 132, 3, [12, 54], [116]),
  (94, .iload_n 1, 1, [], []),
  (95, .iaload, 1, [], []),
  (96, .ireturn, 1, [0], []),
  (97, .aload_n 0, 1, [], []),
  (98, .getfield 135, 3, [12, 55], [69]),
  (101, .iload_n 1, 1, [], []),
  (102, .iaload, 1, [], []),
  (103, .ireturn, 1, [0], []),
  (104, .aload_n 0, 1, [], []),
  (105, .getfield 138, 3, [12, 56], [230]),
  (108, .iload_n 1, 1, [], []),
  (109, .iaload, 1, [], []),
  (110, .ireturn, 1, [0], []),
  (111, .sipush (-1000), 3, [], []),
  (114, .ireturn, 1, [0], [])]
def mX12_fallIs : pv_M := (⟨"CliffGardenModel", "fallIs", "(II)I"⟩, prog_14_method_68_code, 3, some .int, rX12_fallIs)
def rX12_claimer : List pv_R := [
  (0, .bipush (-2), 2, [], []),
  (2, .istore_n 3, 1, [], []),
  (3, .iconst 0, 1, [], []),
  (4, .istore 4, 2, [], []),
  (6, .iconst 0, 1, [], []),
  (7, .istore 5, 2, [], []),
  (9, .iload 5, 2, [], []),
  (11, .bipush 8, 2, [], []),
  (13, .if_icmp .ge 105, 3, [67], []),
  (16, .iload_n 2, 1, [], []),
  (17, .iload 5, 2, [], []),
  (19, .ishr, 1, [], []),
  (20, .iconst 1, 1, [], []),
  (21, .iand, 1, [], []),
  (22, .ifCond .ne 6, 3, [16], []),
  (25, .goto 87, 3, [65], []),
  (28, .aload_n 0, 1, [], []),
  (29, .aload_n 0, 1, [], []),
  (30, .getfield 123, 3, [12, 51], [86]),
  (33, .iload_n 1, 1, [], []),
  (34, .iaload, 1, [], []),
  (35, .aload_n 0, 1, [], []),
  (36, .getfield 132, 3, [12, 54], [116]),
  (39, .iload_n 1, 1, [], []),
  (40, .iaload, 1, [], []),
  (41, .aload_n 0, 1, [], []),
  (42, .getfield 123, 3, [12, 51], [86]),
  (45, .iload_n 1, 1, [], []),
  (46, .iaload, 1, [], []),
  (47, .bipush 6, 2, [], []),
  (49, .irem, 1, [], []),
  (50, .isub, 1, [], []),
  (51, .iload 5, 2, [], []),
  (53, .invokevirtual 339, 3, [187, 3, 12], [184]),
  (56, .aload_n 0, 1, [], []),
  (57, .aload_n 0, 1, [], []),
  (58, .getfield 126, 3, [12, 52], [161]),
  (61, .iload_n 1, 1, [], []),
  (62, .iaload, 1, [], []),
  (63, .aload_n 0, 1, [], []),
  (64, .getfield 129, 3, [12, 53], [162]),
  (67, .iload_n 1, 1, [], []),
  (68, .iaload, 1, [], []),
  (69, .aload_n 0, 1, [], []),
  (70, .getfield 144, 3, [12, 58], [231]),
  (73, .iload_n 1, 1, [], []),
  (74, .baload, 1, [1], []),
  (75, .aload_n 0, 1, [], []),
  (76, .getfield 147, 3, [12, 59], [232]),
  (79, .iload_n 1, 1, [], []),
  (80, .baload, 1, [1], []),
  (81, .invokevirtual 346, 3, [188, 4, 12], [186]),
  (84, .aload_n 0, 1, [], []),
  (85, .bipush 113, 2, [], []),
  (87, .sipush 1000, 3, [], []),
  (90, .invokevirtual 353, 3, [186, 2, 12], [132]),
  (93, .istore 6, 2, [], []),
  (95, .iload 6, 2, [], []),
  (97, .iload 4, 2, [], []),
  (99, .if_icmp .gt 6, 3, [61], []),
  (102, .goto 10, 3, [65], []),
  (105, .iload 6, 2, [], []),
  (107, .istore 4, 2, [], []),
  (109, .iload 5, 2, [], []),
  (111, .istore_n 3, 1, [], []),
  (112, .iinc 5 1, 3, [], []),
  (115, .goto (-106), 3, [6], []),
  (118, .iload_n 3, 1, [], []),
  (119, .ireturn, 1, [0], [])]
def mX12_claimer : pv_M := (⟨"CliffGardenModel", "claimer", "(II)I"⟩, prog_14_method_69_code, 7, some .int, rX12_claimer)
def rX12_claimed : List pv_R := [
  (0, .aload_n 0, 1, [], []),
  (1, .iload_n 1, 1, [], []),
  (2, .invokevirtual 415, 3, [210, 1, 12], [190]),
  (5, .ifCond .eq 23, 3, [14], []),
  (8, .iload_n 2, 1, [], []),
  (9, .iconst 1, 1, [], []),
  (10, .sipush 255, 3, [], []),
  (13, .invokestatic 206, 3, [145, 3], [1]),
  (16, .ifCond .eq 12, 3, [14], []),
  (19, .aload_n 0, 1, [], []),
  (20, .iload_n 1, 1, [], []),
  (21, .iload_n 2, 1, [], []),
  (22, .invokevirtual 418, 3, [212, 2, 12], [299]),
  (25, .goto 4, 3, [15], []),
  (28, .iconst (-1), 1, [], []),
  (29, .ireturn, 1, [0], [])]
def mX12_claimed : pv_M := (⟨"CliffGardenModel", "claimed", "(II)I"⟩, prog_14_method_70_code, 3, some .int, rX12_claimed)
def rX12_right : List pv_R := [
  (0, .aload_n 0, 1, [], []),
  (1, .iload_n 1, 1, [], []),
  (2, .invokevirtual 415, 3, [210, 1, 12], [190]),
  (5, .ifCond .eq 25, 3, [15], []),
  (8, .iload_n 2, 1, [], []),
  (9, .iconst 1, 1, [], []),
  (10, .sipush 255, 3, [], []),
  (13, .invokestatic 206, 3, [145, 3], [1]),
  (16, .ifCond .eq 14, 3, [15], []),
  (19, .aload_n 0, 1, [], []),
  (20, .getfield 132, 3, [12, 54], [116]),
  (23, .iload_n 1, 1, [], []),
  (24, .iaload, 1, [], []),
  (25, .bipush 6, 2, [], []),
  (27, .if_icmp .eq 5, 3, [17], []),
  (30, .iconst (-1), 1, [], []),
  (31, .ireturn, 1, [0], []),
  (32, .aload_n 0, 1, [], []),
  (33, .iload_n 1, 1, [], []),
  (34, .iload_n 2, 1, [], []),
  (35, .invokevirtual 418, 3, [212, 2, 12], [299]),
  (38, .istore_n 3, 1, [], []),
  (39, .iload_n 3, 1, [], []),
  (40, .bipush (-2), 2, [], []),
  (42, .if_icmp .eq 13, 3, [31], []),
  (45, .iload_n 3, 1, [], []),
  (46, .aload_n 0, 1, [], []),
  (47, .getfield 135, 3, [12, 55], [69]),
  (50, .iload_n 1, 1, [], []),
  (51, .iaload, 1, [], []),
  (52, .if_icmp .ne 5, 3, [33], []),
  (55, .iconst (-1), 1, [], []),
  (56, .ireturn, 1, [0], []),
  (57, .aload_n 0, 1, [], []),
  (58, .getfield 65, 3, [12, 22], [53]),
  (61, .aload_n 0, 1, [], []),
  (62, .getfield 135, 3, [12, 55], [69]),
  (65, .iload_n 1, 1, [], []),
  (66, .iaload, 1, [], []),
  (67, .aload_n 0, 1, [], []),
  (68, .getfield 65, 3, [12, 22], [53]),
  (71, .aload_n 0, 1, [], []),
  (72, .getfield 135, 3, [12, 55], [69]),
  (75, .iload_n 1, 1, [], []),
  (76, .iaload, 1, [], []),
  (77, .iaload, 1, [], []),
  (78, .aload_n 0, 1, [], []),
  (79, .getfield 141, 3, [12, 57], [117]),
  (82, .iload_n 1, 1, [], []),
  (83, .iaload, 1, [], []),
  (84, .isub, 1, [], []),
  (85, .iastore, 1, [], []),
  (86, .aload_n 0, 1, [], []),
  (87, .getfield 65, 3, [12, 22], [53]),
  (90, .iload_n 3, 1, [], []),
  (91, .aload_n 0, 1, [], []),
  (92, .getfield 65, 3, [12, 22], [53]),
  (95, .iload_n 3, 1, [], []),
  (96, .iaload, 1, [], []),
  (97, .aload_n 0, 1, [], []),
  (98, .getfield 141, 3, [12, 57], [117]),
  (101, .iload_n 1, 1, [], []),
  (102, .iaload, 1, [], []),
  (103, .iadd, 1, [], []),
  (104, .iastore, 1, [], []),
  (105, .aload_n 0, 1, [], []),
  (106, .getfield 135, 3, [12, 55], [69]),
  (109, .iload_n 1, 1, [], []),
  (110, .iload_n 3, 1, [], []),
  (111, .iastore, 1, [], []),
  (112, .aload_n 0, 1, [], []),
  (113, .getfield 141, 3, [12, 57], [117]),
  (116, .iload_n 1, 1, [], []),
  (117, .iaload, 1, [], []),
  (118, .ireturn, 1, [0], [])]
def mX12_right : pv_M := (⟨"CliffGardenModel", "right", "(II)I"⟩, prog_14_method_71_code, 4, some .int, rX12_right)
def rX12_food : List pv_R := [
  (0, .iload_n 1, 1, [], []),
  (1, .iconst 0, 1, [], []),
  (2, .bipush 7, 2, [], []),
  (4, .invokestatic 206, 3, [145, 3], [1]),
  (7, .ifCond .eq 12, 3, [10], []),
  (10, .aload_n 0, 1, [], []),
  (11, .getfield 65, 3, [12, 22], [53]),
  (14, .iload_n 1, 1, [], []),
  (15, .iaload, 1, [], []),
  (16, .goto 4, 3, [11], []),
  (19, .iconst (-1), 1, [], []),
  (20, .ireturn, 1, [0], [])]
def mX12_food : pv_M := (⟨"CliffGardenModel", "food", "(I)I"⟩, prog_14_method_72_code, 2, some .int, rX12_food)
def rX12_kitchenIs : List pv_R := [
  (0, .iload_n 1, 1, [], []),
  (1, .iconst 0, 1, [], []),
  (2, .bipush 7, 2, [], []),
  (4, .invokestatic 206, 3, [145, 3], [1]),
  (7, .ifCond .ne 5, 3, [7], []),
  (10, .iconst (-1), 1, [], []),
  (11, .ireturn, 1, [0], []),
  (12, .iload_n 2, 1, [], []),
  (13, .tableswitch 59 0 3 #[31, 38, 45, 52], 31, [29, 9, 14, 19, 24], []),
  (44, .aload_n 0, 1, [], []),
  (45, .getfield 53, 3, [12, 18], [154]),
  (48, .iload_n 1, 1, [], []),
  (49, .iaload, 1, [], []),
  (50, .ireturn, 1, [0], []),
  (51, .aload_n 0, 1, [], []),
  (52, .getfield 56, 3, [12, 19], [67]),
  (55, .iload_n 1, 1, [], []),
  (56, .iaload, 1, [], []),
  (57, .ireturn, 1, [0], []),
  (58, .aload_n 0, 1, [], []),
  (59, .getfield 59, 3, [12, 20], [155]),
  (62, .iload_n 1, 1, [], []),
  (63, .iaload, 1, [], []),
  (64, .ireturn, 1, [0], []),
  (65, .aload_n 0, 1, [], []),
  (66, .getfield 62, 3, [12, 21], [156]),
  (69, .iload_n 1, 1, [], []),
  (70, .iaload, 1, [], []),
  (71, .ireturn, 1, [0], []),
  (72, .iconst (-1), 1, [], []),
  (73, .ireturn, 1, [0], [])]
def mX12_kitchenIs : pv_M := (⟨"CliffGardenModel", "kitchenIs", "(II)I"⟩, prog_14_method_73_code, 3, some .int, rX12_kitchenIs)
def rX12_lays : List pv_R := [
  (0, .lload_n 1, 1, [], []),
  (1, .lconst 0, 1, [], []),
  (2, .lcmp, 1, [], []),
  (3, .ifCond .le 11, 3, [8], []),
  (6, .lload_n 1, 1, [], []),
  (7, .ldc2_w 421, 3, [281474976710656], [510]),
  (10, .lcmp, 1, [], []),
  (11, .ifCond .lt 5, 3, [10], []),
  (14, .iconst 0, 1, [], []),
  (15, .ireturn, 1, [1], []),
  (16, .aload_n 0, 1, [], []),
  (17, .iconst 0, 1, [], []),
  (18, .putfield 423, 3, [12, 63], [8]),
  (21, .iconst 0, 1, [], []),
  (22, .istore 4, 2, [], []),
  (24, .iload 4, 2, [], []),
  (26, .bipush 48, 2, [], []),
  (28, .if_icmp .ge 54, 3, [47], []),
  (31, .lload_n 1, 1, [], []),
  (32, .iload 4, 2, [], []),
  (34, .lshr, 1, [], []),
  (35, .lconst 1, 1, [], []),
  (36, .land, 1, [], []),
  (37, .lconst 0, 1, [], []),
  (38, .lcmp, 1, [], []),
  (39, .ifCond .ne 6, 3, [27], []),
  (42, .goto 34, 3, [45], []),
  (45, .aload_n 0, 1, [], []),
  (46, .getfield 423, 3, [12, 63], [8]),
  (49, .iload_n 3, 1, [], []),
  (50, .if_icmp .ne 5, 3, [33], []),
  (53, .iconst 0, 1, [], []),
  (54, .ireturn, 1, [1], []),
  (55, .aload_n 0, 1, [], []),
  (56, .getfield 159, 3, [12, 64], [13]),
  (59, .aload_n 0, 1, [], []),
  (60, .getfield 423, 3, [12, 63], [8]),
  (63, .iload 4, 2, [], []),
  (65, .iastore, 1, [], []),
  (66, .aload_n 0, 1, [], []),
  (67, .aload_n 0, 1, [], []),
  (68, .getfield 423, 3, [12, 63], [8]),
  (71, .iconst 1, 1, [], []),
  (72, .iadd, 1, [], []),
  (73, .putfield 423, 3, [12, 63], [8]),
  (76, .iinc 4 1, 3, [], []),
  (79, .goto (-55), 3, [15], []),
  (82, .iconst 1, 1, [], []),
  (83, .ireturn, 1, [1], [])]
def mX12_lays : pv_M := (⟨"CliffGardenModel", "lays", "(JI)Z"⟩, prog_14_method_74_code, 5, some .boolean, rX12_lays)
def rX12_mayBe : List pv_R := [
  (0, .iload_n 1, 1, [], []),
  (1, .iconst 5, 1, [], []),
  (2, .iload_n 2, 1, [], []),
  (3, .bipush 6, 2, [], []),
  (5, .irem, 1, [], []),
  (6, .imul, 1, [], []),
  (7, .iadd, 1, [], []),
  (8, .aload_n 0, 1, [], []),
  (9, .getfield 68, 3, [12, 23], [222]),
  (12, .iload_n 2, 1, [], []),
  (13, .bipush 6, 2, [], []),
  (15, .idiv, 1, [], []),
  (16, .iaload, 1, [], []),
  (17, .if_icmp .gt 7, 3, [16], []),
  (20, .iconst 1, 1, [], []),
  (21, .goto 4, 3, [17], []),
  (24, .iconst 0, 1, [], []),
  (25, .ireturn, 1, [1], [])]
def mX12_mayBe : pv_M := (⟨"CliffGardenModel", "mayBe", "(II)Z"⟩, prog_14_method_75_code, 3, some .boolean, rX12_mayBe)
def rX12_mayWork : List pv_R := [
  (0, .iload_n 1, 1, [], []),
  (1, .iconst 1, 1, [], []),
  (2, .bipush 99, 2, [], []),
  (4, .invokestatic 206, 3, [145, 3], [1]),
  (7, .ifCond .eq 11, 3, [9], []),
  (10, .iload_n 2, 1, [], []),
  (11, .iload_n 3, 1, [], []),
  (12, .invokestatic 210, 3, [148, 2], [91]),
  (15, .ifCond .ne 7, 3, [11], []),
  (18, .iconst (-1), 1, [], []),
  (19, .goto 21, 3, [21], []),
  (22, .aload_n 0, 1, [], []),
  (23, .iload_n 1, 1, [], []),
  (24, .iload_n 2, 1, [], []),
  (25, .iload_n 3, 1, [], []),
  (26, .invokestatic 214, 3, [149, 2], [16]),
  (29, .invokevirtual 426, 3, [218, 2, 12], [300]),
  (32, .ifCond .eq 7, 3, [20], []),
  (35, .iconst 1, 1, [], []),
  (36, .goto 4, 3, [21], []),
  (39, .iconst 0, 1, [], []),
  (40, .ireturn, 1, [0], [])]
def mX12_mayWork : pv_M := (⟨"CliffGardenModel", "mayWork", "(III)I"⟩, prog_14_method_76_code, 4, some .int, rX12_mayWork)
def rX12_apart : List pv_R := [
  (0, .iload_n 0, 1, [], []),
  (1, .iload_n 1, 1, [], []),
  (2, .if_icmp .ge 9, 3, [7], []),
  (5, .iload_n 1, 1, [], []),
  (6, .iload_n 0, 1, [], []),
  (7, .isub, 1, [], []),
  (8, .goto 6, 3, [10], []),
  (11, .iload_n 0, 1, [], []),
  (12, .iload_n 1, 1, [], []),
  (13, .isub, 1, [], []),
  (14, .ireturn, 1, [0], [])]
def mX12_apart : pv_M := (⟨"CliffGardenModel", "apart", "(II)I"⟩, prog_14_method_77_code, 2, some .int, rX12_apart)
def rX12_way : List pv_R := [
  (0, .iconst 2, 1, [], []),
  (1, .iload_n 0, 1, [], []),
  (2, .bipush 6, 2, [], []),
  (4, .idiv, 1, [], []),
  (5, .iload_n 1, 1, [], []),
  (6, .bipush 6, 2, [], []),
  (8, .idiv, 1, [], []),
  (9, .invokestatic 429, 3, [220, 2], [259]),
  (12, .imul, 1, [], []),
  (13, .iload_n 0, 1, [], []),
  (14, .bipush 6, 2, [], []),
  (16, .irem, 1, [], []),
  (17, .iload_n 1, 1, [], []),
  (18, .bipush 6, 2, [], []),
  (20, .irem, 1, [], []),
  (21, .invokestatic 429, 3, [220, 2], [259]),
  (24, .iadd, 1, [], []),
  (25, .iconst 1, 1, [], []),
  (26, .iadd, 1, [], []),
  (27, .ireturn, 1, [0], [])]
def mX12_way : pv_M := (⟨"CliffGardenModel", "way", "(II)I"⟩, prog_14_method_78_code, 2, some .int, rX12_way)
def rX12_laysHours : List pv_R := [
  (0, .iconst 0, 1, [], []),
  (1, .istore_n 1, 1, [], []),
  (2, .iload_n 1, 1, [], []),
  (3, .iconst 1, 1, [], []),
  (4, .aload_n 0, 1, [], []),
  (5, .getfield 423, 3, [12, 63], [8]),
  (8, .ishl, 1, [], []),
  (9, .if_icmp .ge 118, 3, [75], []),
  (12, .iconst 0, 1, [], []),
  (13, .istore_n 2, 1, [], []),
  (14, .iload_n 2, 1, [], []),
  (15, .aload_n 0, 1, [], []),
  (16, .getfield 423, 3, [12, 63], [8]),
  (19, .if_icmp .ge 102, 3, [73], []),
  (22, .iload_n 1, 1, [], []),
  (23, .ifCond .ne 7, 3, [18], []),
  (26, .iconst 0, 1, [], []),
  (27, .goto 6, 3, [19], []),
  (30, .ldc_w 432, 3, [1000000000], [168]),
  (33, .istore_n 3, 1, [], []),
  (34, .iconst 0, 1, [], []),
  (35, .istore 4, 2, [], []),
  (37, .iload 4, 2, [], []),
  (39, .aload_n 0, 1, [], []),
  (40, .getfield 423, 3, [12, 63], [8]),
  (43, .if_icmp .ge 60, 3, [62], []),
  (46, .iload_n 1, 1, [], []),
  (47, .iload 4, 2, [], []),
  (49, .ishr, 1, [], []),
  (50, .iconst 1, 1, [], []),
  (51, .iand, 1, [], []),
  (52, .iconst 1, 1, [], []),
  (53, .if_icmp .ne 44, 3, [60], []),
  (56, .iload_n 3, 1, [], []),
  (57, .aload_n 0, 1, [], []),
  (58, .getfield 159, 3, [12, 64], [13]),
  (61, .iload_n 2, 1, [], []),
  (62, .iaload, 1, [], []),
  (63, .aload_n 0, 1, [], []),
  (64, .getfield 159, 3, [12, 64], [13]),
  (67, .iload 4, 2, [], []),
  (69, .iaload, 1, [], []),
  (70, .invokestatic 433, 3, [221, 2], [260]),
  (73, .aload_n 0, 1, [], []),
  (74, .getfield 168, 3, [12, 67], [165]),
  (77, .bipush 8, 2, [], []),
  (79, .iload_n 1, 1, [], []),
  (80, .iconst 1, 1, [], []),
  (81, .iload 4, 2, [], []),
  (83, .ishl, 1, [], []),
  (84, .iconst (-1), 1, [], []),
  (85, .ixor, 1, [], []),
  (86, .iand, 1, [], []),
  (87, .imul, 1, [], []),
  (88, .iload 4, 2, [], []),
  (90, .iadd, 1, [], []),
  (91, .iaload, 1, [], []),
  (92, .iadd, 1, [], []),
  (93, .invokestatic 362, 3, [146, 2], [126]),
  (96, .istore_n 3, 1, [], []),
  (97, .iinc 4 1, 3, [], []),
  (100, .goto (-63), 3, [22], []),
  (103, .aload_n 0, 1, [], []),
  (104, .getfield 168, 3, [12, 67], [165]),
  (107, .bipush 8, 2, [], []),
  (109, .iload_n 1, 1, [], []),
  (110, .imul, 1, [], []),
  (111, .iload_n 2, 1, [], []),
  (112, .iadd, 1, [], []),
  (113, .iload_n 3, 1, [], []),
  (114, .iastore, 1, [], []),
  (115, .iinc 2 1, 3, [], []),
  (118, .goto (-104), 3, [10], []),
  (121, .iinc 1 1, 3, [], []),
  (124, .goto (-122), 3, [2], []),
  (127, .return_, 1, [], [])]
def mX12_laysHours : pv_M := (⟨"CliffGardenModel", "laysHours", "()V"⟩, prog_14_method_79_code, 5, none, rX12_laysHours)
def rX12_work : List pv_R := [
  (0, .iload_n 1, 1, [], []),
  (1, .iconst 1, 1, [], []),
  (2, .bipush 99, 2, [], []),
  (4, .invokestatic 206, 3, [145, 3], [1]),
  (7, .ifCond .eq 38, 3, [23], []),
  (10, .iload_n 2, 1, [], []),
  (11, .iconst 0, 1, [], []),
  (12, .bipush 7, 2, [], []),
  (14, .invokestatic 206, 3, [145, 3], [1]),
  (17, .ifCond .eq 28, 3, [23], []),
  (20, .aload_n 0, 1, [], []),
  (21, .lload_n 3, 1, [], []),
  (22, .bipush 8, 2, [], []),
  (24, .invokevirtual 436, 3, [217, 2, 12], [191]),
  (27, .ifCond .eq 18, 3, [23], []),
  (30, .iload 5, 2, [], []),
  (32, .iconst (-1), 1, [], []),
  (33, .aload_n 0, 1, [], []),
  (34, .getfield 423, 3, [12, 63], [8]),
  (37, .iconst 1, 1, [], []),
  (38, .isub, 1, [], []),
  (39, .invokestatic 206, 3, [145, 3], [1]),
  (42, .ifCond .ne 6, 3, [25], []),
  (45, .bipush (-3), 2, [], []),
  (47, .ireturn, 1, [0], []),
  (48, .iconst 0, 1, [], []),
  (49, .istore 6, 2, [], []),
  (51, .iload 6, 2, [], []),
  (53, .aload_n 0, 1, [], []),
  (54, .getfield 423, 3, [12, 63], [8]),
  (57, .if_icmp .ge 27, 3, [43], []),
  (60, .aload_n 0, 1, [], []),
  (61, .iload_n 1, 1, [], []),
  (62, .aload_n 0, 1, [], []),
  (63, .getfield 159, 3, [12, 64], [13]),
  (66, .iload 6, 2, [], []),
  (68, .iaload, 1, [], []),
  (69, .invokevirtual 426, 3, [218, 2, 12], [300]),
  (72, .ifCond .ne 6, 3, [41], []),
  (75, .bipush (-2), 2, [], []),
  (77, .ireturn, 1, [0], []),
  (78, .iinc 6 1, 3, [], []),
  (81, .goto (-30), 3, [27], []),
  (84, .aload_n 0, 1, [], []),
  (85, .invokevirtual 440, 3, [222, 0, 12], [633]),
  (88, .iconst 1, 1, [], []),
  (89, .aload_n 0, 1, [], []),
  (90, .getfield 423, 3, [12, 63], [8]),
  (93, .ishl, 1, [], []),
  (94, .iconst 1, 1, [], []),
  (95, .isub, 1, [], []),
  (96, .istore 6, 2, [], []),
  (98, .iload_n 2, 1, [], []),
  (99, .iconst 0, 1, [], []),
  (100, .invokestatic 214, 3, [149, 2], [16]),
  (103, .istore 7, 2, [], []),
  (105, .iconst (-1), 1, [], []),
  (106, .istore 8, 2, [], []),
  (108, .iconst 0, 1, [], []),
  (109, .istore 9, 2, [], []),
  (111, .iload 9, 2, [], []),
  (113, .aload_n 0, 1, [], []),
  (114, .getfield 423, 3, [12, 63], [8]),
  (117, .if_icmp .ge 151, 3, [143], []),
  (120, .iconst (-1), 1, [], []),
  (121, .istore 10, 2, [], []),
  (123, .ldc_w 432, 3, [1000000000], [168]),
  (126, .istore 11, 2, [], []),
  (128, .iconst 0, 1, [], []),
  (129, .istore 12, 2, [], []),
  (131, .iload 12, 2, [], []),
  (133, .aload_n 0, 1, [], []),
  (134, .getfield 423, 3, [12, 63], [8]),
  (137, .if_icmp .ge 75, 3, [113], []),
  (140, .iload 6, 2, [], []),
  (142, .iload 12, 2, [], []),
  (144, .ishr, 1, [], []),
  (145, .iconst 1, 1, [], []),
  (146, .iand, 1, [], []),
  (147, .ifCond .ne 6, 3, [81], []),
  (150, .goto 56, 3, [111], []),
  (153, .iload 7, 2, [], []),
  (155, .aload_n 0, 1, [], []),
  (156, .getfield 159, 3, [12, 64], [13]),
  (159, .iload 12, 2, [], []),
  (161, .iaload, 1, [], []),
  (162, .invokestatic 433, 3, [221, 2], [260]),
  (165, .aload_n 0, 1, [], []),
  (166, .getfield 168, 3, [12, 67], [165]),
  (169, .bipush 8, 2, [], []),
  (171, .iload 6, 2, [], []),
  (173, .iconst 1, 1, [], []),
  (174, .iload 12, 2, [], []),
  (176, .ishl, 1, [], []),
  (177, .iconst (-1), 1, [], []),
  (178, .ixor, 1, [], []),
  (179, .iand, 1, [], []),
  (180, .imul, 1, [], []),
  (181, .iload 12, 2, [], []),
  (183, .iadd, 1, [], []),
  (184, .iaload, 1, [], []),
  (185, .iadd, 1, [], []),
  (186, .istore 13, 2, [], []),
  (188, .iload 13, 2, [], []),
  (190, .iload 11, 2, [], []),
  (192, .if_icmp .lt 6, 3, [107], []),
  (195, .goto 11, 3, [111], []),
  (198, .iload 13, 2, [], []),
  (200, .istore 11, 2, [], []),
  (202, .iload 12, 2, [], []),
  (204, .istore 10, 2, [], []),
  (206, .iinc 12 1, 3, [], []),
  (209, .goto (-78), 3, [70], []),
  (212, .iload 8, 2, [], []),
  (214, .iconst (-1), 1, [], []),
  (215, .if_icmp .ne 8, 3, [118], []),
  (218, .iload 11, 2, [], []),
  (220, .goto 5, 3, [119], []),
  (223, .iload 8, 2, [], []),
  (225, .istore 8, 2, [], []),
  (227, .iload 9, 2, [], []),
  (229, .iload 5, 2, [], []),
  (231, .if_icmp .ne 11, 3, [128], []),
  (234, .aload_n 0, 1, [], []),
  (235, .getfield 159, 3, [12, 64], [13]),
  (238, .iload 10, 2, [], []),
  (240, .iaload, 1, [], []),
  (241, .ireturn, 1, [0], []),
  (242, .aload_n 0, 1, [], []),
  (243, .getfield 159, 3, [12, 64], [13]),
  (246, .iload 10, 2, [], []),
  (248, .iaload, 1, [], []),
  (249, .istore 7, 2, [], []),
  (251, .iload 6, 2, [], []),
  (253, .iconst 1, 1, [], []),
  (254, .iload 10, 2, [], []),
  (256, .ishl, 1, [], []),
  (257, .iconst (-1), 1, [], []),
  (258, .ixor, 1, [], []),
  (259, .iand, 1, [], []),
  (260, .istore 6, 2, [], []),
  (262, .iinc 9 1, 3, [], []),
  (265, .goto (-154), 3, [60], []),
  (268, .iload 8, 2, [], []),
  (270, .ireturn, 1, [0], [])]
def mX12_work : pv_M := (⟨"CliffGardenModel", "work", "(IIJI)I"⟩, prog_14_method_80_code, 14, some .int, rX12_work)
def rX12_hasKind : List pv_R := [
  (0, .bipush 6, 2, [], []),
  (2, .iload_n 1, 1, [], []),
  (3, .imul, 1, [], []),
  (4, .istore_n 3, 1, [], []),
  (5, .iload_n 3, 1, [], []),
  (6, .bipush 6, 2, [], []),
  (8, .iload_n 1, 1, [], []),
  (9, .iconst 1, 1, [], []),
  (10, .iadd, 1, [], []),
  (11, .imul, 1, [], []),
  (12, .if_icmp .ge 30, 3, [26], []),
  (15, .aload_n 0, 1, [], []),
  (16, .getfield 7, 3, [12, 4], [3]),
  (19, .iload_n 3, 1, [], []),
  (20, .baload, 1, [1], []),
  (21, .ifCond .eq 15, 3, [24], []),
  (24, .aload_n 0, 1, [], []),
  (25, .getfield 29, 3, [12, 10], [4]),
  (28, .iload_n 3, 1, [], []),
  (29, .iaload, 1, [], []),
  (30, .iload_n 2, 1, [], []),
  (31, .if_icmp .ne 5, 3, [24], []),
  (34, .iconst 1, 1, [], []),
  (35, .ireturn, 1, [1], []),
  (36, .iinc 3 1, 3, [], []),
  (39, .goto (-34), 3, [4], []),
  (42, .iconst 0, 1, [], []),
  (43, .ireturn, 1, [1], [])]
def mX12_hasKind : pv_M := (⟨"CliffGardenModel", "hasKind", "(II)Z"⟩, prog_14_method_81_code, 4, some .boolean, rX12_hasKind)
def rX12_takesUp : List pv_R := [
  (0, .iconst 0, 1, [], []),
  (1, .istore_n 3, 1, [], []),
  (2, .iload_n 3, 1, [], []),
  (3, .bipush 8, 2, [], []),
  (5, .if_icmp .ge 47, 3, [31], []),
  (8, .aload_n 0, 1, [], []),
  (9, .iload_n 3, 1, [], []),
  (10, .iload_n 2, 1, [], []),
  (11, .invokevirtual 443, 3, [224, 2, 12], [634]),
  (14, .ifCond .ne 6, 3, [11], []),
  (17, .goto 29, 3, [29], []),
  (20, .aload_n 0, 1, [], []),
  (21, .getfield 175, 3, [12, 69], [55]),
  (24, .iload_n 3, 1, [], []),
  (25, .aload_n 0, 1, [], []),
  (26, .getfield 175, 3, [12, 69], [55]),
  (29, .iload_n 3, 1, [], []),
  (30, .laload, 1, [], []),
  (31, .aload_n 0, 1, [], []),
  (32, .getfield 171, 3, [12, 68], [87]),
  (35, .iload_n 3, 1, [], []),
  (36, .laload, 1, [], []),
  (37, .ladd, 1, [], []),
  (38, .lastore, 1, [], []),
  (39, .aload_n 0, 1, [], []),
  (40, .getfield 171, 3, [12, 68], [87]),
  (43, .iload_n 3, 1, [], []),
  (44, .lconst 0, 1, [], []),
  (45, .lastore, 1, [], []),
  (46, .iinc 3 1, 3, [], []),
  (49, .goto (-47), 3, [2], []),
  (52, .aload_n 0, 1, [], []),
  (53, .getfield 175, 3, [12, 69], [55]),
  (56, .iload_n 1, 1, [], []),
  (57, .laload, 1, [], []),
  (58, .lstore_n 3, 1, [], []),
  (59, .aload_n 0, 1, [], []),
  (60, .getfield 175, 3, [12, 69], [55]),
  (63, .iload_n 1, 1, [], []),
  (64, .lconst 0, 1, [], []),
  (65, .lastore, 1, [], []),
  (66, .lload_n 3, 1, [], []),
  (67, .lreturn, 1, [], [])]
def mX12_takesUp : pv_M := (⟨"CliffGardenModel", "takesUp", "(II)J"⟩, prog_14_method_82_code, 5, some .long, rX12_takesUp)
def rX12_moved : List pv_R := [
  (0, .iload_n 0, 1, [], []),
  (1, .iload_n 1, 1, [], []),
  (2, .iadd, 1, [], []),
  (3, .ifCond .lt 11, 3, [9], []),
  (6, .iload_n 0, 1, [], []),
  (7, .iload_n 1, 1, [], []),
  (8, .iadd, 1, [], []),
  (9, .bipush 7, 2, [], []),
  (11, .if_icmp .le 7, 3, [11], []),
  (14, .iload_n 0, 1, [], []),
  (15, .goto 6, 3, [14], []),
  (18, .iload_n 0, 1, [], []),
  (19, .iload_n 1, 1, [], []),
  (20, .iadd, 1, [], []),
  (21, .ireturn, 1, [0], [])]
def mX12_moved : pv_M := (⟨"CliffGardenModel", "moved", "(II)I"⟩, prog_14_method_83_code, 2, some .int, rX12_moved)
def rX12_flies : List pv_R := [
  (0, .iconst 0, 1, [], []),
  (1, .istore_n 1, 1, [], []),
  (2, .iload_n 1, 1, [], []),
  (3, .bipush 8, 2, [], []),
  (5, .if_icmp .ge 23, 3, [17], []),
  (8, .aload_n 0, 1, [], []),
  (9, .getfield 178, 3, [12, 70], [118]),
  (12, .iload_n 1, 1, [], []),
  (13, .lconst 0, 1, [], []),
  (14, .lastore, 1, [], []),
  (15, .aload_n 0, 1, [], []),
  (16, .getfield 181, 3, [12, 71], [119]),
  (19, .iload_n 1, 1, [], []),
  (20, .lconst 0, 1, [], []),
  (21, .lastore, 1, [], []),
  (22, .iinc 1 1, 3, [], []),
  (25, .goto (-23), 3, [2], []),
  (28, .iconst 0, 1, [], []),
  (29, .istore_n 1, 1, [], []),
  (30, .iload_n 1, 1, [], []),
  (31, .bipush 8, 2, [], []),
  (33, .if_icmp .ge 66, 3, [61], []),
  (36, .iconst (-1), 1, [], []),
  (37, .istore_n 2, 1, [], []),
  (38, .iload_n 2, 1, [], []),
  (39, .iconst 2, 1, [], []),
  (40, .if_icmp .ge 53, 3, [59], []),
  (43, .iload_n 1, 1, [], []),
  (44, .iload_n 2, 1, [], []),
  (45, .invokestatic 446, 3, [226, 2], [563]),
  (48, .istore_n 3, 1, [], []),
  (49, .aload_n 0, 1, [], []),
  (50, .getfield 178, 3, [12, 70], [118]),
  (53, .iload_n 3, 1, [], []),
  (54, .aload_n 0, 1, [], []),
  (55, .getfield 178, 3, [12, 70], [118]),
  (58, .iload_n 3, 1, [], []),
  (59, .laload, 1, [], []),
  (60, .aload_n 0, 1, [], []),
  (61, .getfield 171, 3, [12, 68], [87]),
  (64, .iload_n 1, 1, [], []),
  (65, .laload, 1, [], []),
  (66, .ladd, 1, [], []),
  (67, .lastore, 1, [], []),
  (68, .aload_n 0, 1, [], []),
  (69, .getfield 181, 3, [12, 71], [119]),
  (72, .iload_n 3, 1, [], []),
  (73, .aload_n 0, 1, [], []),
  (74, .getfield 181, 3, [12, 71], [119]),
  (77, .iload_n 3, 1, [], []),
  (78, .laload, 1, [], []),
  (79, .aload_n 0, 1, [], []),
  (80, .getfield 175, 3, [12, 69], [55]),
  (83, .iload_n 1, 1, [], []),
  (84, .laload, 1, [], []),
  (85, .ladd, 1, [], []),
  (86, .lastore, 1, [], []),
  (87, .iinc 2 1, 3, [], []),
  (90, .goto (-52), 3, [24], []),
  (93, .iinc 1 1, 3, [], []),
  (96, .goto (-66), 3, [19], []),
  (99, .iconst 0, 1, [], []),
  (100, .istore_n 1, 1, [], []),
  (101, .iload_n 1, 1, [], []),
  (102, .bipush 8, 2, [], []),
  (104, .if_icmp .ge 33, 3, [84], []),
  (107, .aload_n 0, 1, [], []),
  (108, .getfield 171, 3, [12, 68], [87]),
  (111, .iload_n 1, 1, [], []),
  (112, .aload_n 0, 1, [], []),
  (113, .getfield 178, 3, [12, 70], [118]),
  (116, .iload_n 1, 1, [], []),
  (117, .laload, 1, [], []),
  (118, .lastore, 1, [], []),
  (119, .aload_n 0, 1, [], []),
  (120, .getfield 175, 3, [12, 69], [55]),
  (123, .iload_n 1, 1, [], []),
  (124, .aload_n 0, 1, [], []),
  (125, .getfield 181, 3, [12, 71], [119]),
  (128, .iload_n 1, 1, [], []),
  (129, .laload, 1, [], []),
  (130, .lastore, 1, [], []),
  (131, .iinc 1 1, 3, [], []),
  (134, .goto (-33), 3, [63], []),
  (137, .return_, 1, [], [])]
def mX12_flies : pv_M := (⟨"CliffGardenModel", "flies", "()V"⟩, prog_14_method_84_code, 4, none, rX12_flies)
def rX12_gcd : List pv_R := [
  (0, .lload_n 0, 1, [], []),
  (1, .lstore 4, 2, [], []),
  (3, .lload_n 2, 1, [], []),
  (4, .lstore 6, 2, [], []),
  (6, .lload 6, 2, [], []),
  (8, .lconst 0, 1, [], []),
  (9, .lcmp, 1, [], []),
  (10, .ifCond .eq 21, 3, [17], []),
  (13, .lload 4, 2, [], []),
  (15, .lload 6, 2, [], []),
  (17, .lrem, 1, [], []),
  (18, .lstore 8, 2, [], []),
  (20, .lload 6, 2, [], []),
  (22, .lstore 4, 2, [], []),
  (24, .lload 8, 2, [], []),
  (26, .lstore 6, 2, [], []),
  (28, .goto (-22), 3, [4], []),
  (31, .lload 4, 2, [], []),
  (33, .lreturn, 1, [], [])]
def mX12_gcd : pv_M := (⟨"CliffGardenModel", "gcd", "(JJ)J"⟩, prog_14_method_85_code, 10, some .long, rX12_gcd)
def rX12_pollen : List pv_R := [
  (0, .iload_n 1, 1, [], []),
  (1, .iconst 0, 1, [], []),
  (2, .bipush 7, 2, [], []),
  (4, .invokestatic 206, 3, [145, 3], [1]),
  (7, .ifCond .eq 43, 3, [25], []),
  (10, .iload_n 2, 1, [], []),
  (11, .iconst 0, 1, [], []),
  (12, .bipush 7, 2, [], []),
  (14, .invokestatic 206, 3, [145, 3], [1]),
  (17, .ifCond .eq 33, 3, [25], []),
  (20, .iload_n 3, 1, [], []),
  (21, .iconst 0, 1, [], []),
  (22, .iconst 5, 1, [], []),
  (23, .invokestatic 206, 3, [145, 3], [1]),
  (26, .ifCond .eq 24, 3, [25], []),
  (29, .iload 4, 2, [], []),
  (31, .iconst 1, 1, [], []),
  (32, .bipush 12, 2, [], []),
  (34, .invokestatic 206, 3, [145, 3], [1]),
  (37, .ifCond .eq 13, 3, [25], []),
  (40, .iload 5, 2, [], []),
  (42, .iconst 0, 1, [], []),
  (43, .iconst 1, 1, [], []),
  (44, .invokestatic 206, 3, [145, 3], [1]),
  (47, .ifCond .ne 7, 3, [27], []),
  (50, .ldc2_w 406, 3, [18446744073709551615], [244]),
  (53, .lreturn, 1, [], []),
  (54, .iconst 0, 1, [], []),
  (55, .istore 6, 2, [], []),
  (57, .iload 6, 2, [], []),
  (59, .bipush 8, 2, [], []),
  (61, .if_icmp .ge 35, 3, [49], []),
  (64, .aload_n 0, 1, [], []),
  (65, .getfield 171, 3, [12, 68], [87]),
  (68, .iload 6, 2, [], []),
  (70, .iload 6, 2, [], []),
  (72, .iload_n 1, 1, [], []),
  (73, .if_icmp .ne 7, 3, [40], []),
  (76, .lconst 1, 1, [], []),
  (77, .goto 4, 3, [41], []),
  (80, .lconst 0, 1, [], []),
  (81, .lastore, 1, [], []),
  (82, .aload_n 0, 1, [], []),
  (83, .getfield 175, 3, [12, 69], [55]),
  (86, .iload 6, 2, [], []),
  (88, .lconst 0, 1, [], []),
  (89, .lastore, 1, [], []),
  (90, .iinc 6 1, 3, [], []),
  (93, .goto (-36), 3, [29], []),
  (96, .aload_n 0, 1, [], []),
  (97, .iload_n 2, 1, [], []),
  (98, .iload_n 3, 1, [], []),
  (99, .invokevirtual 449, 3, [225, 2, 12], [301]),
  (102, .lstore 6, 2, [], []),
  (104, .lconst 1, 1, [], []),
  (105, .lstore 8, 2, [], []),
  (107, .iconst 0, 1, [], []),
  (108, .istore 10, 2, [], []),
  (110, .iload 10, 2, [], []),
  (112, .iload 4, 2, [], []),
  (114, .if_icmp .ge 36, 3, [78], []),
  (117, .aload_n 0, 1, [], []),
  (118, .invokevirtual 453, 3, [227, 0, 12], [635]),
  (121, .ldc2_w 456, 3, [3], [245]),
  (124, .lload 8, 2, [], []),
  (126, .lmul, 1, [], []),
  (127, .lstore 8, 2, [], []),
  (129, .ldc2_w 456, 3, [3], [245]),
  (132, .lload 6, 2, [], []),
  (134, .lmul, 1, [], []),
  (135, .aload_n 0, 1, [], []),
  (136, .iload_n 2, 1, [], []),
  (137, .iload_n 3, 1, [], []),
  (138, .invokevirtual 449, 3, [225, 2, 12], [301]),
  (141, .ladd, 1, [], []),
  (142, .lstore 6, 2, [], []),
  (144, .iinc 10 1, 3, [], []),
  (147, .goto (-37), 3, [58], []),
  (150, .lload 6, 2, [], []),
  (152, .lload 8, 2, [], []),
  (154, .invokestatic 458, 3, [228, 2], [564]),
  (157, .lstore 10, 2, [], []),
  (159, .iload 5, 2, [], []),
  (161, .ifCond .ne 11, 3, [88], []),
  (164, .lload 6, 2, [], []),
  (166, .lload 10, 2, [], []),
  (168, .ldiv, 1, [], []),
  (169, .goto 8, 3, [91], []),
  (172, .lload 8, 2, [], []),
  (174, .lload 10, 2, [], []),
  (176, .ldiv, 1, [], []),
  (177, .lreturn, 1, [], [])]
def mX12_pollen : pv_M := (⟨"CliffGardenModel", "pollen", "(IIIII)J"⟩, prog_14_method_86_code, 12, some .long, rX12_pollen)
def rX12_pollinate : List pv_R := [
  (0, .iload_n 1, 1, [], []),
  (1, .iconst 0, 1, [], []),
  (2, .bipush 7, 2, [], []),
  (4, .invokestatic 206, 3, [145, 3], [1]),
  (7, .ifCond .eq 12, 3, [10], []),
  (10, .iload_n 2, 1, [], []),
  (11, .iconst 0, 1, [], []),
  (12, .iconst 5, 1, [], []),
  (13, .invokestatic 206, 3, [145, 3], [1]),
  (16, .ifCond .ne 5, 3, [12], []),
  (19, .iconst (-1), 1, [], []),
  (20, .ireturn, 1, [0], []),
  (21, .iconst 0, 1, [], []),
  (22, .istore_n 3, 1, [], []),
  (23, .bipush 6, 2, [], []),
  (25, .iload_n 1, 1, [], []),
  (26, .imul, 1, [], []),
  (27, .istore 4, 2, [], []),
  (29, .iload 4, 2, [], []),
  (31, .bipush 6, 2, [], []),
  (33, .iload_n 1, 1, [], []),
  (34, .iconst 1, 1, [], []),
  (35, .iadd, 1, [], []),
  (36, .imul, 1, [], []),
  (37, .if_icmp .ge 55, 3, [53], []),
  (40, .aload_n 0, 1, [], []),
  (41, .getfield 7, 3, [12, 4], [3]),
  (44, .iload 4, 2, [], []),
  (46, .baload, 1, [1], []),
  (47, .ifCond .eq 39, 3, [51], []),
  (50, .aload_n 0, 1, [], []),
  (51, .getfield 29, 3, [12, 10], [4]),
  (54, .iload 4, 2, [], []),
  (56, .iaload, 1, [], []),
  (57, .iload_n 2, 1, [], []),
  (58, .if_icmp .ne 28, 3, [51], []),
  (61, .aload_n 0, 1, [], []),
  (62, .getfield 13, 3, [12, 5], [52]),
  (65, .iload 4, 2, [], []),
  (67, .baload, 1, [1], []),
  (68, .ifCond .eq 6, 3, [42], []),
  (71, .goto 15, 3, [51], []),
  (74, .aload_n 0, 1, [], []),
  (75, .getfield 13, 3, [12, 5], [52]),
  (78, .iload 4, 2, [], []),
  (80, .iconst 1, 1, [], []),
  (81, .bastore, 1, [1], []),
  (82, .iload_n 3, 1, [], []),
  (83, .iconst 1, 1, [], []),
  (84, .iadd, 1, [], []),
  (85, .istore_n 3, 1, [], []),
  (86, .iinc 4 1, 3, [], []),
  (89, .goto (-60), 3, [18], []),
  (92, .iload_n 3, 1, [], []),
  (93, .ireturn, 1, [0], [])]
def mX12_pollinate : pv_M := (⟨"CliffGardenModel", "pollinate", "(II)I"⟩, prog_14_method_87_code, 5, some .int, rX12_pollinate)
def rX12_bearsAll : List pv_R := [
  (0, .iconst 0, 1, [], []),
  (1, .istore_n 1, 1, [], []),
  (2, .iload_n 1, 1, [], []),
  (3, .bipush 48, 2, [], []),
  (5, .if_icmp .ge 86, 3, [55], []),
  (8, .aload_n 0, 1, [], []),
  (9, .getfield 184, 3, [12, 72], [120]),
  (12, .iload_n 1, 1, [], []),
  (13, .aload_n 0, 1, [], []),
  (14, .getfield 7, 3, [12, 4], [3]),
  (17, .iload_n 1, 1, [], []),
  (18, .baload, 1, [1], []),
  (19, .ifCond .eq 64, 3, [51], []),
  (22, .bipush 10, 2, [], []),
  (24, .aload_n 0, 1, [], []),
  (25, .getfield 20, 3, [12, 7], [84]),
  (28, .iload_n 1, 1, [], []),
  (29, .iaload, 1, [], []),
  (30, .imul, 1, [], []),
  (31, .aload_n 0, 1, [], []),
  (32, .getfield 35, 3, [12, 12], [66]),
  (35, .iload_n 1, 1, [], []),
  (36, .iaload, 1, [], []),
  (37, .iadd, 1, [], []),
  (38, .aload_n 0, 1, [], []),
  (39, .getfield 38, 3, [12, 13], [38]),
  (42, .iload_n 1, 1, [], []),
  (43, .iaload, 1, [], []),
  (44, .iadd, 1, [], []),
  (45, .aload_n 0, 1, [], []),
  (46, .getfield 29, 3, [12, 10], [4]),
  (49, .iload_n 1, 1, [], []),
  (50, .iaload, 1, [], []),
  (51, .iconst (-1), 1, [], []),
  (52, .if_icmp .ne 7, 3, [37], []),
  (55, .iconst 0, 1, [], []),
  (56, .goto 23, 3, [49], []),
  (59, .aload_n 0, 1, [], []),
  (60, .getfield 32, 3, [12, 11], [19]),
  (63, .iload_n 1, 1, [], []),
  (64, .iaload, 1, [], []),
  (65, .aload_n 0, 1, [], []),
  (66, .getfield 44, 3, [12, 15], [45]),
  (69, .aload_n 0, 1, [], []),
  (70, .getfield 29, 3, [12, 10], [4]),
  (73, .iload_n 1, 1, [], []),
  (74, .iaload, 1, [], []),
  (75, .iaload, 1, [], []),
  (76, .invokestatic 394, 3, [147, 2], [172]),
  (79, .iadd, 1, [], []),
  (80, .goto 4, 3, [52], []),
  (83, .iconst 0, 1, [], []),
  (84, .iastore, 1, [], []),
  (85, .iinc 1 1, 3, [], []),
  (88, .goto (-86), 3, [2], []),
  (91, .iconst 0, 1, [], []),
  (92, .istore_n 1, 1, [], []),
  (93, .iload_n 1, 1, [], []),
  (94, .aload_n 0, 1, [], []),
  (95, .getfield 423, 3, [12, 63], [8]),
  (98, .if_icmp .ge 57, 3, [93], []),
  (101, .aload_n 0, 1, [], []),
  (102, .getfield 184, 3, [12, 72], [120]),
  (105, .aload_n 0, 1, [], []),
  (106, .getfield 159, 3, [12, 64], [13]),
  (109, .iload_n 1, 1, [], []),
  (110, .iaload, 1, [], []),
  (111, .aload_n 0, 1, [], []),
  (112, .getfield 184, 3, [12, 72], [120]),
  (115, .aload_n 0, 1, [], []),
  (116, .getfield 159, 3, [12, 64], [13]),
  (119, .iload_n 1, 1, [], []),
  (120, .iaload, 1, [], []),
  (121, .iaload, 1, [], []),
  (122, .aload_n 0, 1, [], []),
  (123, .getfield 162, 3, [12, 65], [40]),
  (126, .iload_n 1, 1, [], []),
  (127, .iaload, 1, [], []),
  (128, .iconst (-1), 1, [], []),
  (129, .if_icmp .ne 7, 3, [82], []),
  (132, .iconst 0, 1, [], []),
  (133, .goto 14, 3, [89], []),
  (136, .aload_n 0, 1, [], []),
  (137, .getfield 44, 3, [12, 15], [45]),
  (140, .aload_n 0, 1, [], []),
  (141, .getfield 162, 3, [12, 65], [40]),
  (144, .iload_n 1, 1, [], []),
  (145, .iaload, 1, [], []),
  (146, .iaload, 1, [], []),
  (147, .iadd, 1, [], []),
  (148, .iastore, 1, [], []),
  (149, .iinc 1 1, 3, [], []),
  (152, .goto (-59), 3, [57], []),
  (155, .iconst 0, 1, [], []),
  (156, .istore_n 1, 1, [], []),
  (157, .iload_n 1, 1, [], []),
  (158, .bipush 8, 2, [], []),
  (160, .if_icmp .ge 64, 3, [137], []),
  (163, .iconst 0, 1, [], []),
  (164, .istore_n 2, 1, [], []),
  (165, .bipush 6, 2, [], []),
  (167, .iload_n 1, 1, [], []),
  (168, .iconst 1, 1, [], []),
  (169, .iadd, 1, [], []),
  (170, .imul, 1, [], []),
  (171, .iconst 1, 1, [], []),
  (172, .isub, 1, [], []),
  (173, .istore_n 3, 1, [], []),
  (174, .iload_n 3, 1, [], []),
  (175, .bipush 6, 2, [], []),
  (177, .iload_n 1, 1, [], []),
  (178, .imul, 1, [], []),
  (179, .if_icmp .lt 39, 3, [135], []),
  (182, .iload_n 2, 1, [], []),
  (183, .aload_n 0, 1, [], []),
  (184, .getfield 184, 3, [12, 72], [120]),
  (187, .iload_n 3, 1, [], []),
  (188, .iaload, 1, [], []),
  (189, .iadd, 1, [], []),
  (190, .istore_n 2, 1, [], []),
  (191, .aload_n 0, 1, [], []),
  (192, .getfield 7, 3, [12, 4], [3]),
  (195, .iload_n 3, 1, [], []),
  (196, .baload, 1, [1], []),
  (197, .ifCond .eq 15, 3, [133], []),
  (200, .iload_n 2, 1, [], []),
  (201, .aload_n 0, 1, [], []),
  (202, .getfield 16, 3, [12, 6], [24]),
  (205, .iload_n 3, 1, [], []),
  (206, .iaload, 1, [], []),
  (207, .if_icmp .le 5, 3, [133], []),
  (210, .iconst 0, 1, [], []),
  (211, .ireturn, 1, [1], []),
  (212, .iinc 3 (-1), 3, [], []),
  (215, .goto (-41), 3, [108], []),
  (218, .iinc 1 1, 3, [], []),
  (221, .goto (-64), 3, [95], []),
  (224, .iconst 1, 1, [], []),
  (225, .ireturn, 1, [1], [])]
def mX12_bearsAll : pv_M := (⟨"CliffGardenModel", "bearsAll", "()Z"⟩, prog_14_method_88_code, 4, some .boolean, rX12_bearsAll)
def rX12_areWhole : List pv_R := [
  (0, .iconst 0, 1, [], []),
  (1, .istore_n 1, 1, [], []),
  (2, .iload_n 1, 1, [], []),
  (3, .aload_n 0, 1, [], []),
  (4, .getfield 423, 3, [12, 63], [8]),
  (7, .if_icmp .ge 62, 3, [42], []),
  (10, .aload_n 0, 1, [], []),
  (11, .getfield 162, 3, [12, 65], [40]),
  (14, .iload_n 1, 1, [], []),
  (15, .iaload, 1, [], []),
  (16, .iconst (-1), 1, [], []),
  (17, .if_icmp .eq 46, 3, [40], []),
  (20, .aload_n 0, 1, [], []),
  (21, .getfield 44, 3, [12, 15], [45]),
  (24, .aload_n 0, 1, [], []),
  (25, .getfield 162, 3, [12, 65], [40]),
  (28, .iload_n 1, 1, [], []),
  (29, .iaload, 1, [], []),
  (30, .iaload, 1, [], []),
  (31, .bipush 6, 2, [], []),
  (33, .aload_n 0, 1, [], []),
  (34, .getfield 159, 3, [12, 64], [13]),
  (37, .iload_n 1, 1, [], []),
  (38, .iaload, 1, [], []),
  (39, .bipush 6, 2, [], []),
  (41, .irem, 1, [], []),
  (42, .isub, 1, [], []),
  (43, .imul, 1, [], []),
  (44, .aload_n 0, 1, [], []),
  (45, .getfield 56, 3, [12, 19], [67]),
  (48, .aload_n 0, 1, [], []),
  (49, .getfield 159, 3, [12, 64], [13]),
  (52, .iload_n 1, 1, [], []),
  (53, .iaload, 1, [], []),
  (54, .bipush 6, 2, [], []),
  (56, .idiv, 1, [], []),
  (57, .iaload, 1, [], []),
  (58, .if_icmp .le 5, 3, [40], []),
  (61, .iconst 0, 1, [], []),
  (62, .ireturn, 1, [1], []),
  (63, .iinc 1 1, 3, [], []),
  (66, .goto (-64), 3, [2], []),
  (69, .iconst 1, 1, [], []),
  (70, .ireturn, 1, [1], [])]
def mX12_areWhole : pv_M := (⟨"CliffGardenModel", "areWhole", "()Z"⟩, prog_14_method_89_code, 2, some .boolean, rX12_areWhole)
def rX12_planted : List pv_R := [
  (0, .aload_n 0, 1, [], []),
  (1, .lload_n 1, 1, [], []),
  (2, .iconst 5, 1, [], []),
  (3, .invokevirtual 436, 3, [217, 2, 12], [191]),
  (6, .ifCond .eq 23, 3, [16], []),
  (9, .iload_n 3, 1, [], []),
  (10, .bipush 10, 2, [], []),
  (12, .if_icmp .eq 20, 3, [18], []),
  (15, .iload_n 3, 1, [], []),
  (16, .iconst (-1), 1, [], []),
  (17, .aload_n 0, 1, [], []),
  (18, .getfield 423, 3, [12, 63], [8]),
  (21, .iconst 1, 1, [], []),
  (22, .isub, 1, [], []),
  (23, .invokestatic 206, 3, [145, 3], [1]),
  (26, .ifCond .ne 6, 3, [18], []),
  (29, .bipush (-3), 2, [], []),
  (31, .ireturn, 1, [0], []),
  (32, .iconst 1, 1, [], []),
  (33, .istore 4, 2, [], []),
  (35, .iconst 0, 1, [], []),
  (36, .istore 5, 2, [], []),
  (38, .iload 5, 2, [], []),
  (40, .aload_n 0, 1, [], []),
  (41, .getfield 423, 3, [12, 63], [8]),
  (44, .if_icmp .ge 50, 3, [51], []),
  (47, .aload_n 0, 1, [], []),
  (48, .getfield 7, 3, [12, 4], [3]),
  (51, .aload_n 0, 1, [], []),
  (52, .getfield 159, 3, [12, 64], [13]),
  (55, .iload 5, 2, [], []),
  (57, .iaload, 1, [], []),
  (58, .baload, 1, [1], []),
  (59, .ifCond .eq 19, 3, [43], []),
  (62, .aload_n 0, 1, [], []),
  (63, .getfield 29, 3, [12, 10], [4]),
  (66, .aload_n 0, 1, [], []),
  (67, .getfield 159, 3, [12, 64], [13]),
  (70, .iload 5, 2, [], []),
  (72, .iaload, 1, [], []),
  (73, .iaload, 1, [], []),
  (74, .iconst (-1), 1, [], []),
  (75, .if_icmp .eq 6, 3, [45], []),
  (78, .bipush (-3), 2, [], []),
  (80, .ireturn, 1, [0], []),
  (81, .bipush 7, 2, [], []),
  (83, .iload 4, 2, [], []),
  (85, .imul, 1, [], []),
  (86, .istore 4, 2, [], []),
  (88, .iinc 5 1, 3, [], []),
  (91, .goto (-53), 3, [22], []),
  (94, .iconst (-1), 1, [], []),
  (95, .istore 5, 2, [], []),
  (97, .iconst 0, 1, [], []),
  (98, .istore 6, 2, [], []),
  (100, .iload 6, 2, [], []),
  (102, .iload 4, 2, [], []),
  (104, .if_icmp .ge 167, 3, [143], []),
  (107, .iload 6, 2, [], []),
  (109, .istore 7, 2, [], []),
  (111, .iconst 0, 1, [], []),
  (112, .istore 8, 2, [], []),
  (114, .aload_n 0, 1, [], []),
  (115, .getfield 423, 3, [12, 63], [8]),
  (118, .iconst 1, 1, [], []),
  (119, .isub, 1, [], []),
  (120, .istore 9, 2, [], []),
  (122, .iload 9, 2, [], []),
  (124, .ifCond .lt 75, 3, [110], []),
  (127, .aload_n 0, 1, [], []),
  (128, .getfield 162, 3, [12, 65], [40]),
  (131, .iload 9, 2, [], []),
  (133, .iload 7, 2, [], []),
  (135, .bipush 7, 2, [], []),
  (137, .irem, 1, [], []),
  (138, .iconst 1, 1, [], []),
  (139, .isub, 1, [], []),
  (140, .iastore, 1, [], []),
  (141, .iload 7, 2, [], []),
  (143, .bipush 7, 2, [], []),
  (145, .idiv, 1, [], []),
  (146, .istore 7, 2, [], []),
  (148, .iload 8, 2, [], []),
  (150, .aload_n 0, 1, [], []),
  (151, .getfield 162, 3, [12, 65], [40]),
  (154, .iload 9, 2, [], []),
  (156, .iaload, 1, [], []),
  (157, .iconst (-1), 1, [], []),
  (158, .if_icmp .ne 7, 3, [91], []),
  (161, .iconst 0, 1, [], []),
  (162, .goto 28, 3, [106], []),
  (165, .aload_n 0, 1, [], []),
  (166, .getfield 47, 3, [12, 16], [85]),
  (169, .aload_n 0, 1, [], []),
  (170, .getfield 162, 3, [12, 65], [40]),
  (173, .iload 9, 2, [], []),
  (175, .iaload, 1, [], []),
  (176, .iaload, 1, [], []),
  (177, .aload_n 0, 1, [], []),
  (178, .getfield 44, 3, [12, 15], [45]),
  (181, .aload_n 0, 1, [], []),
  (182, .getfield 162, 3, [12, 65], [40]),
  (185, .iload 9, 2, [], []),
  (187, .iaload, 1, [], []),
  (188, .iaload, 1, [], []),
  (189, .imul, 1, [], []),
  (190, .iadd, 1, [], []),
  (191, .istore 8, 2, [], []),
  (193, .iinc 9 (-1), 3, [], []),
  (196, .goto (-74), 3, [67], []),
  (199, .iload 5, 2, [], []),
  (201, .iconst (-1), 1, [], []),
  (202, .if_icmp .eq 10, 3, [116], []),
  (205, .iload 8, 2, [], []),
  (207, .iload 5, 2, [], []),
  (209, .if_icmp .le 56, 3, [141], []),
  (212, .aload_n 0, 1, [], []),
  (213, .invokevirtual 462, 3, [232, 0, 12], [636]),
  (216, .ifCond .eq 49, 3, [141], []),
  (219, .aload_n 0, 1, [], []),
  (220, .invokevirtual 465, 3, [231, 0, 12], [637]),
  (223, .ifCond .ne 6, 3, [123], []),
  (226, .goto 39, 3, [141], []),
  (229, .iload 8, 2, [], []),
  (231, .istore 5, 2, [], []),
  (233, .iconst 0, 1, [], []),
  (234, .istore 9, 2, [], []),
  (236, .iload 9, 2, [], []),
  (238, .aload_n 0, 1, [], []),
  (239, .getfield 423, 3, [12, 63], [8]),
  (242, .if_icmp .ge 23, 3, [141], []),
  (245, .aload_n 0, 1, [], []),
  (246, .getfield 165, 3, [12, 66], [164]),
  (249, .iload 9, 2, [], []),
  (251, .aload_n 0, 1, [], []),
  (252, .getfield 162, 3, [12, 65], [40]),
  (255, .iload 9, 2, [], []),
  (257, .iaload, 1, [], []),
  (258, .iastore, 1, [], []),
  (259, .iinc 9 1, 3, [], []),
  (262, .goto (-26), 3, [127], []),
  (265, .iinc 6 1, 3, [], []),
  (268, .goto (-168), 3, [55], []),
  (271, .iload 5, 2, [], []),
  (273, .iconst (-1), 1, [], []),
  (274, .if_icmp .ne 6, 3, [148], []),
  (277, .bipush (-2), 2, [], []),
  (279, .ireturn, 1, [0], []),
  (280, .iconst 0, 1, [], []),
  (281, .istore 6, 2, [], []),
  (283, .iload 6, 2, [], []),
  (285, .aload_n 0, 1, [], []),
  (286, .getfield 423, 3, [12, 63], [8]),
  (289, .if_icmp .ge 34, 3, [170], []),
  (292, .iload_n 3, 1, [], []),
  (293, .bipush 10, 2, [], []),
  (295, .if_icmp .ne 28, 3, [170], []),
  (298, .aload_n 0, 1, [], []),
  (299, .getfield 29, 3, [12, 10], [4]),
  (302, .aload_n 0, 1, [], []),
  (303, .getfield 159, 3, [12, 64], [13]),
  (306, .iload 6, 2, [], []),
  (308, .iaload, 1, [], []),
  (309, .aload_n 0, 1, [], []),
  (310, .getfield 165, 3, [12, 66], [164]),
  (313, .iload 6, 2, [], []),
  (315, .iaload, 1, [], []),
  (316, .iastore, 1, [], []),
  (317, .iinc 6 1, 3, [], []),
  (320, .goto (-37), 3, [150], []),
  (323, .iload_n 3, 1, [], []),
  (324, .iconst (-1), 1, [], []),
  (325, .if_icmp .eq 9, 3, [176], []),
  (328, .iload_n 3, 1, [], []),
  (329, .bipush 10, 2, [], []),
  (331, .if_icmp .ne 8, 3, [178], []),
  (334, .iload 5, 2, [], []),
  (336, .goto 9, 3, [182], []),
  (339, .aload_n 0, 1, [], []),
  (340, .getfield 165, 3, [12, 66], [164]),
  (343, .iload_n 3, 1, [], []),
  (344, .iaload, 1, [], []),
  (345, .ireturn, 1, [0], [])]
def mX12_planted : pv_M := (⟨"CliffGardenModel", "planted", "(JI)I"⟩, prog_14_method_90_code, 10, some .int, rX12_planted)
def rX12_growth : List pv_R := [
  (0, .iconst 0, 1, [], []),
  (1, .istore_n 1, 1, [], []),
  (2, .iconst 0, 1, [], []),
  (3, .istore_n 2, 1, [], []),
  (4, .iload_n 2, 1, [], []),
  (5, .bipush 48, 2, [], []),
  (7, .if_icmp .ge 40, 3, [28], []),
  (10, .aload_n 0, 1, [], []),
  (11, .getfield 7, 3, [12, 4], [3]),
  (14, .iload_n 2, 1, [], []),
  (15, .baload, 1, [1], []),
  (16, .ifCond .eq 25, 3, [26], []),
  (19, .aload_n 0, 1, [], []),
  (20, .getfield 29, 3, [12, 10], [4]),
  (23, .iload_n 2, 1, [], []),
  (24, .iaload, 1, [], []),
  (25, .iconst (-1), 1, [], []),
  (26, .if_icmp .eq 15, 3, [26], []),
  (29, .iload_n 1, 1, [], []),
  (30, .aload_n 0, 1, [], []),
  (31, .iload_n 2, 1, [], []),
  (32, .bipush 103, 2, [], []),
  (34, .bipush 50, 2, [], []),
  (36, .invokevirtual 356, 3, [191, 3, 12], [58]),
  (39, .iadd, 1, [], []),
  (40, .istore_n 1, 1, [], []),
  (41, .iinc 2 1, 3, [], []),
  (44, .goto (-40), 3, [4], []),
  (47, .iload_n 1, 1, [], []),
  (48, .ireturn, 1, [0], [])]
def mX12_growth : pv_M := (⟨"CliffGardenModel", "growth", "()I"⟩, prog_14_method_91_code, 3, some .int, rX12_growth)
def rX12_drought : List pv_R := [
  (0, .iload_n 1, 1, [], []),
  (1, .iconst 0, 1, [], []),
  (2, .bipush 36, 2, [], []),
  (4, .invokestatic 206, 3, [145, 3], [1]),
  (7, .ifCond .eq 22, 3, [14], []),
  (10, .iload_n 2, 1, [], []),
  (11, .iconst 1, 1, [], []),
  (12, .sipush 255, 3, [], []),
  (15, .invokestatic 206, 3, [145, 3], [1]),
  (18, .ifCond .eq 11, 3, [14], []),
  (21, .iload_n 2, 1, [], []),
  (22, .invokestatic 468, 3, [236, 1], [565]),
  (25, .iconst 4, 1, [], []),
  (26, .if_icmp .le 6, 3, [16], []),
  (29, .bipush (-2), 2, [], []),
  (31, .ireturn, 1, [0], []),
  (32, .iconst 0, 1, [], []),
  (33, .istore 4, 2, [], []),
  (35, .iconst 0, 1, [], []),
  (36, .istore 5, 2, [], []),
  (38, .iload 5, 2, [], []),
  (40, .bipush 8, 2, [], []),
  (42, .if_icmp .ge 36, 3, [41], []),
  (45, .iload_n 2, 1, [], []),
  (46, .iload 5, 2, [], []),
  (48, .ishr, 1, [], []),
  (49, .iconst 1, 1, [], []),
  (50, .iand, 1, [], []),
  (51, .ifCond .ne 6, 3, [30], []),
  (54, .goto 18, 3, [39], []),
  (57, .aload_n 0, 1, [], []),
  (58, .getfield 190, 3, [12, 74], [236]),
  (61, .iload 4, 2, [], []),
  (63, .iload 5, 2, [], []),
  (65, .iastore, 1, [], []),
  (66, .iload 4, 2, [], []),
  (68, .iconst 1, 1, [], []),
  (69, .iadd, 1, [], []),
  (70, .istore 4, 2, [], []),
  (72, .iinc 5 1, 3, [], []),
  (75, .goto (-37), 3, [20], []),
  (78, .iload_n 3, 1, [], []),
  (79, .iconst (-1), 1, [], []),
  (80, .iload 4, 2, [], []),
  (82, .iconst 1, 1, [], []),
  (83, .isub, 1, [], []),
  (84, .invokestatic 206, 3, [145, 3], [1]),
  (87, .ifCond .ne 6, 3, [50], []),
  (90, .bipush (-2), 2, [], []),
  (92, .ireturn, 1, [0], []),
  (93, .iconst 0, 1, [], []),
  (94, .istore 5, 2, [], []),
  (96, .iload 5, 2, [], []),
  (98, .bipush 48, 2, [], []),
  (100, .if_icmp .ge 23, 3, [65], []),
  (103, .aload_n 0, 1, [], []),
  (104, .getfield 187, 3, [12, 73], [235]),
  (107, .iload 5, 2, [], []),
  (109, .aload_n 0, 1, [], []),
  (110, .getfield 38, 3, [12, 13], [38]),
  (113, .iload 5, 2, [], []),
  (115, .iaload, 1, [], []),
  (116, .iastore, 1, [], []),
  (117, .iinc 5 1, 3, [], []),
  (120, .goto (-24), 3, [52], []),
  (123, .iconst 1, 1, [], []),
  (124, .istore 5, 2, [], []),
  (126, .iconst 0, 1, [], []),
  (127, .istore 6, 2, [], []),
  (129, .iload 6, 2, [], []),
  (131, .iload 4, 2, [], []),
  (133, .if_icmp .ge 16, 3, [78], []),
  (136, .bipush 10, 2, [], []),
  (138, .iload 5, 2, [], []),
  (140, .imul, 1, [], []),
  (141, .istore 5, 2, [], []),
  (143, .iinc 6 1, 3, [], []),
  (146, .goto (-17), 3, [69], []),
  (149, .iconst (-1), 1, [], []),
  (150, .istore 6, 2, [], []),
  (152, .iconst 0, 1, [], []),
  (153, .istore 7, 2, [], []),
  (155, .iload 7, 2, [], []),
  (157, .iload 5, 2, [], []),
  (159, .if_icmp .ge 170, 3, [170], []),
  (162, .iload 7, 2, [], []),
  (164, .istore 8, 2, [], []),
  (166, .iconst 0, 1, [], []),
  (167, .istore 9, 2, [], []),
  (169, .iconst 0, 1, [], []),
  (170, .istore 10, 2, [], []),
  (172, .iload 10, 2, [], []),
  (174, .bipush 8, 2, [], []),
  (176, .if_icmp .ge 17, 3, [101], []),
  (179, .aload_n 0, 1, [], []),
  (180, .getfield 117, 3, [12, 49], [54]),
  (183, .iload 10, 2, [], []),
  (185, .iconst 0, 1, [], []),
  (186, .iastore, 1, [], []),
  (187, .iinc 10 1, 3, [], []),
  (190, .goto (-18), 3, [91], []),
  (193, .iload 4, 2, [], []),
  (195, .iconst 1, 1, [], []),
  (196, .isub, 1, [], []),
  (197, .istore 10, 2, [], []),
  (199, .iload 10, 2, [], []),
  (201, .ifCond .lt 59, 3, [138], []),
  (204, .aload_n 0, 1, [], []),
  (205, .getfield 196, 3, [12, 76], [121]),
  (208, .iload 10, 2, [], []),
  (210, .iload 8, 2, [], []),
  (212, .bipush 10, 2, [], []),
  (214, .irem, 1, [], []),
  (215, .iastore, 1, [], []),
  (216, .iload 8, 2, [], []),
  (218, .bipush 10, 2, [], []),
  (220, .idiv, 1, [], []),
  (221, .istore 8, 2, [], []),
  (223, .iload 9, 2, [], []),
  (225, .aload_n 0, 1, [], []),
  (226, .getfield 196, 3, [12, 76], [121]),
  (229, .iload 10, 2, [], []),
  (231, .iaload, 1, [], []),
  (232, .iadd, 1, [], []),
  (233, .istore 9, 2, [], []),
  (235, .aload_n 0, 1, [], []),
  (236, .getfield 117, 3, [12, 49], [54]),
  (239, .aload_n 0, 1, [], []),
  (240, .getfield 190, 3, [12, 74], [236]),
  (243, .iload 10, 2, [], []),
  (245, .iaload, 1, [], []),
  (246, .aload_n 0, 1, [], []),
  (247, .getfield 196, 3, [12, 76], [121]),
  (250, .iload 10, 2, [], []),
  (252, .iaload, 1, [], []),
  (253, .iastore, 1, [], []),
  (254, .iinc 10 (-1), 3, [], []),
  (257, .goto (-58), 3, [105], []),
  (260, .iload 9, 2, [], []),
  (262, .iload_n 1, 1, [], []),
  (263, .if_icmp .le 6, 3, [142], []),
  (266, .goto 57, 3, [168], []),
  (269, .aload_n 0, 1, [], []),
  (270, .invokevirtual 368, 3, [195, 0, 12], [296]),
  (273, .aload_n 0, 1, [], []),
  (274, .invokevirtual 471, 3, [234, 0, 12], [638]),
  (277, .istore 10, 2, [], []),
  (279, .iload 10, 2, [], []),
  (281, .iload 6, 2, [], []),
  (283, .if_icmp .gt 6, 3, [151], []),
  (286, .goto 37, 3, [168], []),
  (289, .iload 10, 2, [], []),
  (291, .istore 6, 2, [], []),
  (293, .iconst 0, 1, [], []),
  (294, .istore 11, 2, [], []),
  (296, .iload 11, 2, [], []),
  (298, .iload 4, 2, [], []),
  (300, .if_icmp .ge 23, 3, [168], []),
  (303, .aload_n 0, 1, [], []),
  (304, .getfield 193, 3, [12, 75], [237]),
  (307, .iload 11, 2, [], []),
  (309, .aload_n 0, 1, [], []),
  (310, .getfield 196, 3, [12, 76], [121]),
  (313, .iload 11, 2, [], []),
  (315, .iaload, 1, [], []),
  (316, .iastore, 1, [], []),
  (317, .iinc 11 1, 3, [], []),
  (320, .goto (-24), 3, [155], []),
  (323, .iinc 7 1, 3, [], []),
  (326, .goto (-171), 3, [82], []),
  (329, .iconst 0, 1, [], []),
  (330, .istore 7, 2, [], []),
  (332, .iload 7, 2, [], []),
  (334, .bipush 48, 2, [], []),
  (336, .if_icmp .ge 23, 3, [185], []),
  (339, .aload_n 0, 1, [], []),
  (340, .getfield 38, 3, [12, 13], [38]),
  (343, .iload 7, 2, [], []),
  (345, .aload_n 0, 1, [], []),
  (346, .getfield 187, 3, [12, 73], [235]),
  (349, .iload 7, 2, [], []),
  (351, .iaload, 1, [], []),
  (352, .iastore, 1, [], []),
  (353, .iinc 7 1, 3, [], []),
  (356, .goto (-24), 3, [172], []),
  (359, .iload_n 3, 1, [], []),
  (360, .iconst (-1), 1, [], []),
  (361, .if_icmp .ne 8, 3, [190], []),
  (364, .iload 6, 2, [], []),
  (366, .goto 9, 3, [194], []),
  (369, .aload_n 0, 1, [], []),
  (370, .getfield 193, 3, [12, 75], [237]),
  (373, .iload_n 3, 1, [], []),
  (374, .iaload, 1, [], []),
  (375, .ireturn, 1, [0], [])]
def mX12_drought : pv_M := (⟨"CliffGardenModel", "drought", "(III)I"⟩, prog_14_method_92_code, 12, some .int, rX12_drought)
def rX12_bits : List pv_R := [
  (0, .iconst 0, 1, [], []),
  (1, .istore_n 1, 1, [], []),
  (2, .iconst 0, 1, [], []),
  (3, .istore_n 2, 1, [], []),
  (4, .iload_n 2, 1, [], []),
  (5, .bipush 8, 2, [], []),
  (7, .if_icmp .ge 17, 3, [17], []),
  (10, .iload_n 1, 1, [], []),
  (11, .iload_n 0, 1, [], []),
  (12, .iload_n 2, 1, [], []),
  (13, .ishr, 1, [], []),
  (14, .iconst 1, 1, [], []),
  (15, .iand, 1, [], []),
  (16, .iadd, 1, [], []),
  (17, .istore_n 1, 1, [], []),
  (18, .iinc 2 1, 3, [], []),
  (21, .goto (-17), 3, [4], []),
  (24, .iload_n 1, 1, [], []),
  (25, .ireturn, 1, [0], [])]
def mX12_bits : pv_M := (⟨"CliffGardenModel", "bits", "(I)I"⟩, prog_14_method_93_code, 3, some .int, rX12_bits)
def rX12_takesOf : List pv_R := [
  (0, .iconst 1, 1, [], []),
  (1, .iload_n 0, 1, [], []),
  (2, .bipush 6, 2, [], []),
  (4, .irem, 1, [], []),
  (5, .iadd, 1, [], []),
  (6, .ireturn, 1, [0], [])]
def mX12_takesOf : pv_M := (⟨"CliffGardenModel", "takesOf", "(I)I"⟩, prog_14_method_94_code, 1, some .int, rX12_takesOf)
def rX12_hoursOf : List pv_R := [
  (0, .iconst 0, 1, [], []),
  (1, .istore_n 2, 1, [], []),
  (2, .iconst 0, 1, [], []),
  (3, .istore_n 3, 1, [], []),
  (4, .iload_n 3, 1, [], []),
  (5, .aload_n 0, 1, [], []),
  (6, .getfield 423, 3, [12, 63], [8]),
  (9, .if_icmp .ge 34, 3, [27], []),
  (12, .iload_n 2, 1, [], []),
  (13, .iload_n 1, 1, [], []),
  (14, .iload_n 3, 1, [], []),
  (15, .ishr, 1, [], []),
  (16, .iconst 1, 1, [], []),
  (17, .iand, 1, [], []),
  (18, .iconst 1, 1, [], []),
  (19, .if_icmp .ne 15, 3, [22], []),
  (22, .aload_n 0, 1, [], []),
  (23, .getfield 159, 3, [12, 64], [13]),
  (26, .iload_n 3, 1, [], []),
  (27, .iaload, 1, [], []),
  (28, .invokestatic 474, 3, [237, 1], [261]),
  (31, .goto 4, 3, [23], []),
  (34, .iconst 0, 1, [], []),
  (35, .iadd, 1, [], []),
  (36, .istore_n 2, 1, [], []),
  (37, .iinc 3 1, 3, [], []),
  (40, .goto (-36), 3, [4], []),
  (43, .iload_n 2, 1, [], []),
  (44, .ireturn, 1, [0], [])]
def mX12_hoursOf : pv_M := (⟨"CliffGardenModel", "hoursOf", "(I)I"⟩, prog_14_method_95_code, 4, some .int, rX12_hoursOf)
def rX12_canBeNext : List pv_R := [
  (0, .iload_n 1, 1, [], []),
  (1, .iload_n 2, 1, [], []),
  (2, .ishr, 1, [], []),
  (3, .iconst 1, 1, [], []),
  (4, .iand, 1, [], []),
  (5, .iconst 1, 1, [], []),
  (6, .if_icmp .ne 5, 3, [9], []),
  (9, .iconst 0, 1, [], []),
  (10, .ireturn, 1, [1], []),
  (11, .iconst 0, 1, [], []),
  (12, .istore_n 3, 1, [], []),
  (13, .iload_n 3, 1, [], []),
  (14, .aload_n 0, 1, [], []),
  (15, .getfield 423, 3, [12, 63], [8]),
  (18, .if_icmp .ge 49, 3, [44], []),
  (21, .aload_n 0, 1, [], []),
  (22, .getfield 159, 3, [12, 64], [13]),
  (25, .iload_n 3, 1, [], []),
  (26, .iaload, 1, [], []),
  (27, .aload_n 0, 1, [], []),
  (28, .getfield 159, 3, [12, 64], [13]),
  (31, .iload_n 2, 1, [], []),
  (32, .iaload, 1, [], []),
  (33, .iconst 1, 1, [], []),
  (34, .isub, 1, [], []),
  (35, .if_icmp .ne 26, 3, [42], []),
  (38, .aload_n 0, 1, [], []),
  (39, .getfield 159, 3, [12, 64], [13]),
  (42, .iload_n 3, 1, [], []),
  (43, .iaload, 1, [], []),
  (44, .bipush 6, 2, [], []),
  (46, .irem, 1, [], []),
  (47, .iconst 5, 1, [], []),
  (48, .if_icmp .eq 13, 3, [42], []),
  (51, .iload_n 1, 1, [], []),
  (52, .iload_n 3, 1, [], []),
  (53, .ishr, 1, [], []),
  (54, .iconst 1, 1, [], []),
  (55, .iand, 1, [], []),
  (56, .ifCond .ne 5, 3, [42], []),
  (59, .iconst 0, 1, [], []),
  (60, .ireturn, 1, [1], []),
  (61, .iinc 3 1, 3, [], []),
  (64, .goto (-51), 3, [11], []),
  (67, .iconst 1, 1, [], []),
  (68, .ireturn, 1, [1], [])]
def mX12_canBeNext : pv_M := (⟨"CliffGardenModel", "canBeNext", "(II)Z"⟩, prog_14_method_96_code, 4, some .boolean, rX12_canBeNext)
def rX12_costBy : List pv_R := [
  (0, .aload_n 0, 1, [], []),
  (1, .iload_n 1, 1, [], []),
  (2, .invokevirtual 477, 3, [238, 1, 12], [639]),
  (5, .aload_n 0, 1, [], []),
  (6, .getfield 159, 3, [12, 64], [13]),
  (9, .iload_n 2, 1, [], []),
  (10, .iaload, 1, [], []),
  (11, .invokestatic 474, 3, [237, 1], [261]),
  (14, .iadd, 1, [], []),
  (15, .aload_n 0, 1, [], []),
  (16, .getfield 71, 3, [12, 24], [157]),
  (19, .aload_n 0, 1, [], []),
  (20, .getfield 159, 3, [12, 64], [13]),
  (23, .iload_n 2, 1, [], []),
  (24, .iaload, 1, [], []),
  (25, .bipush 6, 2, [], []),
  (27, .idiv, 1, [], []),
  (28, .iaload, 1, [], []),
  (29, .imul, 1, [], []),
  (30, .aload_n 0, 1, [], []),
  (31, .getfield 199, 3, [12, 77], [70]),
  (34, .iload_n 1, 1, [], []),
  (35, .iconst 1, 1, [], []),
  (36, .iload_n 2, 1, [], []),
  (37, .ishl, 1, [], []),
  (38, .ior, 1, [], []),
  (39, .iaload, 1, [], []),
  (40, .iadd, 1, [], []),
  (41, .ireturn, 1, [0], [])]
def mX12_costBy : pv_M := (⟨"CliffGardenModel", "costBy", "(II)I"⟩, prog_14_method_97_code, 3, some .int, rX12_costBy)
def rX12_mended : List pv_R := [
  (0, .aload_n 0, 1, [], []),
  (1, .lload_n 1, 1, [], []),
  (2, .bipush 8, 2, [], []),
  (4, .invokevirtual 436, 3, [217, 2, 12], [191]),
  (7, .ifCond .eq 17, 3, [13], []),
  (10, .iload_n 3, 1, [], []),
  (11, .iconst (-1), 1, [], []),
  (12, .aload_n 0, 1, [], []),
  (13, .getfield 423, 3, [12, 63], [8]),
  (16, .iconst 1, 1, [], []),
  (17, .isub, 1, [], []),
  (18, .invokestatic 206, 3, [145, 3], [1]),
  (21, .ifCond .ne 6, 3, [15], []),
  (24, .bipush (-3), 2, [], []),
  (26, .ireturn, 1, [0], []),
  (27, .iconst 0, 1, [], []),
  (28, .istore 4, 2, [], []),
  (30, .iload 4, 2, [], []),
  (32, .aload_n 0, 1, [], []),
  (33, .getfield 423, 3, [12, 63], [8]),
  (36, .if_icmp .ge 27, 3, [33], []),
  (39, .aload_n 0, 1, [], []),
  (40, .getfield 7, 3, [12, 4], [3]),
  (43, .aload_n 0, 1, [], []),
  (44, .getfield 159, 3, [12, 64], [13]),
  (47, .iload 4, 2, [], []),
  (49, .iaload, 1, [], []),
  (50, .baload, 1, [1], []),
  (51, .ifCond .eq 6, 3, [31], []),
  (54, .bipush (-3), 2, [], []),
  (56, .ireturn, 1, [0], []),
  (57, .iinc 4 1, 3, [], []),
  (60, .goto (-30), 3, [17], []),
  (63, .iconst 1, 1, [], []),
  (64, .aload_n 0, 1, [], []),
  (65, .getfield 423, 3, [12, 63], [8]),
  (68, .ishl, 1, [], []),
  (69, .iconst 1, 1, [], []),
  (70, .isub, 1, [], []),
  (71, .istore 4, 2, [], []),
  (73, .iload 4, 2, [], []),
  (75, .istore 5, 2, [], []),
  (77, .iload 5, 2, [], []),
  (79, .ifCond .lt 84, 3, [82], []),
  (82, .aload_n 0, 1, [], []),
  (83, .getfield 199, 3, [12, 77], [70]),
  (86, .iload 5, 2, [], []),
  (88, .iload 5, 2, [], []),
  (90, .iload 4, 2, [], []),
  (92, .if_icmp .ne 7, 3, [52], []),
  (95, .iconst 0, 1, [], []),
  (96, .goto 6, 3, [53], []),
  (99, .ldc_w 432, 3, [1000000000], [168]),
  (102, .iastore, 1, [], []),
  (103, .iconst 0, 1, [], []),
  (104, .istore 6, 2, [], []),
  (106, .iload 6, 2, [], []),
  (108, .aload_n 0, 1, [], []),
  (109, .getfield 423, 3, [12, 63], [8]),
  (112, .if_icmp .ge 45, 3, [80], []),
  (115, .aload_n 0, 1, [], []),
  (116, .iload 5, 2, [], []),
  (118, .iload 6, 2, [], []),
  (120, .invokevirtual 480, 3, [239, 2, 12], [302]),
  (123, .ifCond .eq 28, 3, [78], []),
  (126, .aload_n 0, 1, [], []),
  (127, .getfield 199, 3, [12, 77], [70]),
  (130, .iload 5, 2, [], []),
  (132, .aload_n 0, 1, [], []),
  (133, .getfield 199, 3, [12, 77], [70]),
  (136, .iload 5, 2, [], []),
  (138, .iaload, 1, [], []),
  (139, .aload_n 0, 1, [], []),
  (140, .iload 5, 2, [], []),
  (142, .iload 6, 2, [], []),
  (144, .invokevirtual 483, 3, [240, 2, 12], [303]),
  (147, .invokestatic 362, 3, [146, 2], [126]),
  (150, .iastore, 1, [], []),
  (151, .iinc 6 1, 3, [], []),
  (154, .goto (-48), 3, [56], []),
  (157, .iinc 5 (-1), 3, [], []),
  (160, .goto (-83), 3, [42], []),
  (163, .iload_n 3, 1, [], []),
  (164, .iconst (-1), 1, [], []),
  (165, .if_icmp .ne 10, 3, [90], []),
  (168, .aload_n 0, 1, [], []),
  (169, .getfield 199, 3, [12, 77], [70]),
  (172, .iconst 0, 1, [], []),
  (173, .iaload, 1, [], []),
  (174, .ireturn, 1, [0], []),
  (175, .iconst 0, 1, [], []),
  (176, .istore 5, 2, [], []),
  (178, .iconst 0, 1, [], []),
  (179, .istore 6, 2, [], []),
  (181, .iload 6, 2, [], []),
  (183, .iload_n 3, 1, [], []),
  (184, .if_icmp .gt 73, 3, [134], []),
  (187, .iconst 0, 1, [], []),
  (188, .istore 7, 2, [], []),
  (190, .aload_n 0, 1, [], []),
  (191, .iload 5, 2, [], []),
  (193, .iload 7, 2, [], []),
  (195, .invokevirtual 480, 3, [239, 2, 12], [302]),
  (198, .ifCond .eq 21, 3, [113], []),
  (201, .aload_n 0, 1, [], []),
  (202, .iload 5, 2, [], []),
  (204, .iload 7, 2, [], []),
  (206, .invokevirtual 483, 3, [240, 2, 12], [303]),
  (209, .aload_n 0, 1, [], []),
  (210, .getfield 199, 3, [12, 77], [70]),
  (213, .iload 5, 2, [], []),
  (215, .iaload, 1, [], []),
  (216, .if_icmp .eq 12, 3, [118], []),
  (219, .iload 7, 2, [], []),
  (221, .iconst 1, 1, [], []),
  (222, .iadd, 1, [], []),
  (223, .istore 7, 2, [], []),
  (225, .goto (-35), 3, [99], []),
  (228, .iload 6, 2, [], []),
  (230, .iload_n 3, 1, [], []),
  (231, .if_icmp .ne 11, 3, [126], []),
  (234, .aload_n 0, 1, [], []),
  (235, .getfield 159, 3, [12, 64], [13]),
  (238, .iload 7, 2, [], []),
  (240, .iaload, 1, [], []),
  (241, .ireturn, 1, [0], []),
  (242, .iload 5, 2, [], []),
  (244, .iconst 1, 1, [], []),
  (245, .iload 7, 2, [], []),
  (247, .ishl, 1, [], []),
  (248, .ior, 1, [], []),
  (249, .istore 5, 2, [], []),
  (251, .iinc 6 1, 3, [], []),
  (254, .goto (-73), 3, [94], []),
  (257, .iconst (-1), 1, [], []),
  (258, .ireturn, 1, [0], [])]
def mX12_mended : pv_M := (⟨"CliffGardenModel", "mended", "(JI)I"⟩, prog_14_method_98_code, 8, some .int, rX12_mended)
def rX12_isHit : List pv_R := [
  (0, .iconst 0, 1, [], []),
  (1, .istore_n 3, 1, [], []),
  (2, .iload_n 3, 1, [], []),
  (3, .bipush 6, 2, [], []),
  (5, .if_icmp .ge 67, 3, [42], []),
  (8, .iload_n 1, 1, [], []),
  (9, .iload_n 3, 1, [], []),
  (10, .invokestatic 214, 3, [149, 2], [16]),
  (13, .istore 4, 2, [], []),
  (15, .aload_n 0, 1, [], []),
  (16, .getfield 7, 3, [12, 4], [3]),
  (19, .iload 4, 2, [], []),
  (21, .baload, 1, [1], []),
  (22, .ifCond .eq 44, 3, [40], []),
  (25, .aload_n 0, 1, [], []),
  (26, .getfield 29, 3, [12, 10], [4]),
  (29, .iload 4, 2, [], []),
  (31, .iaload, 1, [], []),
  (32, .iconst (-1), 1, [], []),
  (33, .if_icmp .eq 33, 3, [40], []),
  (36, .iload_n 2, 1, [], []),
  (37, .aload_n 0, 1, [], []),
  (38, .getfield 29, 3, [12, 10], [4]),
  (41, .iload 4, 2, [], []),
  (43, .iaload, 1, [], []),
  (44, .ishr, 1, [], []),
  (45, .iconst 1, 1, [], []),
  (46, .iand, 1, [], []),
  (47, .iconst 1, 1, [], []),
  (48, .if_icmp .ne 18, 3, [40], []),
  (51, .bipush 6, 2, [], []),
  (53, .iload_n 3, 1, [], []),
  (54, .isub, 1, [], []),
  (55, .aload_n 0, 1, [], []),
  (56, .getfield 56, 3, [12, 19], [67]),
  (59, .iload_n 1, 1, [], []),
  (60, .iaload, 1, [], []),
  (61, .if_icmp .le 5, 3, [40], []),
  (64, .iconst 1, 1, [], []),
  (65, .ireturn, 1, [1], []),
  (66, .iinc 3 1, 3, [], []),
  (69, .goto (-67), 3, [2], []),
  (72, .iconst 0, 1, [], []),
  (73, .ireturn, 1, [1], [])]
def mX12_isHit : pv_M := (⟨"CliffGardenModel", "isHit", "(II)Z"⟩, prog_14_method_99_code, 5, some .boolean, rX12_isHit)
def rX12_hail : List pv_R := [
  (0, .iload_n 1, 1, [], []),
  (1, .iconst 0, 1, [], []),
  (2, .bipush 63, 2, [], []),
  (4, .invokestatic 206, 3, [145, 3], [1]),
  (7, .ifCond .ne 5, 3, [7], []),
  (10, .iconst (-1), 1, [], []),
  (11, .ireturn, 1, [0], []),
  (12, .iconst 0, 1, [], []),
  (13, .istore_n 2, 1, [], []),
  (14, .iconst 0, 1, [], []),
  (15, .istore_n 3, 1, [], []),
  (16, .iload_n 3, 1, [], []),
  (17, .bipush 8, 2, [], []),
  (19, .if_icmp .ge 26, 3, [27], []),
  (22, .iload_n 2, 1, [], []),
  (23, .aload_n 0, 1, [], []),
  (24, .iload_n 3, 1, [], []),
  (25, .iload_n 1, 1, [], []),
  (26, .invokevirtual 486, 3, [242, 2, 12], [640]),
  (29, .ifCond .eq 7, 3, [22], []),
  (32, .iconst 1, 1, [], []),
  (33, .goto 4, 3, [23], []),
  (36, .iconst 0, 1, [], []),
  (37, .iadd, 1, [], []),
  (38, .istore_n 2, 1, [], []),
  (39, .iinc 3 1, 3, [], []),
  (42, .goto (-26), 3, [11], []),
  (45, .iload_n 2, 1, [], []),
  (46, .ireturn, 1, [0], [])]
def mX12_hail : pv_M := (⟨"CliffGardenModel", "hail", "(I)I"⟩, prog_14_method_100_code, 4, some .int, rX12_hail)
def rX12_tapeNumber : List pv_R := [
  (0, .iconst 0, 1, [], []),
  (1, .istore_n 2, 1, [], []),
  (2, .iconst 4, 1, [], []),
  (3, .iload_n 1, 1, [], []),
  (4, .imul, 1, [], []),
  (5, .istore_n 3, 1, [], []),
  (6, .iload_n 3, 1, [], []),
  (7, .iconst 4, 1, [], []),
  (8, .iload_n 1, 1, [], []),
  (9, .imul, 1, [], []),
  (10, .iconst 4, 1, [], []),
  (11, .iadd, 1, [], []),
  (12, .if_icmp .ge 25, 3, [26], []),
  (15, .iload_n 2, 1, [], []),
  (16, .bipush 8, 2, [], []),
  (18, .ishl, 1, [], []),
  (19, .aload_n 0, 1, [], []),
  (20, .getfield 74, 3, [12, 25], [158]),
  (23, .iload_n 3, 1, [], []),
  (24, .baload, 1, [2], []),
  (25, .sipush 255, 3, [], []),
  (28, .iand, 1, [], []),
  (29, .ior, 1, [], []),
  (30, .istore_n 2, 1, [], []),
  (31, .iinc 3 1, 3, [], []),
  (34, .goto (-28), 3, [6], []),
  (37, .iload_n 2, 1, [], []),
  (38, .ireturn, 1, [0], [])]
def mX12_tapeNumber : pv_M := (⟨"CliffGardenModel", "tapeNumber", "(I)I"⟩, prog_14_method_101_code, 4, some .int, rX12_tapeNumber)
def rX12_check : List pv_R := [
  (0, .iload_n 1, 1, [], []),
  (1, .iconst 0, 1, [], []),
  (2, .bipush 7, 2, [], []),
  (4, .invokestatic 206, 3, [145, 3], [1]),
  (7, .ifCond .eq 17, 3, [13], []),
  (10, .iload_n 2, 1, [], []),
  (11, .ifCond .lt 13, 3, [13], []),
  (14, .iload_n 2, 1, [], []),
  (15, .aload_n 0, 1, [], []),
  (16, .getfield 226, 3, [12, 26], [31]),
  (19, .iconst 4, 1, [], []),
  (20, .idiv, 1, [], []),
  (21, .if_icmp .le 6, 3, [15], []),
  (24, .bipush (-2), 2, [], []),
  (26, .ireturn, 1, [0], []),
  (27, .aload_n 0, 1, [], []),
  (28, .iconst 0, 1, [], []),
  (29, .putfield 226, 3, [12, 26], [31]),
  (32, .iconst 0, 1, [], []),
  (33, .istore_n 3, 1, [], []),
  (34, .iload_n 3, 1, [], []),
  (35, .bipush 6, 2, [], []),
  (37, .if_icmp .ge 63, 3, [55], []),
  (40, .iload_n 1, 1, [], []),
  (41, .iload_n 3, 1, [], []),
  (42, .invokestatic 214, 3, [149, 2], [16]),
  (45, .istore 4, 2, [], []),
  (47, .iload_n 3, 1, [], []),
  (48, .iload_n 2, 1, [], []),
  (49, .if_icmp .eq 43, 3, [51], []),
  (52, .aload_n 0, 1, [], []),
  (53, .iload_n 3, 1, [], []),
  (54, .invokevirtual 489, 3, [244, 1, 12], [641]),
  (57, .aload_n 0, 1, [], []),
  (58, .getfield 7, 3, [12, 4], [3]),
  (61, .iload 4, 2, [], []),
  (63, .baload, 1, [1], []),
  (64, .ifCond .eq 24, 3, [49], []),
  (67, .aload_n 0, 1, [], []),
  (68, .getfield 29, 3, [12, 10], [4]),
  (71, .iload 4, 2, [], []),
  (73, .iaload, 1, [], []),
  (74, .iconst (-1), 1, [], []),
  (75, .if_icmp .eq 13, 3, [49], []),
  (78, .aload_n 0, 1, [], []),
  (79, .getfield 32, 3, [12, 11], [19]),
  (82, .iload 4, 2, [], []),
  (84, .iaload, 1, [], []),
  (85, .goto 4, 3, [50], []),
  (88, .iconst (-1), 1, [], []),
  (89, .if_icmp .eq 5, 3, [53], []),
  (92, .iload_n 3, 1, [], []),
  (93, .ireturn, 1, [0], []),
  (94, .iinc 3 1, 3, [], []),
  (97, .goto (-63), 3, [20], []),
  (100, .bipush 6, 2, [], []),
  (102, .iload_n 2, 1, [], []),
  (103, .if_icmp .ge 8, 3, [60], []),
  (106, .bipush 6, 2, [], []),
  (108, .goto 4, 3, [61], []),
  (111, .iconst (-1), 1, [], []),
  (112, .ireturn, 1, [0], [])]
def mX12_check : pv_M := (⟨"CliffGardenModel", "check", "(II)I"⟩, prog_14_method_102_code, 5, some .int, rX12_check)
def rX12_cells : List pv_R := [
  (0, .iconst 0, 1, [], []),
  (1, .istore_n 2, 1, [], []),
  (2, .iconst 0, 1, [], []),
  (3, .istore_n 3, 1, [], []),
  (4, .iload_n 3, 1, [], []),
  (5, .bipush 48, 2, [], []),
  (7, .if_icmp .ge 40, 3, [28], []),
  (10, .iload_n 2, 1, [], []),
  (11, .aload_n 0, 1, [], []),
  (12, .getfield 7, 3, [12, 4], [3]),
  (15, .iload_n 3, 1, [], []),
  (16, .baload, 1, [1], []),
  (17, .ifCond .eq 21, 3, [23], []),
  (20, .iload_n 1, 1, [], []),
  (21, .ifCond .eq 13, 3, [21], []),
  (24, .aload_n 0, 1, [], []),
  (25, .getfield 29, 3, [12, 10], [4]),
  (28, .iload_n 3, 1, [], []),
  (29, .iaload, 1, [], []),
  (30, .iconst (-1), 1, [], []),
  (31, .if_icmp .eq 7, 3, [23], []),
  (34, .iconst 1, 1, [], []),
  (35, .goto 4, 3, [24], []),
  (38, .iconst 0, 1, [], []),
  (39, .iadd, 1, [], []),
  (40, .istore_n 2, 1, [], []),
  (41, .iinc 3 1, 3, [], []),
  (44, .goto (-40), 3, [4], []),
  (47, .iload_n 2, 1, [], []),
  (48, .ireturn, 1, [0], [])]
def mX12_cells : pv_M := (⟨"CliffGardenModel", "cells", "(Z)I"⟩, prog_14_method_103_code, 4, some .int, rX12_cells)
def rX12_count : List pv_R := [
  (0, .iload_n 1, 1, [], []),
  (1, .tableswitch 80 0 6 #[43, 49, 54, 59, 64, 69, 74], 43, [25, 2, 6, 9, 12, 15, 18, 21], []),
  (44, .aload_n 0, 1, [], []),
  (45, .iconst 0, 1, [], []),
  (46, .invokevirtual 492, 3, [246, 1, 12], [304]),
  (49, .ireturn, 1, [0], []),
  (50, .aload_n 0, 1, [], []),
  (51, .getfield 336, 3, [12, 0], [88]),
  (54, .ireturn, 1, [0], []),
  (55, .aload_n 0, 1, [], []),
  (56, .getfield 377, 3, [12, 2], [21]),
  (59, .ireturn, 1, [0], []),
  (60, .aload_n 0, 1, [], []),
  (61, .getfield 326, 3, [12, 35], [167]),
  (64, .ireturn, 1, [0], []),
  (65, .aload_n 0, 1, [], []),
  (66, .getfield 226, 3, [12, 26], [31]),
  (69, .ireturn, 1, [0], []),
  (70, .aload_n 0, 1, [], []),
  (71, .getfield 202, 3, [12, 1], [71]),
  (74, .ireturn, 1, [0], []),
  (75, .aload_n 0, 1, [], []),
  (76, .iconst 1, 1, [], []),
  (77, .invokevirtual 492, 3, [246, 1, 12], [304]),
  (80, .ireturn, 1, [0], []),
  (81, .iload_n 1, 1, [], []),
  (82, .bipush 10, 2, [], []),
  (84, .bipush 17, 2, [], []),
  (86, .invokestatic 206, 3, [145, 3], [1]),
  (89, .ifCond .eq 13, 3, [37], []),
  (92, .aload_n 0, 1, [], []),
  (93, .getfield 50, 3, [12, 17], [153]),
  (96, .iload_n 1, 1, [], []),
  (97, .bipush 10, 2, [], []),
  (99, .isub, 1, [], []),
  (100, .iaload, 1, [], []),
  (101, .ireturn, 1, [0], []),
  (102, .iload_n 1, 1, [], []),
  (103, .bipush 20, 2, [], []),
  (105, .bipush 37, 2, [], []),
  (107, .invokestatic 206, 3, [145, 3], [1]),
  (110, .ifCond .ne 5, 3, [44], []),
  (113, .iconst (-1), 1, [], []),
  (114, .ireturn, 1, [0], []),
  (115, .iload_n 1, 1, [], []),
  (116, .bipush 20, 2, [], []),
  (118, .isub, 1, [], []),
  (119, .iconst 3, 1, [], []),
  (120, .irem, 1, [], []),
  (121, .ifCond .ne 17, 3, [59], []),
  (124, .aload_n 0, 1, [], []),
  (125, .getfield 41, 3, [12, 14], [113]),
  (128, .iload_n 1, 1, [], []),
  (129, .bipush 20, 2, [], []),
  (131, .isub, 1, [], []),
  (132, .iconst 3, 1, [], []),
  (133, .idiv, 1, [], []),
  (134, .iaload, 1, [], []),
  (135, .goto 38, 3, [83], []),
  (138, .iload_n 1, 1, [], []),
  (139, .bipush 20, 2, [], []),
  (141, .isub, 1, [], []),
  (142, .iconst 3, 1, [], []),
  (143, .irem, 1, [], []),
  (144, .iconst 1, 1, [], []),
  (145, .if_icmp .ne 17, 3, [75], []),
  (148, .aload_n 0, 1, [], []),
  (149, .getfield 44, 3, [12, 15], [45]),
  (152, .iload_n 1, 1, [], []),
  (153, .bipush 20, 2, [], []),
  (155, .isub, 1, [], []),
  (156, .iconst 3, 1, [], []),
  (157, .idiv, 1, [], []),
  (158, .iaload, 1, [], []),
  (159, .goto 14, 3, [83], []),
  (162, .aload_n 0, 1, [], []),
  (163, .getfield 47, 3, [12, 16], [85]),
  (166, .iload_n 1, 1, [], []),
  (167, .bipush 20, 2, [], []),
  (169, .isub, 1, [], []),
  (170, .iconst 3, 1, [], []),
  (171, .idiv, 1, [], []),
  (172, .iaload, 1, [], []),
  (173, .ireturn, 1, [0], [])]
def mX12_count : pv_M := (⟨"CliffGardenModel", "count", "(I)I"⟩, prog_14_method_104_code, 2, some .int, rX12_count)
def rJ6_bitCount_0f7a4 : List pv_R := [
  (0, .iload_n 0, 1, [], []),
  (1, .iload_n 0, 1, [], []),
  (2, .iconst 1, 1, [], []),
  (3, .iushr, 1, [], []),
  (4, .ldc_w 265, 3, [1431655765], [508]),
  (7, .iand, 1, [], []),
  (8, .isub, 1, [], []),
  (9, .istore_n 0, 1, [], []),
  (10, .iload_n 0, 1, [], []),
  (11, .ldc_w 266, 3, [858993459], [241]),
  (14, .iand, 1, [], []),
  (15, .iload_n 0, 1, [], []),
  (16, .iconst 2, 1, [], []),
  (17, .iushr, 1, [], []),
  (18, .ldc_w 266, 3, [858993459], [241]),
  (21, .iand, 1, [], []),
  (22, .iadd, 1, [], []),
  (23, .istore_n 0, 1, [], []),
  (24, .iload_n 0, 1, [], []),
  (25, .iload_n 0, 1, [], []),
  (26, .iconst 4, 1, [], []),
  (27, .iushr, 1, [], []),
  (28, .iadd, 1, [], []),
  (29, .ldc_w 267, 3, [252645135], [509]),
  (32, .iand, 1, [], []),
  (33, .istore_n 0, 1, [], []),
  (34, .iload_n 0, 1, [], []),
  (35, .iload_n 0, 1, [], []),
  (36, .bipush 8, 2, [], []),
  (38, .iushr, 1, [], []),
  (39, .iadd, 1, [], []),
  (40, .istore_n 0, 1, [], []),
  (41, .iload_n 0, 1, [], []),
  (42, .iload_n 0, 1, [], []),
  (43, .bipush 16, 2, [], []),
  (45, .iushr, 1, [], []),
  (46, .iadd, 1, [], []),
  (47, .istore_n 0, 1, [], []),
  (48, .iload_n 0, 1, [], []),
  (49, .bipush 63, 2, [], []),
  (51, .iand, 1, [], []),
  (52, .ireturn, 1, [0], [])]
def mJ6_bitCount_0f7a4 : pv_M := (⟨"java/lang/Integer", "bitCount", "(I)I"⟩, prog_16_method_49_code, 1, some .int, rJ6_bitCount_0f7a4)
def rJ13_bitCount_95d88 : List pv_R := [
  (0, .lload_n 0, 1, [], []),
  (1, .lload_n 0, 1, [], []),
  (2, .iconst 1, 1, [], []),
  (3, .lushr, 1, [], []),
  (4, .ldc2_w 314, 3, [6148914691236517205], [511]),
  (7, .land, 1, [], []),
  (8, .lsub, 1, [], []),
  (9, .lstore_n 0, 1, [], []),
  (10, .lload_n 0, 1, [], []),
  (11, .ldc2_w 316, 3, [3689348814741910323], [246]),
  (14, .land, 1, [], []),
  (15, .lload_n 0, 1, [], []),
  (16, .iconst 2, 1, [], []),
  (17, .lushr, 1, [], []),
  (18, .ldc2_w 316, 3, [3689348814741910323], [246]),
  (21, .land, 1, [], []),
  (22, .ladd, 1, [], []),
  (23, .lstore_n 0, 1, [], []),
  (24, .lload_n 0, 1, [], []),
  (25, .lload_n 0, 1, [], []),
  (26, .iconst 4, 1, [], []),
  (27, .lushr, 1, [], []),
  (28, .ladd, 1, [], []),
  (29, .ldc2_w 318, 3, [1085102592571150095], [512]),
  (32, .land, 1, [], []),
  (33, .lstore_n 0, 1, [], []),
  (34, .lload_n 0, 1, [], []),
  (35, .lload_n 0, 1, [], []),
  (36, .bipush 8, 2, [], []),
  (38, .lushr, 1, [], []),
  (39, .ladd, 1, [], []),
  (40, .lstore_n 0, 1, [], []),
  (41, .lload_n 0, 1, [], []),
  (42, .lload_n 0, 1, [], []),
  (43, .bipush 16, 2, [], []),
  (45, .lushr, 1, [], []),
  (46, .ladd, 1, [], []),
  (47, .lstore_n 0, 1, [], []),
  (48, .lload_n 0, 1, [], []),
  (49, .lload_n 0, 1, [], []),
  (50, .bipush 32, 2, [], []),
  (52, .lushr, 1, [], []),
  (53, .ladd, 1, [], []),
  (54, .lstore_n 0, 1, [], []),
  (55, .lload_n 0, 1, [], []),
  (56, .l2i, 1, [], []),
  (57, .bipush 127, 2, [], []),
  (59, .iand, 1, [], []),
  (60, .ireturn, 1, [0], [])]
def mJ13_bitCount_95d88 : pv_M := (⟨"java/lang/Long", "bitCount", "(J)I"⟩, prog_17_method_50_code, 2, some .int, rJ13_bitCount_95d88)
def rJ7_fill_53178 : List pv_R := [
  (0, .iconst 0, 1, [], []),
  (1, .istore_n 2, 1, [], []),
  (2, .aload_n 0, 1, [], []),
  (3, .arraylength, 1, [], []),
  (4, .istore_n 3, 1, [], []),
  (5, .iload_n 2, 1, [], []),
  (6, .iload_n 3, 1, [], []),
  (7, .if_icmp .ge 13, 3, [14], []),
  (10, .aload_n 0, 1, [], []),
  (11, .iload_n 2, 1, [], []),
  (12, .iload_n 1, 1, [], []),
  (13, .iastore, 1, [], []),
  (14, .iinc 2 1, 3, [], []),
  (17, .goto (-12), 3, [5], []),
  (20, .return_, 1, [], [])]
def mJ7_fill_53178 : pv_M := (⟨"java/util/Arrays", "fill", "([II)V"⟩, prog_23_method_103_code, 4, none, rJ7_fill_53178)
def pv_prog : List pv_M := [mX0_init, mX0_carries, mX0_factOf, mX1_init, mX1_growth, mX1_oddsOfFall, mX1_ageing, mX1_catchingLevel, mX1_ownerOf, mX1_pointsOf, mX1_seeCell, mX1_seeCellAndCrop, mX1_seeFallen, mX1_seeFallFromItsCell, mX2_init, mX2_open, mX2_close, mX2_isWritten, mX2_factOf, mX3_init, mX3_endOfColumn, mX3_hangs, mX3_hasCrop, mX3_isRipe, mX3_needOf, mX3_setCrop, mX3_clearCrop, mX3_crops, mX3_factOf, mX3_loadOf, mX3_ripeLoadOf, mX3_firstOverloaded, mX3_unhang, mX3_loosen, mX3_wouldGo, mX3_columnsOf, mX3_highestFall, mX4_init, mX4_choose, mX4_tryCell, mX4_fits, mX4_burden, mX4_carryOut, mX4_kindAt, mX5_init, mX5_read, mX5_look, mX5_fail, mX5_expect, mX5_enter, mX5_isOneOf, mX5_readClause, mX5_readCondition, mX5_readPart, mX5_readJump, mX5_readPiece, mX5_readComparison, mX5_readSum, mX5_readTerm, mX5_readFactor, mX5_isDigit, mX5_readNumber, mX6_init, mX6_tell, mX6_asWork, mX6_hoursBetween, mX6_asMending, mX6_solve, mX6_spentOn, mX6_leastOnward, mX6_costVia, mX6_findRow, mX6_least, mX6_cellAt, mX7_init, mX7_put, mX7_answer, mX7_reckon, mX7_joined, mX8_init, mX8_fly, mX8_arrive, mX8_cancel, mX9_init, mX9_append, mX9_numberAt, mX10_init, mX10_pour, mX10_passOn, mX10_share, mX10_reckonGrowth, mX10_tryValve, mX10_weighTrial, mX10_dropsAt, mX11_init, mX11_hang, mX11_knot, mX11_kind, mX11_plant, mX11_valve, mX11_kitchen, mX11_rope, mX11_seed, mX11_feed, mX11_law, mX11_cell, mX11_byLaw, mX11_water, mX11_fall, mX11_go, mX11_day, mX11_torn, mX11_fallIs, mX11_claimed, mX11_right, mX11_food, mX11_kitchenIs, mX11_mayWork, mX11_work, mX11_pollen, mX11_pollinate, mX11_planted, mX11_drought, mX11_mended, mX11_hail, mX11_check, mX11_count, mX11_countOfRow, mX11_letWaterFlow, mX11_letCropsGrow, mX11_letCropsFall, mX11_letKnotsAge, mX11_letKnotsGo, mX11_tearDown, mX11_dropCrop, mX11_landInKitchen, mX11_claimantOf, mX11_hungCell, mX11_within, mX11_isColumn, mX11_isPerson, mX11_isCell, mX11_isTold, mX11_toldCells, mX12_init, mX12_in, mX12_less, mX12_more, mX12_isCell, mX12_at, mX12_isHung, mX12_hang, mX12_empties, mX12_knot, mX12_kind, mX12_plant, mX12_valve, mX12_kitchen, mX12_rope, mX12_seed, mX12_types, mX12_feed, mX12_here, mX12_isDigit, mX12_wrongAt, mX12_takes, mX12_readsNumber, mX12_notes, mX12_opens, mX12_top, mX12_factOf, mX12_sumSign, mX12_closesSums, mX12_readsFactor, mX12_hasOpenSum, mX12_readsSum, mX12_endsPiece, mX12_lands, mX12_jumps, mX12_readsCompared, mX12_readsCondition, mX12_canBegin, mX12_readsClause, mX12_law, mX12_reckon, mX12_comesTo, mX12_told, mX12_feelsCell, mX12_feelsCrop, mX12_isRipe, mX12_feels, mX12_asked, mX12_byLaw, mX12_sends, mX12_drips, mX12_flows, mX12_water, mX12_ownLoad, mX12_loadOf, mX12_cell, mX12_catcher, mX12_writes, mX12_falls, mX12_fall, mX12_firstGoing, mX12_tears, mX12_goesOff, mX12_go, mX12_torn, mX12_day, mX12_isFall, mX12_fallIs, mX12_claimer, mX12_claimed, mX12_right, mX12_food, mX12_kitchenIs, mX12_lays, mX12_mayBe, mX12_mayWork, mX12_apart, mX12_way, mX12_laysHours, mX12_work, mX12_hasKind, mX12_takesUp, mX12_moved, mX12_flies, mX12_gcd, mX12_pollen, mX12_pollinate, mX12_bearsAll, mX12_areWhole, mX12_planted, mX12_growth, mX12_drought, mX12_bits, mX12_takesOf, mX12_hoursOf, mX12_canBeNext, mX12_costBy, mX12_mended, mX12_isHit, mX12_hail, mX12_tapeNumber, mX12_check, mX12_cells, mX12_count, mJ6_bitCount_0f7a4, mJ13_bitCount_95d88, mJ7_fill_53178]
def pv_links : List (List Nat) := [[0, 11, 12, 11, 0], [7, 12, 206, 145, 3], [0, 12, 232, 12, 27], [0, 12, 7, 12, 4], [0, 12, 29, 12, 10], [0, 1, 11, 1, 3], [0, 12, 262, 12, 32], [0, 11, 26, 11, 2], [0, 12, 423, 12, 63], [0, 5, 21, 5, 3], [0, 11, 19, 11, 1], [7, 11, 100, 138, 2], [0, 5, 13, 5, 1], [0, 12, 159, 12, 64], [8, 12, 238, 162, 0, 12], [0, 7, 51, 7, 9], [7, 12, 214, 149, 2], [0, 12, 114, 12, 48], [8, 5, 39, 46, 0, 5], [0, 12, 32, 12, 11], [0, 11, 51, 11, 5], [0, 12, 377, 12, 2], [0, 6, 33, 6, 7], [0, 11, 35, 11, 3], [0, 12, 16, 12, 6], [0, 2, 40, 2, 9], [0, 12, 259, 12, 30], [0, 12, 314, 12, 33], [2, 12, 258, 1048576], [0, 1, 22, 1, 0], [0, 11, 65, 11, 7], [0, 12, 226, 12, 26], [0, 12, 255, 12, 31], [7, 11, 154, 139, 1], [8, 12, 245, 164, 2, 12], [0, 3, 24, 3, 5], [0, 6, 11, 6, 0], [0, 7, 28, 7, 6], [0, 12, 38, 12, 13], [0, 12, 111, 12, 47], [0, 12, 162, 12, 65], [8, 11, 103, 21, 1, 3], [8, 11, 147, 22, 1, 3], [0, 1, 30, 1, 2], [0, 10, 9, 10, 2], [0, 12, 44, 12, 15], [8, 12, 265, 169, 0, 12], [0, 1, 18, 1, 4], [0, 4, 32, 4, 6], [0, 5, 32, 7, 8], [0, 10, 76, 10, 9], [0, 11, 176, 9, 1], [0, 12, 13, 12, 5], [0, 12, 65, 12, 22], [0, 12, 117, 12, 49], [0, 12, 175, 12, 69], [8, 5, 53, 47, 1, 5], [8, 5, 104, 75, 2, 7], [8, 12, 356, 191, 3, 12], [0, 3, 9, 3, 1], [0, 3, 58, 3, 0], [0, 4, 24, 4, 0], [0, 8, 47, 8, 2], [0, 11, 44, 11, 4], [0, 11, 92, 11, 11], [0, 11, 247, 2, 7], [0, 12, 35, 12, 12], [0, 12, 56, 12, 19], [0, 12, 81, 12, 37], [0, 12, 135, 12, 55], [0, 12, 199, 12, 77], [0, 12, 202, 12, 1], [8, 1, 38, 76, 3, 7], [8, 3, 70, 22, 1, 3], [8, 12, 268, 167, 2, 12], [8, 12, 359, 193, 3, 12], [0, 3, 27, 3, 6], [0, 4, 15, 4, 3], [0, 5, 27, 7, 7], [0, 7, 31, 7, 8], [0, 8, 11, 8, 0], [0, 8, 28, 8, 3], [0, 10, 33, 10, 0], [0, 11, 241, 2, 6], [0, 12, 20, 12, 7], [0, 12, 47, 12, 16], [0, 12, 123, 12, 51], [0, 12, 171, 12, 68], [0, 12, 336, 12, 0], [7, 5, 64, 50, 2], [7, 11, 96, 141, 2], [7, 12, 210, 148, 2], [8, 3, 62, 21, 1, 3], [8, 5, 43, 48, 1, 5], [8, 11, 179, 84, 1, 9], [8, 12, 229, 160, 1, 12], [0, 4, 9, 4, 2], [0, 4, 21, 4, 5], [0, 5, 24, 5, 4], [0, 6, 15, 6, 1], [0, 6, 21, 6, 3], [0, 6, 27, 6, 5], [0, 7, 13, 7, 1], [0, 8, 15, 8, 1], [0, 9, 13, 9, 1], [0, 10, 24, 10, 6], [0, 11, 74, 11, 8], [0, 11, 88, 11, 10], [0, 11, 107, 3, 0], [0, 11, 115, 3, 1], [0, 11, 127, 3, 8], [0, 11, 225, 0, 8], [0, 11, 244, 0, 7], [0, 12, 41, 12, 14], [0, 12, 78, 12, 36], [0, 12, 120, 12, 50], [0, 12, 132, 12, 54], [0, 12, 141, 12, 57], [0, 12, 178, 12, 70], [0, 12, 181, 12, 71], [0, 12, 184, 12, 72], [0, 12, 196, 12, 76], [0, 12, 248, 12, 34], [0, 12, 380, 12, 3], [7, 3, 52, 250, 2], [7, 11, 160, 140, 1], [7, 12, 362, 146, 2], [8, 3, 77, 29, 1, 3], [8, 5, 74, 57, 1, 5], [8, 8, 24, 81, 5, 8], [8, 11, 134, 137, 2, 11], [8, 12, 222, 150, 2, 12], [8, 12, 353, 186, 2, 12], [8, 12, 400, 204, 0, 12], [0, 1, 42, 2, 0], [0, 2, 11, 2, 0], [0, 3, 43, 3, 11], [0, 4, 18, 4, 4], [0, 4, 36, 4, 7], [0, 6, 18, 6, 2], [0, 6, 24, 6, 4], [0, 10, 18, 10, 4], [0, 10, 84, 10, 10], [0, 11, 81, 11, 9], [0, 11, 124, 3, 7], [0, 11, 144, 3, 12], [0, 11, 157, 0, 0], [0, 11, 166, 0, 2], [0, 11, 186, 1, 4], [0, 11, 332, 3, 6], [0, 11, 398, 2, 2], [0, 12, 23, 12, 8], [0, 12, 26, 12, 9], [0, 12, 50, 12, 17], [0, 12, 53, 12, 18], [0, 12, 59, 12, 20], [0, 12, 62, 12, 21], [0, 12, 71, 12, 24], [0, 12, 74, 12, 25], [0, 12, 96, 12, 42], [0, 12, 105, 12, 45], [0, 12, 126, 12, 52], [0, 12, 129, 12, 53], [0, 12, 150, 12, 60], [0, 12, 165, 12, 66], [0, 12, 168, 12, 67], [0, 12, 235, 12, 28], [0, 12, 326, 12, 35], [2, 12, 432, 1000000000], [7, 3, 81, 20, 1], [7, 5, 126, 60, 1], [7, 11, 253, 143, 2], [7, 12, 394, 147, 2], [8, 1, 34, 11, 1, 1], [8, 1, 57, 10, 1, 1], [8, 4, 56, 39, 2, 4], [8, 5, 95, 55, 1, 5], [8, 5, 108, 49, 1, 5], [8, 11, 206, 134, 2, 11], [8, 11, 234, 17, 1, 2], [8, 12, 218, 152, 1, 12], [8, 12, 272, 168, 1, 12], [8, 12, 289, 172, 1, 12], [8, 12, 296, 175, 0, 12], [8, 12, 339, 187, 3, 12], [8, 12, 343, 189, 1, 12], [8, 12, 346, 188, 4, 12], [8, 12, 374, 198, 1, 12], [8, 12, 390, 202, 2, 12], [8, 12, 403, 206, 2, 12], [8, 12, 415, 210, 1, 12], [8, 12, 436, 217, 2, 12], [0, 0, 18, 0, 2], [0, 1, 26, 1, 1], [0, 2, 15, 2, 1], [0, 2, 18, 2, 2], [0, 2, 37, 2, 8], [0, 2, 53, 2, 10], [0, 3, 15, 3, 2], [0, 3, 30, 3, 7], [0, 3, 33, 3, 8], [0, 3, 36, 3, 9], [0, 3, 40, 3, 10], [0, 3, 49, 3, 13], [0, 5, 7, 5, 0], [0, 5, 17, 5, 2], [0, 5, 92, 7, 1], [0, 6, 30, 6, 6], [0, 7, 9, 7, 0], [0, 7, 22, 7, 4], [0, 9, 9, 9, 0], [0, 10, 15, 10, 3], [0, 10, 21, 10, 5], [0, 10, 27, 10, 7], [0, 10, 30, 10, 8], [0, 11, 111, 3, 2], [0, 11, 138, 3, 10], [0, 11, 141, 3, 11], [0, 11, 172, 0, 6], [0, 11, 213, 2, 10], [0, 11, 293, 3, 9], [0, 11, 367, 10, 2], [0, 12, 68, 12, 23], [0, 12, 84, 12, 38], [0, 12, 87, 12, 39], [0, 12, 90, 12, 40], [0, 12, 93, 12, 41], [0, 12, 99, 12, 43], [0, 12, 102, 12, 44], [0, 12, 108, 12, 46], [0, 12, 138, 12, 56], [0, 12, 144, 12, 58], [0, 12, 147, 12, 59], [0, 12, 153, 12, 61], [0, 12, 156, 12, 62], [0, 12, 187, 12, 73], [0, 12, 190, 12, 74], [0, 12, 193, 12, 75], [0, 12, 242, 12, 29], [2, 6, 68, 1000000000], [2, 11, 175, 65535], [2, 14, 266, 858993459], [3, 3, 90, 18446744073709551615], [3, 11, 228, 18446744073709551615], [3, 12, 406, 18446744073709551615], [3, 12, 456, 3], [3, 15, 316, 3689348814741910323], [6, 3, 84, 0], [6, 3, 96, 3], [6, 6, 45, 2], [6, 7, 48, 0], [6, 10, 41, 3], [6, 10, 59, 1], [6, 11, 338, 1], [7, 0, 36, 250, 2], [7, 6, 41, 65, 2], [7, 8, 18, 250, 2], [7, 11, 257, 142, 2], [7, 11, 343, 249, 1], [7, 12, 429, 220, 2], [7, 12, 433, 221, 2], [7, 12, 474, 237, 1], [8, 1, 60, 12, 1, 1], [8, 1, 63, 13, 1, 1], [8, 3, 92, 33, 2, 3], [8, 4, 73, 41, 2, 4], [8, 5, 80, 52, 1, 5], [8, 5, 86, 53, 1, 5], [8, 5, 89, 54, 0, 5], [8, 5, 116, 58, 1, 5], [8, 5, 121, 59, 1, 5], [8, 6, 57, 68, 1, 6], [8, 6, 69, 70, 4, 6], [8, 7, 38, 77, 3, 7], [8, 10, 53, 24, 1, 3], [8, 10, 87, 91, 2, 10], [8, 11, 130, 26, 1, 3], [8, 11, 192, 6, 1, 1], [8, 11, 196, 4, 2, 1], [8, 11, 199, 5, 1, 1], [8, 11, 202, 128, 0, 11], [8, 11, 210, 132, 0, 11], [8, 11, 238, 136, 2, 11], [8, 11, 249, 1, 3, 0], [8, 11, 261, 63, 1, 6], [8, 11, 268, 67, 0, 6], [8, 11, 271, 72, 0, 6], [8, 11, 274, 73, 1, 6], [8, 12, 251, 163, 0, 12], [8, 12, 283, 173, 0, 12], [8, 12, 293, 174, 1, 12], [8, 12, 299, 176, 0, 12], [8, 12, 305, 177, 1, 12], [8, 12, 320, 182, 0, 12], [8, 12, 333, 185, 2, 12], [8, 12, 350, 190, 1, 12], [8, 12, 368, 195, 0, 12], [8, 12, 386, 201, 4, 12], [8, 12, 397, 205, 3, 12], [8, 12, 418, 212, 2, 12], [8, 12, 426, 218, 2, 12], [8, 12, 449, 225, 2, 12], [8, 12, 480, 239, 2, 12], [8, 12, 483, 240, 2, 12], [8, 12, 492, 246, 1, 12], [10, 5, 132, 0], [0, 0, 15, 0, 1], [0, 0, 21, 0, 3], [0, 0, 24, 0, 4], [0, 0, 27, 0, 5], [0, 0, 30, 0, 6], [0, 1, 72, 3, 2], [0, 1, 75, 3, 1], [0, 1, 78, 3, 3], [0, 1, 81, 3, 8], [0, 1, 84, 0, 8], [0, 1, 90, 0, 1], [0, 1, 96, 3, 5], [0, 1, 99, 3, 6], [0, 1, 105, 3, 9], [0, 1, 109, 2, 1], [0, 1, 110, 2, 2], [0, 1, 111, 2, 3], [0, 1, 114, 2, 4], [0, 1, 115, 2, 5], [0, 2, 21, 2, 3], [0, 2, 25, 2, 4], [0, 2, 28, 2, 5], [0, 2, 31, 2, 6], [0, 2, 44, 3, 5], [0, 2, 47, 3, 6], [0, 2, 52, 3, 9], [0, 3, 18, 3, 3], [0, 3, 21, 3, 4], [0, 3, 46, 3, 12], [0, 4, 28, 4, 1], [0, 4, 45, 3, 1], [0, 4, 66, 3, 11], [0, 4, 76, 3, 12], [0, 4, 79, 0, 2], [0, 5, 49, 9, 0], [0, 5, 68, 7, 2], [0, 5, 71, 7, 3], [0, 5, 77, 7, 4], [0, 5, 83, 7, 5], [0, 7, 16, 7, 2], [0, 7, 19, 7, 3], [0, 7, 25, 7, 5], [0, 7, 35, 7, 7], [0, 10, 37, 10, 1], [0, 10, 69, 3, 4], [0, 11, 58, 11, 6], [0, 11, 118, 3, 3], [0, 11, 121, 3, 4], [0, 11, 163, 0, 1], [0, 11, 169, 0, 5], [0, 11, 284, 8, 2], [0, 11, 287, 8, 3], [0, 11, 290, 3, 5], [0, 11, 304, 4, 7], [0, 11, 319, 10, 10], [0, 11, 348, 2, 9], [0, 11, 351, 7, 7], [0, 11, 364, 0, 3], [0, 11, 395, 2, 5], [0, 11, 408, 2, 1], [0, 11, 409, 0, 4], [1, 0, 9, 0, 0], [1, 0, 15, 0, 1], [1, 0, 18, 0, 2], [1, 0, 21, 0, 3], [1, 0, 24, 0, 4], [1, 0, 27, 0, 5], [1, 0, 30, 0, 6], [1, 0, 33, 0, 7], [1, 1, 11, 1, 3], [1, 1, 22, 1, 0], [1, 1, 26, 1, 1], [1, 1, 30, 1, 2], [1, 2, 11, 2, 0], [1, 2, 15, 2, 1], [1, 2, 18, 2, 2], [1, 2, 21, 2, 3], [1, 2, 25, 2, 4], [1, 2, 28, 2, 5], [1, 2, 31, 2, 6], [1, 2, 34, 2, 7], [1, 2, 37, 2, 8], [1, 3, 9, 3, 1], [1, 3, 15, 3, 2], [1, 3, 18, 3, 3], [1, 3, 21, 3, 4], [1, 3, 24, 3, 5], [1, 3, 27, 3, 6], [1, 3, 30, 3, 7], [1, 3, 33, 3, 8], [1, 3, 36, 3, 9], [1, 3, 40, 3, 10], [1, 3, 43, 3, 11], [1, 3, 46, 3, 12], [1, 3, 49, 3, 13], [1, 4, 9, 4, 2], [1, 4, 15, 4, 3], [1, 4, 18, 4, 4], [1, 4, 21, 4, 5], [1, 4, 24, 4, 0], [1, 4, 28, 4, 1], [1, 6, 11, 6, 0], [1, 6, 15, 6, 1], [1, 6, 18, 6, 2], [1, 6, 21, 6, 3], [1, 6, 24, 6, 4], [1, 6, 27, 6, 5], [1, 6, 30, 6, 6], [1, 7, 9, 7, 0], [1, 7, 13, 7, 1], [1, 7, 16, 7, 2], [1, 7, 19, 7, 3], [1, 7, 22, 7, 4], [1, 7, 25, 7, 5], [1, 7, 28, 7, 6], [1, 8, 11, 8, 0], [1, 8, 15, 8, 1], [1, 9, 9, 9, 0], [1, 10, 9, 10, 2], [1, 10, 15, 10, 3], [1, 10, 18, 10, 4], [1, 10, 21, 10, 5], [1, 10, 24, 10, 6], [1, 10, 27, 10, 7], [1, 10, 30, 10, 8], [1, 10, 33, 10, 0], [1, 10, 37, 10, 1], [1, 11, 12, 11, 0], [1, 11, 19, 11, 1], [1, 11, 26, 11, 2], [1, 11, 35, 11, 3], [1, 11, 44, 11, 4], [1, 11, 51, 11, 5], [1, 11, 58, 11, 6], [1, 11, 65, 11, 7], [1, 11, 74, 11, 8], [1, 11, 81, 11, 9], [1, 12, 7, 12, 4], [1, 12, 13, 12, 5], [1, 12, 16, 12, 6], [1, 12, 20, 12, 7], [1, 12, 23, 12, 8], [1, 12, 26, 12, 9], [1, 12, 29, 12, 10], [1, 12, 32, 12, 11], [1, 12, 35, 12, 12], [1, 12, 38, 12, 13], [1, 12, 41, 12, 14], [1, 12, 44, 12, 15], [1, 12, 47, 12, 16], [1, 12, 50, 12, 17], [1, 12, 53, 12, 18], [1, 12, 56, 12, 19], [1, 12, 59, 12, 20], [1, 12, 62, 12, 21], [1, 12, 65, 12, 22], [1, 12, 68, 12, 23], [1, 12, 71, 12, 24], [1, 12, 74, 12, 25], [1, 12, 78, 12, 36], [1, 12, 81, 12, 37], [1, 12, 84, 12, 38], [1, 12, 87, 12, 39], [1, 12, 90, 12, 40], [1, 12, 93, 12, 41], [1, 12, 96, 12, 42], [1, 12, 99, 12, 43], [1, 12, 102, 12, 44], [1, 12, 105, 12, 45], [1, 12, 108, 12, 46], [1, 12, 111, 12, 47], [1, 12, 114, 12, 48], [1, 12, 117, 12, 49], [1, 12, 120, 12, 50], [1, 12, 123, 12, 51], [1, 12, 126, 12, 52], [1, 12, 129, 12, 53], [1, 12, 132, 12, 54], [1, 12, 135, 12, 55], [1, 12, 138, 12, 56], [1, 12, 141, 12, 57], [1, 12, 144, 12, 58], [1, 12, 147, 12, 59], [1, 12, 150, 12, 60], [1, 12, 153, 12, 61], [1, 12, 156, 12, 62], [1, 12, 159, 12, 64], [1, 12, 162, 12, 65], [1, 12, 165, 12, 66], [1, 12, 168, 12, 67], [1, 12, 171, 12, 68], [1, 12, 175, 12, 69], [1, 12, 178, 12, 70], [1, 12, 181, 12, 71], [1, 12, 184, 12, 72], [1, 12, 187, 12, 73], [1, 12, 190, 12, 74], [1, 12, 193, 12, 75], [1, 12, 196, 12, 76], [1, 12, 199, 12, 77], [2, 12, 225, 65535], [2, 12, 411, 65536], [2, 14, 265, 1431655765], [2, 14, 267, 252645135], [3, 12, 421, 281474976710656], [3, 15, 314, 6148914691236517205], [3, 15, 318, 1085102592571150095], [4, 1, 9, 7], [4, 11, 9, 3], [4, 11, 16, 0], [4, 11, 23, 2], [4, 11, 30, 1], [4, 11, 39, 10], [4, 11, 48, 9], [4, 11, 55, 5], [4, 11, 62, 6], [4, 11, 69, 4], [4, 11, 78, 8], [4, 11, 85, 7], [5, 0, 3], [5, 1, 3], [5, 2, 3], [5, 3, 3], [5, 4, 3], [5, 5, 1], [5, 6, 5], [5, 7, 1], [5, 8, 3], [5, 9, 1], [5, 10, 3], [5, 11, 3], [5, 12, 1], [6, 4, 60, 3], [6, 5, 98, 1], [6, 6, 73, 1], [6, 7, 42, 1], [6, 8, 32, 3], [6, 8, 38, 0], [6, 8, 44, 1], [6, 11, 370, 0], [7, 1, 47, 20, 1], [7, 1, 66, 250, 2], [7, 3, 66, 138, 2], [7, 4, 52, 142, 2], [7, 4, 88, 138, 2], [7, 6, 37, 142, 2], [7, 6, 51, 250, 2], [7, 6, 76, 138, 2], [7, 7, 54, 78, 3], [7, 10, 47, 250, 2], [7, 10, 106, 138, 2], [7, 11, 310, 248, 1], [7, 11, 382, 20, 1], [7, 12, 279, 170, 1], [7, 12, 286, 171, 1], [7, 12, 311, 181, 1], [7, 12, 329, 184, 3], [7, 12, 446, 226, 2], [7, 12, 458, 228, 2], [7, 12, 468, 236, 1], [8, 1, 53, 21, 1, 3], [8, 1, 93, 22, 1, 3], [8, 1, 102, 23, 1, 3], [8, 2, 48, 23, 1, 3], [8, 3, 73, 25, 3, 3], [8, 3, 102, 32, 2, 3], [8, 3, 105, 31, 0, 3], [8, 4, 39, 21, 1, 3], [8, 4, 48, 30, 1, 3], [8, 4, 69, 40, 2, 4], [8, 4, 84, 25, 3, 3], [8, 5, 35, 51, 0, 5], [8, 5, 111, 56, 1, 5], [8, 5, 129, 61, 0, 5], [8, 6, 60, 69, 3, 6], [8, 6, 64, 71, 1, 6], [8, 8, 50, 82, 1, 8], [8, 10, 65, 21, 1, 3], [8, 10, 72, 88, 3, 10], [8, 10, 80, 90, 1, 10], [8, 10, 91, 22, 1, 3], [8, 10, 94, 4, 2, 1], [8, 10, 99, 92, 0, 10], [8, 10, 102, 87, 2, 10], [8, 11, 150, 25, 3, 3], [8, 11, 182, 45, 3, 5], [8, 11, 189, 28, 2, 3], [8, 11, 216, 129, 0, 11], [8, 11, 219, 130, 0, 11], [8, 11, 222, 131, 0, 11], [8, 11, 230, 34, 1, 3], [8, 11, 237, 18, 2, 2], [8, 11, 248, 2, 2, 0], [8, 11, 265, 64, 1, 6], [8, 11, 277, 35, 1, 3], [8, 11, 280, 80, 4, 8], [8, 11, 297, 38, 1, 4], [8, 11, 301, 42, 0, 4], [8, 11, 307, 43, 1, 4], [8, 11, 315, 89, 2, 10], [8, 11, 322, 93, 1, 10], [8, 11, 325, 66, 1, 6], [8, 11, 329, 36, 2, 3], [8, 11, 335, 85, 1, 9], [8, 11, 354, 27, 0, 3], [8, 11, 357, 127, 1, 11], [8, 11, 360, 87, 2, 10], [8, 11, 373, 31, 0, 3], [8, 11, 376, 133, 1, 11], [8, 11, 379, 29, 1, 3], [8, 11, 385, 32, 2, 3], [8, 11, 388, 15, 3, 2], [8, 11, 392, 7, 1, 1], [8, 11, 399, 8, 1, 1], [8, 11, 402, 135, 2, 11], [8, 11, 405, 16, 0, 2], [8, 11, 412, 9, 2, 1], [8, 12, 276, 166, 0, 12], [8, 12, 302, 179, 0, 12], [8, 12, 308, 178, 1, 12], [8, 12, 317, 180, 0, 12], [8, 12, 323, 165, 1, 12], [8, 12, 365, 194, 2, 12], [8, 12, 371, 197, 1, 12], [8, 12, 383, 200, 1, 12], [8, 12, 408, 196, 0, 12], [8, 12, 412, 207, 0, 12], [8, 12, 440, 222, 0, 12], [8, 12, 443, 224, 2, 12], [8, 12, 453, 227, 0, 12], [8, 12, 462, 232, 0, 12], [8, 12, 465, 231, 0, 12], [8, 12, 471, 234, 0, 12], [8, 12, 477, 238, 1, 12], [8, 12, 486, 242, 2, 12], [8, 12, 489, 244, 1, 12], [9, 1, 17, 74, 0], [9, 11, 11, 19, 0], [9, 11, 18, 0, 0], [9, 11, 25, 14, 0], [9, 11, 32, 3, 3], [9, 11, 41, 86, 2], [9, 11, 50, 83, 0], [9, 11, 57, 44, 0], [9, 11, 64, 62, 0], [9, 11, 71, 37, 2], [9, 11, 80, 79, 0], [9, 11, 87, 74, 0], [10, 5, 62, 1], [10, 5, 114, 2], [10, 5, 119, 3], [10, 5, 124, 4]]
end
section
/-! A CALCULUS FOR THE PURE MACHINE -/
theorem pv_go_mono {call call' : Nat → List Value → pv_H → Option (Option Value × pv_H)} (hc : ∀ j as h r, call j as h = some r → call' j as h = some r) {rows : List pv_R} : ∀ (f f' k : Nat) (lo : pv_L) (st : List Value) (h : pv_H) (r : Option Value × pv_H), f ≤ f' → pv_go call rows f k lo st h = some r → pv_go call' rows f' k lo st h = some r := by
  intro f
  induction f with
  | zero => intro f' k lo st h r _ hx; cases hx
  | succ f ih =>
    intro f' k lo st h r hf hx
    obtain ⟨g, rfl⟩ : ∃ g, f' = g + 1 := ⟨f' - 1, by omega⟩
    simp only [pv_go] at hx ⊢
    split at hx
    · cases hx
    · next rr hr =>
      split at hx
      · next v hv => exact hx
      · next hv =>
        split at hx
        · next j as rest hi =>
          split at hx
          · next v1 h1 hcl =>
            rw [hc _ _ _ _ hcl]
            exact ih g _ _ _ _ _ (by omega) hx
          · cases hx
        · next hi =>
          split at hx
          · next k1 l1 s1 h1 hx1 => exact ih g _ _ _ _ _ (by omega) hx
          · cases hx
theorem pv_run_mono {pr : List pv_M} {F F' : Nat} (hF : F ≤ F') : ∀ (d j : Nat) (as : List Value) (h : pv_H) (r : Option Value × pv_H), pv_run pr F d j as h = some r → pv_run pr F' d j as h = some r := by
  intro d
  induction d with
  | zero => intro j as h r hx; cases hx
  | succ d ih =>
    intro j as h r hx
    simp only [pv_run] at hx ⊢
    split at hx
    · next M hj =>
      split at hx
      · next hcat =>
        rw [if_pos hcat]
        exact pv_go_mono ih _ _ _ _ _ _ _ hF hx
      · cases hx
    · cases hx
/-- method j, at depth d, comes to an end that Q holds of -/
def wR (d j : Nat) (as : List Value) (h : pv_H) (Q : Option Value → pv_H → Prop) : Prop := ∃ (F : Nat) (v : Option Value) (h' : pv_H), pv_run pv_prog F d j as h = some (v, h') ∧ Q v h'
/-- a body, from row k on -/
def wG (d : Nat) (rows : List pv_R) (k : Nat) (lo : pv_L) (st : List Value) (h : pv_H) (Q : Option Value → pv_H → Prop) : Prop := ∃ (F f : Nat) (v : Option Value) (h' : pv_H), f ≤ F ∧ pv_go (pv_run pv_prog F d) rows f k lo st h = some (v, h') ∧ Q v h'
theorem wR_in {d j : Nat} {as : List Value} {h : pv_H} {Q : Option Value → pv_H → Prop} {M : pv_M} (hM : pv_prog[j]? = some M) (hc : pv_cat as ≤ M.2.2.1) (k : wG d M.2.2.2.2 0 (lv_args 0 as) [] h Q) : wR (d + 1) j as h Q := by
  obtain ⟨F, f, v, h', hf, hg, hq⟩ := k
  refine ⟨F, v, h', ?_, hq⟩
  simp only [pv_run, hM, if_pos hc]
  exact pv_go_mono (fun _ _ _ _ h => h) _ _ _ _ _ _ _ hf hg
theorem wR_mono {d j : Nat} {as : List Value} {h : pv_H} {Q Q' : Option Value → pv_H → Prop} (hq : ∀ v h, Q v h → Q' v h) (k : wR d j as h Q) : wR d j as h Q' := by
  obtain ⟨F, v, h', h1, h2⟩ := k
  exact ⟨F, v, h', h1, hq _ _ h2⟩
theorem wG_mono {d : Nat} {rows : List pv_R} {k : Nat} {lo : pv_L} {st : List Value} {h : pv_H} {Q Q' : Option Value → pv_H → Prop} (hq : ∀ v h, Q v h → Q' v h) (kk : wG d rows k lo st h Q) : wG d rows k lo st h Q' := by
  obtain ⟨F, f, v, h', h0, h1, h2⟩ := kk
  exact ⟨F, f, v, h', h0, h1, hq _ _ h2⟩
section WG
variable {d : Nat} {rows : List pv_R} {k : Nat} {lo : pv_L} {st : List Value} {h : pv_H} {Q : Option Value → pv_H → Prop}
theorem wG_ret {r : pv_R} {v : Option Value} (hr : rows[k]? = some r) (hv : pv_ret r.2.1 r.2.2.2.1 st = some v) (hq : Q v h) : wG d rows k lo st h Q :=
  ⟨1, 1, v, h, Nat.le_refl _, by simp only [pv_go, hr, hv], hq⟩
theorem wG_step {r : pv_R} {k' : Nat} {lo' : pv_L} {st' : List Value} {h1 : pv_H} (hr : rows[k]? = some r) (hv : pv_ret r.2.1 r.2.2.2.1 st = none) (hi : pv_inv r.2.1 r.2.2.2.1 st h = none) (hx : pv_x r.2.1 r.2.2.2.1 k lo st h = some (k', lo', st', h1)) (kk : wG d rows k' lo' st' h1 Q) : wG d rows k lo st h Q := by
  obtain ⟨F, f, v, h', hf, hg, hq⟩ := kk
  refine ⟨F + 1, f + 1, v, h', by omega, ?_, hq⟩
  simp only [pv_go, hr, hv, hi, hx]
  exact pv_go_mono (fun _ _ _ _ h => pv_run_mono (by omega) _ _ _ _ _ h) _ _ _ _ _ _ _ (Nat.le_refl _) hg
theorem wG_call {r : pv_R} {j : Nat} {as rest : List Value} (hr : rows[k]? = some r) (hv : pv_ret r.2.1 r.2.2.2.1 st = none) (hi : pv_inv r.2.1 r.2.2.2.1 st h = some (j, as, rest)) (kk : wR d j as h (fun v h1 => wG d rows (k + 1) lo (v.toList ++ rest) h1 Q)) : wG d rows k lo st h Q := by
  obtain ⟨F1, v1, h1, hrun, F, f, v, h', hf, hg, hq⟩ := kk
  refine ⟨F1 + F + 1, f + 1, v, h', by omega, ?_, hq⟩
  have hrun' := pv_run_mono (F' := F1 + F + 1) (by omega) _ _ _ _ _ hrun
  simp only [pv_go, hr, hv, hi, hrun']
  exact pv_go_mono (fun _ _ _ _ h => pv_run_mono (by omega) _ _ _ _ _ h) _ _ _ _ _ _ _ (Nat.le_refl _) hg
/-- a branch -/
theorem wG_b2 {pc len t : Nat} {ps : List Nat} {cd : Jvm.ClassFile.Cond} {off : Int} {x y : Int32} {r : List Value} (hr : rows[k]? = some (pc, .if_icmp cd off, len, [t], ps)) (k1 : pv_cond cd x y = true → wG d rows t lo r h Q) (k2 : pv_cond cd x y = false → wG d rows (k + 1) lo r h Q) : wG d rows k lo (.int y :: .int x :: r) h Q := by
  cases hc : pv_cond cd x y with
  | true => exact wG_step (k' := t) (lo' := lo) (st' := r) (h1 := h) hr rfl rfl (by simp [pv_x, pv_b2, hc]) (k1 hc)
  | false => exact wG_step (k' := k + 1) (lo' := lo) (st' := r) (h1 := h) hr rfl rfl (by simp [pv_x, pv_b2, hc]) (k2 hc)
theorem wG_b1 {pc len t : Nat} {ps : List Nat} {cd : Jvm.ClassFile.Cond} {off : Int} {x : Int32} {r : List Value} (hr : rows[k]? = some (pc, .ifCond cd off, len, [t], ps)) (k1 : pv_cond cd x 0 = true → wG d rows t lo r h Q) (k2 : pv_cond cd x 0 = false → wG d rows (k + 1) lo r h Q) : wG d rows k lo (.int x :: r) h Q := by
  cases hc : pv_cond cd x 0 with
  | true => exact wG_step (k' := t) (lo' := lo) (st' := r) (h1 := h) hr rfl rfl (by simp [pv_x, pv_b1, hc]) (k1 hc)
  | false => exact wG_step (k' := k + 1) (lo' := lo) (st' := r) (h1 := h) hr rfl rfl (by simp [pv_x, pv_b1, hc]) (k2 hc)
end WG
end
section
section WG2
variable {d : Nat} {rows : List pv_R} {k : Nat} {lo : pv_L} {st : List Value} {h : pv_H} {Q : Option Value → pv_H → Prop}
theorem wG_put {pc idx len ci j a : Nat} {ps : List Nat} {v : Value} {r fs : List Value} (hr : rows[k]? = some (pc, .putfield idx, len, [ci, j], ps)) (ha : h[a]? = some (.inr (ci, fs))) (hj : j < fs.length) (hn : narrow (pv_tyX ci j) v = v) (hf : fits (pv_tyX ci j) v = true) (kk : wG d rows (k + 1) lo r (h.set a (.inr (ci, fs.set j v))) Q) : wG d rows k lo (v :: .ref a :: r) h Q :=
  wG_step hr rfl rfl (by simp [pv_x, ha, hj, hn, hf]) kk
theorem wG_ild {pc len a n : Nat} {xs ps : List Nat} {i : Int32} {f : Nat → Int32} {r : List Value} (hr : rows[k]? = some (pc, .iaload, len, xs, ps)) (ha : h[a]? = some (.inl (0, n, .inl f))) (hi : vp_in i n) (kk : wG d rows (k + 1) lo (.int (f i.toNatClampNeg) :: r) h Q) : wG d rows k lo (.int i :: .ref a :: r) h Q := by
  have hi' : ¬ (i < 0 ∨ n ≤ i.toNatClampNeg) := hi
  exact wG_step hr rfl rfl (by simp only [pv_x, pv_ald, ha, if_true, if_neg hi']) kk
theorem wG_bld {pc len a n t : Nat} {ps : List Nat} {i : Int32} {f : Nat → Int32} {r : List Value} (hr : rows[k]? = some (pc, .baload, len, [t], ps)) (ht : t = 1 ∨ t = 2) (ha : h[a]? = some (.inl (t, n, .inl f))) (hi : vp_in i n) (kk : wG d rows (k + 1) lo (.int (f i.toNatClampNeg) :: r) h Q) : wG d rows k lo (.int i :: .ref a :: r) h Q := by
  have hi' : ¬ (i < 0 ∨ n ≤ i.toNatClampNeg) := hi
  exact wG_step hr rfl rfl (by simp only [pv_x, if_pos ht, pv_ald, ha, if_true, if_neg hi']) kk
theorem wG_ist {pc len a n : Nat} {xs ps : List Nat} {i x : Int32} {f : Nat → Int32} {r : List Value} (hr : rows[k]? = some (pc, .iastore, len, xs, ps)) (ha : h[a]? = some (.inl (0, n, .inl f))) (hi : vp_in i n) (kk : wG d rows (k + 1) lo r (h.set a (.inl (0, n, .inl (upd f i.toNatClampNeg x)))) Q) : wG d rows k lo (.int x :: .int i :: .ref a :: r) h Q := by
  have hi' : ¬ (i < 0 ∨ n ≤ i.toNatClampNeg) := hi
  exact wG_step hr rfl rfl (by simp only [pv_x, pv_ast, ha, if_true, if_neg hi']) kk
theorem wG_zst {pc len a n : Nat} {ps : List Nat} {i x : Int32} {f : Nat → Int32} {r : List Value} (hr : rows[k]? = some (pc, .bastore, len, [1], ps)) (ha : h[a]? = some (.inl (1, n, .inl f))) (hi : vp_in i n) (kk : wG d rows (k + 1) lo r (h.set a (.inl (1, n, .inl (upd f i.toNatClampNeg (vp_nar .boolean x))))) Q) : wG d rows k lo (.int x :: .int i :: .ref a :: r) h Q := by
  have hi' : ¬ (i < 0 ∨ n ≤ i.toNatClampNeg) := hi
  exact wG_step hr rfl rfl (by simp only [pv_x, pv_ast, ha, if_true, if_neg hi']) kk
end WG2
theorem pc_lt (x y : Int32) : (pv_cond .lt x y = true) = (x.toInt < y.toInt) := by simp [pv_cond, Int32.lt_iff_toInt_lt]
theorem pc_nlt (x y : Int32) : (pv_cond .lt x y = false) = (y.toInt ≤ x.toInt) := by simp [pv_cond, Int32.lt_iff_toInt_lt]
theorem pc_ge (x y : Int32) : (pv_cond .ge x y = true) = (y.toInt ≤ x.toInt) := by simp [pv_cond, Int32.le_iff_toInt_le]
theorem pc_nge (x y : Int32) : (pv_cond .ge x y = false) = (x.toInt < y.toInt) := by simp [pv_cond, Int32.le_iff_toInt_le]
theorem pc_gt (x y : Int32) : (pv_cond .gt x y = true) = (y.toInt < x.toInt) := by simp [pv_cond, Int32.lt_iff_toInt_lt]
theorem pc_ngt (x y : Int32) : (pv_cond .gt x y = false) = (x.toInt ≤ y.toInt) := by simp [pv_cond, Int32.lt_iff_toInt_lt]
theorem pc_le (x y : Int32) : (pv_cond .le x y = true) = (x.toInt ≤ y.toInt) := by simp [pv_cond, Int32.le_iff_toInt_le]
theorem pc_nle (x y : Int32) : (pv_cond .le x y = false) = (y.toInt < x.toInt) := by simp [pv_cond, Int32.le_iff_toInt_le]
theorem pc_eq (x y : Int32) : (pv_cond .eq x y = true) = (x.toInt = y.toInt) := by simp [pv_cond, Int32.toInt_inj]
theorem pc_neq (x y : Int32) : (pv_cond .eq x y = false) = (x.toInt ≠ y.toInt) := by simp [pv_cond, Int32.toInt_inj]
theorem pc_ne (x y : Int32) : (pv_cond .ne x y = true) = (x.toInt ≠ y.toInt) := by simp [pv_cond, Int32.toInt_inj]
theorem pc_nne (x y : Int32) : (pv_cond .ne x y = false) = (x.toInt = y.toInt) := by simp [pv_cond, Int32.toInt_inj]
end
section
def fr_len (vl : List (Nat × Nat × Int32)) (a : Nat) : Nat := match vl.find? (fun t => t.1 == a) with
  | some t => t.2.1
  | none => 0
def fr_val (vl : List (Nat × Nat × Int32)) (a : Nat) : Int32 := match vl.find? (fun t => t.1 == a) with
  | some t => t.2.2
  | none => 0
def fr_ok (vl : List (Nat × Nat × Int32)) (f : Nat → Nat → Int32) : Prop := ∀ a j, j < fr_len vl a → f a j = fr_val vl a
theorem fr_at {vl : List (Nat × Nat × Int32)} {f : Nat → Nat → Int32} (h : ∀ t ∈ vl, ∀ j, j < t.2.1 → f t.1 j = t.2.2) : fr_ok vl f := by
  intro a j hj
  unfold fr_len at hj
  unfold fr_val
  split at hj
  · next t ht =>
    have h1 := List.mem_of_find?_eq_some ht
    have h2 := List.find?_some ht
    simp only [beq_iff_eq] at h2
    rw [← h2]
    exact h t h1 j hj
  · omega
section WG3
variable {d : Nat} {rows : List pv_R} {k : Nat} {lo : pv_L} {st : List Value} {h : pv_H} {Q : Option Value → pv_H → Prop} {vl : List (Nat × Nat × Int32)} {F : Nat → Nat → Int32}
theorem wG_ildF (hF : fr_ok vl F) {pc len a b n : Nat} {xs ps : List Nat} {i : Int32} {r : List Value} (hr : rows[k]? = some (pc, .iaload, len, xs, ps)) (ha : h[a]? = some (.inl (0, n, .inl (F b)))) (hn : fr_len vl b = n) (hi : vp_in i n) (kk : wG d rows (k + 1) lo (.int (fr_val vl b) :: r) h Q) : wG d rows k lo (.int i :: .ref a :: r) h Q := by
  have hlt : i.toNatClampNeg < fr_len vl b := by rw [hn]; exact Nat.not_le.mp fun q => hi (Or.inr q)
  refine wG_ild hr ha hi ?_
  rw [hF b _ hlt]
  exact kk
theorem wG_bldF (hF : fr_ok vl F) {pc len a b n t : Nat} {ps : List Nat} {i : Int32} {r : List Value} (hr : rows[k]? = some (pc, .baload, len, [t], ps)) (ht : t = 1 ∨ t = 2) (ha : h[a]? = some (.inl (t, n, .inl (F b)))) (hn : fr_len vl b = n) (hi : vp_in i n) (kk : wG d rows (k + 1) lo (.int (fr_val vl b) :: r) h Q) : wG d rows k lo (.int i :: .ref a :: r) h Q := by
  have hlt : i.toNatClampNeg < fr_len vl b := by rw [hn]; exact Nat.not_le.mp fun q => hi (Or.inr q)
  refine wG_bld hr ht ha hi ?_
  rw [hF b _ hlt]
  exact kk
/-- a switch, by its ways -/
theorem wG_tsw {pc len dd : Nat} {ts ps : List Nat} {df lo9 hi9 : Int} {offs : Array Int} {x : Int32} {r : List Value} (hr : rows[k]? = some (pc, .tableswitch df lo9 hi9 offs, len, dd :: ts, ps)) (hlen : hi9 - lo9 < (ts.length : Int)) (k1 : x.toInt < lo9 ∨ hi9 < x.toInt → wG d rows dd lo r h Q) (k2 : ∀ (n t : Nat), ts[n]? = some t → x.toInt = lo9 + n → lo9 + n ≤ hi9 → wG d rows t lo r h Q) : wG d rows k lo (.int x :: r) h Q := by
  by_cases hx : x.toInt < lo9 ∨ hi9 < x.toInt
  · exact wG_step hr rfl rfl (by simp only [pv_x, if_pos hx]) (k1 hx)
  · have hlt : (x.toInt - lo9).toNat < ts.length := by omega
    have ht : ts[(x.toInt - lo9).toNat]? = some ts[(x.toInt - lo9).toNat] := List.getElem?_eq_getElem hlt
    exact wG_step hr rfl rfl (by simp only [pv_x, if_neg hx, ht]) (k2 _ _ ht (by omega) (by omega))
end WG3
theorem li_hz (y : UInt64) (z : Int64) : lg_cmp (((0 : Int64).toUInt64 >>> y).toInt64 &&& z) (Int64.ofNat ((0 : Fin 2) : Nat)) = 0 := by
  have h0 : ((0 : Int64).toUInt64 >>> y).toInt64 = 0 := by
    apply Int64.toBitVec_inj.mp
    simp
  rw [h0]
  have h1 : (0 : Int64) &&& z = 0 := by
    apply Int64.toBitVec_inj.mp
    simp
  rw [h1]
  decide
theorem i_add {a b : Int32} (h1 : -2147483648 ≤ a.toInt + b.toInt) (h2 : a.toInt + b.toInt ≤ 2147483647) : (a + b).toInt = a.toInt + b.toInt := by
  rw [Int32.toInt_add]
  exact Int.bmod_eq_of_le (by omega) (by omega)
theorem i_sub {a b : Int32} (h1 : -2147483648 ≤ a.toInt - b.toInt) (h2 : a.toInt - b.toInt ≤ 2147483647) : (a - b).toInt = a.toInt - b.toInt := by
  rw [Int32.toInt_sub]
  exact Int.bmod_eq_of_le (by omega) (by omega)
theorem i_mul {a b : Int32} (h1 : -2147483648 ≤ a.toInt * b.toInt) (h2 : a.toInt * b.toInt ≤ 2147483647) : (a * b).toInt = a.toInt * b.toInt := by
  rw [Int32.toInt_mul]
  exact Int.bmod_eq_of_le (by omega) (by omega)
/-- a CELL's number, as the two write it -/
theorem i_at1 (a b : Int32) : 0 ≤ a.toInt → a.toInt ≤ 7 → 0 ≤ b.toInt → b.toInt ≤ 5 → (a * (Int8.ofInt 6).toInt32 + b).toInt = 6 * a.toInt + b.toInt := by
  intro h1 h2 h3 h4
  have e : ((Int8.ofInt 6).toInt32).toInt = 6 := by decide
  have m : (a * (Int8.ofInt 6).toInt32).toInt = a.toInt * 6 := by rw [i_mul] <;> rw [e] <;> omega
  rw [i_add] <;> rw [m] <;> omega
theorem i_at2 (a b : Int32) : 0 ≤ a.toInt → a.toInt ≤ 7 → 0 ≤ b.toInt → b.toInt ≤ 5 → ((Int8.ofInt 6).toInt32 * a + b).toInt = 6 * a.toInt + b.toInt := by
  intro h1 h2 h3 h4
  have e : ((Int8.ofInt 6).toInt32).toInt = 6 := by decide
  have m : ((Int8.ofInt 6).toInt32 * a).toInt = 6 * a.toInt := by rw [i_mul] <;> rw [e] <;> omega
  rw [i_add] <;> rw [m] <;> omega
end
section
section WG4
variable {d : Nat} {rows : List pv_R} {k : Nat} {lo : pv_L} {st : List Value} {h : pv_H} {Q : Option Value → pv_H → Prop}
theorem wG_b2t {pc len t : Nat} {ps : List Nat} {cd : Jvm.ClassFile.Cond} {off : Int} {x y : Int32} {r : List Value} (hr : rows[k]? = some (pc, .if_icmp cd off, len, [t], ps)) (hc : pv_cond cd x y = true) (k1 : wG d rows t lo r h Q) : wG d rows k lo (.int y :: .int x :: r) h Q := wG_b2 hr (fun _ => k1) (fun q => absurd (hc.symm.trans q) (by decide))
theorem wG_b2f {pc len t : Nat} {ps : List Nat} {cd : Jvm.ClassFile.Cond} {off : Int} {x y : Int32} {r : List Value} (hr : rows[k]? = some (pc, .if_icmp cd off, len, [t], ps)) (hc : pv_cond cd x y = false) (k1 : wG d rows (k + 1) lo r h Q) : wG d rows k lo (.int y :: .int x :: r) h Q := wG_b2 hr (fun q => absurd (hc.symm.trans q) (by decide)) (fun _ => k1)
theorem wG_b1t {pc len t : Nat} {ps : List Nat} {cd : Jvm.ClassFile.Cond} {off : Int} {x : Int32} {r : List Value} (hr : rows[k]? = some (pc, .ifCond cd off, len, [t], ps)) (hc : pv_cond cd x 0 = true) (k1 : wG d rows t lo r h Q) : wG d rows k lo (.int x :: r) h Q := wG_b1 hr (fun _ => k1) (fun q => absurd (hc.symm.trans q) (by decide))
theorem wG_b1f {pc len t : Nat} {ps : List Nat} {cd : Jvm.ClassFile.Cond} {off : Int} {x : Int32} {r : List Value} (hr : rows[k]? = some (pc, .ifCond cd off, len, [t], ps)) (hc : pv_cond cd x 0 = false) (k1 : wG d rows (k + 1) lo r h Q) : wG d rows k lo (.int x :: r) h Q := wG_b1 hr (fun q => absurd (hc.symm.trans q) (by decide)) (fun _ => k1)
end WG4
end
section
/-! LOCALS: their order does not matter, nor what is never read -/
def pv_at (j : Nat) (lo : pv_L) : pv_L := lo.filter (fun q => q.1 == j)
def pv_le (lo lo' : pv_L) : Prop := ∀ j, pv_at j lo = [] ∨ pv_at j lo = pv_at j lo'
theorem pv_get_at : ∀ (lo : pv_L) (j : Nat), pv_get lo j = (pv_at j lo).head?.map (fun q => q.2)
  | [], _ => rfl
  | (i, v) :: lo, j => by
    unfold pv_get pv_at
    by_cases h : i = j
    · simp [List.filter_cons, h]
    · have h2 : (i == j) = false := by simpa using h
      simp only [List.filter_cons, h2, if_neg h]
      exact pv_get_at lo j
theorem pv_le_get {lo lo' : pv_L} {j : Nat} {v : Value} (h : pv_le lo lo') (hg : pv_get lo j = some v) : pv_get lo' j = some v := by
  rw [pv_get_at] at hg ⊢
  rcases h j with h1 | h1
  · rw [h1] at hg; cases hg
  · rw [← h1]; exact hg
theorem pv_at_comm (j : Nat) (p : Nat × Value → Bool) (lo : pv_L) : pv_at j (lo.filter p) = (pv_at j lo).filter p := by
  unfold pv_at
  rw [List.filter_filter, List.filter_filter]
  congr 1
  funext q
  exact Bool.and_comm _ _
theorem pv_le_cons {lo lo' : pv_L} {p : Nat × Value → Bool} {i : Nat} {v : Value} (h : pv_le lo lo') (hp : ∀ q : Nat × Value, q.1 = i → p q = false) : pv_le ((i, v) :: lo.filter p) ((i, v) :: lo'.filter p) := by
  intro j
  have e : ∀ l : pv_L, pv_at j ((i, v) :: l.filter p) = if i = j then (i, v) :: pv_at j (l.filter p) else pv_at j (l.filter p) := by
    intro l
    unfold pv_at
    by_cases h : i = j
    · simp [List.filter_cons, h]
    · have h2 : (i == j) = false := by simpa using h
      simp only [List.filter_cons, h2, if_neg h]; rfl
  have z : ∀ l : pv_L, i = j → pv_at j (l.filter p) = [] := by
    intro l hj
    rw [pv_at_comm, List.filter_eq_nil_iff]
    intro q hq
    have := (List.mem_filter.mp hq).2
    simp only [beq_iff_eq] at this
    rw [hp q (by omega)]
    decide
  rw [e lo, e lo']
  by_cases hij : i = j
  · right
    rw [if_pos hij, if_pos hij, z lo hij, z lo' hij]
  · rw [if_neg hij, if_neg hij, pv_at_comm, pv_at_comm]
    rcases h j with h1 | h1
    · left; rw [h1]; rfl
    · right; rw [h1]
theorem pv_le_set1 {lo lo' : pv_L} {i : Nat} {v : Value} (h : pv_le lo lo') : pv_le (pv_set1 lo i v) (pv_set1 lo' i v) := pv_le_cons h (fun q hq => by simp [hq])
theorem pv_le_set2 {lo lo' : pv_L} {i : Nat} {v : Value} (h : pv_le lo lo') : pv_le (pv_set2 lo i v) (pv_set2 lo' i v) := pv_le_cons h (fun q hq => by simp [hq])
theorem pv_le_lod {lo lo' : pv_L} {i k t : Nat} {st : List Value} {h : pv_H} {k' : Nat} {l1 : pv_L} {s1 : List Value} {h1 : pv_H} (hle : pv_le lo lo') (hx : pv_lod lo i k t st h = some (k', l1, s1, h1)) : ∃ l2, pv_lod lo' i k t st h = some (k', l2, s1, h1) ∧ pv_le l1 l2 := by
  unfold pv_lod at hx ⊢
  split at hx
  · next v t hg => cases hx; exact ⟨lo', by simp only [pv_le_get hle hg], hle⟩
  · next v t hg => cases hx; exact ⟨lo', by simp only [pv_le_get hle hg], hle⟩
  · next v t hg => cases hx; exact ⟨lo', by simp only [pv_le_get hle hg], hle⟩
  · cases hx
theorem pv_le_sto {lo lo' : pv_L} {i k t : Nat} {st : List Value} {h : pv_H} {k' : Nat} {l1 : pv_L} {s1 : List Value} {h1 : pv_H} (hle : pv_le lo lo') (hx : pv_sto lo i k t st h = some (k', l1, s1, h1)) : ∃ l2, pv_sto lo' i k t st h = some (k', l2, s1, h1) ∧ pv_le l1 l2 := by
  unfold pv_sto at hx ⊢
  split at hx
  · cases hx; exact ⟨_, rfl, pv_le_set1 hle⟩
  · cases hx; exact ⟨_, rfl, pv_le_set2 hle⟩
  · cases hx; exact ⟨_, rfl, pv_le_set1 hle⟩
  · cases hx
/-- what an instruction that touches no local does -/
def pv_nl : Instr → Bool
  | .iload _ => false | .iload_n _ => false | .lload _ => false | .lload_n _ => false | .aload _ => false | .aload_n _ => false
  | .istore _ => false | .istore_n _ => false | .lstore _ => false | .lstore_n _ => false | .astore _ => false | .astore_n _ => false
  | .iinc _ _ => false
  | .ldc _ => false
  | _ => true
set_option maxHeartbeats 4000000 in
theorem pv_x_nl {i : Instr} {xs : List Nat} {k : Nat} {lo lo' : pv_L} {st : List Value} {h : pv_H} {k' : Nat} {l1 : pv_L} {s1 : List Value} {h1 : pv_H} (hn : pv_nl i = true) (hx : pv_x i xs k lo st h = some (k', l1, s1, h1)) : l1 = lo ∧ pv_x i xs k lo' st h = some (k', lo', s1, h1) := by
  cases i
  all_goals first
    | (exact absurd hn Bool.false_ne_true)
    | (simp only [pv_x, pv_i2, pv_l2, pv_lsh, pv_b1, pv_b2, pv_ald, pv_ast] at hx ⊢; done)
    | (simp only [pv_x, pv_i2, pv_l2, pv_lsh, pv_b1, pv_b2, pv_ald, pv_ast] at hx ⊢
       repeat' split at hx
       all_goals first
         | (cases hx; done)
         | (cases hx; exact ⟨rfl, rfl⟩)
         | (cases hx; refine ⟨rfl, ?_⟩; simp_all; done)
         | (cases hx; refine ⟨rfl, ?_⟩; simp only [*]; done)
         | (cases hx; refine ⟨rfl, ?_⟩; simp only [*]; rfl))
theorem pv_x_lo {i : Instr} {xs : List Nat} {k : Nat} {lo lo' : pv_L} {st : List Value} {h : pv_H} {k' : Nat} {l1 : pv_L} {s1 : List Value} {h1 : pv_H} (hle : pv_le lo lo') (hx : pv_x i xs k lo st h = some (k', l1, s1, h1)) : ∃ l2, pv_x i xs k lo' st h = some (k', l2, s1, h1) ∧ pv_le l1 l2 := by
  cases hn : pv_nl i with
  | true =>
    obtain ⟨rfl, h2⟩ := pv_x_nl (lo' := lo') hn hx
    exact ⟨lo', h2, hle⟩
  | false =>
    cases i
    all_goals first
      | (exact absurd hn.symm Bool.false_ne_true)
      | (exact pv_le_lod hle hx)
      | (exact pv_le_sto hle hx)
      | skip
    · simp only [pv_x] at hx ⊢
      split at hx
      · next x hg =>
        cases hx
        exact ⟨_, by simp only [pv_le_get hle hg], pv_le_set1 hle⟩
      · cases hx
    · simp only [pv_x] at hx ⊢
      split at hx
      · cases hx; exact ⟨_, rfl, hle⟩
      · split at hx
        · split at hx
          · next hc => cases hx; exact ⟨_, by rw [if_pos hc], hle⟩
          · cases hx
        · cases hx
      · split at hx
        · next x hg =>
          split at hx
          · next hc => cases hx; exact ⟨_, by simp only [pv_le_get hle hg]; rw [if_pos hc], hle⟩
          · cases hx
        · cases hx
      · cases hx
theorem pv_go_lo {call : Nat → List Value → pv_H → Option (Option Value × pv_H)} {rows : List pv_R} : ∀ (f k : Nat) (lo lo' : pv_L) (st : List Value) (h : pv_H) (r : Option Value × pv_H), pv_le lo lo' → pv_go call rows f k lo st h = some r → pv_go call rows f k lo' st h = some r := by
  intro f
  induction f with
  | zero => intro k lo lo' st h r _ hx; cases hx
  | succ f ih =>
    intro k lo lo' st h r hle hx
    simp only [pv_go] at hx ⊢
    split at hx
    · cases hx
    · next rr hr =>
      split at hx
      · next v hv => exact hx
      · next hv =>
        split at hx
        · next j as rest hi =>
          split at hx
          · next v1 h1 hcl => exact ih _ _ _ _ _ _ hle hx
          · cases hx
        · next hi =>
          split at hx
          · next k1 l1 s1 h1 hx1 =>
            obtain ⟨l2, e2, hle2⟩ := pv_x_lo hle hx1
            rw [e2]
            exact ih _ _ _ _ _ _ hle2 hx
          · cases hx
/-- the locals that matter, in an order -/
def pv_pick : List Nat → pv_L → pv_L
  | [], _ => []
  | i :: is, lo => pv_at i lo ++ pv_pick is lo
theorem pv_at_at (j i : Nat) (lo : pv_L) : pv_at j (pv_at i lo) = if j = i then pv_at i lo else [] := by
  unfold pv_at
  rw [List.filter_filter]
  by_cases h : j = i
  · rw [if_pos h]
    congr 1
    funext q
    simp [h]
  · rw [if_neg h, List.filter_eq_nil_iff]
    intro q _
    simp only [Bool.and_eq_true, beq_iff_eq]
    omega
theorem pv_at_pick (j : Nat) (lo : pv_L) : ∀ is : List Nat, (is.Nodup) → pv_at j (pv_pick is lo) = if j ∈ is then pv_at j lo else []
  | [], _ => rfl
  | i :: is, hn => by
    have ih := pv_at_pick j lo is (List.nodup_cons.mp hn).2
    have e : pv_at j (pv_pick (i :: is) lo) = pv_at j (pv_at i lo) ++ pv_at j (pv_pick is lo) := List.filter_append ..
    rw [e, ih, pv_at_at]
    by_cases h : j = i
    · subst h
      rw [if_pos rfl, if_neg (List.nodup_cons.mp hn).1, List.append_nil, if_pos List.mem_cons_self]
    · rw [if_neg h, List.nil_append]
      by_cases h2 : j ∈ is
      · rw [if_pos h2, if_pos (List.mem_cons_of_mem _ h2)]
      · rw [if_neg h2, if_neg (fun q => by rcases List.mem_cons.mp q with q | q; exact h q; exact h2 q)]
theorem wG_pick {d : Nat} {rows : List pv_R} {k : Nat} {lo : pv_L} {st : List Value} {h : pv_H} {Q : Option Value → pv_H → Prop} (is : List Nat) (hn : is.Nodup) (kk : wG d rows k (pv_pick is lo) st h Q) : wG d rows k lo st h Q := by
  obtain ⟨F, f, v, h', hf, hg, hq⟩ := kk
  refine ⟨F, f, v, h', hf, pv_go_lo f k _ _ st h _ (fun j => ?_) hg, hq⟩
  rw [pv_at_pick j lo is hn]
  by_cases h : j ∈ is
  · rw [if_pos h]; exact Or.inr rfl
  · rw [if_neg h]; exact Or.inl rfl
end
section
/-! A GENERATOR OF CONDITIONS over the pure machine: numbers are integers, the heap a function of places -/
abbrev qV : Type := (Bool × Int) ⊕ (Int ⊕ Nat)
abbrev qA : Type := Nat → Int → Int
abbrev qL : Type := List (Nat × qV)
abbrev qY : Type := Nat × Nat × Nat × List (Nat × Nat)
abbrev qK : Type := Option qV → qA → Prop
abbrev qS : Type := List qV → qA → qK → Prop
abbrev qC : Type := Nat × List (Nat × Nat × Nat) × (List Int → qA → Nat → Prop)
abbrev ni (z : Int) : qV := .inl (true, z)
abbrev nl (z : Int) : qV := .inr (.inl z)
abbrev rf (n : Nat) : qV := .inr (.inr n)
abbrev rng (z : Int) : Prop := -2147483648 ≤ z ∧ z < 2147483648
abbrev rngL (z : Int) : Prop := -9223372036854775808 ≤ z ∧ z < 9223372036854775808
def wI (z : Int) : Int := (Int32.ofInt z).toInt
def wL (z : Int) : Int := (Int64.ofInt z).toInt
def qv : qV → Value
  | .inl (_, z) => .int (Int32.ofInt z)
  | .inr (.inl z) => .long (Int64.ofInt z)
  | .inr (.inr n) => .ref n
def qok : qV → Prop
  | .inl (true, z) => rng z
  | .inl (false, _) => True
  | .inr (.inl z) => rngL z
  | .inr (.inr _) => True
def qcat : qV → Nat
  | .inr (.inl _) => 2
  | _ => 1
/-! the heap: a cell is (0, t, n, _) numbers, (1, 3, n, _) longs, (2, its kind, _, what its fields are: (0, _) a number, (1, _) a long, (2, _) a place that changes, (3, n) the place n) -/
def qfv (A : qA) (r j : Nat) : Nat × Nat → Value
  | (0, _) => .int (Int32.ofInt (A r j))
  | (1, _) => .long (Int64.ofInt (A r j))
  | (2, _) => if A r j < 0 then .null else .ref (A r j).toNat
  | (_, n) => .ref n
def qfs (A : qA) (r : Nat) : Nat → List (Nat × Nat) → List Value
  | _, [] => []
  | j, k :: ks => qfv A r j k :: qfs A r (j + 1) ks
def qce (A : qA) (r : Nat) : qY → va_E
  | (0, t, n, _) => .inl (t, n, .inl (fun j => Int32.ofInt (A r j)))
  | (1, t, n, _) => .inl (t, n, .inr (.inl (fun j => Int64.ofInt (A r j))))
  | (_, ci, _, ks) => .inr (ci, qfs A r 0 ks)
def qmk (A : qA) : Nat → List qY → pv_H
  | _, [] => []
  | r, y :: L => qce A r y :: qmk A (r + 1) L
def qH (L : List qY) (A : qA) : pv_H := qmk A 0 L
/-- the place of a field -/
def fd (j : Nat) : Int := j
def qu (A : qA) (r : Nat) (j v : Int) : qA := fun b i => if b = r ∧ i = j then v else A b i
def qcpy (A : qA) (r0 : Nat) (sp : Int) (r : Nat) (dp n : Int) : qA := fun b i => if b = r ∧ dp ≤ i ∧ i < dp + n then A r0 (sp + (i - dp)) else A b i
def qlng (L : List qY) (r : Nat) (j : Int) : Bool := match L[r]? with
  | some (1, _) => true
  | some (2, _, _, ks) => (match ks[j.toNat]? with
    | some (1, _) => true
    | _ => false)
  | _ => false
def qokA (L : List qY) (A : qA) : Prop := ∀ r j, rngL (A r j) ∧ (qlng L r j = false → rng (A r j))
/-! locals -/
def ql (lo : qL) : pv_L := lo.map (fun q => (q.1, qv q.2))
def qget : qL → Nat → Option qV
  | [], _ => none
  | (j, v) :: lo, i => bif Nat.beq j i then some v else qget lo i
def qset1 (lo : qL) (i : Nat) (v : qV) : qL := (i, v) :: lo.filter (fun q => !(q.1 == i) && !(q.1 + 1 == i && qcat q.2 == 2))
def qset2 (lo : qL) (i : Nat) (v : qV) : qL := (i, v) :: lo.filter (fun q => !(q.1 == i) && (!(q.1 == i + 1) && !(q.1 + 1 == i && qcat q.2 == 2)))
def qargsL : Nat → List qV → qL
  | _, [] => []
  | i, v :: vs => (i, v) :: qargsL (bif qcat v == 2 then i + 2 else i + 1) vs
def qcats : List qV → Nat
  | [] => 0
  | v :: vs => qcat v + qcats vs
/-! numbers -/
def qsm (m : Nat) : Int → Bool
  | .ofNat n => Nat.blt n m
  | .negSucc n => Nat.blt n m
def qput (md : Bool) : Bool → Int → (Int → Prop) → Prop
  | true, z, P => P z
  | false, z, P => match md with
    | true => P (wI z)
    | false => rng z ∧ P z
def qc : Jvm.ClassFile.Cond → Int → Int → Prop
  | .eq, a, b => a = b
  | .ne, a, b => a ≠ b
  | .lt, a, b => a < b
  | .ge, a, b => b ≤ a
  | .gt, a, b => b < a
  | .le, a, b => a ≤ b
def qbr : Jvm.ClassFile.Cond → Int → Int → Prop → Prop → Prop
  | .eq, a, b, P, R => (a = b → P) ∧ (a ≠ b → R)
  | .ne, a, b, P, R => (a ≠ b → P) ∧ (a = b → R)
  | .lt, a, b, P, R => (a < b → P) ∧ (b ≤ a → R)
  | .ge, a, b, P, R => (b ≤ a → P) ∧ (a < b → R)
  | .gt, a, b, P, R => (b < a → P) ∧ (a ≤ b → R)
  | .le, a, b, P, R => (a ≤ b → P) ∧ (b < a → R)
def qn (v : Nat) : Int := bif Nat.blt v 2147483648 then (v : Int) else (v : Int) - 4294967296
def qnL (v : Nat) : Int := bif Nat.blt v 9223372036854775808 then (v : Int) else (v : Int) - 18446744073709551616
def qd (a b : Int) : Int := Int.tdiv a b
def qm (a b : Int) : Int := Int.tmod a b
def ia (a b : Int) : Int := (Int32.ofInt a &&& Int32.ofInt b).toInt
def io (a b : Int) : Int := (Int32.ofInt a ||| Int32.ofInt b).toInt
def ix (a b : Int) : Int := (Int32.ofInt a ^^^ Int32.ofInt b).toInt
def sl (a b : Int) : Int := (Int32.ofInt a <<< (Int32.ofInt b &&& 31)).toInt
def sr (a b : Int) : Int := (Int32.ofInt a >>> (Int32.ofInt b &&& 31)).toInt
def su (a b : Int) : Int := ((Int32.ofInt a).toUInt32 >>> ((Int32.ofInt b).toUInt32 &&& Int32.toUInt32 31)).toInt32.toInt
def ja (a b : Int) : Int := (Int64.ofInt a &&& Int64.ofInt b).toInt
def jo (a b : Int) : Int := (Int64.ofInt a ||| Int64.ofInt b).toInt
def jx (a b : Int) : Int := (Int64.ofInt a ^^^ Int64.ofInt b).toInt
def jsl (a b : Int) : Int := (Int64.ofInt a <<< ((Int32.ofInt b).toInt64 &&& 63)).toInt
def jsr (a b : Int) : Int := (Int64.ofInt a >>> ((Int32.ofInt b).toInt64 &&& 63)).toInt
def jsu (a b : Int) : Int := ((Int64.ofInt a).toUInt64 >>> ((Int32.ofInt b).toInt64.toUInt64 &&& Int64.toUInt64 63)).toInt64.toInt
def jc (a b : Int) : Int := if a = b then 0 else if b < a then 1 else -1
def qone (s : Nat) (x : Int) : Int := (pv_one s (Int32.ofInt x)).toInt
def qix (s : Nat) (x : Int) : Int := (pv_ix s (pv_chr (Int32.ofInt x))).toInt
def w8 (z : Int) : Int := (Int32.ofInt z).toInt8.toInt32.toInt
/-! places that change: what they are taken to be -/
def qtau (t : List (Nat × Nat × Nat)) (r j : Nat) : Option Nat := match t with
  | [] => none
  | (r', j', n) :: t => bif Nat.beq r r' && Nat.beq j j' then some n else qtau t r j
/-! an instruction that neither calls nor ends -/
section QX
variable (L : List qY) (T : List (Nat × Nat × Nat)) (md : Bool)
def qlod (t : Nat) (lo : qL) (i k : Nat) (st : List qV) (A : qA) (nx : Nat → qL → List qV → qA → Prop) : Prop := match qget lo i, t with
  | some (.inl z), 0 => nx (k + 1) lo (.inl z :: st) A
  | some (.inr (.inl z)), 1 => nx (k + 1) lo (nl z :: st) A
  | some (.inr (.inr z)), 2 => nx (k + 1) lo (rf z :: st) A
  | _, _ => False
def qsto (t : Nat) (lo : qL) (i k : Nat) (st : List qV) (A : qA) (nx : Nat → qL → List qV → qA → Prop) : Prop := match st, t with
  | .inl z :: r, 0 => nx (k + 1) (qset1 lo i (.inl z)) r A
  | .inr (.inl z) :: r, 1 => nx (k + 1) (qset2 lo i (nl z)) r A
  | .inr (.inr z) :: r, 2 => nx (k + 1) (qset1 lo i (rf z)) r A
  | _, _ => False
def qi2 (t : Bool) (f : Int → Int → Int) (k : Nat) (lo : qL) (st : List qV) (A : qA) (nx : Nat → qL → List qV → qA → Prop) : Prop := match st with
  | .inl (_, y) :: .inl (_, x) :: r => ∀ v, v = f x y → nx (k + 1) lo (.inl (t, v) :: r) A
  | _ => False
def qiadd (k : Nat) (lo : qL) (st : List qV) (A : qA) (nx : Nat → qL → List qV → qA → Prop) : Prop := match st with
  | .inl (_, y) :: .inl (_, x) :: r => ∀ v, v = x + y → nx (k + 1) lo (.inl (false, v) :: r) A
  | _ => False
def qisub (k : Nat) (lo : qL) (st : List qV) (A : qA) (nx : Nat → qL → List qV → qA → Prop) : Prop := match st with
  | .inl (_, y) :: .inl (_, x) :: r => ∀ v, v = x - y → nx (k + 1) lo (.inl (false, v) :: r) A
  | _ => False
def qimul (k : Nat) (lo : qL) (st : List qV) (A : qA) (nx : Nat → qL → List qV → qA → Prop) : Prop := match st with
  | .inl (_, y) :: .inl (_, x) :: r => ∀ v, v = x * y → nx (k + 1) lo (.inl (false, v) :: r) A
  | _ => False
def jadd (x y : Int) : Int := wL (x + y)
def jsub (x y : Int) : Int := wL (x - y)
def jmul (x y : Int) : Int := wL (x * y)
def qj2 (f : Int → Int → Int) (k : Nat) (lo : qL) (st : List qV) (A : qA) (nx : Nat → qL → List qV → qA → Prop) : Prop := match st with
  | .inr (.inl y) :: .inr (.inl x) :: r => ∀ v, v = f x y → nx (k + 1) lo (nl v :: r) A
  | _ => False
def qjs (f : Int → Int → Int) (k : Nat) (lo : qL) (st : List qV) (A : qA) (nx : Nat → qL → List qV → qA → Prop) : Prop := match st with
  | .inl (_, y) :: .inr (.inl x) :: r => ∀ v, v = f x y → nx (k + 1) lo (nl v :: r) A
  | _ => False
def qsw (x : Int) (f : Nat → Prop) : List Nat → Int → Prop
  | [], _ => True
  | t :: ts, c => (x = c → f t) ∧ qsw x f ts (c + 1)
def qlsw (x : Int) (f : Nat → Prop) (d : Nat) : List Nat → Prop
  | k :: t :: ps => bif Nat.blt k 2147483648 then ((x = (k : Int) → f t) ∧ (x ≠ (k : Int) → qlsw x f d ps)) else False
  | _ => f d
def qty (ci j : Nat) : Nat := match pv_tyX ci j with
  | .int => 0
  | .long => 1
  | .object _ => 2
  | _ => 9
def qald (t : Nat) (k : Nat) (lo : qL) (st : List qV) (A : qA) (nx : Nat → qL → List qV → qA → Prop) : Prop := match st with
  | .inl (_, i) :: .inr (.inr a) :: r => match L[a]? with
    | some (0, t', n, _) => bif Nat.beq t' t && Nat.blt n 2147483648 then ((0 ≤ i ∧ i < n) ∧ ∀ v, rng v → v = A a i → nx (k + 1) lo (ni v :: r) A) else False
    | _ => False
  | _ => False
def qast (k : Nat) (lo : qL) (st : List qV) (A : qA) (nx : Nat → qL → List qV → qA → Prop) : Prop := match st with
  | .inl (t, x) :: .inl (_, i) :: .inr (.inr a) :: r => match L[a]? with
    | some (0, 0, n, _) => bif Nat.blt n 2147483648 then ((0 ≤ i ∧ i < n) ∧ qput md t x (fun z => ∀ A', A' = qu A a i z → nx (k + 1) lo r A')) else False
    | _ => False
  | _ => False
def qbst (t : Nat) (p : Int → Prop) (k : Nat) (lo : qL) (st : List qV) (A : qA) (nx : Nat → qL → List qV → qA → Prop) : Prop := match st with
  | .inl (_, z) :: .inl (_, i) :: .inr (.inr a) :: r => match L[a]? with
    | some (0, t', n, _) => bif Nat.beq t' t && Nat.blt n 2147483648 then ((0 ≤ i ∧ i < n) ∧ p z ∧ ∀ A', A' = qu A a i z → nx (k + 1) lo r A') else False
    | _ => False
  | _ => False
def qgf (xs : List Nat) (k : Nat) (lo : qL) (st : List qV) (A : qA) (nx : Nat → qL → List qV → qA → Prop) : Prop := match xs, st with
  | [ci, j], .inr (.inr a) :: r => match L[a]? with
    | some (2, ci', _, ks) => bif Nat.beq ci' ci then (match ks[j]? with
      | some (0, _) => bif qlng L a (fd j) then False else ∀ v, rng v → v = A a (fd j) → nx (k + 1) lo (ni v :: r) A
      | some (1, _) => ∀ v, v = A a (fd j) → nx (k + 1) lo (nl v :: r) A
      | some (2, _) => (match qtau T a j with
        | some n => A a (fd j) = n ∧ nx (k + 1) lo (rf n :: r) A
        | none => False)
      | some (_, n) => nx (k + 1) lo (rf n :: r) A
      | none => False) else False
    | _ => False
  | _, _ => False
def qpf (xs : List Nat) (k : Nat) (lo : qL) (st : List qV) (A : qA) (nx : Nat → qL → List qV → qA → Prop) : Prop := match xs, st with
  | [ci, j], v :: .inr (.inr a) :: r => match L[a]? with
    | some (2, ci', _, ks) => bif Nat.beq ci' ci then (match ks[j]?, qty ci j, v with
      | some (0, _), 0, .inl (t, x) => qput md t x (fun z => ∀ A', A' = qu A a (fd j) z → nx (k + 1) lo r A')
      | some (1, _), 1, .inr (.inl z) => bif qlng L a (fd j) then (∀ A', A' = qu A a (fd j) z → nx (k + 1) lo r A') else False
      | some (2, _), 2, .inr (.inr n) => bif Nat.blt n 2147483648 then (∀ A', A' = qu A a (fd j) n → nx (k + 1) lo r A') else False
      | _, _, _ => False) else False
    | _ => False
  | _, _ => False
def qx (i : Instr) (xs : List Nat) (k : Nat) (lo : qL) (st : List qV) (A : qA) (nx : Nat → qL → List qV → qA → Prop) : Prop := match i with
  | .iconst n => nx (k + 1) lo (.inl (qsm 2147483648 n, n) :: st) A
  | .bipush n => bif qsm 128 n then nx (k + 1) lo (ni n :: st) A else False
  | .sipush n => bif qsm 32768 n then nx (k + 1) lo (ni n :: st) A else False
  | .lconst n => bif Nat.blt n 2147483648 then (∀ v, v = ((n : Nat) : Int) → nx (k + 1) lo (nl v :: st) A) else False
  | .ldc _ => match xs with
    | [v] => bif Nat.blt v 4294967296 then nx (k + 1) lo (ni (qn v) :: st) A else False
    | [s, 0, _] => (match st with
      | .inl (_, x) :: r => bif Nat.ble (qcats r) 4 then (∀ v, v = qone s x → nx (k + 2) lo (ni v :: r) A) else False
      | _ => False)
    | [s, 1, i] => (match qget lo i with
      | some (.inl (_, x)) => bif Nat.ble (qcats st) 4 then (∀ v, v = qix s x → nx (k + 4) lo (ni v :: st) A) else False
      | _ => False)
    | _ => False
  | .ldc_w _ => match xs with
    | [v] => bif Nat.blt v 4294967296 then nx (k + 1) lo (ni (qn v) :: st) A else False
    | _ => False
  | .ldc2_w _ => match xs with
    | [v] => bif Nat.blt v 18446744073709551616 then nx (k + 1) lo (nl (qnL v) :: st) A else False
    | _ => False
  | .iload i => qlod 0 lo i k st A nx
  | .iload_n i => qlod 0 lo i k st A nx
  | .lload i => qlod 1 lo i k st A nx
  | .lload_n i => qlod 1 lo i k st A nx
  | .aload i => qlod 2 lo i k st A nx
  | .aload_n i => qlod 2 lo i k st A nx
  | .istore i => qsto 0 lo i k st A nx
  | .istore_n i => qsto 0 lo i k st A nx
  | .lstore i => qsto 1 lo i k st A nx
  | .lstore_n i => qsto 1 lo i k st A nx
  | .astore i => qsto 2 lo i k st A nx
  | .astore_n i => qsto 2 lo i k st A nx
  | .iinc i n => match qget lo i with
    | some (.inl (_, z)) => ∀ v, v = z + n → nx (k + 1) (qset1 lo i (.inl (false, v))) st A
    | _ => False
  | .iadd => qiadd k lo st A nx
  | .isub => qisub k lo st A nx
  | .imul => qimul k lo st A nx
  | .iand => qi2 true ia k lo st A nx
  | .ior => qi2 true io k lo st A nx
  | .ixor => qi2 true ix k lo st A nx
  | .ishl => qi2 true sl k lo st A nx
  | .ishr => qi2 true sr k lo st A nx
  | .iushr => qi2 true su k lo st A nx
  | .idiv => match st with
    | .inl (ty, y) :: .inl (tx, x) :: r => qput md tx x (fun x => qput md ty y (fun y => y ≠ 0 ∧ ∀ v, v = qd x y → nx (k + 1) lo (.inl (false, v) :: r) A))
    | _ => False
  | .irem => match st with
    | .inl (ty, y) :: .inl (tx, x) :: r => qput md tx x (fun x => qput md ty y (fun y => y ≠ 0 ∧ ∀ v, v = qm x y → nx (k + 1) lo (ni v :: r) A))
    | _ => False
  | .ineg => match st with
    | .inl (_, x) :: r => ∀ v, v = -x → nx (k + 1) lo (.inl (false, v) :: r) A
    | _ => False
  | .ladd => qj2 jadd k lo st A nx
  | .lsub => qj2 jsub k lo st A nx
  | .lmul => qj2 jmul k lo st A nx
  | .land => qj2 ja k lo st A nx
  | .lor => qj2 jo k lo st A nx
  | .lxor => qj2 jx k lo st A nx
  | .ldiv => match st with
    | .inr (.inl y) :: .inr (.inl x) :: r => y ≠ 0 ∧ ∀ v, v = wL (Int.tdiv x y) → nx (k + 1) lo (nl v :: r) A
    | _ => False
  | .lrem => match st with
    | .inr (.inl y) :: .inr (.inl x) :: r => y ≠ 0 ∧ ∀ v, v = Int.tmod x y → nx (k + 1) lo (nl v :: r) A
    | _ => False
  | .lshl => qjs jsl k lo st A nx
  | .lshr => qjs jsr k lo st A nx
  | .lushr => qjs jsu k lo st A nx
  | .lcmp => match st with
    | .inr (.inl y) :: .inr (.inl x) :: r => ∀ v, v = jc x y → nx (k + 1) lo (ni v :: r) A
    | _ => False
  | .i2l => match st with
    | .inl (tx, x) :: r => qput md tx x (fun x => nx (k + 1) lo (nl x :: r) A)
    | _ => False
  | .l2i => match st with
    | .inr (.inl x) :: r => nx (k + 1) lo (.inl (false, x) :: r) A
    | _ => False
  | .i2b => match st with
    | .inl (_, x) :: r => ∀ v, v = w8 x → nx (k + 1) lo (ni v :: r) A
    | _ => False
  | .i2c => match st with
    | .inl (_, x) :: r => ∀ v, v = x % 65536 → nx (k + 1) lo (ni v :: r) A
    | _ => False
  | .dup => match st with
    | v :: r => bif Nat.beq (qcat v) 1 then nx (k + 1) lo (v :: v :: r) A else False
    | _ => False
  | .pop => match st with
    | v :: r => bif Nat.beq (qcat v) 1 then nx (k + 1) lo r A else False
    | _ => False
  | .dup2 => match st with
    | v :: w :: r => bif Nat.beq (qcat v) 1 && Nat.beq (qcat w) 1 then nx (k + 1) lo (v :: w :: v :: w :: r) A else False
    | _ => False
  | .goto _ => match xs with
    | [t] => nx t lo st A
    | _ => False
  | .ifCond c _ => match xs, st with
    | [t], .inl (tx, x) :: r => qput md tx x (fun x => qbr c x 0 (nx t lo r A) (nx (k + 1) lo r A))
    | _, _ => False
  | .if_icmp c _ => match xs, st with
    | [t], .inl (ty, y) :: .inl (tx, x) :: r => qput md tx x (fun x => qput md ty y (fun y => qbr c x y (nx t lo r A) (nx (k + 1) lo r A)))
    | _, _ => False
  | .tableswitch _ a b _ => match xs, st with
    | d :: ts, .inl (tx, x) :: r => bif Nat.beq ts.length (b - a + 1).toNat then qput md tx x (fun x => (x < a ∨ b < x → nx d lo r A) ∧ qsw x (fun t => nx t lo r A) ts a) else False
    | _, _ => False
  | .lookupswitch _ _ => match xs, st with
    | d :: ps, .inl (tx, x) :: r => qput md tx x (fun x => qlsw x (fun t => nx t lo r A) d ps)
    | _, _ => False
  | .getfield _ => qgf L T xs k lo st A nx
  | .putfield _ => qpf L md xs k lo st A nx
  | .iaload => qald L 0 k lo st A nx
  | .baload => match xs with
    | [1] => qald L 1 k lo st A nx
    | [2] => qald L 2 k lo st A nx
    | _ => False
  | .laload => match st with
    | .inl (_, i) :: .inr (.inr a) :: r => match L[a]? with
      | some (1, 3, n, _) => bif Nat.blt n 2147483648 then ((0 ≤ i ∧ i < n) ∧ ∀ v, v = A a i → nx (k + 1) lo (nl v :: r) A) else False
      | _ => False
    | _ => False
  | .iastore => qast L md k lo st A nx
  | .bastore => match xs with
    | [1] => qbst L 1 (fun z => z = 0 ∨ z = 1) k lo st A nx
    | [2] => qbst L 2 (fun z => -128 ≤ z ∧ z < 128) k lo st A nx
    | _ => False
  | .lastore => match st with
    | .inr (.inl z) :: .inl (_, i) :: .inr (.inr a) :: r => match L[a]? with
      | some (1, 3, n, _) => bif Nat.blt n 2147483648 then ((0 ≤ i ∧ i < n) ∧ ∀ A', A' = qu A a i z → nx (k + 1) lo r A') else False
      | _ => False
    | _ => False
  | .arraylength => match st with
    | .inr (.inr a) :: r => match L[a]? with
      | some (0, 0, n, _) => bif Nat.blt n 2147483648 then nx (k + 1) lo (ni n :: r) A else False
      | _ => False
    | _ => False
  | .invokestatic _ => match xs, st with
    | [0], .inl (ty, y) :: .inl (tx, x) :: r => bif Nat.ble (qcats r) 8 then qput md tx x (fun x => qput md ty y (fun y => ∀ v, v = max x y → nx (k + 1) lo (ni v :: r) A)) else False
    | [1], .inl (ty, y) :: .inl (tx, x) :: r => bif Nat.ble (qcats r) 8 then qput md tx x (fun x => qput md ty y (fun y => ∀ v, v = min x y → nx (k + 1) lo (ni v :: r) A)) else False
    | [2], .inl (tx, x) :: r => bif Nat.ble (qcats r) 8 then qput md tx x (fun x => -2147483648 < x ∧ ∀ v, v = (if 0 ≤ x then x else -x) → nx (k + 1) lo (ni v :: r) A) else False
    | [3], .inl (_, n) :: .inl (_, dp) :: .inr (.inr a) :: .inl (_, sp) :: .inr (.inr a0) :: r => (match L[a0]?, L[a]? with
      | some (0, 0, n0, _), some (0, 0, n1, _) => bif Nat.ble (qcats r) 8 && Nat.blt n0 2147483648 && Nat.blt n1 2147483648 then (((0 ≤ sp ∧ 0 ≤ dp ∧ 0 ≤ n) ∧ sp + n ≤ n0 ∧ dp + n ≤ n1) ∧ ∀ A', A' = qcpy A a0 sp a dp n → nx (k + 1) lo r A') else False
      | _, _ => False)
    | _, _ => False
  | _ => False
end QX
/-! calls, ends, cuts -/
def qargs (md : Bool) : List qV → (List qV → Prop) → Prop
  | [], P => P []
  | .inl (t, x) :: vs, P => qput md t x (fun x => qargs md vs (fun ws => P (ni x :: ws)))
  | .inr x :: vs, P => qargs md vs (fun ws => P (.inr x :: ws))
def qinv (L : List qY) (i : Instr) (xs : List Nat) (st : List qV) : Option (Nat × List qV × List qV) := match i, xs with
  | .invokestatic _, [j, n] => bif Nat.ble n st.length && Nat.ble (qcats (st.drop n)) 8 then some (j, (st.take n).reverse, st.drop n) else none
  | .invokevirtual _, [j, n, ci] => match st.drop n with
    | .inr (.inr b) :: r => match L[b]? with
      | some (2, ci', _) => bif Nat.beq ci' ci && Nat.ble (qcats r) 8 then some (j, rf b :: (st.take n).reverse, r) else none
      | _ => none
    | _ => none
  | _, _ => none
def qret (md : Bool) (i : Instr) (xs : List Nat) (st : List qV) (A : qA) (K : qK) : Option Prop := match i, st with
  | .ireturn, [.inl (t, x)] => match xs with
    | [0] => some (qput md t x (fun z => K (some (ni z)) A))
    | [1] => some ((x = 0 ∨ x = 1) ∧ K (some (ni x)) A)
    | _ => none
  | .lreturn, [.inr (.inl z)] => some (K (some (nl z)) A)
  | .return_, [] => some (K none A)
  | _, _ => none
def qfind (S : List (Nat × qS)) (j : Nat) : Option qS := match S with
  | [] => none
  | (i, s) :: S => bif Nat.beq i j then some s else qfind S j
def qcol (md : Bool) : List (Nat × Nat × Nat) → qL → (List Int → Prop) → Prop
  | [], _, c => c []
  | (i, 0, _) :: tm, lo, c => match qget lo i with
    | some (.inl (t, x)) => qput md t x (fun x => qcol md tm lo (fun zs => c (x :: zs)))
    | _ => False
  | (i, 1, _) :: tm, lo, c => match qget lo i with
    | some (.inr (.inl z)) => qcol md tm lo (fun zs => c (z :: zs))
    | _ => False
  | (i, 2, n) :: tm, lo, c => match qget lo i with
    | some (.inr (.inr m)) => bif Nat.beq m n then qcol md tm lo c else False
    | _ => False
  | (i, _, _) :: tm, lo, c => match qget lo i with
    | some (.inl (t, x)) => qput true t x (fun z => qcol md tm lo (fun zs => c (z :: zs)))
    | _ => False
def qcnt : List (Nat × Nat × Nat) → Nat
  | [] => 0
  | (_, 2, _) :: tm => qcnt tm
  | _ :: tm => qcnt tm + 1
def qfill : List (Nat × Nat × Nat) → List Int → qL
  | [], _ => []
  | (i, 2, n) :: tm, zs => (i, rf n) :: qfill tm zs
  | (i, 1, _) :: tm, z :: zs => (i, nl z) :: qfill tm zs
  | (i, _, _) :: tm, z :: zs => (i, ni z) :: qfill tm zs
  | _ :: _, [] => []
def qrz : List (Nat × Nat × Nat) → List Int → Prop
  | [], _ => True
  | (_, 2, _) :: tm, zs => qrz tm zs
  | (_, 1, _) :: tm, z :: zs => rngL z ∧ qrz tm zs
  | _ :: tm, z :: zs => rng z ∧ qrz tm zs
  | _ :: _, [] => True
def qall : Nat → (List Int → Prop) → Prop
  | 0, P => P []
  | n + 1, P => ∀ x, qall n (fun zs => P (x :: zs))
def qfindC (C : List qC) (k : Nat) : Option qC := match C with
  | [] => none
  | c :: C => bif Nat.beq c.1 k then some c else qfindC C k
def qbd (bd : Option Nat) (P : Nat → Prop) : Prop := match bd with
  | none => ∃ n, P n
  | some m => ∃ n, n < m ∧ P n
def qjmp (md : Bool) (C : List qC) (bd : Option Nat) (go : Nat → qL → List qV → qA → Prop) (k : Nat) (lo : qL) (st : List qV) (A : qA) : Prop := match qfindC C k with
  | none => go k lo st A
  | some c => match st with
    | [] => qcol md c.2.1 lo (fun zs => qbd bd (fun n => c.2.2 zs A n))
    | _ => False
def qwp (L : List qY) (T : List (Nat × Nat × Nat)) (md : Bool) (S : List (Nat × qS)) (C : List qC) (rows : List pv_R) (K : qK) (bd : Option Nat) : Nat → Nat → qL → List qV → qA → Prop
  | 0, _, _, _, _ => False
  | f + 1, k, lo, st, A => match rows[k]? with
    | none => False
    | some r => match qret md r.2.1 r.2.2.2.1 st A K with
      | some P => P
      | none => match qinv L r.2.1 r.2.2.2.1 st with
        | some (j, as, rest) => (match qfind S j with
          | some sp => qargs md as (fun bs => sp bs A (fun v A' => qjmp md C bd (qwp L T md S C rows K bd f) (k + 1) lo (v.toList ++ rest) A'))
          | none => False)
        | none => qx L T md r.2.1 r.2.2.2.1 k lo st A (qjmp md C bd (qwp L T md S C rows K bd f))
end
section
/-! WHAT THE CONDITIONS SAY IS SO: numbers, locals, heap -/
theorem iI_to {z : Int} (h : rng z) : (Int32.ofInt z).toInt = z := by
  rw [Int32.toInt_ofInt]
  obtain ⟨h1, h2⟩ := h
  have e : Int32.size = 4294967296 := rfl
  rw [e]
  exact Int.bmod_eq_of_le (by omega) (by omega)
theorem iL_to {z : Int} (h : rngL z) : (Int64.ofInt z).toInt = z := by
  rw [Int64.toInt_ofInt]
  obtain ⟨h1, h2⟩ := h
  have e : Int64.size = 18446744073709551616 := rfl
  rw [e]
  exact Int.bmod_eq_of_le (by omega) (by omega)
theorem i_rng (x : Int32) : rng x.toInt := ⟨Int32.le_toInt x, by have := Int32.toInt_lt x; omega⟩
theorem l_rng (x : Int64) : rngL x.toInt := ⟨Int64.le_toInt x, by have := Int64.toInt_lt x; omega⟩
theorem wI_rng (z : Int) : rng (wI z) := i_rng _
theorem wL_rng (z : Int) : rngL (wL z) := l_rng _
theorem wI_of (z : Int) : Int32.ofInt (wI z) = Int32.ofInt z := Int32.ofInt_toInt _
theorem wL_of (z : Int) : Int64.ofInt (wL z) = Int64.ofInt z := Int64.ofInt_toInt _
theorem wI_id {z : Int} (h : rng z) : wI z = z := iI_to h
theorem wL_id {z : Int} (h : rngL z) : wL z = z := iL_to h
theorem rng_L {z : Int} (h : rng z) : rngL z := ⟨by have := h.1; omega, by have := h.2; omega⟩
theorem iI_clamp {z : Int} (h0 : 0 ≤ z) (h1 : z < 2147483648) : (Int32.ofInt z).toNatClampNeg = z.toNat := by
  show (Int32.ofInt z).toInt.toNat = _
  rw [iI_to ⟨by omega, h1⟩]
theorem iI_in {z : Int} {n : Nat} (h0 : 0 ≤ z) (h1 : z < n) (h2 : (n : Int) < 2147483648) : ¬ (Int32.ofInt z < 0 ∨ n ≤ (Int32.ofInt z).toNatClampNeg) := by
  rw [iI_clamp h0 (by omega), Int32.lt_iff_toInt_lt, iI_to ⟨by omega, by omega⟩]
  have : (0 : Int32).toInt = 0 := rfl
  omega
theorem bif_p {b : Bool} {P : Prop} (h : bif b then P else False) : b = true ∧ P := by
  cases b
  · exact h.elim
  · exact ⟨rfl, h⟩
theorem qsm_p {m : Nat} {n : Int} (h : qsm m n = true) : -(m : Int) ≤ n ∧ n < m := by
  cases n with
  | ofNat a => have := Nat.lt_of_lt_of_le (Nat.le_of_ble_eq_true h) (Nat.le_refl _); simp only [Int.ofNat_eq_natCast]; omega
  | negSucc a => have := Nat.lt_of_lt_of_le (Nat.le_of_ble_eq_true h) (Nat.le_refl _); omega
theorem blt_p {a b : Nat} (h : Nat.blt a b = true) : a < b := Nat.le_of_ble_eq_true h
theorem beq_p {a b : Nat} (h : Nat.beq a b = true) : a = b := Nat.eq_of_beq_eq_true h
theorem qok_sm (n : Int) : qok (.inl (qsm 2147483648 n, n)) := by
  cases h : qsm 2147483648 n
  · trivial
  · have := qsm_p h
    exact ⟨by omega, by omega⟩
theorem qput_p {md t : Bool} {x : Int} {P : Int → Prop} (hx : qok (.inl (t, x))) (h : qput md t x P) : ∃ z, rng z ∧ Int32.ofInt z = Int32.ofInt x ∧ P z := by
  cases t
  · cases md
    · exact ⟨x, h.1, rfl, h.2⟩
    · exact ⟨wI x, wI_rng x, wI_of x, h⟩
  · exact ⟨x, hx, rfl, h⟩
theorem qbr_p {c : Jvm.ClassFile.Cond} {a b : Int} {P R : Prop} (h : qbr c a b P R) : (qc c a b → P) ∧ (¬ qc c a b → R) := by
  cases c
  · exact ⟨h.1, h.2⟩
  · exact ⟨h.1, fun q => h.2 (Decidable.byContradiction q)⟩
  · exact ⟨h.1, fun q => h.2 (Int.not_lt.mp q)⟩
  · exact ⟨h.1, fun q => h.2 (Int.not_le.mp q)⟩
  · exact ⟨h.1, fun q => h.2 (Int.not_lt.mp q)⟩
  · exact ⟨h.1, fun q => h.2 (Int.not_le.mp q)⟩
theorem qv_cat (v : qV) : (qv v).category = qcat v := by
  rcases v with ⟨b, z⟩ | z | n <;> rfl
theorem qcats_p : ∀ st : List qV, pv_cat (st.map qv) = qcats st
  | [] => rfl
  | v :: st => by
    have := qcats_p st
    simp only [pv_cat, List.map_cons, List.sum_cons] at this ⊢
    rw [qv_cat, this]
    rfl
theorem qget_p : ∀ (lo : qL) (i : Nat), pv_get (ql lo) i = (qget lo i).map qv
  | [], _ => rfl
  | (j, v) :: lo, i => by
    show (if j = i then some (qv v) else pv_get (ql lo) i) = _
    unfold qget
    by_cases h : j = i
    · rw [if_pos h, h, Nat.beq_refl]; rfl
    · have : Nat.beq j i = false := by
        cases hb : Nat.beq j i
        · rfl
        · exact absurd (beq_p hb) h
      rw [if_neg h, this, qget_p lo i]; rfl
theorem qget_ok : ∀ {lo : qL} {i : Nat} {v : qV}, (∀ q ∈ lo, qok q.2) → qget lo i = some v → qok v
  | (j, w) :: lo, i, v, h, e => by
    unfold qget at e
    cases hb : Nat.beq j i
    · rw [hb] at e; exact qget_ok (fun q hq => h q (List.mem_cons_of_mem _ hq)) e
    · rw [hb] at e; cases e; exact h _ List.mem_cons_self
theorem ql_filter (p : Nat × qV → Bool) (p' : Nat × Value → Bool) (h : ∀ q : Nat × qV, p' (q.1, qv q.2) = p q) : ∀ lo : qL, ql (lo.filter p) = (ql lo).filter p'
  | [] => rfl
  | q :: lo => by
    show (List.map _ (List.filter p (q :: lo))) = List.filter p' ((q.1, qv q.2) :: ql lo)
    rw [List.filter_cons, List.filter_cons, h q]
    cases p q
    · exact ql_filter p p' h lo
    · show (q.1, qv q.2) :: ql (lo.filter p) = _
      rw [ql_filter p p' h lo]; rfl
theorem qset1_p (lo : qL) (i : Nat) (v : qV) : ql (qset1 lo i v) = pv_set1 (ql lo) i (qv v) := by
  show (i, qv v) :: ql (lo.filter _) = (i, qv v) :: (ql lo).filter _
  congr 1
  refine ql_filter _ _ (fun q => ?_) lo
  simp only [qv_cat]
theorem qset2_p (lo : qL) (i : Nat) (v : qV) : ql (qset2 lo i v) = pv_set2 (ql lo) i (qv v) := by
  show (i, qv v) :: ql (lo.filter _) = (i, qv v) :: (ql lo).filter _
  congr 1
  refine ql_filter _ _ (fun q => ?_) lo
  simp only [qv_cat]
theorem qset1_ok {lo : qL} {i : Nat} {v : qV} (h : ∀ q ∈ lo, qok q.2) (hv : qok v) : ∀ q ∈ qset1 lo i v, qok q.2 := by
  intro q hq
  rcases List.mem_cons.mp hq with rfl | hq
  · exact hv
  · exact h q (List.mem_filter.mp hq).1
theorem qset2_ok {lo : qL} {i : Nat} {v : qV} (h : ∀ q ∈ lo, qok q.2) (hv : qok v) : ∀ q ∈ qset2 lo i v, qok q.2 := by
  intro q hq
  rcases List.mem_cons.mp hq with rfl | hq
  · exact hv
  · exact h q (List.mem_filter.mp hq).1
theorem qargsL_p : ∀ (vs : List qV) (i : Nat), ql (qargsL i vs) = lv_args i (vs.map qv)
  | [], _ => rfl
  | v :: vs, i => by
    show (i, qv v) :: ql (qargsL _ vs) = (i, qv v) :: lv_args (if (qv v).category = 2 then i + 2 else i + 1) (vs.map qv)
    rw [qargsL_p vs, qv_cat]
    congr 2
    rcases v with ⟨b, z⟩ | z | n <;> rfl
theorem qargsL_ok : ∀ {vs : List qV} {i : Nat}, (∀ v ∈ vs, qok v) → ∀ q ∈ qargsL i vs, qok q.2
  | v :: vs, i, h, q, hq => by
    rcases List.mem_cons.mp hq with rfl | hq
    · exact h _ List.mem_cons_self
    · exact qargsL_ok (fun w hw => h w (List.mem_cons_of_mem _ hw)) q hq
/-! the heap -/
theorem qmk_get (A : qA) : ∀ (L : List qY) (r0 i : Nat), (qmk A r0 L)[i]? = (L[i]?).map (qce A (r0 + i))
  | [], _, _ => rfl
  | y :: L, r0, 0 => rfl
  | y :: L, r0, i + 1 => by
    show (qmk A (r0 + 1) L)[i]? = (L[i]?).map _
    rw [qmk_get A L (r0 + 1) i, show r0 + 1 + i = r0 + (i + 1) by omega]
theorem qH_get (L : List qY) (A : qA) (r : Nat) : (qH L A)[r]? = (L[r]?).map (qce A r) := by
  unfold qH
  rw [qmk_get, Nat.zero_add]
theorem qH_at {L : List qY} {A : qA} {r : Nat} {y : qY} (h : L[r]? = some y) : (qH L A)[r]? = some (qce A r y) := by rw [qH_get, h]; rfl
theorem qfs_get (A : qA) (r : Nat) : ∀ (ks : List (Nat × Nat)) (j0 i : Nat), (qfs A r j0 ks)[i]? = (ks[i]?).map (qfv A r (j0 + i))
  | [], _, _ => rfl
  | y :: L, r0, 0 => rfl
  | y :: L, r0, i + 1 => by
    show (qfs A r (r0 + 1) L)[i]? = (L[i]?).map _
    rw [qfs_get A r L (r0 + 1) i, show r0 + 1 + i = r0 + (i + 1) by omega]
theorem qfs_at {A : qA} {r j : Nat} {k : Nat × Nat} {ks : List (Nat × Nat)} (h : ks[j]? = some k) : (qfs A r 0 ks)[j]? = some (qfv A r j k) := by rw [qfs_get, h, Nat.zero_add]; rfl
theorem qfv_same {A A' : qA} {b : Nat} (h : A' b = A b) (j : Nat) (k : Nat × Nat) : qfv A' b j k = qfv A b j k := by
  unfold qfv; rw [h]
theorem qfs_same {A A' : qA} {b : Nat} (h : A' b = A b) : ∀ (ks : List (Nat × Nat)) (j : Nat), qfs A' b j ks = qfs A b j ks
  | [], _ => rfl
  | k :: ks, j => by
    show qfv A' b j k :: qfs A' b (j + 1) ks = _
    rw [qfv_same h, qfs_same h ks]; rfl
theorem qce_same {A A' : qA} {b : Nat} (h : A' b = A b) (y : qY) : qce A' b y = qce A b y := by
  obtain ⟨t, a, n, ks⟩ := y
  rcases t with _ | _ | t
  · show Sum.inl (a, n, Sum.inl (fun j : Nat => Int32.ofInt (A' b j))) = _
    rw [h]; rfl
  · show Sum.inl (a, n, Sum.inr (Sum.inl (fun j : Nat => Int64.ofInt (A' b j)))) = _
    rw [h]; rfl
  · show Sum.inr (a, qfs A' b 0 ks) = _
    rw [qfs_same h]; rfl
theorem qH_set {L : List qY} {A A' : qA} {r : Nat} {y : qY} {e : va_E} (hy : L[r]? = some y) (he : qce A' r y = e) (ho : ∀ b, b ≠ r → A' b = A b) : (qH L A).set r e = qH L A' := by
  apply List.ext_getElem?
  intro i
  rw [List.getElem?_set, qH_get, qH_get]
  by_cases hi : r = i
  · subst hi
    have hl : r < (qH L A).length := (List.getElem?_eq_some_iff.mp (qH_at (A := A) hy)).1
    rw [if_pos rfl, if_pos hl, hy, ← he]; rfl
  · rw [if_neg hi]
    cases L[i]? with
    | none => rfl
    | some y' => show some _ = some _; rw [qce_same (ho i (fun q => hi q.symm))]
theorem qu_ne {A : qA} {r b : Nat} {j v : Int} (h : b ≠ r) : qu A r j v b = A b := by
  funext i
  exact if_neg (fun q => h q.1)
theorem qu_at (A : qA) (r : Nat) (j v : Int) : qu A r j v r j = v := if_pos ⟨rfl, rfl⟩
theorem qu_nj {A : qA} {r : Nat} {j v i : Int} (h : i ≠ j) : qu A r j v r i = A r i := if_neg (fun q => h q.2)
theorem qu_is (A : qA) (r : Nat) (j v : Int) (b : Nat) (i : Int) : qu A r j v b i = if b = r ∧ i = j then v else A b i := rfl
theorem qu_upd {A : qA} {r : Nat} {j v : Int} {x : Int32} (h0 : 0 ≤ j) (hx : Int32.ofInt v = x) : upd (fun k : Nat => Int32.ofInt (A r k)) j.toNat x = fun k : Nat => Int32.ofInt (qu A r j v r k) := by
  funext k
  unfold upd
  by_cases h : k = j.toNat
  · rw [if_pos h, ← hx, show ((k : Nat) : Int) = j by omega, qu_at]
  · rw [if_neg h, qu_nj (by omega)]
theorem qu_updL {A : qA} {r : Nat} {j v : Int} {x : Int64} (h0 : 0 ≤ j) (hx : Int64.ofInt v = x) : vp_updL (fun k : Nat => Int64.ofInt (A r k)) j.toNat x = fun k : Nat => Int64.ofInt (qu A r j v r k) := by
  funext k
  unfold vp_updL
  by_cases h : k = j.toNat
  · rw [if_pos h, ← hx, show ((k : Nat) : Int) = j by omega, qu_at]
  · rw [if_neg h, qu_nj (by omega)]
theorem qfs_set {A : qA} {r j : Nat} {k : Nat × Nat} {ks : List (Nat × Nat)} {z : Int} {v : Value} (hk : ks[j]? = some k) (hv : qfv (qu A r (fd j) z) r j k = v) : (qfs A r 0 ks).set j v = qfs (qu A r (fd j) z) r 0 ks := by
  apply List.ext_getElem?
  intro i
  rw [List.getElem?_set, qfs_get, qfs_get, Nat.zero_add]
  by_cases hi : j = i
  · subst hi
    have hl : j < (qfs A r 0 ks).length := (List.getElem?_eq_some_iff.mp (qfs_at (A := A) (r := r) hk)).1
    rw [if_pos rfl, if_pos hl, hk, ← hv]; rfl
  · rw [if_neg hi]
    cases ks[i]? with
    | none => rfl
    | some k' =>
      show some _ = some _
      congr 1
      unfold qfv
      rw [qu_nj (by unfold fd; omega)]
theorem qokA_qu {L : List qY} {A : qA} {r : Nat} {j v : Int} (hA : qokA L A) (h1 : rngL v) (h2 : qlng L r j = false → rng v) : qokA L (qu A r j v) := by
  intro b i
  rw [qu_is]
  by_cases h : b = r ∧ i = j
  · rw [if_pos h]; obtain ⟨rfl, rfl⟩ := h; exact ⟨h1, h2⟩
  · rw [if_neg h]; exact hA b i
theorem qlng_0 {L : List qY} {a t n : Nat} {ks : List (Nat × Nat)} {j : Int} (h : L[a]? = some (0, t, n, ks)) : qlng L a j = false := by unfold qlng; rw [h]; rfl
end
section
/-! WHAT THE CONDITIONS SAY IS SO: an instruction -/
def qoks (st : List qV) : Prop := ∀ v ∈ st, qok v
def qokl (lo : qL) : Prop := (∀ q ∈ lo, qok q.2) ∧ (lo.map (fun q => q.1)).Nodup
theorem qnd_set {lo : qL} {i : Nat} {v : qV} {p : Nat × qV → Bool} (h : (lo.map (fun q => q.1)).Nodup) (hp : ∀ q : Nat × qV, p q = true → q.1 ≠ i) : (((i, v) :: lo.filter p).map (fun q => q.1)).Nodup := by
  rw [List.map_cons, List.nodup_cons]
  refine ⟨fun hm => ?_, ?_⟩
  · obtain ⟨q, hq, e⟩ := List.mem_map.mp hm
    exact hp q (List.mem_filter.mp hq).2 e
  · exact List.Sublist.nodup (List.Sublist.map _ List.filter_sublist) h
theorem qokl_1 {lo : qL} {i : Nat} {v : qV} (h : qokl lo) (hv : qok v) : qokl (qset1 lo i v) := ⟨qset1_ok h.1 hv, qnd_set h.2 (fun q hq => by
  simp only [Bool.and_eq_true, Bool.not_eq_true', beq_eq_false_iff_ne] at hq
  exact hq.1)⟩
theorem qokl_2 {lo : qL} {i : Nat} {v : qV} (h : qokl lo) (hv : qok v) : qokl (qset2 lo i v) := ⟨qset2_ok h.1 hv, qnd_set h.2 (fun q hq => by
  simp only [Bool.and_eq_true, Bool.not_eq_true', beq_eq_false_iff_ne] at hq
  exact hq.1)⟩
theorem qoks_c {v : qV} {st : List qV} (hv : qok v) (h : qoks st) : qoks (v :: st) := by
  intro w hw
  rcases List.mem_cons.mp hw with rfl | hw
  · exact hv
  · exact h w hw
theorem qoks_h {v : qV} {st : List qV} (h : qoks (v :: st)) : qok v := h _ List.mem_cons_self
theorem qoks_t {v : qV} {st : List qV} (h : qoks (v :: st)) : qoks st := fun w hw => h w (List.mem_cons_of_mem _ hw)
theorem qpc {cd : Jvm.ClassFile.Cond} {a b : Int} (ha : rng a) (hb : rng b) : pv_cond cd (Int32.ofInt a) (Int32.ofInt b) = true ↔ qc cd a b := by
  cases cd
  · rw [pc_eq, iI_to ha, iI_to hb]; exact Iff.rfl
  · rw [pc_ne, iI_to ha, iI_to hb]; exact Iff.rfl
  · rw [pc_lt, iI_to ha, iI_to hb]; exact Iff.rfl
  · rw [pc_ge, iI_to ha, iI_to hb]; exact Iff.rfl
  · rw [pc_gt, iI_to ha, iI_to hb]; exact Iff.rfl
  · rw [pc_le, iI_to ha, iI_to hb]; exact Iff.rfl
theorem qn_of (v : Nat) : Int32.ofInt (qn v) = Int32.ofNat v := by
  unfold qn
  cases Nat.blt v 2147483648
  · show Int32.ofInt ((v : Int) - 4294967296) = _
    rw [Int32.ofInt_sub, show Int32.ofInt 4294967296 = 0 by decide, Int32.sub_zero]; rfl
  · rfl
theorem qn_rng {v : Nat} (h : v < 4294967296) : rng (qn v) := by
  unfold qn
  cases hb : Nat.blt v 2147483648
  · have : ¬ v < 2147483648 := fun q => by
      have : Nat.blt v 2147483648 = true := Nat.ble_eq_true_of_le q
      rw [this] at hb; cases hb
    exact ⟨by show _ ≤ (v : Int) - 4294967296; omega, by show (v : Int) - 4294967296 < _; omega⟩
  · have := blt_p hb
    exact ⟨by show _ ≤ (v : Int); omega, by show (v : Int) < _; omega⟩
theorem qnL_of (v : Nat) : Int64.ofInt (qnL v) = Int64.ofNat v := by
  unfold qnL
  cases Nat.blt v 9223372036854775808
  · show Int64.ofInt ((v : Int) - 18446744073709551616) = _
    rw [Int64.ofInt_sub, show Int64.ofInt 18446744073709551616 = 0 by decide, Int64.sub_zero]; rfl
  · rfl
theorem qnL_rng {v : Nat} (h : v < 18446744073709551616) : rngL (qnL v) := by
  unfold qnL
  cases hb : Nat.blt v 9223372036854775808
  · have : ¬ v < 9223372036854775808 := fun q => by
      have : Nat.blt v 9223372036854775808 = true := Nat.ble_eq_true_of_le q
      rw [this] at hb; cases hb
    exact ⟨by show _ ≤ (v : Int) - 18446744073709551616; omega, by show (v : Int) - 18446744073709551616 < _; omega⟩
  · have := blt_p hb
    exact ⟨by show _ ≤ (v : Int); omega, by show (v : Int) < _; omega⟩
theorem b8_of {n : Int} (h : qsm 128 n = true) : (Int8.ofInt n).toInt32 = Int32.ofInt n := by
  have := qsm_p h
  apply Int32.toInt_inj.mp
  rw [Int8.toInt_toInt32, iI_to ⟨by omega, by omega⟩, Int8.toInt_ofInt]
  exact Int.bmod_eq_of_le (by have e : Int8.size = 256 := rfl; rw [e]; omega) (by have e : Int8.size = 256 := rfl; rw [e]; omega)
theorem b16_of {n : Int} (h : qsm 32768 n = true) : (Int16.ofInt n).toInt32 = Int32.ofInt n := by
  have := qsm_p h
  apply Int32.toInt_inj.mp
  rw [Int16.toInt_toInt32, iI_to ⟨by omega, by omega⟩, Int16.toInt_ofInt]
  exact Int.bmod_eq_of_le (by have e : Int16.size = 65536 := rfl; rw [e]; omega) (by have e : Int16.size = 65536 := rfl; rw [e]; omega)
theorem qd_of {a b : Int} (ha : rng a) (hb : rng b) : Int32.ofInt a / Int32.ofInt b = Int32.ofInt (qd a b) := by
  apply Int32.toInt_inj.mp
  rw [Int32.toInt_div, iI_to ha, iI_to hb, Int32.toInt_ofInt]; rfl
theorem i_ne0 {b : Int} (hb : rng b) (h : b ≠ 0) : Int32.ofInt b ≠ 0 := by
  intro q
  apply h
  have := congrArg Int32.toInt q
  rw [iI_to hb] at this
  exact this
theorem l_ne0 {b : Int} (hb : rngL b) (h : b ≠ 0) : Int64.ofInt b ≠ 0 := by
  intro q
  apply h
  have := congrArg Int64.toInt q
  rw [iL_to hb] at this
  exact this
theorem qm_of {a b : Int} (ha : rng a) (hb : rng b) : Int32.ofInt a - Int32.ofInt a / Int32.ofInt b * Int32.ofInt b = Int32.ofInt (qm a b) := by
  rw [qd_of ha hb, ← Int32.ofInt_mul, ← Int32.ofInt_sub]
  congr 1
  unfold qd qm
  have := Int.tmod_add_mul_tdiv a b
  rw [Int.mul_comm] at this
  omega
theorem emod_le' {a b : Int} (h : 0 ≤ a) : a % b ≤ a := by
  obtain ⟨n, rfl⟩ := Int.eq_ofNat_of_zero_le h
  rcases Int.natAbs_eq b with e | e
  · rw [e]
    exact Int.ofNat_le.mpr (Nat.mod_le _ _)
  · rw [e, Int.emod_neg]
    exact Int.ofNat_le.mpr (Nat.mod_le _ _)
theorem tmod_b {a b lo hi : Int} (h1 : lo ≤ a) (h2 : a < hi) (h3 : lo ≤ 0) (h4 : 0 < hi) : lo ≤ Int.tmod a b ∧ Int.tmod a b < hi := by
  rcases Int.le_total 0 a with h | h
  · have e1 := Int.tmod_nonneg b h
    have e2 : Int.tmod a b ≤ a := by
      rw [Int.tmod_eq_emod_of_nonneg h]
      exact emod_le' h
    exact ⟨by omega, by omega⟩
  · have h' : 0 ≤ -a := by omega
    have e1 := Int.tmod_nonneg b h'
    have e2 : Int.tmod (-a) b ≤ -a := by
      rw [Int.tmod_eq_emod_of_nonneg h']
      exact emod_le' h'
    rw [Int.neg_tmod] at e1 e2
    exact ⟨by omega, by omega⟩
theorem qm_rng {a b : Int} (ha : rng a) : rng (qm a b) := tmod_b ha.1 ha.2 (by decide) (by decide)
theorem jc_of {a b : Int} (ha : rngL a) (hb : rngL b) : lg_cmp (Int64.ofInt a) (Int64.ofInt b) = Int32.ofInt (jc a b) := by
  unfold lg_cmp jc
  simp only [gt_iff_lt, Int64.lt_iff_toInt_lt, ← Int64.toInt_inj, iL_to ha, iL_to hb]
  by_cases h : a = b
  · subst h
    rw [if_neg (Int.lt_irrefl a), if_pos rfl, if_pos rfl]; rfl
  · by_cases h2 : b < a
    · rw [if_pos h2, if_neg h, if_pos h2]; rfl
    · rw [if_neg h2, if_neg h, if_neg h, if_neg h2]; rfl
theorem jc_rng (a b : Int) : rng (jc a b) := by
  unfold jc
  split
  · exact ⟨by decide, by decide⟩
  · split <;> exact ⟨by decide, by decide⟩
theorem l2i_of (x : Int) : (Int64.ofInt x).toInt32 = Int32.ofInt x := by
  apply Int32.toBitVec_inj.mp
  show ((BitVec.ofInt 64 x).signExtend 32) = BitVec.ofInt 32 x
  apply BitVec.eq_of_toInt_eq
  rw [BitVec.toInt_signExtend, BitVec.toInt_ofInt, BitVec.toInt_ofInt]
  show Int.bmod (Int.bmod x (2 ^ 64)) (2 ^ 32) = Int.bmod x (2 ^ 32)
  exact Int.bmod_bmod_of_dvd (by decide)
theorem i2c_of (x : Int) : ((Int32.ofInt x).toUInt32 % 65536).toInt32 = Int32.ofInt (x % 65536) := by
  apply Int32.toInt_inj.mp
  have h0 : 0 ≤ x % 65536 := Int.emod_nonneg _ (by decide)
  have h1 : x % 65536 < 65536 := Int.emod_lt_of_pos _ (by decide)
  rw [iI_to ⟨by omega, by omega⟩]
  have e : (((Int32.ofInt x).toUInt32 % 65536).toInt32).toInt = Int.bmod (((Int32.ofInt x).toUInt32 % 65536).toNat : Int) (2 ^ 32) := by
    show BitVec.toInt ((Int32.ofInt x).toUInt32 % 65536).toBitVec = _
    rw [BitVec.toInt_eq_toNat_bmod]; rfl
  rw [e]
  have e2 : ((Int32.ofInt x).toUInt32 % 65536).toNat = (x % 65536).toNat := by
    rw [UInt32.toNat_mod]
    show ((Int32.ofInt x).toUInt32.toNat) % 65536 = _
    have e3 : (Int32.ofInt x).toUInt32.toNat = (x % 4294967296).toNat := by
      show (BitVec.ofInt 32 x).toNat = _
      rw [BitVec.toNat_ofInt]; rfl
    rw [e3]
    omega
  rw [e2]
  have : ((x % 65536).toNat : Int) = x % 65536 := by omega
  rw [this]
  exact Int.bmod_eq_of_le (by omega) (by omega)
theorem nar1 {z : Int} (h : z = 0 ∨ z = 1) : vp_nar .boolean (Int32.ofInt z) = Int32.ofInt z := by
  rcases h with rfl | rfl <;> rfl
theorem nar2 {z : Int} (h : -128 ≤ z ∧ z < 128) : vp_nar .byte (Int32.ofInt z) = Int32.ofInt z := by
  show (Int32.ofInt z).toInt8.toInt32 = Int32.ofInt z
  apply Int32.toInt_inj.mp
  rw [Int8.toInt_toInt32, Int32.toInt_toInt8, iI_to ⟨by omega, by omega⟩]
  exact Int.bmod_eq_of_le (by have e : Int8.size = 256 := rfl; omega) (by have e : Int8.size = 256 := rfl; omega)
theorem max_of {a b : Int} (ha : rng a) (hb : rng b) : (if Int32.ofInt a < Int32.ofInt b then Int32.ofInt b else Int32.ofInt a) = Int32.ofInt (max a b) := by
  by_cases hlt : a < b
  · rw [if_pos (Int32.lt_iff_toInt_lt.mpr (by rw [iI_to ha, iI_to hb]; exact hlt)), Int.max_eq_right (by omega)]
  · rw [if_neg (fun q => hlt (by have := Int32.lt_iff_toInt_lt.mp q; rw [iI_to ha, iI_to hb] at this; exact this)), Int.max_eq_left (by omega)]
theorem min_of {a b : Int} (ha : rng a) (hb : rng b) : (if Int32.ofInt b < Int32.ofInt a then Int32.ofInt b else Int32.ofInt a) = Int32.ofInt (min a b) := by
  by_cases hlt : b < a
  · rw [if_pos (Int32.lt_iff_toInt_lt.mpr (by rw [iI_to ha, iI_to hb]; exact hlt)), Int.min_eq_right (by omega)]
  · rw [if_neg (fun q => hlt (by have := Int32.lt_iff_toInt_lt.mp q; rw [iI_to ha, iI_to hb] at this; exact this)), Int.min_eq_left (by omega)]
theorem abs_of {a : Int} (ha : rng a) : (if (0 : Int32) ≤ Int32.ofInt a then Int32.ofInt a else 0 - Int32.ofInt a) = Int32.ofInt (if 0 ≤ a then a else -a) := by
  have e0 : (0 : Int32).toInt = 0 := rfl
  by_cases h : 0 ≤ a
  · rw [if_pos (Int32.le_iff_toInt_le.mpr (by rw [iI_to ha, e0]; exact h)), if_pos h]
  · rw [if_neg (fun q => h (by have := Int32.le_iff_toInt_le.mp q; rw [iI_to ha, e0] at this; exact this)), if_neg h, Int32.ofInt_neg, Int32.zero_sub]
theorem max_rng {a b : Int} (ha : rng a) (hb : rng b) : rng (max a b) := ⟨by have := ha.1; omega, by have := ha.2; have := hb.2; omega⟩
theorem min_rng {a b : Int} (ha : rng a) (hb : rng b) : rng (min a b) := ⟨by have := ha.1; have := hb.1; omega, by have := ha.2; omega⟩
end
section
section QXOK
variable {L : List qY} {T : List (Nat × Nat × Nat)} {md : Bool} {d : Nat} {rows : List pv_R} {Q : Option Value → pv_H → Prop} {nx : Nat → qL → List qV → qA → Prop}
def qgood (L : List qY) (d : Nat) (rows : List pv_R) (Q : Option Value → pv_H → Prop) (nx : Nat → qL → List qV → qA → Prop) : Prop := ∀ k lo st A, qokA L A → qokl lo → qoks st → nx k lo st A → wG d rows k (ql lo) (st.map qv) (qH L A) Q
variable {k : Nat} {lo : qL} {st : List qV} {A : qA} {pc len : Nat} {xs ps : List Nat} {i : Instr}
theorem qlod0 {n : Nat} (hn : qgood L d rows Q nx) (hr : rows[k]? = some (pc, i, len, xs, ps)) (hA : qokA L A) (hl : qokl lo) (hs : qoks st) (hx : qlod 0 lo n k st A nx) (h1 : ∀ s, pv_ret i xs s = none) (h2 : ∀ s h, pv_inv i xs s h = none) (h3 : ∀ l s h, pv_x i xs k l s h = pv_lod l n k 0 s h) : wG d rows k (ql lo) (st.map qv) (qH L A) Q := by
  unfold qlod at hx
  split at hx
  · next z e _ =>
    refine wG_step hr (h1 _) (h2 _ _) (k' := k + 1) (lo' := ql lo) (st' := qv (.inl z) :: st.map qv) (h1 := qH L A) ?_ (hn _ _ _ _ hA hl (qoks_c (qget_ok hl.1 e) hs) hx)
    rw [h3]; unfold pv_lod; rw [qget_p, e]; rfl
  · next e h => cases h
  · next e h => cases h
  · exact hx.elim
theorem qlod1 {n : Nat} (hn : qgood L d rows Q nx) (hr : rows[k]? = some (pc, i, len, xs, ps)) (hA : qokA L A) (hl : qokl lo) (hs : qoks st) (hx : qlod 1 lo n k st A nx) (h1 : ∀ s, pv_ret i xs s = none) (h2 : ∀ s h, pv_inv i xs s h = none) (h3 : ∀ l s h, pv_x i xs k l s h = pv_lod l n k 1 s h) : wG d rows k (ql lo) (st.map qv) (qH L A) Q := by
  unfold qlod at hx
  split at hx
  · next e h => cases h
  · next z e _ =>
    refine wG_step hr (h1 _) (h2 _ _) (k' := k + 1) (lo' := ql lo) (st' := qv (nl z) :: st.map qv) (h1 := qH L A) ?_ (hn _ _ _ _ hA hl (qoks_c (qget_ok hl.1 e) hs) hx)
    rw [h3]; unfold pv_lod; rw [qget_p, e]; rfl
  · next e h => cases h
  · exact hx.elim
theorem qlod2 {n : Nat} (hn : qgood L d rows Q nx) (hr : rows[k]? = some (pc, i, len, xs, ps)) (hA : qokA L A) (hl : qokl lo) (hs : qoks st) (hx : qlod 2 lo n k st A nx) (h1 : ∀ s, pv_ret i xs s = none) (h2 : ∀ s h, pv_inv i xs s h = none) (h3 : ∀ l s h, pv_x i xs k l s h = pv_lod l n k 2 s h) : wG d rows k (ql lo) (st.map qv) (qH L A) Q := by
  unfold qlod at hx
  split at hx
  · next e h => cases h
  · next e h => cases h
  · next z e _ =>
    refine wG_step hr (h1 _) (h2 _ _) (k' := k + 1) (lo' := ql lo) (st' := qv (rf z) :: st.map qv) (h1 := qH L A) ?_ (hn _ _ _ _ hA hl (qoks_c (qget_ok hl.1 e) hs) hx)
    rw [h3]; unfold pv_lod; rw [qget_p, e]; rfl
  · exact hx.elim
theorem qsto0 {n : Nat} (hn : qgood L d rows Q nx) (hr : rows[k]? = some (pc, i, len, xs, ps)) (hA : qokA L A) (hl : qokl lo) (hs : qoks st) (hx : qsto 0 lo n k st A nx) (h1 : ∀ s, pv_ret i xs s = none) (h2 : ∀ s h, pv_inv i xs s h = none) (h3 : ∀ l s h, pv_x i xs k l s h = pv_sto l n k 0 s h) : wG d rows k (ql lo) (st.map qv) (qH L A) Q := by
  unfold qsto at hx
  split at hx
  · next z r _ =>
    refine wG_step hr (h1 _) (h2 _ _) (k' := k + 1) (lo' := ql (qset1 lo n (.inl z))) (st' := r.map qv) (h1 := qH L A) ?_ (hn _ _ _ _ hA (qokl_1 hl (qoks_h hs)) (qoks_t hs) hx)
    rw [h3, qset1_p]; rfl
  · next h => cases h
  · next h => cases h
  · exact hx.elim
theorem qsto1 {n : Nat} (hn : qgood L d rows Q nx) (hr : rows[k]? = some (pc, i, len, xs, ps)) (hA : qokA L A) (hl : qokl lo) (hs : qoks st) (hx : qsto 1 lo n k st A nx) (h1 : ∀ s, pv_ret i xs s = none) (h2 : ∀ s h, pv_inv i xs s h = none) (h3 : ∀ l s h, pv_x i xs k l s h = pv_sto l n k 1 s h) : wG d rows k (ql lo) (st.map qv) (qH L A) Q := by
  unfold qsto at hx
  split at hx
  · next h => cases h
  · next z r _ =>
    refine wG_step hr (h1 _) (h2 _ _) (k' := k + 1) (lo' := ql (qset2 lo n (nl z))) (st' := r.map qv) (h1 := qH L A) ?_ (hn _ _ _ _ hA (qokl_2 hl (qoks_h hs)) (qoks_t hs) hx)
    rw [h3, qset2_p]; rfl
  · next h => cases h
  · exact hx.elim
theorem qsto2 {n : Nat} (hn : qgood L d rows Q nx) (hr : rows[k]? = some (pc, i, len, xs, ps)) (hA : qokA L A) (hl : qokl lo) (hs : qoks st) (hx : qsto 2 lo n k st A nx) (h1 : ∀ s, pv_ret i xs s = none) (h2 : ∀ s h, pv_inv i xs s h = none) (h3 : ∀ l s h, pv_x i xs k l s h = pv_sto l n k 2 s h) : wG d rows k (ql lo) (st.map qv) (qH L A) Q := by
  unfold qsto at hx
  split at hx
  · next h => cases h
  · next h => cases h
  · next z r _ =>
    refine wG_step hr (h1 _) (h2 _ _) (k' := k + 1) (lo' := ql (qset1 lo n (rf z))) (st' := r.map qv) (h1 := qH L A) ?_ (hn _ _ _ _ hA (qokl_1 hl (qoks_h hs)) (qoks_t hs) hx)
    rw [h3, qset1_p]; rfl
  · exact hx.elim
theorem qi2_ok {t : Bool} {f : Int → Int → Int} {g : Int32 → Int32 → Int32} (hn : qgood L d rows Q nx) (hr : rows[k]? = some (pc, i, len, xs, ps)) (hA : qokA L A) (hl : qokl lo) (hs : qoks st) (hx : qi2 t f k lo st A nx) (h1 : ∀ s, pv_ret i xs s = none) (h2 : ∀ s h, pv_inv i xs s h = none) (h3 : ∀ l s h, pv_x i xs k l s h = pv_i2 g k l s h) (hg : ∀ x y, g (Int32.ofInt x) (Int32.ofInt y) = Int32.ofInt (f x y)) (ht : t = true → ∀ x y, rng (f x y)) : wG d rows k (ql lo) (st.map qv) (qH L A) Q := by
  unfold qi2 at hx
  split at hx
  · next b y b' x r =>
    refine wG_step hr (h1 _) (h2 _ _) (k' := k + 1) (lo' := ql lo) (st' := qv (.inl (t, f x y)) :: r.map qv) (h1 := qH L A) ?_ (hn _ _ _ _ hA hl (qoks_c ?_ (qoks_t (qoks_t hs))) (hx _ rfl))
    · rw [h3]
      show some (k + 1, ql lo, Value.int (g (Int32.ofInt x) (Int32.ofInt y)) :: r.map qv, qH L A) = _
      rw [hg]; rfl
    · cases t
      · trivial
      · exact ht rfl x y
  · exact hx.elim
theorem qj2_ok {f : Int → Int → Int} {g : Int64 → Int64 → Int64} (hn : qgood L d rows Q nx) (hr : rows[k]? = some (pc, i, len, xs, ps)) (hA : qokA L A) (hl : qokl lo) (hs : qoks st) (hx : qj2 f k lo st A nx) (h1 : ∀ s, pv_ret i xs s = none) (h2 : ∀ s h, pv_inv i xs s h = none) (h3 : ∀ l s h, pv_x i xs k l s h = pv_l2 g k l s h) (hg : ∀ x y, g (Int64.ofInt x) (Int64.ofInt y) = Int64.ofInt (f x y)) (ht : ∀ x y, rngL (f x y)) : wG d rows k (ql lo) (st.map qv) (qH L A) Q := by
  unfold qj2 at hx
  split at hx
  · next y x r =>
    refine wG_step hr (h1 _) (h2 _ _) (k' := k + 1) (lo' := ql lo) (st' := qv (nl (f x y)) :: r.map qv) (h1 := qH L A) ?_ (hn _ _ _ _ hA hl (qoks_c (show qok (nl (f x y)) from ht x y) (qoks_t (qoks_t hs))) (hx _ rfl))
    rw [h3]
    show some (k + 1, ql lo, Value.long (g (Int64.ofInt x) (Int64.ofInt y)) :: r.map qv, qH L A) = _
    rw [hg]; rfl
  · exact hx.elim
theorem qjs_ok {f : Int → Int → Int} {g : Int64 → Int32 → Int64} (hn : qgood L d rows Q nx) (hr : rows[k]? = some (pc, i, len, xs, ps)) (hA : qokA L A) (hl : qokl lo) (hs : qoks st) (hx : qjs f k lo st A nx) (h1 : ∀ s, pv_ret i xs s = none) (h2 : ∀ s h, pv_inv i xs s h = none) (h3 : ∀ l s h, pv_x i xs k l s h = pv_lsh g k l s h) (hg : ∀ x y, g (Int64.ofInt x) (Int32.ofInt y) = Int64.ofInt (f x y)) (ht : ∀ x y, rngL (f x y)) : wG d rows k (ql lo) (st.map qv) (qH L A) Q := by
  unfold qjs at hx
  split at hx
  · next b y x r =>
    refine wG_step hr (h1 _) (h2 _ _) (k' := k + 1) (lo' := ql lo) (st' := qv (nl (f x y)) :: r.map qv) (h1 := qH L A) ?_ (hn _ _ _ _ hA hl (qoks_c (show qok (nl (f x y)) from ht x y) (qoks_t (qoks_t hs))) (hx _ rfl))
    rw [h3]
    show some (k + 1, ql lo, Value.long (g (Int64.ofInt x) (Int32.ofInt y)) :: r.map qv, qH L A) = _
    rw [hg]; rfl
  · exact hx.elim
/-- arrays -/
theorem qald_ok {t : Nat} (hn : qgood L d rows Q nx) (hr : rows[k]? = some (pc, i, len, xs, ps)) (hA : qokA L A) (hl : qokl lo) (hs : qoks st) (hx : qald L t k lo st A nx) (h1 : ∀ s, pv_ret i xs s = none) (h2 : ∀ s h, pv_inv i xs s h = none) (h3 : ∀ l s h, pv_x i xs k l s h = pv_ald t k l s h) : wG d rows k (ql lo) (st.map qv) (qH L A) Q := by
  unfold qald at hx
  split at hx
  · next b z a r =>
    split at hx
    · next t' n ks e =>
      obtain ⟨hb, ⟨hz0, hz1⟩, hx2⟩ := bif_p hx
      clear hx
      simp only [Bool.and_eq_true] at hb
      have ht := beq_p hb.1
      have hn' := blt_p hb.2
      subst ht
      refine wG_step hr (h1 _) (h2 _ _) (k' := k + 1) (lo' := ql lo) (st' := qv (ni (A a z)) :: r.map qv) (h1 := qH L A) ?_ (hn _ _ _ _ hA hl (qoks_c (show qok (ni (A a z)) from (hA a z).2 (qlng_0 e)) (qoks_t (qoks_t hs))) (hx2 _ ((hA a z).2 (qlng_0 e)) rfl))
      rw [h3]
      show (match (qH L A)[a]? with
        | some (.inl (t'', n, .inl f)) => if t'' = t' then (if Int32.ofInt z < 0 ∨ n ≤ (Int32.ofInt z).toNatClampNeg then none else some (k + 1, ql lo, Value.int (f (Int32.ofInt z).toNatClampNeg) :: r.map qv, qH L A)) else none
        | _ => none) = _
      rw [qH_at e]
      show (if t' = t' then (if Int32.ofInt z < 0 ∨ n ≤ (Int32.ofInt z).toNatClampNeg then none else some (k + 1, ql lo, Value.int (Int32.ofInt (A a ((Int32.ofInt z).toNatClampNeg : Nat))) :: r.map qv, qH L A)) else none) = _
      rw [if_pos rfl, if_neg (iI_in hz0 hz1 (by omega)), iI_clamp hz0 (by omega), show ((z.toNat : Nat) : Int) = z by omega]; rfl
    · exact hx.elim
  · exact hx.elim
theorem qstA {t n : Nat} {ks : List (Nat × Nat)} {a : Nat} {z v : Int} {x : Int32} (e : L[a]? = some (0, t, n, ks)) (h0 : 0 ≤ z) (h1 : z < n) (h2 : n < 2147483648) (hx : Int32.ofInt v = x) : (qH L A).set a (.inl (t, n, .inl (upd (fun j : Nat => Int32.ofInt (A a j)) (Int32.ofInt z).toNatClampNeg x))) = qH L (qu A a z v) := by
  refine qH_set e ?_ (fun b hb => qu_ne hb)
  rw [iI_clamp h0 (by omega), qu_upd h0 hx]; rfl
theorem qast_ok {t : Nat} {g : Int32 → Int32} {b : Bool} {y z v : Int} {a n : Nat} {ks : List (Nat × Nat)} {r : List qV} (hn : qgood L d rows Q nx) (hr : rows[k]? = some (pc, i, len, xs, ps)) (hA : qokA L A) (hl : qokl lo) (hs : qoks r) (e : L[a]? = some (0, t, n, ks)) (h0 : 0 ≤ z) (h9 : z < n) (hn9 : n < 2147483648) (hv : rng v) (hg : Int32.ofInt v = g (Int32.ofInt y)) (hx : nx (k + 1) lo r (qu A a z v)) (h1 : ∀ s, pv_ret i xs s = none) (h2 : ∀ s h, pv_inv i xs s h = none) (h3 : ∀ l s h, pv_x i xs k l s h = pv_ast t g k l s h) : wG d rows k (ql lo) (.int (Int32.ofInt y) :: .int (Int32.ofInt z) :: .ref a :: r.map qv) (qH L A) Q := by
  refine wG_step hr (h1 _) (h2 _ _) (k' := k + 1) (lo' := ql lo) (st' := r.map qv) (h1 := qH L (qu A a z v)) ?_ (hn _ _ _ _ (qokA_qu hA (rng_L hv) (fun _ => hv)) hl hs hx)
  rw [h3]
  show (match (qH L A)[a]? with
    | some (.inl (t'', n, .inl f)) => if t'' = t then (if Int32.ofInt z < 0 ∨ n ≤ (Int32.ofInt z).toNatClampNeg then none else some (k + 1, ql lo, r.map qv, (qH L A).set a (.inl (t'', n, .inl (upd f (Int32.ofInt z).toNatClampNeg (g (Int32.ofInt y))))))) else none
    | _ => none) = _
  rw [qH_at e]
  show (if t = t then (if Int32.ofInt z < 0 ∨ n ≤ (Int32.ofInt z).toNatClampNeg then none else some (k + 1, ql lo, r.map qv, (qH L A).set a (.inl (t, n, .inl (upd (fun j : Nat => Int32.ofInt (A a j)) (Int32.ofInt z).toNatClampNeg (g (Int32.ofInt y))))))) else none) = _
  rw [if_pos rfl, if_neg (iI_in h0 h9 (by omega)), qstA e h0 h9 hn9 hg]
/-- fields -/
theorem qgf_ok {idx : Nat} (hn : qgood L d rows Q nx) (hr : rows[k]? = some (pc, .getfield idx, len, xs, ps)) (hA : qokA L A) (hl : qokl lo) (hs : qoks st) (hx : qgf L T xs k lo st A nx) : wG d rows k (ql lo) (st.map qv) (qH L A) Q := by
  unfold qgf at hx
  split at hx
  · next ci j a r =>
    split at hx
    · next ci' n ks e =>
      obtain ⟨hb, hx2⟩ := bif_p hx
      clear hx
      have hb2 := beq_p hb
      clear hb
      subst hb2
      have key : ∀ (kd : Nat × Nat) (w : qV), ks[j]? = some kd → qfv A a j kd = qv w → qok w → nx (k + 1) lo (w :: r) A → wG d rows k (ql lo) ((rf a :: r).map qv) (qH L A) Q := by
        intro kd w h1 h2 h3 h4
        refine wG_step hr rfl rfl (k' := k + 1) (lo' := ql lo) (st' := qv w :: r.map qv) (h1 := qH L A) ?_ (hn _ _ _ _ hA hl (qoks_c h3 (qoks_t hs)) h4)
        show (match (qH L A)[a]? with
          | some (.inr (c', fs)) => if c' = ci' then (match fs[j]? with
            | some v => some (k + 1, ql lo, v :: r.map qv, qH L A)
            | none => none) else none
          | _ => none) = _
        rw [qH_at e]
        show (if ci' = ci' then (match (qfs A a 0 ks)[j]? with
            | some v => some (k + 1, ql lo, v :: r.map qv, qH L A)
            | none => none) else none) = _
        rw [if_pos rfl, qfs_at h1, h2]
      split at hx2
      · next u9 h1 =>
        cases hq : qlng L a (fd j)
        · rw [hq] at hx2
          exact key (0, u9) (ni (A a (fd j))) h1 rfl ((hA a (fd j)).2 hq) (hx2 _ ((hA a (fd j)).2 hq) rfl)
        · rw [hq] at hx2; exact hx2.elim
      · next u9 h1 => exact key (1, u9) (nl (A a (fd j))) h1 rfl (hA a (fd j)).1 (hx2 _ rfl)
      · next u9 h1 =>
        split at hx2
        · next m e2 =>
          refine key (2, u9) (rf m) h1 ?_ trivial hx2.2
          have h9 : A a (j : Int) = m := hx2.1
          unfold qfv
          rw [h9, if_neg (by omega)]; rfl
        · exact hx2.elim
      · next u9 m n0 n1 n2 h1 =>
        refine key (u9, m) (rf m) h1 ?_ trivial hx2
        rcases u9 with _ | _ | _ | u9
        · exact absurd rfl n0
        · exact absurd rfl n1
        · exact absurd rfl n2
        · rfl
      · exact hx2.elim
    · exact hx.elim
  · exact hx.elim
theorem qpf_ok {idx : Nat} (hn : qgood L d rows Q nx) (hr : rows[k]? = some (pc, .putfield idx, len, xs, ps)) (hA : qokA L A) (hl : qokl lo) (hs : qoks st) (hx : qpf L md xs k lo st A nx) : wG d rows k (ql lo) (st.map qv) (qH L A) Q := by
  unfold qpf at hx
  split at hx
  · next ci j v a r =>
    split at hx
    · next ci' n ks e =>
      obtain ⟨hb, hx2⟩ := bif_p hx
      clear hx
      have hb2 := beq_p hb
      clear hb
      subst hb2
      have key : ∀ (kd : Nat × Nat) (z : Int), ks[j]? = some kd → qfv (qu A a (fd j) z) a j kd = qv v → narrow (pv_tyX ci' j) (qv v) = qv v → fits (pv_tyX ci' j) (qv v) = true → qokA L (qu A a (fd j) z) → nx (k + 1) lo r (qu A a (fd j) z) → wG d rows k (ql lo) ((v :: rf a :: r).map qv) (qH L A) Q := by
        intro kd z h1 h2 h3 h4 h5 h6
        refine wG_step hr rfl rfl (k' := k + 1) (lo' := ql lo) (st' := r.map qv) (h1 := qH L (qu A a (fd j) z)) ?_ (hn _ _ _ _ h5 hl (qoks_t (qoks_t hs)) h6)
        show (match (qH L A)[a]? with
          | some (.inr (c', fs)) => if c' = ci' ∧ j < fs.length ∧ narrow (pv_tyX ci' j) (qv v) = qv v ∧ fits (pv_tyX ci' j) (qv v) = true then some (k + 1, ql lo, r.map qv, (qH L A).set a (.inr (c', fs.set j (qv v)))) else none
          | _ => none) = _
        rw [qH_at e]
        show (if ci' = ci' ∧ j < (qfs A a 0 ks).length ∧ narrow (pv_tyX ci' j) (qv v) = qv v ∧ fits (pv_tyX ci' j) (qv v) = true then some (k + 1, ql lo, r.map qv, (qH L A).set a (.inr (ci', (qfs A a 0 ks).set j (qv v)))) else none) = _
        rw [if_pos ⟨rfl, (List.getElem?_eq_some_iff.mp (qfs_at (A := A) (r := a) h1)).1, h3, h4⟩, qfs_set h1 h2]
        rw [qH_set (A' := qu A a (fd j) z) (e := .inr (ci', qfs (qu A a (fd j) z) a 0 ks)) e rfl (fun b hb => qu_ne hb)]
      have ty : ∀ m, qty ci' j = m → (m = 0 → pv_tyX ci' j = .int) ∧ (m = 1 → pv_tyX ci' j = .long) ∧ (m = 2 → ∃ o, pv_tyX ci' j = .object o) := by
        intro m hm
        subst hm
        unfold qty
        split
        · next h => exact ⟨fun _ => h, fun q => absurd q (by decide), fun q => absurd q (by decide)⟩
        · next h => exact ⟨fun q => absurd q (by decide), fun _ => h, fun q => absurd q (by decide)⟩
        · next o h => exact ⟨fun q => absurd q (by decide), fun q => absurd q (by decide), fun _ => ⟨o, h⟩⟩
        · exact ⟨fun q => absurd q (by decide), fun q => absurd q (by decide), fun q => absurd q (by decide)⟩
      split at hx2
      · next u9 t x h1 h2 =>
        obtain ⟨z, z1, z2, z3⟩ := qput_p (qoks_h hs) hx2
        have ht := (ty _ h2).1 rfl
        refine key (0, u9) z h1 ?_ (by rw [ht]; rfl) (by rw [ht]; rfl) (qokA_qu hA (rng_L z1) (fun _ => z1)) (z3 _ rfl)
        show Value.int (Int32.ofInt (qu A a (fd j) z a (fd j))) = _
        rw [qu_at, z2]; rfl
      · next u9 z h1 h2 =>
        obtain ⟨hb, hx3⟩ := bif_p hx2
        have ht := (ty _ h2).2.1 rfl
        refine key (1, u9) z h1 ?_ (by rw [ht]; rfl) (by rw [ht]; rfl) (qokA_qu hA (qoks_h hs) (fun q => by rw [hb] at q; cases q)) (hx3 _ rfl)
        show Value.long (Int64.ofInt (qu A a (fd j) z a (fd j))) = _
        rw [qu_at]; rfl
      · next u9 m h1 h2 =>
        obtain ⟨hb, hx3⟩ := bif_p hx2
        have hb9 := blt_p hb
        obtain ⟨o, ht⟩ := (ty _ h2).2.2 rfl
        have hr9 : rng (m : Int) := ⟨by omega, by omega⟩
        refine key (2, u9) m h1 ?_ (by rw [ht]; rfl) (by rw [ht]; rfl) (qokA_qu hA (rng_L hr9) (fun _ => hr9)) (hx3 _ rfl)
        show (if qu A a (fd j) m a (fd j) < 0 then Value.null else Value.ref (qu A a (fd j) m a (fd j)).toNat) = _
        rw [qu_at, if_neg (by omega)]; rfl
      · exact hx2.elim
    · exact hx.elim
  · exact hx.elim
end QXOK
end
section
section QXOK2
variable {L : List qY} {T : List (Nat × Nat × Nat)} {md : Bool} {d : Nat} {rows : List pv_R} {Q : Option Value → pv_H → Prop} {nx : Nat → qL → List qV → qA → Prop}
variable {k : Nat} {lo : qL} {st : List qV} {A : qA} {pc len : Nat} {xs ps : List Nat} {i : Instr}
theorem qsw_p {x : Int} {f : Nat → Prop} : ∀ (ts : List Nat) (c : Int) (n t : Nat), qsw x f ts c → ts[n]? = some t → x = c + n → f t
  | u :: ts, c, 0, t, h, e, hx => by
    have e : some u = some t := e
    cases e
    exact h.1 (by omega)
  | u :: ts, c, n + 1, t, h, e, hx => qsw_p ts (c + 1) n t h.2 e (by omega)
theorem qokA_cpy {a0 a n0 n1 : Nat} {k0 k1 : List (Nat × Nat)} {sp dp n : Int} (e0 : L[a0]? = some (0, 0, n0, k0)) (e1 : L[a]? = some (0, 0, n1, k1)) (hA : qokA L A) : qokA L (qcpy A a0 sp a dp n) := by
  intro b j
  unfold qcpy
  split
  · next h =>
    obtain ⟨rfl, _⟩ := h
    exact ⟨(hA _ _).1, fun _ => (hA _ _).2 (qlng_0 e0)⟩
  · exact hA b j
set_option maxHeartbeats 4000000 in
theorem qx_ok (hn : qgood L d rows Q nx) (hr : rows[k]? = some (pc, i, len, xs, ps)) (hA : qokA L A) (hl : qokl lo) (hs : qoks st) (hx : qx L T md i xs k lo st A nx) : wG d rows k (ql lo) (st.map qv) (qH L A) Q := by
  cases i with
  | iconst n => exact wG_step hr rfl rfl (k' := k + 1) (lo' := ql lo) (st' := .int (Int32.ofInt n) :: st.map qv) (h1 := qH L A) rfl (hn _ _ _ _ hA hl (qoks_c (qok_sm n) hs) hx)
  | bipush n =>
    obtain ⟨hb, hx⟩ := bif_p hx
    have hq := qsm_p hb
    refine wG_step hr rfl rfl (k' := k + 1) (lo' := ql lo) (st' := .int (Int32.ofInt n) :: st.map qv) (h1 := qH L A) ?_ (hn _ _ _ _ hA hl (qoks_c (show qok (ni n) from ⟨by omega, by omega⟩) hs) hx)
    simp only [pv_x]; rw [b8_of hb]
  | sipush n =>
    obtain ⟨hb, hx⟩ := bif_p hx
    have hq := qsm_p hb
    refine wG_step hr rfl rfl (k' := k + 1) (lo' := ql lo) (st' := .int (Int32.ofInt n) :: st.map qv) (h1 := qH L A) ?_ (hn _ _ _ _ hA hl (qoks_c (show qok (ni n) from ⟨by omega, by omega⟩) hs) hx)
    simp only [pv_x]; rw [b16_of hb]
  | lconst n =>
    obtain ⟨hb, hx⟩ := bif_p hx
    have hq := blt_p hb
    exact wG_step hr rfl rfl (k' := k + 1) (lo' := ql lo) (st' := .long (Int64.ofInt n) :: st.map qv) (h1 := qH L A) rfl (hn _ _ _ _ hA hl (qoks_c (show qok (nl ((n : Nat) : Int)) from ⟨by omega, by omega⟩) hs) (hx _ rfl))
  | ldc n =>
    simp only [qx] at hx
    split at hx
    · next v =>
      obtain ⟨hb, hx⟩ := bif_p hx
      refine wG_step hr rfl rfl (k' := k + 1) (lo' := ql lo) (st' := .int (Int32.ofInt (qn v)) :: st.map qv) (h1 := qH L A) ?_ (hn _ _ _ _ hA hl (qoks_c (show qok (ni (qn v)) from qn_rng (blt_p hb)) hs) hx)
      simp only [pv_x]; rw [qn_of]
    · next s w =>
      split at hx
      · next b x r =>
        obtain ⟨hb, hx⟩ := bif_p hx
        refine wG_step hr rfl rfl (k' := k + 2) (lo' := ql lo) (st' := .int (Int32.ofInt (qone s x)) :: r.map qv) (h1 := qH L A) ?_ (hn _ _ _ _ hA hl (qoks_c (show qok (ni (qone s x)) from i_rng _) (qoks_t hs)) (hx _ rfl))
        show (if pv_cat (r.map qv) ≤ 4 then some (k + 2, ql lo, Value.int (pv_one s (Int32.ofInt x)) :: r.map qv, qH L A) else none) = _
        rw [if_pos (by rw [qcats_p]; exact Nat.le_of_ble_eq_true hb), qone, Int32.ofInt_toInt]
      · exact hx.elim
    · next s i9 =>
      split at hx
      · next b x e =>
        obtain ⟨hb, hx⟩ := bif_p hx
        refine wG_step hr rfl rfl (k' := k + 4) (lo' := ql lo) (st' := .int (Int32.ofInt (qix s x)) :: st.map qv) (h1 := qH L A) ?_ (hn _ _ _ _ hA hl (qoks_c (show qok (ni (qix s x)) from i_rng _) hs) (hx _ rfl))
        simp only [pv_x]
        rw [qget_p, e]
        show (if pv_cat (st.map qv) ≤ 4 then some (k + 4, ql lo, Value.int (pv_ix s (pv_chr (Int32.ofInt x))) :: st.map qv, qH L A) else none) = _
        rw [if_pos (by rw [qcats_p]; exact Nat.le_of_ble_eq_true hb), qix, Int32.ofInt_toInt]
      · exact hx.elim
    · exact hx.elim
  | ldc_w n =>
    rcases xs with _ | ⟨v, _ | ⟨_, _⟩⟩ <;> try exact hx.elim
    obtain ⟨hb, hx⟩ := bif_p hx
    refine wG_step hr rfl rfl (k' := k + 1) (lo' := ql lo) (st' := .int (Int32.ofInt (qn v)) :: st.map qv) (h1 := qH L A) ?_ (hn _ _ _ _ hA hl (qoks_c (show qok (ni (qn v)) from qn_rng (blt_p hb)) hs) hx)
    simp only [pv_x]; rw [qn_of]
  | ldc2_w n =>
    rcases xs with _ | ⟨v, _ | ⟨_, _⟩⟩ <;> try exact hx.elim
    obtain ⟨hb, hx⟩ := bif_p hx
    refine wG_step hr rfl rfl (k' := k + 1) (lo' := ql lo) (st' := .long (Int64.ofInt (qnL v)) :: st.map qv) (h1 := qH L A) ?_ (hn _ _ _ _ hA hl (qoks_c (show qok (nl (qnL v)) from qnL_rng (blt_p hb)) hs) hx)
    simp only [pv_x]; rw [qnL_of]
  | iload n => exact qlod0 hn hr hA hl hs hx (fun _ => rfl) (fun _ _ => rfl) (fun _ _ _ => rfl)
  | iload_n n => exact qlod0 hn hr hA hl hs hx (fun _ => rfl) (fun _ _ => rfl) (fun _ _ _ => rfl)
  | lload n => exact qlod1 hn hr hA hl hs hx (fun _ => rfl) (fun _ _ => rfl) (fun _ _ _ => rfl)
  | lload_n n => exact qlod1 hn hr hA hl hs hx (fun _ => rfl) (fun _ _ => rfl) (fun _ _ _ => rfl)
  | aload n => exact qlod2 hn hr hA hl hs hx (fun _ => rfl) (fun _ _ => rfl) (fun _ _ _ => rfl)
  | aload_n n => exact qlod2 hn hr hA hl hs hx (fun _ => rfl) (fun _ _ => rfl) (fun _ _ _ => rfl)
  | istore n => exact qsto0 hn hr hA hl hs hx (fun _ => rfl) (fun _ _ => rfl) (fun _ _ _ => rfl)
  | istore_n n => exact qsto0 hn hr hA hl hs hx (fun _ => rfl) (fun _ _ => rfl) (fun _ _ _ => rfl)
  | lstore n => exact qsto1 hn hr hA hl hs hx (fun _ => rfl) (fun _ _ => rfl) (fun _ _ _ => rfl)
  | lstore_n n => exact qsto1 hn hr hA hl hs hx (fun _ => rfl) (fun _ _ => rfl) (fun _ _ _ => rfl)
  | astore n => exact qsto2 hn hr hA hl hs hx (fun _ => rfl) (fun _ _ => rfl) (fun _ _ _ => rfl)
  | astore_n n => exact qsto2 hn hr hA hl hs hx (fun _ => rfl) (fun _ _ => rfl) (fun _ _ _ => rfl)
  | iinc n c =>
    simp only [qx] at hx
    split at hx
    · next b z e =>
      refine wG_step hr rfl rfl (k' := k + 1) (lo' := ql (qset1 lo n (.inl (false, z + c)))) (st' := st.map qv) (h1 := qH L A) ?_ (hn _ _ _ _ hA (qokl_1 hl trivial) hs (hx _ rfl))
      simp only [pv_x]
      rw [qget_p, e, qset1_p]
      show some (k + 1, pv_set1 (ql lo) n (.int (Int32.ofInt z + Int32.ofInt c)), st.map qv, qH L A) = some (k + 1, pv_set1 (ql lo) n (.int (Int32.ofInt (z + c))), st.map qv, qH L A)
      rw [Int32.ofInt_add]
    · exact hx.elim
  | iadd => exact qi2_ok (t := false) (f := fun x y => x + y) hn hr hA hl hs hx (fun _ => rfl) (fun _ _ => rfl) (fun _ _ _ => rfl) (fun x y => (Int32.ofInt_add x y).symm) (fun h => by cases h)
  | isub => exact qi2_ok (t := false) (f := fun x y => x - y) hn hr hA hl hs hx (fun _ => rfl) (fun _ _ => rfl) (fun _ _ _ => rfl) (fun x y => (Int32.ofInt_sub x y).symm) (fun h => by cases h)
  | imul => exact qi2_ok (t := false) (f := fun x y => x * y) hn hr hA hl hs hx (fun _ => rfl) (fun _ _ => rfl) (fun _ _ _ => rfl) (fun x y => (Int32.ofInt_mul x y).symm) (fun h => by cases h)
  | iand => exact qi2_ok hn hr hA hl hs hx (fun _ => rfl) (fun _ _ => rfl) (fun _ _ _ => rfl) (fun x y => (Int32.ofInt_toInt _).symm) (fun _ _ _ => i_rng _)
  | ior => exact qi2_ok hn hr hA hl hs hx (fun _ => rfl) (fun _ _ => rfl) (fun _ _ _ => rfl) (fun x y => (Int32.ofInt_toInt _).symm) (fun _ _ _ => i_rng _)
  | ixor => exact qi2_ok hn hr hA hl hs hx (fun _ => rfl) (fun _ _ => rfl) (fun _ _ _ => rfl) (fun x y => (Int32.ofInt_toInt _).symm) (fun _ _ _ => i_rng _)
  | ishl => exact qi2_ok hn hr hA hl hs hx (fun _ => rfl) (fun _ _ => rfl) (fun _ _ _ => rfl) (fun x y => (Int32.ofInt_toInt _).symm) (fun _ _ _ => i_rng _)
  | ishr => exact qi2_ok hn hr hA hl hs hx (fun _ => rfl) (fun _ _ => rfl) (fun _ _ _ => rfl) (fun x y => (Int32.ofInt_toInt _).symm) (fun _ _ _ => i_rng _)
  | iushr => exact qi2_ok hn hr hA hl hs hx (fun _ => rfl) (fun _ _ => rfl) (fun _ _ _ => rfl) (fun x y => (Int32.ofInt_toInt _).symm) (fun _ _ _ => i_rng _)
  | idiv =>
    simp only [qx] at hx
    split at hx
    · next ty y tx x r =>
      obtain ⟨x', h1, e1, hx⟩ := qput_p (qoks_h (qoks_t hs)) hx
      obtain ⟨y', h2, e2, h3, hx⟩ := qput_p (qoks_h hs) hx
      refine wG_step hr rfl rfl (k' := k + 1) (lo' := ql lo) (st' := .int (Int32.ofInt (qd x' y')) :: r.map qv) (h1 := qH L A) ?_ (hn _ _ _ _ hA hl (qoks_c (show qok (.inl (false, _)) from trivial) (qoks_t (qoks_t hs))) (hx _ rfl))
      show (if Int32.ofInt y = 0 then none else some (k + 1, ql lo, Value.int (Int32.ofInt x / Int32.ofInt y) :: r.map qv, qH L A)) = _
      rw [← e1, ← e2, if_neg (i_ne0 h2 h3), qd_of h1 h2]
    · exact hx.elim
  | irem =>
    simp only [qx] at hx
    split at hx
    · next ty y tx x r =>
      obtain ⟨x', h1, e1, hx⟩ := qput_p (qoks_h (qoks_t hs)) hx
      obtain ⟨y', h2, e2, h3, hx⟩ := qput_p (qoks_h hs) hx
      refine wG_step hr rfl rfl (k' := k + 1) (lo' := ql lo) (st' := .int (Int32.ofInt (qm x' y')) :: r.map qv) (h1 := qH L A) ?_ (hn _ _ _ _ hA hl (qoks_c (show qok (ni (qm x' y')) from qm_rng h1) (qoks_t (qoks_t hs))) (hx _ rfl))
      show (if Int32.ofInt y = 0 then none else some (k + 1, ql lo, Value.int (Int32.ofInt x - Int32.ofInt x / Int32.ofInt y * Int32.ofInt y) :: r.map qv, qH L A)) = _
      rw [← e1, ← e2, if_neg (i_ne0 h2 h3), qm_of h1 h2]
    · exact hx.elim
  | ineg =>
    simp only [qx] at hx
    split at hx
    · next b x r =>
      refine wG_step hr rfl rfl (k' := k + 1) (lo' := ql lo) (st' := .int (Int32.ofInt (-x)) :: r.map qv) (h1 := qH L A) ?_ (hn _ _ _ _ hA hl (qoks_c (show qok (.inl (false, _)) from trivial) (qoks_t hs)) (hx _ rfl))
      show some (k + 1, ql lo, Value.int (- Int32.ofInt x) :: r.map qv, qH L A) = _
      rw [Int32.ofInt_neg]
    · exact hx.elim
  | ladd => exact qj2_ok hn hr hA hl hs hx (fun _ => rfl) (fun _ _ => rfl) (fun _ _ _ => rfl) (fun x y => by rw [jadd, wL_of, Int64.ofInt_add]) (fun _ _ => wL_rng _)
  | lsub => exact qj2_ok hn hr hA hl hs hx (fun _ => rfl) (fun _ _ => rfl) (fun _ _ _ => rfl) (fun x y => by rw [jsub, wL_of, Int64.ofInt_sub]) (fun _ _ => wL_rng _)
  | lmul => exact qj2_ok hn hr hA hl hs hx (fun _ => rfl) (fun _ _ => rfl) (fun _ _ _ => rfl) (fun x y => by rw [jmul, wL_of, Int64.ofInt_mul]) (fun _ _ => wL_rng _)
  | land => exact qj2_ok hn hr hA hl hs hx (fun _ => rfl) (fun _ _ => rfl) (fun _ _ _ => rfl) (fun x y => (Int64.ofInt_toInt _).symm) (fun _ _ => l_rng _)
  | lor => exact qj2_ok hn hr hA hl hs hx (fun _ => rfl) (fun _ _ => rfl) (fun _ _ _ => rfl) (fun x y => (Int64.ofInt_toInt _).symm) (fun _ _ => l_rng _)
  | lxor => exact qj2_ok hn hr hA hl hs hx (fun _ => rfl) (fun _ _ => rfl) (fun _ _ _ => rfl) (fun x y => (Int64.ofInt_toInt _).symm) (fun _ _ => l_rng _)
  | ldiv =>
    simp only [qx] at hx
    split at hx
    · next y x r =>
      obtain ⟨h3, hx⟩ := hx
      have h2 : rngL y := qoks_h hs
      have h1 : rngL x := qoks_h (qoks_t hs)
      refine wG_step hr rfl rfl (k' := k + 1) (lo' := ql lo) (st' := .long (Int64.ofInt (wL (Int.tdiv x y))) :: r.map qv) (h1 := qH L A) ?_ (hn _ _ _ _ hA hl (qoks_c (show qok (nl _) from wL_rng _) (qoks_t (qoks_t hs))) (hx _ rfl))
      show (if Int64.ofInt y = 0 then none else some (k + 1, ql lo, Value.long (Int64.ofInt x / Int64.ofInt y) :: r.map qv, qH L A)) = _
      rw [if_neg (l_ne0 h2 h3), wL_of]
      have e : Int64.ofInt x / Int64.ofInt y = Int64.ofInt (Int.tdiv x y) := by
        apply Int64.toInt_inj.mp
        rw [Int64.toInt_div, iL_to h1, iL_to h2, Int64.toInt_ofInt]
      rw [e]
    · exact hx.elim
  | lrem =>
    simp only [qx] at hx
    split at hx
    · next y x r =>
      obtain ⟨h3, hx⟩ := hx
      have h2 : rngL y := qoks_h hs
      have h1 : rngL x := qoks_h (qoks_t hs)
      refine wG_step hr rfl rfl (k' := k + 1) (lo' := ql lo) (st' := .long (Int64.ofInt (Int.tmod x y)) :: r.map qv) (h1 := qH L A) ?_ (hn _ _ _ _ hA hl (qoks_c (show qok (nl _) from tmod_b h1.1 h1.2 (by decide) (by decide)) (qoks_t (qoks_t hs))) (hx _ rfl))
      show (if Int64.ofInt y = 0 then none else some (k + 1, ql lo, Value.long (Int64.ofInt x - Int64.ofInt x / Int64.ofInt y * Int64.ofInt y) :: r.map qv, qH L A)) = _
      rw [if_neg (l_ne0 h2 h3)]
      have e : Int64.ofInt x / Int64.ofInt y = Int64.ofInt (Int.tdiv x y) := by
        apply Int64.toInt_inj.mp
        rw [Int64.toInt_div, iL_to h1, iL_to h2, Int64.toInt_ofInt]
      rw [e, ← Int64.ofInt_mul, ← Int64.ofInt_sub]
      have := Int.tmod_add_mul_tdiv x y
      rw [Int.mul_comm] at this
      rw [show x - Int.tdiv x y * y = Int.tmod x y by omega]
    · exact hx.elim
  | lshl => exact qjs_ok hn hr hA hl hs hx (fun _ => rfl) (fun _ _ => rfl) (fun _ _ _ => rfl) (fun x y => (Int64.ofInt_toInt _).symm) (fun _ _ => l_rng _)
  | lshr => exact qjs_ok hn hr hA hl hs hx (fun _ => rfl) (fun _ _ => rfl) (fun _ _ _ => rfl) (fun x y => (Int64.ofInt_toInt _).symm) (fun _ _ => l_rng _)
  | lushr => exact qjs_ok hn hr hA hl hs hx (fun _ => rfl) (fun _ _ => rfl) (fun _ _ _ => rfl) (fun x y => (Int64.ofInt_toInt _).symm) (fun _ _ => l_rng _)
  | lcmp =>
    simp only [qx] at hx
    split at hx
    · next y x r =>
      refine wG_step hr rfl rfl (k' := k + 1) (lo' := ql lo) (st' := .int (Int32.ofInt (jc x y)) :: r.map qv) (h1 := qH L A) ?_ (hn _ _ _ _ hA hl (qoks_c (show qok (ni _) from jc_rng x y) (qoks_t (qoks_t hs))) (hx _ rfl))
      show some (k + 1, ql lo, Value.int (lg_cmp (Int64.ofInt x) (Int64.ofInt y)) :: r.map qv, qH L A) = _
      rw [jc_of (qoks_h (qoks_t hs)) (qoks_h hs)]
    · exact hx.elim
  | i2l =>
    simp only [qx] at hx
    split at hx
    · next tx x r =>
      obtain ⟨x', h1, e1, hx⟩ := qput_p (qoks_h hs) hx
      refine wG_step hr rfl rfl (k' := k + 1) (lo' := ql lo) (st' := .long (Int64.ofInt x') :: r.map qv) (h1 := qH L A) ?_ (hn _ _ _ _ hA hl (qoks_c (show qok (nl _) from rng_L h1) (qoks_t hs)) hx)
      show some (k + 1, ql lo, Value.long (Int32.ofInt x).toInt64 :: r.map qv, qH L A) = _
      have e : (Int32.ofInt x').toInt64 = Int64.ofInt x' := by
        apply Int64.toInt_inj.mp
        rw [Int32.toInt_toInt64, iI_to h1, iL_to (rng_L h1)]
      rw [← e1, e]
    · exact hx.elim
  | l2i =>
    simp only [qx] at hx
    split at hx
    · next x r =>
      refine wG_step hr rfl rfl (k' := k + 1) (lo' := ql lo) (st' := .int (Int32.ofInt x) :: r.map qv) (h1 := qH L A) ?_ (hn _ _ _ _ hA hl (qoks_c (show qok (.inl (false, _)) from trivial) (qoks_t hs)) hx)
      show some (k + 1, ql lo, Value.int (Int64.ofInt x).toInt32 :: r.map qv, qH L A) = _
      rw [l2i_of]
    · exact hx.elim
  | i2b =>
    simp only [qx] at hx
    split at hx
    · next b x r =>
      refine wG_step hr rfl rfl (k' := k + 1) (lo' := ql lo) (st' := .int (Int32.ofInt (w8 x)) :: r.map qv) (h1 := qH L A) ?_ (hn _ _ _ _ hA hl (qoks_c (show qok (ni _) from i_rng _) (qoks_t hs)) (hx _ rfl))
      show some (k + 1, ql lo, Value.int (Int32.ofInt x).toInt8.toInt32 :: r.map qv, qH L A) = _
      unfold w8
      rw [Int32.ofInt_toInt]
    · exact hx.elim
  | i2c =>
    simp only [qx] at hx
    split at hx
    · next b x r =>
      refine wG_step hr rfl rfl (k' := k + 1) (lo' := ql lo) (st' := .int (Int32.ofInt (x % 65536)) :: r.map qv) (h1 := qH L A) ?_ (hn _ _ _ _ hA hl (qoks_c (show qok (ni _) from ⟨by omega, by omega⟩) (qoks_t hs)) (hx _ rfl))
      show some (k + 1, ql lo, Value.int ((Int32.ofInt x).toUInt32 % 65536).toInt32 :: r.map qv, qH L A) = _
      rw [i2c_of]
    · exact hx.elim
  | dup =>
    simp only [qx] at hx
    split at hx
    · next v r =>
      obtain ⟨hb, hx⟩ := bif_p hx
      refine wG_step hr rfl rfl (k' := k + 1) (lo' := ql lo) (st' := qv v :: qv v :: r.map qv) (h1 := qH L A) ?_ (hn _ _ _ _ hA hl (qoks_c (qoks_h hs) hs) hx)
      show (if (qv v).category = 1 then some (k + 1, ql lo, qv v :: qv v :: r.map qv, qH L A) else none) = _
      rw [if_pos (by rw [qv_cat]; exact beq_p hb)]
    · exact hx.elim
  | pop =>
    simp only [qx] at hx
    split at hx
    · next v r =>
      obtain ⟨hb, hx⟩ := bif_p hx
      refine wG_step hr rfl rfl (k' := k + 1) (lo' := ql lo) (st' := r.map qv) (h1 := qH L A) ?_ (hn _ _ _ _ hA hl (qoks_t hs) hx)
      show (if (qv v).category = 1 then some (k + 1, ql lo, r.map qv, qH L A) else none) = _
      rw [if_pos (by rw [qv_cat]; exact beq_p hb)]
    · exact hx.elim
  | dup2 =>
    simp only [qx] at hx
    split at hx
    · next v w r =>
      obtain ⟨hb, hx⟩ := bif_p hx
      simp only [Bool.and_eq_true] at hb
      refine wG_step hr rfl rfl (k' := k + 1) (lo' := ql lo) (st' := qv v :: qv w :: qv v :: qv w :: r.map qv) (h1 := qH L A) ?_ (hn _ _ _ _ hA hl (qoks_c (qoks_h hs) (qoks_c (qoks_h (qoks_t hs)) hs)) hx)
      show (if (qv v).category = 1 ∧ (qv w).category = 1 then some (k + 1, ql lo, qv v :: qv w :: qv v :: qv w :: r.map qv, qH L A) else none) = _
      rw [if_pos ⟨by rw [qv_cat]; exact beq_p hb.1, by rw [qv_cat]; exact beq_p hb.2⟩]
    · exact hx.elim
  | goto o =>
    rcases xs with _ | ⟨t, _ | ⟨_, _⟩⟩ <;> try exact hx.elim
    exact wG_step hr rfl rfl (k' := t) (lo' := ql lo) (st' := st.map qv) (h1 := qH L A) rfl (hn _ _ _ _ hA hl hs hx)
  | ifCond c o =>
    simp only [qx] at hx
    split at hx
    · next t tx x r =>
      obtain ⟨x', h1, e1, hx⟩ := qput_p (qoks_h hs) hx
      have hx := qbr_p hx
      have hz : rng 0 := ⟨by decide, by decide⟩
      show wG d rows k (ql lo) (Value.int (Int32.ofInt x) :: r.map qv) (qH L A) Q
      rw [← e1]
      refine wG_b1 hr (fun q => hn _ _ _ _ hA hl (qoks_t hs) (hx.1 ((qpc h1 hz).mp q))) (fun q => hn _ _ _ _ hA hl (qoks_t hs) (hx.2 (fun z => ?_)))
      have q' : pv_cond c (Int32.ofInt x') (Int32.ofInt 0) = false := q
      rw [(qpc h1 hz).mpr z] at q'; cases q'
    · exact hx.elim
  | if_icmp c o =>
    simp only [qx] at hx
    split at hx
    · next t ty y tx x r =>
      obtain ⟨x', h1, e1, hx⟩ := qput_p (qoks_h (qoks_t hs)) hx
      obtain ⟨y', h2, e2, hx⟩ := qput_p (qoks_h hs) hx
      have hx := qbr_p hx
      show wG d rows k (ql lo) (Value.int (Int32.ofInt y) :: Value.int (Int32.ofInt x) :: r.map qv) (qH L A) Q
      rw [← e1, ← e2]
      refine wG_b2 hr (fun q => hn _ _ _ _ hA hl (qoks_t (qoks_t hs)) (hx.1 ((qpc h1 h2).mp q))) (fun q => hn _ _ _ _ hA hl (qoks_t (qoks_t hs)) (hx.2 (fun z => ?_)))
      rw [(qpc h1 h2).mpr z] at q; cases q
    · exact hx.elim
  | tableswitch o a b os =>
    simp only [qx] at hx
    split at hx
    · next dd ts tx x r =>
      obtain ⟨hb, hx⟩ := bif_p hx
      obtain ⟨x', h1, e1, hx1, hx2⟩ := qput_p (qoks_h hs) hx
      have hb := beq_p hb
      by_cases hd : x' < a ∨ b < x'
      · refine wG_step hr rfl rfl (k' := dd) (lo' := ql lo) (st' := r.map qv) (h1 := qH L A) ?_ (hn _ _ _ _ hA hl (qoks_t hs) (hx1 hd))
        show (if (Int32.ofInt x).toInt < a ∨ b < (Int32.ofInt x).toInt then some (dd, ql lo, r.map qv, qH L A) else match ts[((Int32.ofInt x).toInt - a).toNat]? with
          | some t => some (t, ql lo, r.map qv, qH L A)
          | none => none) = _
        rw [← e1, iI_to h1, if_pos hd]
      · have hl2 : (x' - a).toNat < ts.length := by omega
        have e : ts[(x' - a).toNat]? = some (ts[(x' - a).toNat]) := List.getElem?_eq_getElem hl2
        refine wG_step hr rfl rfl (k' := ts[(x' - a).toNat]) (lo' := ql lo) (st' := r.map qv) (h1 := qH L A) ?_ (hn _ _ _ _ hA hl (qoks_t hs) (qsw_p ts a _ _ hx2 e (by omega)))
        show (if (Int32.ofInt x).toInt < a ∨ b < (Int32.ofInt x).toInt then some (dd, ql lo, r.map qv, qH L A) else match ts[((Int32.ofInt x).toInt - a).toNat]? with
          | some t => some (t, ql lo, r.map qv, qH L A)
          | none => none) = _
        rw [← e1, iI_to h1, if_neg hd, e]
    · exact hx.elim
  | lookupswitch o ps9 =>
    simp only [qx] at hx
    split at hx
    · next dd ps tx x r =>
      obtain ⟨x', h1, e1, hx⟩ := qput_p (qoks_h hs) hx
      have gen : ∀ (n : Nat) (ps : List Nat), ps.length ≤ n → qlsw x' (fun t => nx t lo r A) dd ps → nx ((pv_lsw ps (Int32.ofInt x')).getD dd) lo r A := by
        intro n
        induction n with
        | zero =>
          intro ps hl hq
          rcases ps with _ | ⟨a, ps⟩
          · exact hq
          · cases hl
        | succ n ih =>
          intro ps hl hq
          rcases ps with _ | ⟨a, _ | ⟨t, ps⟩⟩
          · exact hq
          · exact hq
          · show nx (((if Int32.ofInt x' = Int32.ofNat a then some t else pv_lsw ps (Int32.ofInt x'))).getD dd) lo r A
            obtain ⟨hb, hq⟩ := bif_p hq
            have hb := blt_p hb
            by_cases he : Int32.ofInt x' = Int32.ofNat a
            · rw [if_pos he]
              refine hq.1 ?_
              have e9 := congrArg Int32.toInt he
              rw [iI_to h1] at e9
              have e8 : (Int32.ofNat a).toInt = (a : Int) := iI_to (z := (a : Int)) ⟨by omega, by omega⟩
              rw [e8] at e9
              exact e9
            · rw [if_neg he]
              exact ih ps (by simp only [List.length_cons] at hl; omega) (hq.2 (fun q => he (by rw [q]; rfl)))
      refine wG_step hr rfl rfl (k' := (pv_lsw ps (Int32.ofInt x)).getD dd) (lo' := ql lo) (st' := r.map qv) (h1 := qH L A) rfl (hn _ _ _ _ hA hl (qoks_t hs) ?_)
      rw [← e1]
      exact gen _ ps (Nat.le_refl _) hx
    · exact hx.elim
  | getfield idx => exact qgf_ok hn hr hA hl hs hx
  | putfield idx => exact qpf_ok hn hr hA hl hs hx
  | iaload => exact qald_ok hn hr hA hl hs hx (fun _ => rfl) (fun _ _ => rfl) (fun _ _ _ => rfl)
  | baload =>
    simp only [qx] at hx
    split at hx
    · exact qald_ok hn hr hA hl hs hx (fun _ => rfl) (fun _ _ => rfl) (fun _ _ _ => rfl)
    · exact qald_ok hn hr hA hl hs hx (fun _ => rfl) (fun _ _ => rfl) (fun _ _ _ => rfl)
    · exact hx.elim
  | laload =>
    simp only [qx] at hx
    split at hx
    · next b z a r =>
      split at hx
      · next n ks e =>
        obtain ⟨hb, ⟨hz0, hz1⟩, hx⟩ := bif_p hx
        have hn' := blt_p hb
        refine wG_step hr rfl rfl (k' := k + 1) (lo' := ql lo) (st' := qv (nl (A a z)) :: r.map qv) (h1 := qH L A) ?_ (hn _ _ _ _ hA hl (qoks_c (show qok (nl (A a z)) from (hA a z).1) (qoks_t (qoks_t hs))) (hx _ rfl))
        show (match (qH L A)[a]? with
          | some (.inl (t'', n, .inr (.inl f))) => if t'' = 3 then (if Int32.ofInt z < 0 ∨ n ≤ (Int32.ofInt z).toNatClampNeg then none else some (k + 1, ql lo, Value.long (f (Int32.ofInt z).toNatClampNeg) :: r.map qv, qH L A)) else none
          | _ => none) = _
        rw [qH_at e]
        show (if (3 : Nat) = 3 then (if Int32.ofInt z < 0 ∨ n ≤ (Int32.ofInt z).toNatClampNeg then none else some (k + 1, ql lo, Value.long (Int64.ofInt (A a ((Int32.ofInt z).toNatClampNeg : Nat))) :: r.map qv, qH L A)) else none) = _
        rw [if_pos rfl, if_neg (iI_in hz0 hz1 (by omega)), iI_clamp hz0 (by omega), show ((z.toNat : Nat) : Int) = z by omega]; rfl
      · exact hx.elim
    · exact hx.elim
  | iastore =>
    simp only [qx, qast] at hx
    split at hx
    · next t x b z a r =>
      split at hx
      · next n ks e =>
        obtain ⟨hb, ⟨hz0, hz1⟩, hx⟩ := bif_p hx
        obtain ⟨v, v1, v2, v3⟩ := qput_p (qoks_h hs) hx
        exact qast_ok (b := b) (g := fun x => x) hn hr hA hl (qoks_t (qoks_t (qoks_t hs))) e hz0 hz1 (blt_p hb) v1 v2 (v3 _ rfl) (fun _ => rfl) (fun _ _ => rfl) (fun _ _ _ => rfl)
      · exact hx.elim
    · exact hx.elim
  | bastore =>
    simp only [qx] at hx
    split at hx
    · unfold qbst at hx
      split at hx
      · next b y b' z a r =>
        split at hx
        · next t n ks e =>
          obtain ⟨hb, ⟨hz0, hz1⟩, hp, hx⟩ := bif_p hx
          simp only [Bool.and_eq_true] at hb
          rw [beq_p hb.1] at e
          exact qast_ok (b := b) (g := vp_nar .boolean) hn hr hA hl (qoks_t (qoks_t (qoks_t hs))) e hz0 hz1 (blt_p hb.2) ⟨by omega, by omega⟩ (nar1 hp).symm (hx _ rfl) (fun _ => rfl) (fun _ _ => rfl) (fun _ _ _ => rfl)
        · exact hx.elim
      · exact hx.elim
    · unfold qbst at hx
      split at hx
      · next b y b' z a r =>
        split at hx
        · next t n ks e =>
          obtain ⟨hb, ⟨hz0, hz1⟩, hp, hx⟩ := bif_p hx
          simp only [Bool.and_eq_true] at hb
          rw [beq_p hb.1] at e
          exact qast_ok (b := b) (g := vp_nar .byte) hn hr hA hl (qoks_t (qoks_t (qoks_t hs))) e hz0 hz1 (blt_p hb.2) ⟨by omega, by omega⟩ (nar2 hp).symm (hx _ rfl) (fun _ => rfl) (fun _ _ => rfl) (fun _ _ _ => rfl)
        · exact hx.elim
      · exact hx.elim
    · exact hx.elim
  | lastore =>
    simp only [qx] at hx
    split at hx
    · next v b z a r =>
      split at hx
      · next n ks e =>
        obtain ⟨hb, ⟨hz0, hz1⟩, hx⟩ := bif_p hx
        have hn' := blt_p hb
        have hv : rngL v := qoks_h hs
        have hlg : ∀ j : Int, qlng L a j = true := fun j => by unfold qlng; rw [e]; rfl
        refine wG_step hr rfl rfl (k' := k + 1) (lo' := ql lo) (st' := r.map qv) (h1 := qH L (qu A a z v)) ?_ (hn _ _ _ _ (qokA_qu hA hv (fun q => by rw [hlg] at q; cases q)) hl (qoks_t (qoks_t (qoks_t hs))) (hx _ rfl))
        show (match (qH L A)[a]? with
          | some (.inl (t'', n, .inr (.inl f))) => if t'' = 3 then (if Int32.ofInt z < 0 ∨ n ≤ (Int32.ofInt z).toNatClampNeg then none else some (k + 1, ql lo, r.map qv, (qH L A).set a (.inl (t'', n, .inr (.inl (vp_updL f (Int32.ofInt z).toNatClampNeg (Int64.ofInt v))))))) else none
          | _ => none) = _
        rw [qH_at e]
        show (if (3 : Nat) = 3 then (if Int32.ofInt z < 0 ∨ n ≤ (Int32.ofInt z).toNatClampNeg then none else some (k + 1, ql lo, r.map qv, (qH L A).set a (.inl (3, n, .inr (.inl (vp_updL (fun j : Nat => Int64.ofInt (A a j)) (Int32.ofInt z).toNatClampNeg (Int64.ofInt v))))))) else none) = _
        rw [if_pos rfl, if_neg (iI_in hz0 hz1 (by omega)), iI_clamp hz0 (by omega), qu_updL hz0 rfl, qH_set (A' := qu A a z v) (e := .inl (3, n, .inr (.inl (fun k : Nat => Int64.ofInt (qu A a z v a k))))) e rfl (fun b hb => qu_ne hb)]
      · exact hx.elim
    · exact hx.elim
  | arraylength =>
    simp only [qx] at hx
    split at hx
    · next a r =>
      split at hx
      · next n ks e =>
        obtain ⟨hb, hx⟩ := bif_p hx
        have hn' := blt_p hb
        refine wG_step hr rfl rfl (k' := k + 1) (lo' := ql lo) (st' := qv (ni n) :: r.map qv) (h1 := qH L A) ?_ (hn _ _ _ _ hA hl (qoks_c (show qok (ni n) from ⟨by omega, by omega⟩) (qoks_t hs)) hx)
        show (match (qH L A)[a]? with
          | some (.inl (t', n, _)) => if t' < 4 then some (k + 1, ql lo, Value.int (Int32.ofNat n) :: r.map qv, qH L A) else none
          | _ => none) = _
        rw [qH_at e]; rfl
      · exact hx.elim
    · exact hx.elim
  | invokestatic idx =>
    simp only [qx] at hx
    split at hx
    · next ty y tx x r =>
      obtain ⟨hc, hx⟩ := bif_p hx
      obtain ⟨x', h1, e1, hx⟩ := qput_p (qoks_h (qoks_t hs)) hx
      obtain ⟨y', h2, e2, hx⟩ := qput_p (qoks_h hs) hx
      refine wG_step hr rfl rfl (k' := k + 1) (lo' := ql lo) (st' := .int (Int32.ofInt (max x' y')) :: r.map qv) (h1 := qH L A) ?_ (hn _ _ _ _ hA hl (qoks_c (show qok (ni _) from max_rng h1 h2) (qoks_t (qoks_t hs))) (hx _ rfl))
      show (if pv_cat (r.map qv) ≤ 8 then some (k + 1, ql lo, Value.int (if Int32.ofInt x < Int32.ofInt y then Int32.ofInt y else Int32.ofInt x) :: r.map qv, qH L A) else none) = _
      rw [if_pos (by rw [qcats_p]; exact Nat.le_of_ble_eq_true hc), ← e1, ← e2, max_of h1 h2]
    · next ty y tx x r =>
      obtain ⟨hc, hx⟩ := bif_p hx
      obtain ⟨x', h1, e1, hx⟩ := qput_p (qoks_h (qoks_t hs)) hx
      obtain ⟨y', h2, e2, hx⟩ := qput_p (qoks_h hs) hx
      refine wG_step hr rfl rfl (k' := k + 1) (lo' := ql lo) (st' := .int (Int32.ofInt (min x' y')) :: r.map qv) (h1 := qH L A) ?_ (hn _ _ _ _ hA hl (qoks_c (show qok (ni _) from min_rng h1 h2) (qoks_t (qoks_t hs))) (hx _ rfl))
      show (if pv_cat (r.map qv) ≤ 8 then some (k + 1, ql lo, Value.int (if Int32.ofInt y < Int32.ofInt x then Int32.ofInt y else Int32.ofInt x) :: r.map qv, qH L A) else none) = _
      rw [if_pos (by rw [qcats_p]; exact Nat.le_of_ble_eq_true hc), ← e1, ← e2, min_of h1 h2]
    · next tx x r =>
      obtain ⟨hc, hx⟩ := bif_p hx
      obtain ⟨x', h1, e1, h2, hx⟩ := qput_p (qoks_h hs) hx
      refine wG_step hr rfl rfl (k' := k + 1) (lo' := ql lo) (st' := .int (Int32.ofInt (if 0 ≤ x' then x' else -x')) :: r.map qv) (h1 := qH L A) ?_ (hn _ _ _ _ hA hl (qoks_c (show qok (ni _) from ?_) (qoks_t hs)) (hx _ rfl))
      · show (if pv_cat (r.map qv) ≤ 8 then some (k + 1, ql lo, Value.int (if 0 ≤ Int32.ofInt x then Int32.ofInt x else 0 - Int32.ofInt x) :: r.map qv, qH L A) else none) = _
        rw [if_pos (by rw [qcats_p]; exact Nat.le_of_ble_eq_true hc), ← e1, abs_of h1]
      · show rng _
        split
        · exact h1
        · exact ⟨by have := h1.2; omega, by omega⟩
    · next b1 n b2 dp a b3 sp a0 r =>
      split at hx
      · next n0 k0 n1 k1 e0 e1 =>
        obtain ⟨hc, ⟨⟨hs0, hd0, hn0⟩, hs1, hd1⟩, hx⟩ := bif_p hx
        simp only [Bool.and_eq_true] at hc
        have hb0 := blt_p hc.1.2
        have hb1 := blt_p hc.2
        refine wG_step hr rfl rfl (k' := k + 1) (lo' := ql lo) (st' := r.map qv) (h1 := qH L (qcpy A a0 sp a dp n)) ?_ (hn _ _ _ _ (qokA_cpy e0 e1 hA) hl (qoks_t (qoks_t (qoks_t (qoks_t (qoks_t hs))))) (hx _ rfl))
        show (match (qH L A)[a0]?, (qH L A)[a]? with
          | some (.inl (t0, n0, .inl f)), some (.inl (t1, n1, .inl g)) => if t0 = 0 ∧ t1 = 0 ∧ pv_cat (r.map qv) ≤ 8 ∧ ¬ Int32.ofInt sp < 0 ∧ ¬ Int32.ofInt dp < 0 ∧ ¬ Int32.ofInt n < 0 ∧ (Int32.ofInt sp).toNatClampNeg + (Int32.ofInt n).toNatClampNeg ≤ n0 ∧ (Int32.ofInt dp).toNatClampNeg + (Int32.ofInt n).toNatClampNeg ≤ n1 then
              some (k + 1, ql lo, r.map qv, (qH L A).set a (.inl (t1, n1, .inl (va_cpy f g (Int32.ofInt sp).toNatClampNeg (Int32.ofInt dp).toNatClampNeg (Int32.ofInt n).toNatClampNeg)))) else none
          | _, _ => none) = _
        rw [qH_at e0, qH_at e1]
        have nn : ∀ z : Int, 0 ≤ z → z < 2147483648 → ¬ Int32.ofInt z < 0 := by
          intro z h0 h1
          rw [Int32.lt_iff_toInt_lt, iI_to ⟨by omega, by omega⟩]
          have : (0 : Int32).toInt = 0 := rfl
          omega
        show (if 0 = 0 ∧ 0 = 0 ∧ pv_cat (r.map qv) ≤ 8 ∧ ¬ Int32.ofInt sp < 0 ∧ ¬ Int32.ofInt dp < 0 ∧ ¬ Int32.ofInt n < 0 ∧ (Int32.ofInt sp).toNatClampNeg + (Int32.ofInt n).toNatClampNeg ≤ n0 ∧ (Int32.ofInt dp).toNatClampNeg + (Int32.ofInt n).toNatClampNeg ≤ n1 then
              some (k + 1, ql lo, r.map qv, (qH L A).set a (.inl (0, n1, .inl (va_cpy (fun j : Nat => Int32.ofInt (A a0 j)) (fun j : Nat => Int32.ofInt (A a j)) (Int32.ofInt sp).toNatClampNeg (Int32.ofInt dp).toNatClampNeg (Int32.ofInt n).toNatClampNeg)))) else none) = _
        rw [iI_clamp hs0 (by omega), iI_clamp hd0 (by omega), iI_clamp hn0 (by omega)]
        rw [if_pos ⟨rfl, rfl, by rw [qcats_p]; exact Nat.le_of_ble_eq_true hc.1.1, nn _ hs0 (by omega), nn _ hd0 (by omega), nn _ hn0 (by omega), by omega, by omega⟩]
        rw [qH_set (A' := qcpy A a0 sp a dp n) e1 ?_ (fun b hb => funext (fun j => if_neg (fun q => hb q.1)))]
        show Sum.inl (0, n1, Sum.inl (fun j : Nat => Int32.ofInt (qcpy A a0 sp a dp n a j))) = _
        congr 3
        congr 1
        funext j
        unfold va_cpy qcpy
        by_cases hj : dp.toNat ≤ j ∧ j < dp.toNat + n.toNat
        · rw [if_pos hj, if_pos ⟨rfl, by omega, by omega⟩]
          congr 2
          omega
        · rw [if_neg hj, if_neg (fun q => hj (by omega))]
      · exact hx.elim
    · exact hx.elim
  | _ => exact hx.elim
end QXOK2
end
section
/-! METHODS BY THEIR CONDITIONS -/
def qokr (r : Option qV) : Prop := match r with
  | none => True
  | some v => qok v
def qQ (L : List qY) (K : qK) (v : Option Value) (h : pv_H) : Prop := ∃ r A', v = r.map qv ∧ h = qH L A' ∧ qokA L A' ∧ qokr r ∧ K r A'
/-- method j keeps what sp says of it, at depth D and deeper -/
def okM (L : List qY) (D j : Nat) (sp : qS) : Prop := ∀ d, D ≤ d → ∀ as A K, qokA L A → qoks as → sp as A K → wR d j (as.map qv) (qH L A) (qQ L K)
def okS (L : List qY) (D : Nat) : List (Nat × qS) → Prop
  | [] => True
  | (j, sp) :: S => okM L D j sp ∧ okS L D S
theorem okM.le {L : List qY} {D D' j : Nat} {sp : qS} (h : okM L D j sp) (hD : D ≤ D') : okM L D' j sp := fun d hd => h d (Nat.le_trans hD hd)
theorem okS_find {L : List qY} {D j : Nat} {sp : qS} : ∀ {S : List (Nat × qS)}, okS L D S → qfind S j = some sp → okM L D j sp
  | (i, s) :: S, h, e => by
    unfold qfind at e
    cases hb : Nat.beq i j
    · rw [hb] at e; exact okS_find h.2 e
    · rw [hb] at e; cases e; rw [← beq_p hb]; exact h.1
theorem qargs_p {d j : Nat} {rows : List pv_R} {md : Bool} : ∀ (as : List qV) (P : List qV → Prop), qoks as → qargs md as P → ∃ bs, bs.map qv = as.map qv ∧ qoks bs ∧ P bs
  | [], P, _, h => ⟨[], rfl, (fun v hv => by cases hv), h⟩
  | .inl (t, x) :: as, P, ho, h => by
    obtain ⟨x', h1, e1, h2⟩ := qput_p (qoks_h ho) h
    obtain ⟨bs, e, o, p⟩ := qargs_p (d := d) (j := j) (rows := rows) as _ (qoks_t ho) h2
    refine ⟨ni x' :: bs, ?_, qoks_c (show qok (ni x') from h1) o, p⟩
    rw [List.map_cons, List.map_cons, e]
    show Value.int (Int32.ofInt x') :: _ = Value.int (Int32.ofInt x) :: _
    rw [e1]
  | .inr x :: as, P, ho, h => by
    obtain ⟨bs, e, o, p⟩ := qargs_p (d := d) (j := j) (rows := rows) as _ (qoks_t ho) h
    exact ⟨.inr x :: bs, by rw [List.map_cons, List.map_cons, e], qoks_c (qoks_h ho) o, p⟩
theorem qret_p {L : List qY} {md : Bool} {i : Instr} {xs : List Nat} {st : List qV} {A : qA} {K : qK} {P : Prop} (h : qret md i xs st A K = some P) (hs : qoks st) (hP : P) : ∃ r, pv_ret i xs (st.map qv) = some (r.map qv) ∧ qokr r ∧ K r A := by
  unfold qret at h
  split at h
  · next t x =>
    split at h
    · cases h
      obtain ⟨z, z1, z2, z3⟩ := qput_p (qoks_h hs) hP
      refine ⟨some (ni z), ?_, z1, z3⟩
      show some (some (Value.int (Int32.ofInt x))) = some (some (Value.int (Int32.ofInt z)))
      rw [z2]
    · cases h
      obtain ⟨h1, h2⟩ := hP
      have hr : rng x := ⟨by omega, by omega⟩
      refine ⟨some (ni x), ?_, hr, h2⟩
      show (if Int32.ofInt x = 0 ∨ Int32.ofInt x = 1 then some (some (Value.int (Int32.ofInt x))) else none) = _
      rw [if_pos (by rcases h1 with e | e <;> rw [e] <;> decide)]; rfl
    · cases h
  · next z =>
    cases h
    exact ⟨some (nl z), rfl, qoks_h hs, hP⟩
  · cases h
    exact ⟨none, rfl, trivial, hP⟩
  · cases h
theorem qinv_p {L : List qY} {i : Instr} {xs : List Nat} {st : List qV} {A : qA} {j : Nat} {as rest : List qV} (h : qinv L i xs st = some (j, as, rest)) : pv_ret i xs (st.map qv) = none ∧ pv_inv i xs (st.map qv) (qH L A) = some (j, as.map qv, rest.map qv) ∧ (qoks st → qoks as ∧ qoks rest) := by
  have hd : ∀ n, qoks st → qoks (st.drop n) := fun n hs v hv => hs v (List.mem_of_mem_drop hv)
  have ht : ∀ n, qoks st → qoks (st.take n).reverse := fun n hs v hv => hs v (List.mem_of_mem_take (List.mem_reverse.mp hv))
  unfold qinv at h
  split at h
  · next idx j2 n =>
    cases hb : (Nat.ble n st.length && Nat.ble (qcats (st.drop n)) 8)
    · rw [hb] at h; cases h
    · rw [hb] at h
      cases h
      simp only [Bool.and_eq_true] at hb
      refine ⟨by unfold pv_ret; rfl, ?_, fun hs => ⟨ht n hs, hd n hs⟩⟩
      show (if n ≤ (st.map qv).length ∧ pv_cat ((st.map qv).drop n) ≤ 8 then some (j, ((st.map qv).take n).reverse, (st.map qv).drop n) else none) = _
      rw [← List.map_drop, ← List.map_take, ← List.map_reverse, qcats_p, List.length_map, if_pos ⟨Nat.le_of_ble_eq_true hb.1, Nat.le_of_ble_eq_true hb.2⟩]
  · next idx j2 n ci =>
    split at h
    · next b r e1 =>
      split at h
      · next ci' _ e2 =>
        cases hb : (Nat.beq ci' ci && Nat.ble (qcats r) 8)
        · rw [hb] at h; cases h
        · rw [hb] at h
          cases h
          simp only [Bool.and_eq_true] at hb
          have hci := beq_p hb.1
          subst hci
          refine ⟨by unfold pv_ret; rfl, ?_, fun hs => ⟨qoks_c trivial (ht n hs), qoks_t (e1 ▸ hd n hs)⟩⟩
          show (match (st.map qv).drop n with
            | .ref b :: r => (match (qH L A)[b]? with
              | some (.inr (c', _)) => if c' = ci' ∧ pv_cat r ≤ 8 then some (j, Value.ref b :: ((st.map qv).take n).reverse, r) else none
              | _ => none)
            | _ => none) = _
          rw [← List.map_drop, ← List.map_take, ← List.map_reverse, e1]
          show (match (qH L A)[b]? with
              | some (.inr (c', _)) => if c' = ci' ∧ pv_cat (rest.map qv) ≤ 8 then some (j, Value.ref b :: ((st.take n).reverse.map qv), rest.map qv) else none
              | _ => none) = _
          rw [qH_at e2]
          show (if ci' = ci' ∧ pv_cat (rest.map qv) ≤ 8 then some (j, Value.ref b :: ((st.take n).reverse.map qv), rest.map qv) else none) = _
          rw [qcats_p, if_pos ⟨rfl, Nat.le_of_ble_eq_true hb.2⟩]; rfl
      · cases h
    · cases h
  · cases h
theorem qrz_ok : ∀ (tm : List (Nat × Nat × Nat)) (zs : List Int), qrz tm zs → ∀ q ∈ qfill tm zs, qok q.2
  | [], _, _, q, hq => by cases hq
  | (i, 0, _) :: tm, z :: zs, h, q, hq => by
    rcases List.mem_cons.mp hq with rfl | hq
    · exact h.1
    · exact qrz_ok tm zs h.2 q hq
  | (i, 1, _) :: tm, z :: zs, h, q, hq => by
    rcases List.mem_cons.mp hq with rfl | hq
    · exact h.1
    · exact qrz_ok tm zs h.2 q hq
  | (i, 2, n) :: tm, zs, h, q, hq => by
    rcases List.mem_cons.mp hq with rfl | hq
    · trivial
    · exact qrz_ok tm zs h q hq
  | (i, n + 3, _) :: tm, z :: zs, h, q, hq => by
    rcases List.mem_cons.mp hq with rfl | hq
    · exact h.1
    · exact qrz_ok tm zs h.2 q hq
  | (i, 0, _) :: tm, [], h, q, hq => by cases hq
  | (i, 1, _) :: tm, [], h, q, hq => by cases hq
  | (i, n + 3, _) :: tm, [], h, q, hq => by cases hq
theorem qall_p : ∀ (n : Nat) (P : List Int → Prop), qall n P → ∀ zs : List Int, zs.length = n → P zs
  | 0, P, h, [], _ => h
  | n + 1, P, h, z :: zs, e => qall_p n _ (h z) zs (by simpa using e)
def qdist : List (Nat × Nat × Nat) → Bool
  | [] => true
  | t :: tm => tm.all (fun u => !(Nat.beq u.1 t.1)) && qdist tm
theorem qdist_p : ∀ (tm : List (Nat × Nat × Nat)) (zs : List Int), qdist tm = true → ((qfill tm zs).map (fun q => q.1)).Nodup
  | [], _, _ => List.nodup_nil
  | (i, k, m) :: tm, zs, h => by
    simp only [qdist, Bool.and_eq_true] at h
    have gen : ∀ (tm : List (Nat × Nat × Nat)) (zs : List Int), tm.all (fun u => !(Nat.beq u.1 i)) = true → i ∉ (qfill tm zs).map (fun q => q.1) := by
      intro tm
      induction tm with
      | nil => intro p' _ hm; cases hm
      | cons t tm ih =>
        intro zs ha hm
        obtain ⟨i', k', m'⟩ := t
        simp only [List.all_cons, Bool.and_eq_true, Bool.not_eq_true'] at ha
        have hne : i' ≠ i := fun q => by subst q; rw [Nat.beq_refl] at ha; exact absurd ha.1 (by decide)
        rcases k' with _ | _ | _ | k' <;> rcases zs with _ | ⟨z, zs⟩ <;> first | (cases hm; done) | (rcases List.mem_cons.mp hm with q | q; exact hne q.symm; exact ih _ ha.2 q)
    rcases k with _ | _ | _ | k <;> rcases zs with _ | ⟨z, zs⟩ <;> first | exact List.nodup_nil | exact List.nodup_cons.mpr ⟨gen _ _ h.1, qdist_p tm _ h.2⟩
theorem qget_at : ∀ {lo : qL} {j : Nat} {v : qV}, (lo.map (fun q => q.1)).Nodup → qget lo j = some v → pv_at j (ql lo) = [(j, qv v)]
  | (i, w) :: lo, j, v, hn, e => by
    have hn := List.nodup_cons.mp hn
    unfold qget at e
    cases hb : Nat.beq i j
    · rw [hb] at e
      have hne : i ≠ j := fun q => by subst q; rw [Nat.beq_refl] at hb; cases hb
      show List.filter _ ((i, qv w) :: ql lo) = _
      rw [List.filter_cons, if_neg (by simpa using hne)]
      exact qget_at hn.2 e
    · rw [hb] at e
      cases e
      have hij := beq_p hb
      subst hij
      show List.filter _ ((i, qv w) :: ql lo) = _
      rw [List.filter_cons, if_pos (by simp)]
      congr 1
      rw [List.filter_eq_nil_iff]
      intro q hq
      obtain ⟨q0, hq0, e⟩ := List.mem_map.mp hq
      simp only [beq_iff_eq]
      intro he
      exact hn.1 (List.mem_map.mpr ⟨q0, hq0, by rw [← e] at he; exact he⟩)
theorem qget_no : ∀ {lo : qL} {j : Nat}, qget lo j = none → pv_at j (ql lo) = []
  | [], _, _ => rfl
  | (i, w) :: lo, j, e => by
    unfold qget at e
    cases hb : Nat.beq i j
    · rw [hb] at e
      have hne : i ≠ j := fun q => by subst q; rw [Nat.beq_refl] at hb; cases hb
      show List.filter _ ((i, qv w) :: ql lo) = _
      rw [List.filter_cons, if_neg (by simpa using hne)]
      exact qget_no e
    · rw [hb] at e; cases e
/-- what was collected fills the same locals -/
theorem qcol_p {md : Bool} : ∀ (tm : List (Nat × Nat × Nat)) (lo : qL) (c : List Int → Prop), (∀ q ∈ lo, qok q.2) → qcol md tm lo c → ∃ zs : List Int, c zs ∧ zs.length = qcnt tm ∧ qrz tm zs ∧ ∀ q ∈ qfill tm zs, ∃ v, qget lo q.1 = some v ∧ qv v = qv q.2
  | [], lo, c, _, h => ⟨[], h, rfl, trivial, fun q hq => by cases hq⟩
  | (i, 0, m) :: tm, lo, c, ho, h => by
    simp only [qcol] at h
    split at h
    · next t x e =>
      obtain ⟨w, h1, h3, h2⟩ := qput_p (qget_ok ho e) h
      obtain ⟨zs, c1, c2, c3, c4⟩ := qcol_p tm lo _ ho h2
      refine ⟨w :: zs, c1, by rw [List.length_cons, c2]; rfl, ⟨h1, c3⟩, fun q hq => ?_⟩
      rcases List.mem_cons.mp hq with rfl | hq
      · exact ⟨_, e, by show Value.int (Int32.ofInt x) = Value.int (Int32.ofInt w); rw [h3]⟩
      · exact c4 q hq
    · exact h.elim
  | (i, 1, m) :: tm, lo, c, ho, h => by
    simp only [qcol] at h
    split at h
    · next x e =>
      have h1 : rngL x := qget_ok ho e
      obtain ⟨zs, c1, c2, c3, c4⟩ := qcol_p tm lo _ ho h
      refine ⟨x :: zs, c1, by rw [List.length_cons, c2]; rfl, ⟨h1, c3⟩, fun q hq => ?_⟩
      rcases List.mem_cons.mp hq with rfl | hq
      · exact ⟨_, e, rfl⟩
      · exact c4 q hq
    · exact h.elim
  | (i, 2, m) :: tm, lo, c, ho, h => by
    simp only [qcol] at h
    split at h
    · next x e =>
      obtain ⟨hb, h⟩ := bif_p h
      have hb := beq_p hb
      obtain ⟨zs, c1, c2, c3, c4⟩ := qcol_p tm lo _ ho h
      refine ⟨zs, c1, c2, c3, fun q hq => ?_⟩
      rcases List.mem_cons.mp hq with rfl | hq
      · exact ⟨_, e, by rw [hb]⟩
      · exact c4 q hq
    · exact h.elim
  | (i, k + 3, m) :: tm, lo, c, ho, h => by
    simp only [qcol] at h
    split at h
    · next t x e =>
      obtain ⟨w, h1, h3, h2⟩ := qput_p (qget_ok ho e) h
      obtain ⟨zs, c1, c2, c3, c4⟩ := qcol_p tm lo _ ho h2
      refine ⟨w :: zs, c1, by rw [List.length_cons, c2]; rfl, ⟨h1, c3⟩, fun q hq => ?_⟩
      rcases List.mem_cons.mp hq with rfl | hq
      · exact ⟨_, e, by show Value.int (Int32.ofInt x) = Value.int (Int32.ofInt w); rw [h3]⟩
      · exact c4 q hq
    · exact h.elim
theorem qfill_le {lo : qL} {zs : List Int} {tm : List (Nat × Nat × Nat)} (hd : qdist tm = true) (hn : (lo.map (fun q => q.1)).Nodup) (h : ∀ q ∈ qfill tm zs, ∃ v, qget lo q.1 = some v ∧ qv v = qv q.2) : pv_le (ql (qfill tm zs)) (ql lo) := by
  intro j
  cases e : qget (qfill tm zs) j with
  | none => exact Or.inl (qget_no e)
  | some v =>
    refine Or.inr ?_
    rw [qget_at (qdist_p tm zs hd) e]
    have hm : (j, v) ∈ qfill tm zs := by
      have gen : ∀ {l : qL}, qget l j = some v → (j, v) ∈ l := by
        intro l
        induction l with
        | nil => intro h; cases h
        | cons p l ih =>
          intro h
          obtain ⟨i, w⟩ := p
          unfold qget at h
          cases hb : Nat.beq i j
          · rw [hb] at h; exact List.mem_cons_of_mem _ (ih h)
          · rw [hb] at h; cases h; rw [beq_p hb]; exact List.mem_cons_self
      exact gen e
    obtain ⟨v', e1, e2⟩ := h _ hm
    rw [qget_at hn e1, e2]
theorem wG_le {d : Nat} {rows : List pv_R} {k : Nat} {lo lo' : pv_L} {st : List Value} {h : pv_H} {Q : Option Value → pv_H → Prop} (hle : pv_le lo lo') (kk : wG d rows k lo st h Q) : wG d rows k lo' st h Q := by
  obtain ⟨F, f, v, h', hf, hg, hq⟩ := kk
  exact ⟨F, f, v, h', hf, pv_go_lo f k _ _ st h _ hle hg, hq⟩
/-- a cut that is reached ends well -/
def qcutW (L : List qY) (d : Nat) (rows : List pv_R) (Q : Option Value → pv_H → Prop) (bd : Option Nat) (c : qC) : Prop := qdist c.2.1 = true ∧ ∀ (zs : List Int) (A : qA) (n : Nat), zs.length = qcnt c.2.1 → (∀ m, bd = some m → n < m) → qokA L A → qrz c.2.1 zs → c.2.2 zs A n → wG d rows c.1 (ql (qfill c.2.1 zs)) [] (qH L A) Q
theorem qfindC_p : ∀ {C : List qC} {k : Nat} {c : qC}, qfindC C k = some c → c ∈ C ∧ c.1 = k
  | c' :: C, k, c, h => by
    unfold qfindC at h
    cases hb : Nat.beq c'.1 k
    · rw [hb] at h; obtain ⟨a, b⟩ := qfindC_p h; exact ⟨List.mem_cons_of_mem _ a, b⟩
    · rw [hb] at h; cases h; exact ⟨List.mem_cons_self, beq_p hb⟩
theorem qjmp_ok {L : List qY} {d : Nat} {rows : List pv_R} {Q : Option Value → pv_H → Prop} {C : List qC} {bd : Option Nat} {md : Bool} {go : Nat → qL → List qV → qA → Prop} (hgo : qgood L d rows Q go) (hC : ∀ c ∈ C, qcutW L d rows Q bd c) : qgood L d rows Q (qjmp md C bd go) := by
  intro k lo st A hA hl hs h
  unfold qjmp at h
  split at h
  · exact hgo _ _ _ _ hA hl hs h
  · next c e =>
    split at h
    · obtain ⟨hm, hk⟩ := qfindC_p e
      obtain ⟨hd, hw⟩ := hC c hm
      obtain ⟨zs, h1, a0, a1, a2⟩ := qcol_p _ _ _ hl.1 h
      have hb : ∃ n, (∀ m, bd = some m → n < m) ∧ c.2.2 zs A n := by
        unfold qbd at h1
        split at h1
        · obtain ⟨n, hn⟩ := h1; exact ⟨n, (fun m hm => by cases hm), hn⟩
        · next m =>
          obtain ⟨n, hn, h3⟩ := h1; exact ⟨n, (fun m' hm => by cases hm; exact hn), h3⟩
      obtain ⟨n, hn, h3⟩ := hb
      subst hk
      exact wG_le (qfill_le hd hl.2 a2) (hw _ _ n a0 hn hA a1 h3)
    · exact h.elim
theorem qwp_ok {L : List qY} {T : List (Nat × Nat × Nat)} {md : Bool} {S : List (Nat × qS)} {C : List qC} {rows : List pv_R} {K : qK} {bd : Option Nat} {D d : Nat} (hd : D ≤ d) (hS : okS L D S) (hC : ∀ c ∈ C, qcutW L d rows (qQ L K) bd c) : ∀ f, qgood L d rows (qQ L K) (qwp L T md S C rows K bd f)
  | 0 => fun _ _ _ _ _ _ _ h => h.elim
  | f + 1 => by
    intro k lo st A hA hl hs h
    have hgo := qjmp_ok (md := md) (qwp_ok (T := T) (md := md) hd hS hC f) hC
    simp only [qwp] at h
    split at h
    · exact h.elim
    · next r hr =>
      split at h
      · next P e =>
        obtain ⟨v, e1, e2, e3⟩ := qret_p (L := L) e hs h
        exact wG_ret hr e1 ⟨v, A, rfl, rfl, hA, e2, e3⟩
      · split at h
        · next j as rest e =>
          split at h
          · next sp e2 =>
            obtain ⟨i1, i2, i3⟩ := qinv_p (A := A) e
            obtain ⟨o1, o2⟩ := i3 hs
            obtain ⟨bs, b1, b2, b3⟩ := qargs_p (d := d) (j := j) (rows := rows) as _ o1 h
            refine wG_call hr i1 i2 ?_
            rw [← b1]
            refine wR_mono ?_ (okS_find hS e2 d hd bs A _ hA b2 b3)
            intro v h' hq
            obtain ⟨r', A', rfl, rfl, hA', hr', hk⟩ := hq
            have hst : qoks (r'.toList ++ rest) := by
              intro w hw
              rcases List.mem_append.mp hw with hw | hw
              · cases r' with
                | none => cases hw
                | some w' =>
                  have : w = w' := by simpa using hw
                  rw [this]; exact hr'
              · exact o2 w hw
            have := hgo _ _ _ _ hA' hl hst hk
            rw [List.map_append] at this
            cases r' <;> exact this
          · exact h.elim
        · exact qx_ok hgo hr hA hl hs h
/-- what is owed for the cuts -/
def qcuts (L : List qY) (T : List (Nat × Nat × Nat)) (md : Bool) (S : List (Nat × qS)) (C0 : List qC) (rows : List pv_R) (K : qK) (F : Nat) : List qC → Prop
  | [] => True
  | c :: C => (qdist c.2.1 = true ∧ qall (qcnt c.2.1) (fun zs => ∀ (A : qA) (m : Nat), qokA L A → qrz c.2.1 zs → c.2.2 zs A m → qwp L T md S C0 rows K (some m) F c.1 (qfill c.2.1 zs) [] A)) ∧ qcuts L T md S C0 rows K F C
theorem qcuts_p {L : List qY} {T : List (Nat × Nat × Nat)} {md : Bool} {S : List (Nat × qS)} {C0 : List qC} {rows : List pv_R} {K : qK} {F : Nat} {c : qC} : ∀ {C : List qC}, qcuts L T md S C0 rows K F C → c ∈ C → qdist c.2.1 = true ∧ qall (qcnt c.2.1) (fun zs => ∀ (A : qA) (m : Nat), qokA L A → qrz c.2.1 zs → c.2.2 zs A m → qwp L T md S C0 rows K (some m) F c.1 (qfill c.2.1 zs) [] A)
  | _ :: C, h, hc => by
    rcases List.mem_cons.mp hc with rfl | hc
    · exact h.1
    · exact qcuts_p h.2 hc
theorem qcuts_ok {L : List qY} {T : List (Nat × Nat × Nat)} {md : Bool} {S : List (Nat × qS)} {C : List qC} {rows : List pv_R} {K : qK} {D d F : Nat} (hd : D ≤ d) (hS : okS L D S) (hC : qcuts L T md S C rows K F C) : ∀ m, ∀ c ∈ C, qcutW L d rows (qQ L K) (some m) c
  | 0 => fun c hc => ⟨(qcuts_p hC hc).1, fun zs A n _ hn => absurd (hn 0 rfl) (Nat.not_lt_zero _)⟩
  | m + 1 => fun c hc => ⟨(qcuts_p hC hc).1, fun zs A n hl hn hA hz hI => by
    have hn : n < m + 1 := hn _ rfl
    have ih : ∀ c ∈ C, qcutW L d rows (qQ L K) (some n) c := fun c' hc' => by
      obtain ⟨a1, a2⟩ := qcuts_ok hd hS hC m c' hc'
      exact ⟨a1, fun zs A k hl hk => a2 zs A k hl (fun m' hm' => by cases hm'; have := hk n rfl; omega)⟩
    exact qwp_ok hd hS ih F _ _ _ _ hA ⟨qrz_ok _ zs hz, qdist_p _ zs (qcuts_p hC hc).1⟩ (fun v hv => by cases hv) (qall_p _ _ (qcuts_p hC hc).2 zs hl A n hA hz hI)⟩
/-- A METHOD -/
theorem qmeth {L : List qY} {D j : Nat} {sp : qS} {M : pv_M} (T : List (Nat × Nat × Nat)) (md : Bool) (S : List (Nat × qS)) (F : Nat) (hM : pv_prog[j]? = some M) (hS : okS L D S)
    (H : ∀ as A K, qokA L A → qoks as → sp as A K → qcats as ≤ M.2.2.1 ∧ ∃ C : List qC, qcuts L T md S C M.2.2.2.2 K F C ∧ qwp L T md S C M.2.2.2.2 K none F 0 (qargsL 0 as) [] A) : okM L (D + 1) j sp := by
  intro d hd as A K hA has hsp
  obtain ⟨hc, C, h1, h2⟩ := H as A K hA has hsp
  obtain ⟨d', rfl⟩ : ∃ d', d = d' + 1 := ⟨d - 1, by omega⟩
  have hD : D ≤ d' := by omega
  refine wR_in hM (by rw [qcats_p]; exact hc) ?_
  rw [← qargsL_p]
  have hnd : ∀ (as : List qV) (i : Nat), ((qargsL i as).map (fun q => q.1)).Nodup ∧ ∀ q ∈ (qargsL i as).map (fun q => q.1), i ≤ q := by
    intro as
    induction as with
    | nil => exact fun i => ⟨List.nodup_nil, fun q hq => by cases hq⟩
    | cons v vs ih =>
      intro i
      obtain ⟨a1, a2⟩ := ih (bif qcat v == 2 then i + 2 else i + 1)
      have hlt : i < (bif qcat v == 2 then i + 2 else i + 1) := by cases (qcat v == 2) <;> simp
      refine ⟨List.nodup_cons.mpr ⟨fun hm => ?_, a1⟩, fun q hq => ?_⟩
      · have : (bif qcat v == 2 then i + 2 else i + 1) ≤ i := a2 _ hm
        omega
      · rcases List.mem_cons.mp hq with rfl | hq
        · exact Nat.le_refl _
        · have := a2 _ hq; omega
  refine qwp_ok hD hS (fun c hc => ?_) F _ _ _ _ hA ⟨qargsL_ok has, (hnd as 0).1⟩ (fun v hv => by cases hv) h2
  refine ⟨(qcuts_p h1 hc).1, fun zs A n hl _ hA hz hI => ?_⟩
  exact (qcuts_ok hD hS h1 (n + 1) c hc).2 zs A n hl (fun m hm => by cases hm; exact Nat.lt_succ_self n) hA hz hI
end
section
/-! THE TWO WORLDS: what their cells are -/
def LC : List qY := [(2, 11, 0, [(3, 1), (3, 15), (3, 24), (3, 34), (3, 44), (3, 52), (3, 54), (3, 55), (3, 63), (3, 68), (2, 0), (0, 0)]), (2, 3, 0, [(1, 0), (3, 2), (3, 3), (3, 4), (3, 5), (3, 6), (3, 7), (3, 8), (3, 9), (3, 10), (3, 11), (3, 12), (3, 13), (3, 14)]), (0, 0, 48, []), (0, 0, 48, []), (0, 0, 48, []), (0, 0, 48, []), (0, 0, 48, []), (0, 0, 48, []), (0, 0, 48, []), (0, 0, 48, []), (0, 1, 48, []), (0, 0, 6, []), (0, 0, 6, []), (0, 0, 6, []), (0, 0, 48, []), (2, 0, 0, [(3, 16), (3, 17), (3, 18), (3, 19), (3, 20), (3, 21), (3, 22), (3, 23), (0, 0)]), (0, 0, 8, []), (0, 0, 8, []), (0, 0, 8, []), (0, 0, 8, []), (0, 0, 8, []), (0, 0, 8, []), (0, 0, 8, []), (0, 0, 8, []), (2, 2, 0, [(3, 25), (3, 26), (3, 27), (3, 28), (3, 29), (3, 30), (3, 31), (3, 32), (3, 33), (0, 0), (0, 0)]), (0, 0, 61, []), (0, 0, 61, []), (0, 0, 61, []), (0, 1, 61, []), (0, 1, 61, []), (0, 0, 61, []), (0, 0, 61, []), (0, 0, 61, []), (0, 0, 61, []), (2, 1, 0, [(3, 1), (3, 15), (3, 24), (3, 35), (2, 0)]), (0, 0, 14, []), (2, 7, 0, [(3, 37), (3, 38), (3, 39), (3, 40), (3, 41), (3, 42), (3, 43), (0, 0), (0, 0), (0, 0)]), (0, 0, 200, []), (0, 0, 200, []), (0, 0, 14, []), (0, 0, 14, []), (0, 0, 14, []), (0, 0, 14, []), (0, 0, 40, []), (2, 10, 0, [(3, 1), (3, 34), (3, 45), (3, 46), (3, 47), (3, 48), (3, 49), (3, 50), (3, 51), (0, 0), (0, 0)]), (0, 0, 8, []), (0, 0, 8, []), (0, 0, 4, []), (0, 0, 4, []), (0, 0, 8, []), (0, 0, 48, []), (0, 0, 1008, []), (2, 9, 0, [(3, 53), (0, 0)]), (0, 0, 220, []), (2, 5, 0, [(2, 0), (2, 0), (0, 0), (0, 0), (0, 0)]), (2, 6, 0, [(3, 56), (3, 57), (3, 58), (3, 59), (3, 60), (3, 61), (3, 62), (0, 0)]), (0, 0, 8, []), (0, 0, 72, []), (0, 0, 8, []), (0, 0, 8, []), (0, 0, 8, []), (0, 0, 2304, []), (0, 0, 8, []), (2, 4, 0, [(3, 1), (3, 15), (3, 64), (3, 65), (3, 66), (3, 67), (0, 0), (0, 0)]), (0, 0, 48, []), (0, 0, 5, []), (0, 0, 5, []), (0, 0, 5, []), (2, 8, 0, [(3, 69), (3, 70), (0, 0), (0, 0)]), (0, 0, 24, []), (0, 0, 24, []), (2, 7, 0, [(3, 72), (3, 73), (3, 74), (3, 75), (3, 76), (3, 77), (3, 78), (0, 0), (0, 0), (0, 0)]), (0, 0, 200, []), (0, 0, 200, []), (0, 0, 14, []), (0, 0, 14, []), (0, 0, 14, []), (0, 0, 14, []), (0, 0, 40, [])]
def LM : List qY := [(2, 12, 0, [(0, 0), (0, 0), (0, 0), (0, 0), (3, 1), (3, 2), (3, 3), (3, 4), (3, 5), (3, 6), (3, 7), (3, 8), (3, 9), (3, 10), (3, 11), (3, 12), (3, 13), (3, 14), (3, 15), (3, 16), (3, 17), (3, 18), (3, 19), (3, 20), (3, 21), (3, 22), (0, 0), (0, 0), (0, 0), (0, 0), (0, 0), (0, 0), (0, 0), (0, 0), (0, 0), (0, 0), (3, 23), (3, 24), (3, 25), (3, 26), (3, 27), (3, 28), (3, 29), (3, 30), (3, 31), (3, 32), (3, 33), (3, 34), (3, 35), (3, 36), (3, 37), (3, 38), (3, 39), (3, 40), (3, 41), (3, 42), (3, 43), (3, 44), (3, 45), (3, 46), (3, 47), (3, 48), (3, 49), (0, 0), (3, 50), (3, 51), (3, 52), (3, 53), (3, 54), (3, 55), (3, 56), (3, 57), (3, 58), (3, 59), (3, 60), (3, 61), (3, 62), (3, 63)]), (0, 1, 48, []), (0, 1, 48, []), (0, 0, 48, []), (0, 0, 48, []), (0, 0, 48, []), (0, 0, 48, []), (0, 0, 48, []), (0, 0, 48, []), (0, 0, 48, []), (0, 0, 48, []), (0, 0, 6, []), (0, 0, 6, []), (0, 0, 6, []), (0, 0, 8, []), (0, 0, 8, []), (0, 0, 8, []), (0, 0, 8, []), (0, 0, 8, []), (0, 0, 8, []), (0, 0, 8, []), (0, 0, 8, []), (0, 2, 220, []), (0, 0, 220, []), (0, 0, 220, []), (0, 0, 14, []), (0, 0, 14, []), (0, 0, 14, []), (0, 0, 14, []), (0, 0, 220, []), (0, 0, 14, []), (0, 0, 14, []), (0, 0, 14, []), (0, 0, 14, []), (0, 0, 220, []), (0, 0, 14, []), (0, 0, 8, []), (0, 0, 8, []), (0, 0, 60, []), (0, 0, 60, []), (0, 0, 60, []), (0, 0, 60, []), (0, 0, 60, []), (0, 0, 60, []), (0, 0, 60, []), (0, 1, 60, []), (0, 1, 60, []), (0, 1, 48, []), (0, 0, 48, []), (0, 0, 48, []), (0, 0, 8, []), (0, 0, 8, []), (0, 0, 8, []), (0, 0, 2048, []), (1, 3, 8, []), (1, 3, 8, []), (1, 3, 8, []), (1, 3, 8, []), (0, 0, 48, []), (0, 0, 48, []), (0, 0, 4, []), (0, 0, 4, []), (0, 0, 4, []), (0, 0, 256, [])]
def bi (p : Prop) [Decidable p] : Int := if p then 1 else 0
end
section
/-! WHAT STAYS: bounds of places, what is not written -/
def iva (I : List (Nat × Int × Int × Int)) (A : qA) : Prop := ∀ c ∈ I, ∀ i, 0 ≤ i → i < c.2.1 → c.2.2.1 ≤ A c.1 i ∧ A c.1 i ≤ c.2.2.2
def ivf (J : List (Nat × Nat × Int × Int)) (A : qA) : Prop := ∀ c ∈ J, c.2.2.1 ≤ A c.1 (fd c.2.1) ∧ A c.1 (fd c.2.1) ≤ c.2.2.2
theorem iva_at {I : List (Nat × Int × Int × Int)} {A : qA} (h : iva I A) (k : Nat) {r : Nat} {n lo hi i : Int} (hk : I[k]? = some (r, n, lo, hi)) (h0 : 0 ≤ i) (h1 : i < n) : lo ≤ A r i ∧ A r i ≤ hi := h _ (List.mem_of_getElem? hk) i h0 h1
theorem ivf_at {J : List (Nat × Nat × Int × Int)} {A : qA} (h : ivf J A) (k : Nat) {r j : Nat} {lo hi : Int} (hk : J[k]? = some (r, j, lo, hi)) : lo ≤ A r (fd j) ∧ A r (fd j) ≤ hi := h _ (List.mem_of_getElem? hk)
/-- what a number must keep to be put at a place -/
def iba (r : Nat) (v : Int) : List (Nat × Int × Int × Int) → Prop
  | [] => True
  | (r', _, lo, hi) :: I => bif Nat.beq r' r then (lo ≤ v ∧ v ≤ hi) ∧ iba r v I else iba r v I
def ibf (r j : Nat) (v : Int) : List (Nat × Nat × Int × Int) → Prop
  | [] => True
  | (r', j', lo, hi) :: J => bif Nat.beq r' r && Nat.beq j' j then (lo ≤ v ∧ v ≤ hi) ∧ ibf r j v J else ibf r j v J
theorem iba_p {r : Nat} {v : Int} : ∀ {I : List (Nat × Int × Int × Int)} {c : Nat × Int × Int × Int}, iba r v I → c ∈ I → c.1 = r → c.2.2.1 ≤ v ∧ v ≤ c.2.2.2
  | (r', n, lo, hi) :: I, c, h, hc, e => by
    unfold iba at h
    cases hb : Nat.beq r' r
    · rw [hb] at h
      rcases List.mem_cons.mp hc with rfl | hc
      · have e : r' = r := e
        rw [e, Nat.beq_refl] at hb; cases hb
      · exact iba_p h hc e
    · rw [hb] at h
      rcases List.mem_cons.mp hc with rfl | hc
      · exact h.1
      · exact iba_p h.2 hc e
theorem fd_inj {i j : Nat} (h : fd i = fd j) : i = j := Int.ofNat_inj.mp h
theorem ibf_p {r j : Nat} {v : Int} : ∀ {J : List (Nat × Nat × Int × Int)} {c : Nat × Nat × Int × Int}, ibf r j v J → c ∈ J → c.1 = r → c.2.1 = j → c.2.2.1 ≤ v ∧ v ≤ c.2.2.2
  | (r', j', lo, hi) :: J, c, h, hc, e, e2 => by
    unfold ibf at h
    cases hb : (Nat.beq r' r && Nat.beq j' j)
    · rw [hb] at h
      rcases List.mem_cons.mp hc with rfl | hc
      · have e : r' = r := e
        have e2 : j' = j := e2
        rw [e, e2, Nat.beq_refl, Nat.beq_refl] at hb; cases hb
      · exact ibf_p h hc e e2
    · rw [hb] at h
      rcases List.mem_cons.mp hc with rfl | hc
      · exact h.1
      · exact ibf_p h.2 hc e e2
theorem iva_st {I : List (Nat × Int × Int × Int)} {A A' : qA} {r : Nat} {j v : Int} (h : iva I A) (e : A' = qu A r j v) (hb : iba r v I) : iva I A' := by
  subst e
  intro c hc i h0 h1
  rw [qu_is]
  split
  · next q => exact iba_p hb hc q.1
  · exact h c hc i h0 h1
/-- no place of J is an array's -/
def nof (r : Nat) (J : List (Nat × Nat × Int × Int)) : Bool := J.all (fun c => !(Nat.beq c.1 r))
def noa (r : Nat) (I : List (Nat × Int × Int × Int)) : Bool := I.all (fun c => !(Nat.beq c.1 r))
theorem ivf_sa {J : List (Nat × Nat × Int × Int)} {A A' : qA} {r : Nat} {j v : Int} (h : ivf J A) (e : A' = qu A r j v) (hb : nof r J = true) : ivf J A' := by
  subst e
  intro c hc
  rw [qu_is, if_neg]
  · exact h c hc
  · intro q
    have := List.all_eq_true.mp hb c hc
    rw [q.1, Nat.beq_refl] at this
    cases this
theorem iva_sf {I : List (Nat × Int × Int × Int)} {A A' : qA} {r : Nat} {j v : Int} (h : iva I A) (e : A' = qu A r j v) (hb : noa r I = true) : iva I A' := by
  subst e
  intro c hc i h0 h1
  rw [qu_is, if_neg]
  · exact h c hc i h0 h1
  · intro q
    have := List.all_eq_true.mp hb c hc
    rw [q.1, Nat.beq_refl] at this
    cases this
theorem ivf_st {J : List (Nat × Nat × Int × Int)} {A A' : qA} {r j : Nat} {v : Int} (h : ivf J A) (e : A' = qu A r (fd j) v) (hb : ibf r j v J) : ivf J A' := by
  subst e
  intro c hc
  rw [qu_is]
  split
  · next q => exact ibf_p hb hc q.1 (fd_inj q.2)
  · exact h c hc
/-- nothing is written but the arrays of W and the fields of V -/
def frm (W : List Nat) (V : List (Nat × Nat)) (A A' : qA) : Prop := ∀ r i, r ∉ W → (∀ f ∈ V, ¬ (f.1 = r ∧ i = fd f.2)) → A' r i = A r i
def noV (r : Nat) (V : List (Nat × Nat)) : Bool := V.all (fun f => !(Nat.beq f.1 r))
def noVf (r j : Nat) (V : List (Nat × Nat)) : Bool := V.all (fun f => !(Nat.beq f.1 r && Nat.beq f.2 j))
def noW (r : Nat) (W : List Nat) : Bool := W.all (fun w => !(Nat.beq w r))
theorem noW_p {r : Nat} {W : List Nat} (h : noW r W = true) : r ∉ W := fun q => by
  have := List.all_eq_true.mp h r q
  rw [Nat.beq_refl] at this; cases this
theorem frm_0 (W : List Nat) (V : List (Nat × Nat)) (A : qA) : frm W V A A := fun _ _ _ _ => rfl
theorem frm_a {W : List Nat} {V : List (Nat × Nat)} {A A' : qA} (h : frm W V A A') {r : Nat} (h1 : (noW r W && noV r V) = true) : A' r = A r := by
  simp only [Bool.and_eq_true] at h1
  funext i
  exact h r i (noW_p h1.1) (fun f hf q => by
    have := List.all_eq_true.mp h1.2 f hf
    rw [q.1, Nat.beq_refl] at this; cases this)
theorem frm_f {W : List Nat} {V : List (Nat × Nat)} {A A' : qA} (h : frm W V A A') {r j : Nat} (h1 : (noW r W && noVf r j V) = true) : A' r (fd j) = A r (fd j) := by
  simp only [Bool.and_eq_true] at h1
  exact h r _ (noW_p h1.1) (fun f hf q => by
    have := List.all_eq_true.mp h1.2 f hf
    rw [q.1, ← fd_inj q.2, Nat.beq_refl, Nat.beq_refl] at this; cases this)
def subW (W' W : List Nat) (V' V : List (Nat × Nat)) : Bool := W'.all (fun w => W.contains w) && V'.all (fun f => W.contains f.1 || V.contains f)
theorem frm_c {W W' : List Nat} {V V' : List (Nat × Nat)} {A A1 A2 : qA} (h : frm W V A A1) (h2 : frm W' V' A1 A2) (hs : subW W' W V' V = true) : frm W V A A2 := by
  simp only [subW, Bool.and_eq_true, List.all_eq_true, Bool.or_eq_true, List.contains_iff_mem] at hs
  intro r i hr hf
  rw [h2 r i (fun q => hr (hs.1 r q)) (fun f hf' q => by
    rcases hs.2 f hf' with z | z
    · rw [q.1] at z; exact hr z
    · exact hf f z q)]
  exact h r i hr hf
theorem frm_s {W : List Nat} {V : List (Nat × Nat)} {A A1 A2 : qA} {r : Nat} {j v : Int} (h : frm W V A A1) (e : A2 = qu A1 r j v) (hs : W.contains r = true) : frm W V A A2 := by
  subst e
  intro r' i hr hf
  rw [qu_is, if_neg]
  · exact h r' i hr hf
  · intro q
    rw [q.1] at hr
    exact hr (List.contains_iff_mem.mp hs)
theorem frm_sf {W : List Nat} {V : List (Nat × Nat)} {A A1 A2 : qA} {r j : Nat} {v : Int} (h : frm W V A A1) (e : A2 = qu A1 r (fd j) v) (hs : V.contains (r, j) = true) : frm W V A A2 := by
  subst e
  intro r' i hr hf
  rw [qu_is, if_neg]
  · exact h r' i hr hf
  · intro q
    exact hf _ (List.contains_iff_mem.mp hs) ⟨q.1.symm, q.2⟩
theorem st_a {A A' : qA} {r r' : Nat} {j v : Int} (e : A' = qu A r j v) (h : Nat.beq r' r = false) : A' r' = A r' := by
  subst e
  exact qu_ne (fun q => by rw [q, Nat.beq_refl] at h; cases h)
theorem st_f {A A' : qA} {r j j' : Nat} {v : Int} (e : A' = qu A r (fd j) v) (h : Nat.beq j' j = false) : A' r (fd j') = A r (fd j') := by
  subst e
  exact qu_nj (fun q => by rw [fd_inj q, Nat.beq_refl] at h; cases h)
theorem st_v {A A' : qA} {r : Nat} {j v : Int} (e : A' = qu A r j v) : A' r j = v := by subst e; exact qu_at _ _ _ _
/-- copies -/
theorem iva_cp {I : List (Nat × Int × Int × Int)} {A A' : qA} {r0 r : Nat} {sp dp n : Int} (h : iva I A) (e : A' = qcpy A r0 sp r dp n) (hb : ∀ i, 0 ≤ i → i < n → iba r (A r0 (sp + i)) I) : iva I A' := by
  subst e
  intro c hc i h0 h1
  unfold qcpy
  split
  · next q =>
    exact iba_p (hb (i - dp) (by omega) (by omega)) hc q.1
  · exact h c hc i h0 h1
theorem ivf_cp {J : List (Nat × Nat × Int × Int)} {A A' : qA} {r0 r : Nat} {sp dp n : Int} (h : ivf J A) (e : A' = qcpy A r0 sp r dp n) (hb : nof r J = true) : ivf J A' := by
  subst e
  intro c hc
  unfold qcpy
  rw [if_neg]
  · exact h c hc
  · intro q
    have := List.all_eq_true.mp hb c hc
    rw [q.1, Nat.beq_refl] at this
    cases this
theorem frm_cp {W : List Nat} {V : List (Nat × Nat)} {A A1 A2 : qA} {r0 r : Nat} {sp dp n : Int} (h : frm W V A A1) (e : A2 = qcpy A1 r0 sp r dp n) (hs : W.contains r = true) : frm W V A A2 := by
  subst e
  intro r' i hr hf
  unfold qcpy
  rw [if_neg]
  · exact h r' i hr hf
  · intro q
    rw [q.1] at hr
    exact hr (List.contains_iff_mem.mp hs)
theorem cp_a {A A' : qA} {r0 r r' : Nat} {sp dp n : Int} (e : A' = qcpy A r0 sp r dp n) (h : Nat.beq r' r = false) : A' r' = A r' := by
  subst e
  funext i
  exact if_neg (fun q => by rw [q.1, Nat.beq_refl] at h; cases h)
/-! numbers that are computed -/
theorem qd_nn {a b : Int} (h : 0 ≤ a) : qd a b = a / b := Int.tdiv_eq_ediv_of_nonneg h
theorem qm_nn {a b : Int} (h : 0 ≤ a) : qm a b = a % b := Int.tmod_eq_emod_of_nonneg h
theorem qm_bd {a b : Int} (h : 0 < b) : -b < qm a b ∧ qm a b < b := by
  unfold qm
  exact ⟨Int.lt_tmod_of_pos a h, Int.tmod_lt_of_pos a h⟩
theorem qd_bd {a b lo hi : Int} (hb : 0 < b) (h1 : lo ≤ a) (h2 : a ≤ hi) (h3 : lo ≤ 0) (h4 : 0 ≤ hi) : lo ≤ qd a b ∧ qd a b ≤ hi := by
  unfold qd
  rcases Int.le_total 0 a with h | h
  · rw [Int.tdiv_eq_ediv_of_nonneg h]
    have e1 := Int.ediv_nonneg h (Int.le_of_lt hb)
    have e2 := Int.ediv_le_self b h
    exact ⟨by omega, by omega⟩
  · have h' : 0 ≤ -a := by omega
    have e0 : Int.tdiv a b = - ((-a) / b) := by
      rw [← Int.tdiv_eq_ediv_of_nonneg h', Int.neg_tdiv, Int.neg_neg]
    have e1 := Int.ediv_nonneg h' (Int.le_of_lt hb)
    have e2 := Int.ediv_le_self b h'
    rw [e0]
    exact ⟨by omega, by omega⟩
theorem mul_bd {a b p q : Int} (h1 : 0 ≤ a) (h2 : a ≤ p) (h3 : 0 ≤ b) (h4 : b ≤ q) : 0 ≤ a * b ∧ a * b ≤ p * q :=
  ⟨Int.mul_nonneg h1 h3, Int.mul_le_mul h2 h4 h3 (Int.le_trans h1 h2)⟩
theorem and_bv (a b : Int) : (Int32.ofInt a &&& Int32.ofInt b).toBitVec = BitVec.ofInt 32 a &&& BitVec.ofInt 32 b := rfl
theorem ofi_nat {a : Int} (h : 0 ≤ a) : BitVec.ofInt 32 a = BitVec.ofNat 32 a.toNat := by
  obtain ⟨n, rfl⟩ := Int.eq_ofNat_of_zero_le h
  rw [Int.toNat_natCast]; rfl
theorem bv_toInt {n : Nat} (h : n < 2147483648) : (BitVec.ofNat 32 n).toInt = n := by
  rw [BitVec.toInt_eq_toNat_of_lt, BitVec.toNat_ofNat, Nat.mod_eq_of_lt (by omega)]
  rw [BitVec.toNat_ofNat, Nat.mod_eq_of_lt (by omega)]
  omega
theorem ia_nat {a b : Int} (ha : rng a) (hb : rng b) (h0 : 0 ≤ a) (h1 : 0 ≤ b) : ia a b = ((a.toNat &&& b.toNat : Nat) : Int) := by
  have e : ia a b = (BitVec.ofInt 32 a &&& BitVec.ofInt 32 b).toInt := rfl
  rw [e, ofi_nat h0, ofi_nat h1, ← BitVec.ofNat_and, bv_toInt]
  exact Nat.lt_of_le_of_lt Nat.and_le_left (by omega)
theorem io_nat {a b : Int} (ha : rng a) (hb : rng b) (h0 : 0 ≤ a) (h1 : 0 ≤ b) : io a b = ((a.toNat ||| b.toNat : Nat) : Int) := by
  have e : io a b = (BitVec.ofInt 32 a ||| BitVec.ofInt 32 b).toInt := rfl
  rw [e, ofi_nat h0, ofi_nat h1, ← BitVec.ofNat_or, bv_toInt]
  exact Nat.or_lt_two_pow (n := 31) (by omega) (by omega)
/-- and with a number that is not below 0 -/
theorem ia_bd {a b : Int} (hb : rng b) (h1 : 0 ≤ b) : 0 ≤ ia a b ∧ ia a b ≤ b := by
  have e : ia a b = (BitVec.ofInt 32 a &&& BitVec.ofInt 32 b).toInt := rfl
  rw [e, ofi_nat h1]
  have h2 : (BitVec.ofInt 32 a &&& BitVec.ofNat 32 b.toNat).toNat ≤ b.toNat := by
    rw [BitVec.toNat_and, BitVec.toNat_ofNat, Nat.mod_eq_of_lt (by omega)]
    exact Nat.and_le_right
  rw [BitVec.toInt_eq_toNat_of_lt (by omega)]
  omega
theorem ia_comm (a b : Int) : ia a b = ia b a := by
  unfold ia
  rw [Int32.and_comm]
theorem io_bd {a b : Int} (k : Nat) (hk : k ≤ 31) (h0 : 0 ≤ a) (h1 : 0 ≤ b) (h2 : a < (2 ^ k : Nat)) (h3 : b < (2 ^ k : Nat)) : 0 ≤ io a b ∧ io a b < (2 ^ k : Nat) := by
  have hp : (2 ^ k : Nat) ≤ 2 ^ 31 := Nat.pow_le_pow_right (by decide) hk
  have hp2 : ((2 ^ k : Nat) : Int) ≤ 2147483648 := by
    have : ((2 ^ 31 : Nat) : Int) = 2147483648 := by decide
    omega
  rw [io_nat ⟨by omega, by omega⟩ ⟨by omega, by omega⟩ h0 h1]
  have := Nat.or_lt_two_pow (n := k) (x := a.toNat) (y := b.toNat) (by omega) (by omega)
  omega
theorem sr_sh {a b : Int} (ha : rng a) : sr a b = a >>> ((Int32.ofInt b &&& 31).toBitVec.smod 32).toNat := by
  have e : sr a b = (BitVec.sshiftRight' (Int32.ofInt a).toBitVec ((Int32.ofInt b &&& 31).toBitVec.smod 32)).toInt := rfl
  rw [e, BitVec.toInt_sshiftRight']
  have e2 : (Int32.ofInt a).toBitVec.toInt = a := iI_to ha
  rw [e2]
theorem sh_k : ∀ k < 32, ((Int32.ofInt ((k : Nat) : Int) &&& 31).toBitVec.smod 32).toNat = k := by decide +kernel
theorem sr_is {a b : Int} (ha : rng a) (h0 : 0 ≤ b) (h1 : b < 32) : sr a b = a / 2 ^ b.toNat := by
  rw [sr_sh ha]
  have := sh_k b.toNat (by omega)
  rw [show ((b.toNat : Nat) : Int) = b by omega] at this
  rw [this, Int.shiftRight_eq_div_pow]
  norm_cast
theorem sr_bd {a b : Int} (ha : rng a) (h0 : 0 ≤ a) : 0 ≤ sr a b ∧ sr a b ≤ a := by
  rw [sr_sh ha, Int.shiftRight_eq_div_pow]
  exact ⟨Int.ediv_nonneg h0 (by exact_mod_cast Nat.zero_le _), Int.ediv_le_self _ h0⟩
theorem sl_k : ∀ k < 31, sl 1 ((k : Nat) : Int) = ((2 ^ k : Nat) : Int) := by decide +kernel
theorem sl_1 {b : Int} (h0 : 0 ≤ b) (h1 : b < 31) : sl 1 b = ((2 ^ b.toNat : Nat) : Int) := by
  have := sl_k b.toNat (by omega)
  rw [show ((b.toNat : Nat) : Int) = b by omega] at this
  exact this
theorem sl_bd {b : Int} (m : Nat) (hm : m < 31) (h0 : 0 ≤ b) (h1 : b ≤ m) : 1 ≤ sl 1 b ∧ sl 1 b ≤ ((2 ^ m : Nat) : Int) := by
  rw [sl_1 h0 (by omega)]
  have h2 : (2 ^ b.toNat : Nat) ≤ 2 ^ m := Nat.pow_le_pow_right (by decide) (by omega)
  have h3 : 0 < (2 ^ b.toNat : Nat) := Nat.pow_pos (by decide)
  omega
theorem bi_1 {p : Prop} [Decidable p] (h : p) : bi p = 1 := if_pos h
theorem bi_0 {p : Prop} [Decidable p] (h : ¬ p) : bi p = 0 := if_neg h
theorem w8_bd (z : Int) : -128 ≤ w8 z ∧ w8 z < 128 := by
  unfold w8
  rw [Int8.toInt_toInt32]
  have h1 := Int8.le_toInt (Int32.ofInt z).toInt8
  have h2 := Int8.toInt_lt (Int32.ofInt z).toInt8
  omega
theorem abs_bd (x : Int) : ((if 0 ≤ x then x else -x) = x ∧ 0 ≤ x) ∨ ((if 0 ≤ x then x else -x) = -x ∧ x < 0) := by
  by_cases h : 0 ≤ x
  · rw [if_pos h]; exact Or.inl ⟨rfl, h⟩
  · rw [if_neg h]; exact Or.inr ⟨rfl, by omega⟩
end
section
def IC : List (Nat × Int × Int × Int) := [(2, 48, 0, 2147483647), (5, 48, 0, 3), (6, 48, (-1), 5), (7, 48, 0, 200), (9, 48, 0, 20), (10, 48, 0, 1), (28, 61, 0, 1), (29, 61, 0, 1), (11, 6, 0, 20), (12, 6, 1, 200), (13, 6, 0, 99), (14, 48, 0, 2147483647), (16, 8, 0, 99), (17, 8, 0, 7), (18, 8, 0, 9999), (21, 8, 0, 999), (22, 8, 0, 99), (25, 61, 0, 47), (26, 61, (-1), 5), (27, 61, 0, 200), (30, 61, 0, 6), (31, 61, (-1), 7), (47, 4, 0, 7), (48, 4, 0, 99), (49, 8, 0, 99), (50, 48, 0, 20), (53, 220, 0, 255), (56, 8, 0, 47), (58, 8, 0, 99), (59, 8, 0, 6), (62, 8, 0, 47), (65, 5, 0, 47), (66, 5, (-1), 5), (67, 5, (-1), 5), (38, 200, 0, 99999), (73, 200, 0, 99999), (40, 14, 0, 200), (41, 14, 0, 200), (42, 14, 0, 200), (75, 14, 0, 200), (76, 14, 0, 200), (77, 14, 0, 200)]
def JC : List (Nat × Nat × Int × Int) := [(24, 9, 0, 60), (52, 1, 0, 220), (44, 9, 0, 4), (55, 7, 0, 8), (63, 6, 0, 5), (0, 11, 0, 65535), (36, 7, 0, 14), (36, 8, 0, 200), (36, 9, 0, 40), (71, 7, 0, 14), (71, 8, 0, 200), (71, 9, 0, 40)]
/-- whether a cell hangs -/
def hb (A : qA) (c : Int) : Int := jc (ja (jsu (A 1 (fd 0)) c) 1) 0
abbrev HG (A : qA) (c : Int) : Prop := hb A c ≠ 0
def sC_within : qS := fun as A K => ∃ n m : Int, as = [ni n, ni m] ∧ ((0 ≤ n ∧ n ≤ m → K (some (ni 1)) A) ∧ (¬ (0 ≤ n ∧ n ≤ m) → K (some (ni 0)) A))
theorem okC_within : okM LC 1 138 sC_within := by
  refine qmeth [] false [] 15 rfl trivial ?_
  rintro _ A K hA has ⟨n, m, rfl, hK⟩
  have rg_n : rng n := has (ni n) (by simp)
  have rg_m : rng m := has (ni m) (by simp)
  refine ⟨Nat.le_of_ble_eq_true rfl, [], trivial, ?_⟩
  refine And.intro (fun h1 => ?_) (fun h1 => ?_)
  · exact And.intro (by omega) (hK.2 (by first | omega | (subst_vars; omega) | (simp_all; done) | (simp_all; omega)))
  · refine And.intro (fun h2 => ?_) (fun h2 => ?_)
    · exact And.intro (by omega) (hK.2 (by first | omega | (subst_vars; omega) | (simp_all; done) | (simp_all; omega)))
    · exact And.intro (by omega) (hK.1 (by first | omega | (subst_vars; omega) | (simp_all; done) | (simp_all; omega)))
def sC_isColumn : qS := fun as A K => ∃ n : Int, as = [ni n] ∧ ((0 ≤ n ∧ n ≤ 7 → K (some (ni 1)) A) ∧ (¬ (0 ≤ n ∧ n ≤ 7) → K (some (ni 0)) A))
theorem okC_isColumn : okM LC 2 139 sC_isColumn := by
  refine qmeth [] false [(138, sC_within)] 10 rfl ⟨okC_within.le (by decide), trivial⟩ ?_
  rintro _ A K hA has ⟨n, rfl, hK⟩
  have rg_n : rng n := has (ni n) (by simp)
  refine ⟨Nat.le_of_ble_eq_true rfl, [], trivial, ?_⟩
  refine Exists.intro n (Exists.intro 7 (And.intro rfl (And.intro (fun h1 => ?_) (fun h1 => ?_))))
  · exact And.intro (by omega) (hK.1 (by first | omega | (subst_vars; omega) | (simp_all; done) | (simp_all; omega)))
  · exact And.intro (by omega) (hK.2 (by first | omega | (subst_vars; omega) | (simp_all; done) | (simp_all; omega)))
def sC_isPerson : qS := fun as A K => ∃ n : Int, as = [ni n] ∧ ((0 ≤ n ∧ n ≤ 7 → K (some (ni 1)) A) ∧ (¬ (0 ≤ n ∧ n ≤ 7) → K (some (ni 0)) A))
theorem okC_isPerson : okM LC 2 140 sC_isPerson := by
  refine qmeth [] false [(138, sC_within)] 10 rfl ⟨okC_within.le (by decide), trivial⟩ ?_
  rintro _ A K hA has ⟨n, rfl, hK⟩
  have rg_n : rng n := has (ni n) (by simp)
  refine ⟨Nat.le_of_ble_eq_true rfl, [], trivial, ?_⟩
  refine Exists.intro n (Exists.intro 7 (And.intro rfl (And.intro (fun h1 => ?_) (fun h1 => ?_))))
  · exact And.intro (by omega) (hK.1 (by first | omega | (subst_vars; omega) | (simp_all; done) | (simp_all; omega)))
  · exact And.intro (by omega) (hK.2 (by first | omega | (subst_vars; omega) | (simp_all; done) | (simp_all; omega)))
def sC_isCell : qS := fun as A K => ∃ n l : Int, as = [ni n, ni l] ∧ (((0 ≤ n ∧ n ≤ 7) ∧ (0 ≤ l ∧ l ≤ 5) → K (some (ni 1)) A) ∧ (¬ ((0 ≤ n ∧ n ≤ 7) ∧ (0 ≤ l ∧ l ≤ 5)) → K (some (ni 0)) A))
theorem okC_isCell : okM LC 3 141 sC_isCell := by
  refine qmeth [] false [(139, sC_isColumn), (138, sC_within)] 17 rfl ⟨okC_isColumn.le (by decide), ⟨okC_within.le (by decide), trivial⟩⟩ ?_
  rintro _ A K hA has ⟨n, l, rfl, hK⟩
  have rg_n : rng n := has (ni n) (by simp)
  have rg_l : rng l := has (ni l) (by simp)
  refine ⟨Nat.le_of_ble_eq_true rfl, [], trivial, ?_⟩
  refine Exists.intro n (And.intro rfl (And.intro (fun h1 => ?_) (fun h1 => ?_)))
  · refine And.intro (fun h2 => by exfalso; omega) (fun h2 => ?_)
    refine Exists.intro l (Exists.intro 5 (And.intro rfl (And.intro (fun h3 => ?_) (fun h3 => ?_))))
    · refine And.intro (fun h4 => by exfalso; omega) (fun h4 => ?_)
      exact And.intro (by omega) (hK.1 (by first | omega | (subst_vars; omega) | (simp_all; done) | (simp_all; omega)))
    · refine And.intro (fun h5 => ?_) (fun h5 => by exfalso; omega)
      exact And.intro (by omega) (hK.2 (by first | omega | (subst_vars; omega) | (simp_all; done) | (simp_all; omega)))
  · refine And.intro (fun h6 => ?_) (fun h6 => by exfalso; omega)
    exact And.intro (by omega) (hK.2 (by first | omega | (subst_vars; omega) | (simp_all; done) | (simp_all; omega)))
def sC_endOfColumn : qS := fun as A K => ∃ c : Int, as = [ni c] ∧ (0 ≤ c ∧ c ≤ 47) ∧ (K (some (ni (c - c % 6 + 6))) A)
theorem okC_endOfColumn : okM LC 1 20 sC_endOfColumn := by
  refine qmeth [] false [] 14 rfl trivial ?_
  rintro _ A K hA has ⟨c, rfl, ⟨p1, p2⟩, hK⟩
  have rg_c : rng c := has (ni c) (by simp)
  refine ⟨Nat.le_of_ble_eq_true rfl, [], trivial, ?_⟩
  refine And.intro (by omega) (fun v3 e4 => ?_)
  have h5 := qm_nn (a := c) (b := 6) (by omega)
  refine fun v6 e7 => ?_
  refine fun v8 e9 => ?_
  refine And.intro (by omega) (?_)
  have hq : v8 = c - c % 6 + 6 := by first | rfl | omega | simp_all
  rw [hq]
  exact hK
def sC_hangs : qS := fun as A K => ∃ c : Int, as = [rf 1, ni c] ∧ ((0 ≤ c ∧ c ≤ 47 ∧ HG A c → K (some (ni 1)) A) ∧ (¬ (0 ≤ c ∧ c ≤ 47 ∧ HG A c) → K (some (ni 0)) A))
theorem okC_hangs : okM LC 1 21 sC_hangs := by
  refine qmeth [] false [] 24 rfl trivial ?_
  rintro _ A K hA has ⟨c, rfl, hK⟩
  have rg_c : rng c := has (ni c) (by simp)
  refine ⟨Nat.le_of_ble_eq_true rfl, [], trivial, ?_⟩
  refine And.intro (fun h1 => ?_) (fun h1 => ?_)
  · exact And.intro (by omega) (hK.2 (by first | omega | (subst_vars; simp only [HG, hb]; omega)))
  · refine And.intro (fun h2 => ?_) (fun h2 => ?_)
    · exact And.intro (by omega) (hK.2 (by first | omega | (subst_vars; simp only [HG, hb]; omega)))
    · refine fun v3 e4 => ?_
      refine fun v5 e6 => ?_
      refine fun (v7 : Int) (e8 : v7 = 1) => ?_
      refine fun v9 e10 => ?_
      refine fun (v11 : Int) (e12 : v11 = 0) => ?_
      refine fun v13 e14 => ?_
      refine And.intro (fun h15 => ?_) (fun h15 => ?_)
      · exact And.intro (by omega) (hK.2 (by first | omega | (subst_vars; simp only [HG, hb]; omega)))
      · exact And.intro (by omega) (hK.1 (by first | omega | (subst_vars; simp only [HG, hb]; omega)))
def sC_hasCrop : qS := fun as A K => ∃ c : Int, as = [rf 1, ni c] ∧ ((0 ≤ c ∧ c ≤ 47 ∧ HG A c ∧ 0 ≤ A 6 c ∧ A 6 c ≤ 5 → K (some (ni 1)) A) ∧ (¬ (0 ≤ c ∧ c ≤ 47 ∧ HG A c ∧ 0 ≤ A 6 c ∧ A 6 c ≤ 5) → K (some (ni 0)) A))
theorem okC_hasCrop : okM LC 2 22 sC_hasCrop := by
  refine qmeth [] false [(21, sC_hangs), (138, sC_within)] 21 rfl ⟨okC_hangs.le (by decide), ⟨okC_within.le (by decide), trivial⟩⟩ ?_
  rintro _ A K hA has ⟨c, rfl, hK⟩
  have rg_c : rng c := has (ni c) (by simp)
  refine ⟨Nat.le_of_ble_eq_true rfl, [], trivial, ?_⟩
  refine Exists.intro c (And.intro rfl (And.intro (fun h1 => ?_) (fun h1 => ?_)))
  · refine And.intro (fun h2 => by exfalso; omega) (fun h2 => ?_)
    refine And.intro (by omega) (fun v3 gv3 e4 => ?_)
    refine Exists.intro v3 (Exists.intro 5 (And.intro rfl (And.intro (fun h5 => ?_) (fun h5 => ?_))))
    · refine And.intro (fun h6 => by exfalso; omega) (fun h6 => ?_)
      exact And.intro (by omega) (hK.1 (by first | omega | (subst_vars; omega) | (simp_all; done) | (simp_all; omega)))
    · refine And.intro (fun h7 => ?_) (fun h7 => by exfalso; omega)
      exact And.intro (by omega) (hK.2 (by first | omega | (subst_vars; omega) | (simp_all; done) | (simp_all; omega)))
  · refine And.intro (fun h8 => ?_) (fun h8 => by exfalso; omega)
    exact And.intro (by omega) (hK.2 (by first | omega | (subst_vars; omega) | (simp_all; done) | (simp_all; omega)))
def sC_isRipe : qS := fun as A K => ∃ c : Int, as = [rf 1, ni c] ∧ (iva IC A ∧ ivf JC A) ∧ (∀ r : Int, 0 ≤ r → r ≤ 1 → K (some (ni r)) A)
theorem okC_isRipe : okM LC 3 23 sC_isRipe := by
  refine qmeth [] false [(22, sC_hasCrop)] 26 rfl ⟨okC_hasCrop.le (by decide), trivial⟩ ?_
  rintro _ A K hA has ⟨c, rfl, ⟨i0, j0⟩, hK⟩
  have rg_c : rng c := has (ni c) (by simp)
  have f0 := frm_0 [] [] A
  refine ⟨Nat.le_of_ble_eq_true rfl, [], trivial, ?_⟩
  refine Exists.intro c (And.intro rfl (And.intro (fun h1 => ?_) (fun h1 => ?_)))
  · refine And.intro (fun h2 => by exfalso; omega) (fun h2 => ?_)
    refine And.intro (by omega) (fun v3 gv3 e4 => ?_)
    have b5 := iva_at i0 3 rfl (i := c) (by omega) (by omega)
    refine And.intro (by omega) (fun v6 gv6 e7 => ?_)
    have b8 := iva_at i0 2 rfl (i := c) (by omega) (by omega)
    refine And.intro (by omega) (fun v9 gv9 e10 => ?_)
    have b11 := iva_at i0 9 rfl (i := v6) (by omega) (by omega)
    refine And.intro (fun h12 => ?_) (fun h12 => ?_)
    · exact And.intro (by omega) (hK _ (by omega) (by omega))
    · exact And.intro (by omega) (hK _ (by omega) (by omega))
  · refine And.intro (fun h13 => ?_) (fun h13 => by exfalso; omega)
    exact And.intro (by omega) (hK _ (by omega) (by omega))
def sC_needOf : qS := fun as A K => ∃ c : Int, as = [rf 1, ni c] ∧ (iva IC A ∧ ivf JC A) ∧ (∀ r : Int, 0 ≤ r → r ≤ 20 → K (some (ni r)) A)
theorem okC_needOf : okM LC 3 24 sC_needOf := by
  refine qmeth [] false [(22, sC_hasCrop)] 20 rfl ⟨okC_hasCrop.le (by decide), trivial⟩ ?_
  rintro _ A K hA has ⟨c, rfl, ⟨i0, j0⟩, hK⟩
  have rg_c : rng c := has (ni c) (by simp)
  have f0 := frm_0 [] [] A
  refine ⟨Nat.le_of_ble_eq_true rfl, [], trivial, ?_⟩
  refine Exists.intro c (And.intro rfl (And.intro (fun h1 => ?_) (fun h1 => ?_)))
  · refine And.intro (fun h2 => by exfalso; omega) (fun h2 => ?_)
    refine And.intro (by omega) (fun v3 gv3 e4 => ?_)
    have b5 := iva_at i0 2 rfl (i := c) (by omega) (by omega)
    refine And.intro (by omega) (fun v6 gv6 e7 => ?_)
    have b8 := iva_at i0 8 rfl (i := v3) (by omega) (by omega)
    exact hK _ (by omega) (by omega)
  · refine And.intro (fun h9 => ?_) (fun h9 => by exfalso; omega)
    exact hK _ (by omega) (by omega)
def sC_setCrop : qS := fun as A K => ∃ c k w : Int, as = [rf 1, ni c, ni k, ni w] ∧ (iva IC A ∧ ivf JC A ∧ 0 ≤ c ∧ c ≤ 47 ∧ (-1) ≤ k ∧ k ≤ 5 ∧ 0 ≤ w ∧ w ≤ 200) ∧ (∀ A' : qA, iva IC A' → ivf JC A' → frm [6, 7, 10] [] A A' → K none A')
theorem okC_setCrop : okM LC 1 25 sC_setCrop := by
  refine qmeth [] false [] 22 rfl trivial ?_
  rintro _ A K hA has ⟨c, k, w, rfl, ⟨i0, j0, p1, p2, p3, p4, p5, p6⟩, hK⟩
  have rg_c : rng c := has (ni c) (by simp)
  have rg_k : rng k := has (ni k) (by simp)
  have rg_w : rng w := has (ni w) (by simp)
  have f0 := frm_0 [6, 7, 10] [] A
  refine ⟨Nat.le_of_ble_eq_true rfl, [], trivial, ?_⟩
  refine And.intro (by omega) (fun A7 e8 => ?_)
  have i9 := iva_st i0 e8 (And.intro (by omega) trivial)
  have j10 := ivf_sa j0 e8 rfl
  have f11 := frm_s f0 e8 rfl
  refine And.intro (by omega) (fun A12 e13 => ?_)
  have i14 := iva_st i9 e13 (And.intro (by omega) trivial)
  have j15 := ivf_sa j10 e13 rfl
  have f16 := frm_s f11 e13 rfl
  refine And.intro (by omega) (And.intro (by omega) (fun A17 e18 => ?_))
  have i19 := iva_st i14 e18 (And.intro (by omega) trivial)
  have j20 := ivf_sa j15 e18 rfl
  have f21 := frm_s f16 e18 rfl
  exact hK _ i19 j20 f21
def sC_clearCrop : qS := fun as A K => ∃ c : Int, as = [rf 1, ni c] ∧ (iva IC A ∧ ivf JC A ∧ 0 ≤ c ∧ c ≤ 47) ∧ (∀ A' : qA, iva IC A' → ivf JC A' → frm [6, 7, 10] [] A A' → K none A')
theorem okC_clearCrop : okM LC 2 26 sC_clearCrop := by
  refine qmeth [] false [(25, sC_setCrop)] 12 rfl ⟨okC_setCrop.le (by decide), trivial⟩ ?_
  rintro _ A K hA has ⟨c, rfl, ⟨i0, j0, p1, p2⟩, hK⟩
  have rg_c : rng c := has (ni c) (by simp)
  have f0 := frm_0 [6, 7, 10] [] A
  refine ⟨Nat.le_of_ble_eq_true rfl, [], trivial, ?_⟩
  refine Exists.intro c (Exists.intro (-1) (Exists.intro 0 (And.intro rfl (And.intro (And.intro i0 (And.intro j0 (And.intro (by omega) (And.intro (by omega) (And.intro (by omega) (And.intro (by omega) (And.intro (by omega) (by omega)))))))) (fun A3 i4 j5 f6 => ?_)))))
  have f7 := frm_c f0 f6 rfl
  exact hK _ i4 j5 f7
def sC_crops : qS := fun as A K => as = [rf 1] ∧ (∀ r : Int, 0 ≤ r → r ≤ 48 → K (some (ni r)) A)
theorem okC_crops : okM LC 3 27 sC_crops := by
  refine qmeth [] false [(22, sC_hasCrop)] 22 rfl ⟨okC_hasCrop.le (by decide), trivial⟩ ?_
  rintro _ A K hA has ⟨rfl, hK⟩
  refine ⟨Nat.le_of_ble_eq_true rfl, [(4, [(0, 2, 1), (1, 0, 0), (2, 0, 0)], fun zs B nn => match zs with | [a, c] => A = B ∧ nn = (48 - c : Int).toNat ∧ (0 ≤ c) ∧ (c ≤ 48) ∧ (0 ≤ a) ∧ (a ≤ c) | _ => False)], ?_, ?_⟩
  · refine ⟨⟨rfl, ?_⟩, trivial⟩
    · refine fun a c B mm hB hz hI => ?_
      obtain ⟨rfl, hm, c0, c1, c2, c3⟩ := hI
      obtain ⟨hz_a, hz_c, _⟩ := hz
      refine And.intro (fun h1 => ?_) (fun h1 => ?_)
      · exact hK _ (by omega) (by omega)
      · refine Exists.intro c (And.intro rfl (And.intro (fun h2 => ?_) (fun h2 => ?_)))
        · refine And.intro (fun h3 => by exfalso; omega) (fun h3 => ?_)
          refine fun v4 e5 => ?_
          refine fun v6 e7 => ?_
          exact And.intro (by omega) (And.intro (by omega) (Exists.intro (48 - v6 : Int).toNat (And.intro (by omega) (And.intro rfl (And.intro rfl (And.intro (by omega) (And.intro (by omega) (And.intro (by omega) (by omega)))))))))
        · refine And.intro (fun h8 => ?_) (fun h8 => by exfalso; omega)
          refine fun v9 e10 => ?_
          exact And.intro (by omega) (Exists.intro (48 - v9 : Int).toNat (And.intro (by omega) (And.intro rfl (And.intro rfl (And.intro (by omega) (And.intro (by omega) (And.intro (by omega) (by omega))))))))
  · exact Exists.intro (48 - 0 : Int).toNat (And.intro rfl (And.intro rfl (And.intro (by omega) (And.intro (by omega) (And.intro (by omega) (by omega))))))
def sC_loadOf : qS := fun as A K => ∃ c : Int, as = [rf 1, ni c] ∧ (iva IC A ∧ ivf JC A ∧ 0 ≤ c ∧ c ≤ 47) ∧ (∀ r : Int, rng r → K (some (ni r)) A)
theorem okC_loadOf : okM LC 2 29 sC_loadOf := by
  refine qmeth [] true [(20, sC_endOfColumn), (21, sC_hangs)] 48 rfl ⟨okC_endOfColumn.le (by decide), ⟨okC_hangs.le (by decide), trivial⟩⟩ ?_
  rintro _ A K hA has ⟨c, rfl, ⟨i0, j0, p1, p2⟩, hK⟩
  have rg_c : rng c := has (ni c) (by simp)
  have f0 := frm_0 [] [] A
  refine ⟨Nat.le_of_ble_eq_true rfl, [(7, [(0, 2, 1), (2, 0, 0), (3, 0, 0), (4, 0, 0)], fun zs B nn => match zs with | [s, e, k] => A = B ∧ nn = (48 - k : Int).toNat ∧ (0 ≤ k) ∧ (k ≤ 48) ∧ (e = c - c % 6 + 6) | _ => False)], ?_, ?_⟩
  · refine ⟨⟨rfl, ?_⟩, trivial⟩
    · refine fun s e k B mm hB hz hI => ?_
      obtain ⟨rfl, hm, c0, c1, c2⟩ := hI
      obtain ⟨hz_s, hz_e, hz_k, _⟩ := hz
      refine And.intro (fun h3 => ?_) (fun h3 => ?_)
      · exact hK _ (by first | exact wI_rng _ | omega | (exact (hA _ _).2 rfl))
      · refine Exists.intro k (And.intro rfl (And.intro (fun h4 => ?_) (fun h4 => ?_)))
        · refine And.intro (fun h5 => by exfalso; omega) (fun h5 => ?_)
          refine And.intro (by omega) (fun v6 gv6 e7 => ?_)
          refine fun v8 e9 => ?_
          refine And.intro (by omega) (fun v10 gv10 e11 => ?_)
          have b12 := iva_at i0 3 rfl (i := k) (by omega) (by omega)
          refine fun v13 e14 => ?_
          refine And.intro (by omega) (fun v15 gv15 e16 => ?_)
          refine fun v17 e18 => ?_
          refine And.intro (by omega) (fun v19 gv19 e20 => ?_)
          have b21 := iva_at i0 4 rfl (i := k) (by omega) (by omega)
          refine fun v22 e23 => ?_
          refine fun v24 e25 => ?_
          refine fun v26 e27 => ?_
          have w28 := wI_rng v24
          have w29 := wI_rng v26
          have w30 : wI v26 = v26 := wI_id (by omega)
          exact Exists.intro (48 - ((wI v26)) : Int).toNat (And.intro (by omega) (And.intro rfl (And.intro rfl (And.intro (by omega) (And.intro (by omega) (by omega))))))
        · refine And.intro (fun h31 => ?_) (fun h31 => by exfalso; omega)
          exact hK _ (by first | exact wI_rng _ | omega | (exact (hA _ _).2 rfl))
  · refine Exists.intro c (And.intro rfl (And.intro (And.intro (by omega) (by omega)) ?_))
    exact Exists.intro (48 - c : Int).toNat (And.intro rfl (And.intro rfl (And.intro (by omega) (And.intro (by omega) (by omega)))))
def sC_ripeLoadOf : qS := fun as A K => ∃ c : Int, as = [rf 1, ni c] ∧ (iva IC A ∧ ivf JC A ∧ 0 ≤ c ∧ c ≤ 47) ∧ (∀ r : Int, rng r → K (some (ni r)) A)
theorem okC_ripeLoadOf : okM LC 3 30 sC_ripeLoadOf := by
  refine qmeth [] true [(29, sC_loadOf), (20, sC_endOfColumn), (21, sC_hangs), (22, sC_hasCrop)] 47 rfl ⟨okC_loadOf.le (by decide), ⟨okC_endOfColumn.le (by decide), ⟨okC_hangs.le (by decide), ⟨okC_hasCrop.le (by decide), trivial⟩⟩⟩⟩ ?_
  rintro _ A K hA has ⟨c, rfl, ⟨i0, j0, p1, p2⟩, hK⟩
  have rg_c : rng c := has (ni c) (by simp)
  have f0 := frm_0 [] [] A
  refine ⟨Nat.le_of_ble_eq_true rfl, [(9, [(0, 2, 1), (2, 0, 0), (3, 0, 0), (4, 0, 0)], fun zs B nn => match zs with | [s, e, k] => A = B ∧ nn = (48 - k : Int).toNat ∧ (0 ≤ k) ∧ (k ≤ 48) ∧ (e = c - c % 6 + 6) | _ => False)], ?_, ?_⟩
  · refine ⟨⟨rfl, ?_⟩, trivial⟩
    · refine fun s e k B mm hB hz hI => ?_
      obtain ⟨rfl, hm, c0, c1, c2⟩ := hI
      obtain ⟨hz_s, hz_e, hz_k, _⟩ := hz
      refine And.intro (fun h5 => ?_) (fun h5 => ?_)
      · exact hK _ (by first | exact wI_rng _ | omega | (exact (hA _ _).2 rfl))
      · refine Exists.intro k (And.intro rfl (And.intro (fun h6 => ?_) (fun h6 => ?_)))
        · refine And.intro (fun h7 => by exfalso; omega) (fun h7 => ?_)
          refine Exists.intro k (And.intro rfl (And.intro (fun h8 => ?_) (fun h8 => ?_)))
          · refine And.intro (fun h9 => by exfalso; omega) (fun h9 => ?_)
            refine And.intro (by omega) (fun v10 gv10 e11 => ?_)
            have b12 := iva_at i0 2 rfl (i := k) (by omega) (by omega)
            refine And.intro (by omega) (fun v13 gv13 e14 => ?_)
            have b15 := iva_at i0 9 rfl (i := v10) (by omega) (by omega)
            refine And.intro (by omega) (fun v16 gv16 e17 => ?_)
            have b18 := iva_at i0 3 rfl (i := k) (by omega) (by omega)
            refine fun v19 e20 => ?_
            have w23 := wI_rng v19
            have w24 : wI v19 = v19 := wI_id (by omega)
            refine (fun v21 e22 => ?_)
            refine fun v25 e26 => ?_
            refine fun v27 e28 => ?_
            have w29 := wI_rng v25
            have w30 := wI_rng v27
            have w31 : wI v27 = v27 := wI_id (by omega)
            exact Exists.intro (48 - ((wI v27)) : Int).toNat (And.intro (by omega) (And.intro rfl (And.intro rfl (And.intro (by omega) (And.intro (by omega) (by omega))))))
          · refine And.intro (fun h32 => ?_) (fun h32 => by exfalso; omega)
            refine fun v33 e34 => ?_
            have w35 := wI_rng v33
            have w36 : wI v33 = v33 := wI_id (by omega)
            exact Exists.intro (48 - ((wI v33)) : Int).toNat (And.intro (by omega) (And.intro rfl (And.intro rfl (And.intro (by omega) (And.intro (by omega) (by omega))))))
        · refine And.intro (fun h37 => ?_) (fun h37 => by exfalso; omega)
          exact hK _ (by first | exact wI_rng _ | omega | (exact (hA _ _).2 rfl))
  · refine Exists.intro c (And.intro rfl (And.intro (And.intro i0 (And.intro j0 (And.intro (by omega) (by omega)))) (fun r3 g4 => ?_)))
    refine Exists.intro c (And.intro rfl (And.intro (And.intro (by omega) (by omega)) ?_))
    exact Exists.intro (48 - c : Int).toNat (And.intro rfl (And.intro rfl (And.intro (by omega) (And.intro (by omega) (by omega)))))
def sC_firstOverloaded : qS := fun as A K => as = [rf 1] ∧ (iva IC A ∧ ivf JC A) ∧ (∀ r : Int, (-1) ≤ r → r ≤ 47 → K (some (ni r)) A)
theorem okC_firstOverloaded : okM LC 3 31 sC_firstOverloaded := by
  refine qmeth [] true [(21, sC_hangs), (29, sC_loadOf)] 29 rfl ⟨okC_hangs.le (by decide), ⟨okC_loadOf.le (by decide), trivial⟩⟩ ?_
  rintro _ A K hA has ⟨rfl, ⟨i0, j0⟩, hK⟩
  have f0 := frm_0 [] [] A
  refine ⟨Nat.le_of_ble_eq_true rfl, [(2, [(0, 2, 1), (1, 0, 0)], fun zs B nn => match zs with | [k] => A = B ∧ nn = (48 - k : Int).toNat ∧ (0 ≤ k) ∧ (k ≤ 48) | _ => False)], ?_, ?_⟩
  · refine ⟨⟨rfl, ?_⟩, trivial⟩
    · refine fun k B mm hB hz hI => ?_
      obtain ⟨rfl, hm, c0, c1⟩ := hI
      obtain ⟨hz_k, _⟩ := hz
      refine And.intro (fun h1 => ?_) (fun h1 => ?_)
      · exact hK _ (by omega) (by omega)
      · refine Exists.intro k (And.intro rfl (And.intro (fun h2 => ?_) (fun h2 => ?_)))
        · refine And.intro (fun h3 => by exfalso; omega) (fun h3 => ?_)
          refine Exists.intro k (And.intro rfl (And.intro (And.intro i0 (And.intro j0 (And.intro (by omega) (by omega)))) (fun r4 g5 => ?_)))
          refine And.intro (by omega) (fun v6 gv6 e7 => ?_)
          have b8 := iva_at i0 0 rfl (i := k) (by omega) (by omega)
          refine And.intro (fun h9 => ?_) (fun h9 => ?_)
          · refine fun v10 e11 => ?_
            have w12 := wI_rng v10
            have w13 : wI v10 = v10 := wI_id (by omega)
            exact Exists.intro (48 - ((wI v10)) : Int).toNat (And.intro (by omega) (And.intro rfl (And.intro rfl (And.intro (by omega) (by omega)))))
          · exact hK _ (by omega) (by omega)
        · refine And.intro (fun h14 => ?_) (fun h14 => by exfalso; omega)
          refine fun v15 e16 => ?_
          have w17 := wI_rng v15
          have w18 : wI v15 = v15 := wI_id (by omega)
          exact Exists.intro (48 - ((wI v15)) : Int).toNat (And.intro (by omega) (And.intro rfl (And.intro rfl (And.intro (by omega) (by omega)))))
  · exact Exists.intro (48 - 0 : Int).toNat (And.intro rfl (And.intro rfl (And.intro (by omega) (by omega))))
def sC_loosen : qS := fun as A K => ∃ c b : Int, as = [rf 1, ni c, ni b] ∧ (iva IC A ∧ ivf JC A) ∧ (∀ A' : qA, iva IC A' → ivf JC A' → frm [2] [] A A' → K none A')
theorem okC_loosen : okM LC 2 33 sC_loosen := by
  refine qmeth [] true [(21, sC_hangs)] 23 rfl ⟨okC_hangs.le (by decide), trivial⟩ ?_
  rintro _ A K hA has ⟨c, b, rfl, ⟨i0, j0⟩, hK⟩
  have rg_c : rng c := has (ni c) (by simp)
  have rg_b : rng b := has (ni b) (by simp)
  have f0 := frm_0 [2] [] A
  refine ⟨Nat.le_of_ble_eq_true rfl, [], trivial, ?_⟩
  refine Exists.intro c (And.intro rfl (And.intro (fun h1 => ?_) (fun h1 => ?_)))
  · refine And.intro (fun h2 => by exfalso; omega) (fun h2 => ?_)
    refine And.intro (by omega) (fun v3 gv3 e4 => ?_)
    have b5 := iva_at i0 0 rfl (i := c) (by omega) (by omega)
    refine fun v6 e7 => ?_
    have w10 := wI_rng v6
    refine (fun v8 e9 => ?_)
    refine And.intro (by omega) (fun A11 e12 => ?_)
    have i13 := iva_st i0 e12 (And.intro (by omega) trivial)
    have j14 := ivf_sa j0 e12 rfl
    have f15 := frm_s f0 e12 rfl
    exact hK _ i13 j14 f15
  · refine And.intro (fun h16 => ?_) (fun h16 => by exfalso; omega)
    exact hK _ i0 j0 f0
def sC_unhang : qS := fun as A K => ∃ c b : Int, as = [rf 1, ni c, ni b] ∧ (iva IC A ∧ ivf JC A ∧ 0 ≤ c ∧ c ≤ 47) ∧ (∀ A' : qA, iva IC A' → ivf JC A' → frm [2] [(1, 0)] A A' → K none A')
theorem okC_unhang : okM LC 3 32 sC_unhang := by
  refine qmeth [] true [(20, sC_endOfColumn), (33, sC_loosen)] 43 rfl ⟨okC_endOfColumn.le (by decide), ⟨okC_loosen.le (by decide), trivial⟩⟩ ?_
  rintro _ A K hA has ⟨c, b, rfl, ⟨i0, j0, p1, p2⟩, hK⟩
  have rg_c : rng c := has (ni c) (by simp)
  have rg_b : rng b := has (ni b) (by simp)
  have f0 := frm_0 [2] [(1, 0)] A
  refine ⟨Nat.le_of_ble_eq_true rfl, [(5, [(0, 2, 1), (1, 0, 0), (2, 0, 0), (3, 0, 0), (4, 0, 0)], fun zs B nn => match zs with | [l1, l2, e, k] => iva IC B ∧ ivf JC B ∧ frm [2] [(1, 0)] A B ∧ nn = (48 - k : Int).toNat ∧ (l1 = c) ∧ (l2 = b) ∧ (0 ≤ k) ∧ (k ≤ 48) ∧ (e = c - c % 6 + 6) | _ => False)], ?_, ?_⟩
  · refine ⟨⟨rfl, ?_⟩, trivial⟩
    · refine fun l1 l2 e k B mm hB hz hI => ?_
      obtain ⟨i1, j1, f1, hm, c0, c1, c2, c3, c4⟩ := hI
      obtain ⟨hz_l1, hz_l2, hz_e, hz_k, _⟩ := hz
      refine And.intro (fun h3 => ?_) (fun h3 => ?_)
      · refine fun v4 e5 => ?_
        refine And.intro (by omega) (fun v6 e7 => ?_)
        have h8 := qd_bd (a := l2) (b := 10) (lo := (-2147483648)) (hi := 2147483647) (by omega) (by omega) (by omega) (by omega) (by omega)
        have w9 := wI_rng v4
        have w10 : wI v4 = v4 := wI_id (by omega)
        have w11 := wI_rng v6
        have w12 : wI v6 = v6 := wI_id (by omega)
        refine Exists.intro (wI v4) (Exists.intro (wI v6) (And.intro rfl (And.intro (And.intro i1 j1) (fun A13 i14 j15 f16 => ?_))))
        have f17 := frm_c f1 f16 rfl
        refine fun v18 e19 => ?_
        refine And.intro (by omega) (fun v20 e21 => ?_)
        have h22 := qd_bd (a := l2) (b := 10) (lo := (-2147483648)) (hi := 2147483647) (by omega) (by omega) (by omega) (by omega) (by omega)
        have w23 := wI_rng v18
        have w24 : wI v18 = v18 := wI_id (by omega)
        have w25 := wI_rng v20
        have w26 : wI v20 = v20 := wI_id (by omega)
        refine Exists.intro (wI v18) (Exists.intro (wI v20) (And.intro rfl (And.intro (And.intro i14 j15) (fun A27 i28 j29 f30 => ?_))))
        have f31 := frm_c f17 f30 rfl
        exact hK _ i28 j29 f31
      · refine fun v32 e33 => ?_
        refine fun (v34 : Int) (e35 : v34 = 1) => ?_
        refine fun v36 e37 => ?_
        refine fun v38 e39 => ?_
        refine fun v40 e41 => ?_
        refine fun A42 e43 => ?_
        have i44 := iva_sf i1 e43 rfl
        have j45 := ivf_st j1 e43 trivial
        have f46 := frm_sf f1 e43 rfl
        refine fun v47 e48 => ?_
        have w49 := wI_rng v47
        have w50 : wI v47 = v47 := wI_id (by omega)
        exact Exists.intro (48 - ((wI v47)) : Int).toNat (And.intro (by omega) (And.intro i44 (And.intro j45 (And.intro f46 (And.intro rfl (And.intro (by omega) (And.intro (by omega) (And.intro (by omega) (And.intro (by omega) (by omega))))))))))
  · refine Exists.intro c (And.intro rfl (And.intro (And.intro (by omega) (by omega)) ?_))
    exact Exists.intro (48 - c : Int).toNat (And.intro i0 (And.intro j0 (And.intro f0 (And.intro rfl (And.intro (by omega) (And.intro (by omega) (And.intro (by omega) (And.intro (by omega) (by omega)))))))))
def sC_wouldGo : qS := fun as A K => ∃ c : Int, as = [rf 1, ni c] ∧ (iva IC A ∧ ivf JC A ∧ 0 ≤ c ∧ c ≤ 47) ∧ (∀ A' : qA, iva IC A' → ivf JC A' → frm [2, 14] [(1, 0)] A A' → ∀ r : Int, rngL r → K (some (nl r)) A')
theorem okC_wouldGo : okM LC 4 34 sC_wouldGo := by
  refine qmeth [] true [(29, sC_loadOf), (32, sC_unhang), (31, sC_firstOverloaded)] 58 rfl ⟨okC_loadOf.le (by decide), ⟨okC_unhang.le (by decide), ⟨okC_firstOverloaded.le (by decide), trivial⟩⟩⟩ ?_
  rintro _ A K hA has ⟨c, rfl, ⟨i0, j0, p1, p2⟩, hK⟩
  have rg_c : rng c := has (ni c) (by simp)
  have f0 := frm_0 [2, 14] [(1, 0)] A
  refine ⟨Nat.le_of_ble_eq_true rfl, [(15, [(0, 2, 1), (2, 1, 0), (4, 0, 0), (5, 0, 0)], fun zs B nn => match zs with | [l2, x, k] => iva IC B ∧ ivf JC B ∧ frm [2, 14] [(1, 0)] A B ∧ nn = (49 - k : Int).toNat ∧ (0 ≤ k) ∧ (k ≤ 49) ∧ ((-1) ≤ x) ∧ (x ≤ 47) | _ => False)], ?_, ?_⟩
  · refine ⟨⟨rfl, ?_⟩, trivial⟩
    · refine fun l2 x k B mm hB hz hI => ?_
      obtain ⟨i1, j1, f1, hm, c0, c1, c2, c3⟩ := hI
      obtain ⟨hz_l2, hz_x, hz_k, _⟩ := hz
      refine And.intro (fun h10 => ?_) (fun h10 => ?_)
      · refine fun v11 e12 => ?_
        refine fun v13 e14 => ?_
        refine fun v15 e16 => ?_
        refine fun A17 e18 => ?_
        have i19 := iva_sf i1 e18 rfl
        have j20 := ivf_st j1 e18 trivial
        have f21 := frm_sf f1 e18 rfl
        refine And.intro (by omega) (fun A22 e23 => ?_)
        have i24 := iva_cp i19 e23 (fun i h0 h1 => And.intro (by have := iva_at i19 11 rfl (i := 0 + i) (by omega) (by omega); omega) trivial)
        have j25 := ivf_cp j20 e23 rfl
        have f26 := frm_cp f21 e23 rfl
        exact hK _ i24 j25 f26 _ (by first | assumption | omega | (subst_vars; exact l_rng _))
      · refine And.intro (fun h27 => ?_) (fun h27 => ?_)
        · refine fun v28 e29 => ?_
          refine fun v30 e31 => ?_
          refine fun v32 e33 => ?_
          refine fun A34 e35 => ?_
          have i36 := iva_sf i1 e35 rfl
          have j37 := ivf_st j1 e35 trivial
          have f38 := frm_sf f1 e35 rfl
          refine And.intro (by omega) (fun A39 e40 => ?_)
          have i41 := iva_cp i36 e40 (fun i h0 h1 => And.intro (by have := iva_at i36 11 rfl (i := 0 + i) (by omega) (by omega); omega) trivial)
          have j42 := ivf_cp j37 e40 rfl
          have f43 := frm_cp f38 e40 rfl
          exact hK _ i41 j42 f43 _ (by first | assumption | omega | (subst_vars; exact l_rng _))
        · refine Exists.intro x (And.intro rfl (And.intro (And.intro i1 (And.intro j1 (And.intro (by omega) (by omega)))) (fun r44 g45 => ?_)))
          refine Exists.intro x (Exists.intro r44 (And.intro rfl (And.intro (And.intro i1 (And.intro j1 (And.intro (by omega) (by omega)))) (fun A46 i47 j48 f49 => ?_))))
          have f50 := frm_c f1 f49 rfl
          refine And.intro rfl (And.intro (And.intro i47 j48) (fun r51 g52 g53 => ?_))
          refine fun v54 e55 => ?_
          have w56 := wI_rng v54
          have w57 : wI v54 = v54 := wI_id (by omega)
          exact Exists.intro (49 - ((wI v54)) : Int).toNat (And.intro (by omega) (And.intro i47 (And.intro j48 (And.intro f50 (And.intro rfl (And.intro (by omega) (And.intro (by omega) (And.intro (by omega) (by omega)))))))))
  · refine fun v3 e4 => ?_
    refine And.intro (by omega) (fun A5 e6 => ?_)
    have i7 := iva_cp i0 e6 (fun i h0 h1 => And.intro (by have := iva_at i0 0 rfl (i := 0 + i) (by omega) (by omega); omega) trivial)
    have j8 := ivf_cp j0 e6 rfl
    have f9 := frm_cp f0 e6 rfl
    exact Exists.intro (49 - 0 : Int).toNat (And.intro i7 (And.intro j8 (And.intro f9 (And.intro rfl (And.intro (by omega) (And.intro (by omega) (And.intro (by omega) (by omega))))))))
def sC_columnsOf : qS := fun as A K => ∃ c : Int, as = [rf 1, ni c] ∧ (iva IC A ∧ ivf JC A) ∧ (∀ r : Int, 0 ≤ r → r ≤ 255 → K (some (ni r)) A)
theorem okC_columnsOf : okM LC 3 35 sC_columnsOf := by
  refine qmeth [] false [(22, sC_hasCrop)] 35 rfl ⟨okC_hasCrop.le (by decide), trivial⟩ ?_
  rintro _ A K hA has ⟨c, rfl, ⟨i0, j0⟩, hK⟩
  have rg_c : rng c := has (ni c) (by simp)
  have f0 := frm_0 [] [] A
  refine ⟨Nat.le_of_ble_eq_true rfl, [(4, [(0, 2, 1), (1, 0, 0), (2, 0, 0), (3, 0, 0)], fun zs B nn => match zs with | [l1, s, k] => A = B ∧ nn = (48 - k : Int).toNat ∧ (l1 = c) ∧ (0 ≤ k) ∧ (k ≤ 48) ∧ (0 ≤ s) ∧ (s ≤ 255) | _ => False)], ?_, ?_⟩
  · refine ⟨⟨rfl, ?_⟩, trivial⟩
    · refine fun l1 s k B mm hB hz hI => ?_
      obtain ⟨rfl, hm, c0, c1, c2, c3, c4⟩ := hI
      obtain ⟨hz_l1, hz_s, hz_k, _⟩ := hz
      refine And.intro (fun h1 => ?_) (fun h1 => ?_)
      · exact hK _ (by omega) (by omega)
      · refine Exists.intro k (And.intro rfl (And.intro (fun h2 => ?_) (fun h2 => ?_)))
        · refine And.intro (fun h3 => by exfalso; omega) (fun h3 => ?_)
          refine And.intro (by omega) (fun v4 gv4 e5 => ?_)
          have b6 := iva_at i0 2 rfl (i := k) (by omega) (by omega)
          refine And.intro (fun h7 => ?_) (fun h7 => ?_)
          · refine fun v8 e9 => ?_
            exact And.intro (by omega) (Exists.intro (48 - v8 : Int).toNat (And.intro (by omega) (And.intro rfl (And.intro rfl (And.intro (by omega) (And.intro (by omega) (And.intro (by omega) (And.intro (by omega) (by omega)))))))))
          · refine And.intro (by omega) (fun v10 e11 => ?_)
            have h12 := qd_nn (a := k) (b := 6) (by omega)
            refine fun v13 e14 => ?_
            have h15 := sl_bd (b := v10) 7 (by decide) (by omega) (by omega)
            refine fun v16 e17 => ?_
            have h18 := io_bd (a := s) (b := v13) 8 (by decide) (by omega) (by omega) (by omega) (by omega)
            refine fun v19 e20 => ?_
            exact And.intro (by omega) (Exists.intro (48 - v19 : Int).toNat (And.intro (by omega) (And.intro rfl (And.intro rfl (And.intro (by omega) (And.intro (by omega) (And.intro (by omega) (And.intro (by omega) (by omega)))))))))
        · refine And.intro (fun h21 => ?_) (fun h21 => by exfalso; omega)
          refine fun v22 e23 => ?_
          exact And.intro (by omega) (Exists.intro (48 - v22 : Int).toNat (And.intro (by omega) (And.intro rfl (And.intro rfl (And.intro (by omega) (And.intro (by omega) (And.intro (by omega) (And.intro (by omega) (by omega)))))))))
  · exact Exists.intro (48 - 0 : Int).toNat (And.intro rfl (And.intro rfl (And.intro (by omega) (And.intro (by omega) (And.intro (by omega) (And.intro (by omega) (by omega)))))))
def sC_highestFall : qS := fun as A K => ∃ c k : Int, as = [rf 1, ni c, ni k] ∧ (iva IC A ∧ ivf JC A ∧ 0 ≤ c ∧ c ≤ 7) ∧ (∀ r : Int, (-1) ≤ r → r ≤ 6 → K (some (ni r)) A)
theorem okC_highestFall : okM LC 3 36 sC_highestFall := by
  refine qmeth [] false [(22, sC_hasCrop)] 38 rfl ⟨okC_hasCrop.le (by decide), trivial⟩ ?_
  rintro _ A K hA has ⟨c, k, rfl, ⟨i0, j0, p1, p2⟩, hK⟩
  have rg_c : rng c := has (ni c) (by simp)
  have rg_k : rng k := has (ni k) (by simp)
  have f0 := frm_0 [] [] A
  refine ⟨Nat.le_of_ble_eq_true rfl, [(2, [(0, 2, 1), (1, 0, 0), (2, 0, 0), (3, 0, 0)], fun zs B nn => match zs with | [l1, l2, l] => A = B ∧ nn = (6 - l : Int).toNat ∧ (l1 = c) ∧ (l2 = k) ∧ (0 ≤ l) ∧ (l ≤ 6) | _ => False)], ?_, ?_⟩
  · refine ⟨⟨rfl, ?_⟩, trivial⟩
    · refine fun l1 l2 l B mm hB hz hI => ?_
      obtain ⟨rfl, hm, c0, c1, c2, c3⟩ := hI
      obtain ⟨hz_l1, hz_l2, hz_l, _⟩ := hz
      refine And.intro (fun h3 => ?_) (fun h3 => ?_)
      · exact hK _ (by omega) (by omega)
      · refine fun v4 e5 => ?_
        refine fun v6 e7 => ?_
        refine And.intro (by omega) (Exists.intro v6 (And.intro rfl (And.intro (fun h8 => ?_) (fun h8 => ?_))))
        · refine And.intro (fun h9 => by exfalso; omega) (fun h9 => ?_)
          refine And.intro (by omega) (fun v10 gv10 e11 => ?_)
          have b12 := iva_at i0 2 rfl (i := v6) (by omega) (by omega)
          refine fun v13 e14 => ?_
          refine fun v15 e16 => ?_
          have h17 := ia_bd (a := v13) (b := 1) (by omega) (by omega)
          refine And.intro (fun h18 => ?_) (fun h18 => ?_)
          · refine fun v19 e20 => ?_
            exact And.intro (by omega) (Exists.intro (6 - v19 : Int).toNat (And.intro (by omega) (And.intro rfl (And.intro rfl (And.intro (by omega) (And.intro (by omega) (And.intro (by omega) (by omega))))))))
          · refine fun v21 e22 => ?_
            exact And.intro (by omega) (hK _ (by omega) (by omega))
        · refine And.intro (fun h23 => ?_) (fun h23 => by exfalso; omega)
          refine fun v24 e25 => ?_
          exact And.intro (by omega) (Exists.intro (6 - v24 : Int).toNat (And.intro (by omega) (And.intro rfl (And.intro rfl (And.intro (by omega) (And.intro (by omega) (And.intro (by omega) (by omega))))))))
  · exact Exists.intro (6 - 0 : Int).toNat (And.intro rfl (And.intro rfl (And.intro (by omega) (And.intro (by omega) (And.intro (by omega) (by omega))))))
def sC_netFact : qS := fun as A K => ∃ c w : Int, as = [rf 1, ni c, ni w] ∧ (iva IC A ∧ ivf JC A ∧ 0 ≤ c ∧ c ≤ 47) ∧ (∀ r : Int, rng r → K (some (ni r)) A)
theorem okC_netFact : okM LC 3 28 sC_netFact := by
  refine qmeth [] false [(29, sC_loadOf)] 63 rfl ⟨okC_loadOf.le (by decide), trivial⟩ ?_
  rintro _ A K hA has ⟨c, w, rfl, ⟨i0, j0, p1, p2⟩, hK⟩
  have rg_c : rng c := has (ni c) (by simp)
  have rg_w : rng w := has (ni w) (by simp)
  have f0 := frm_0 [] [] A
  refine ⟨Nat.le_of_ble_eq_true rfl, [], trivial, ?_⟩
  refine (And.intro (fun h3 => ?_) (And.intro (fun h3 => ?_) (And.intro (fun h3 => ?_) (And.intro (fun h3 => ?_) (And.intro (fun h3 => ?_) (And.intro (fun h3 => ?_) (And.intro (fun h3 => ?_) (And.intro (fun h3 => ?_) (And.intro (fun h3 => ?_) (And.intro (fun h3 => ?_) (And.intro (fun h3 => ?_) trivial)))))))))))
  · exact hK _ (by first | exact wI_rng _ | omega | (exact (hA _ _).2 rfl))
  · refine And.intro (by omega) (fun v4 gv4 e5 => ?_)
    have b6 := iva_at i0 0 rfl (i := c) (by omega) (by omega)
    exact hK _ (by first | exact wI_rng _ | omega | (exact (hA _ _).2 rfl))
  · refine And.intro (by omega) (fun v7 gv7 e8 => ?_)
    exact hK _ (by first | exact wI_rng _ | omega | (exact (hA _ _).2 rfl))
  · refine And.intro (by omega) (fun v9 gv9 e10 => ?_)
    exact hK _ (by first | exact wI_rng _ | omega | (exact (hA _ _).2 rfl))
  · refine And.intro (by omega) (fun v11 gv11 e12 => ?_)
    have b13 := iva_at i0 1 rfl (i := c) (by omega) (by omega)
    exact hK _ (by first | exact wI_rng _ | omega | (exact (hA _ _).2 rfl))
  · refine And.intro (by omega) (fun v14 gv14 e15 => ?_)
    have b16 := iva_at i0 2 rfl (i := c) (by omega) (by omega)
    exact hK _ (by first | exact wI_rng _ | omega | (exact (hA _ _).2 rfl))
  · refine And.intro (by omega) (fun v17 gv17 e18 => ?_)
    have b19 := iva_at i0 3 rfl (i := c) (by omega) (by omega)
    exact hK _ (by first | exact wI_rng _ | omega | (exact (hA _ _).2 rfl))
  · refine And.intro (by omega) (fun v20 gv20 e21 => ?_)
    exact hK _ (by first | exact wI_rng _ | omega | (exact (hA _ _).2 rfl))
  · refine And.intro (by omega) (fun v22 gv22 e23 => ?_)
    have b24 := iva_at i0 4 rfl (i := c) (by omega) (by omega)
    exact hK _ (by first | exact wI_rng _ | omega | (exact (hA _ _).2 rfl))
  · refine And.intro (by omega) (fun v25 gv25 e26 => ?_)
    have b27 := iva_at i0 5 rfl (i := c) (by omega) (by omega)
    refine And.intro (fun h28 => ?_) (fun h28 => ?_)
    · exact hK _ (by first | exact wI_rng _ | omega | (exact (hA _ _).2 rfl))
    · exact hK _ (by first | exact wI_rng _ | omega | (exact (hA _ _).2 rfl))
  · refine Exists.intro c (And.intro rfl (And.intro (And.intro i0 (And.intro j0 (And.intro (by omega) (by omega)))) (fun r29 g30 => ?_)))
    exact hK _ (by first | exact wI_rng _ | omega | (exact (hA _ _).2 rfl))
end
section
theorem qone_bd (s : Nat) (x : Int) : 0 ≤ qone s x ∧ qone s x ≤ 1 := by
  unfold qone pv_one
  split <;> decide
theorem qix_bd (s : Nat) (x : Int) : -1 ≤ qix s x ∧ qix s x ≤ 13 := by
  have gen : ∀ (y : Int32) (bs : List Nat) (k : Nat), k + bs.length ≤ 14 → -1 ≤ (pv_ixF y bs k).toInt ∧ (pv_ixF y bs k).toInt ≤ 13 := by
    intro y bs
    induction bs with
    | nil =>
      intro k _
      have e : (pv_ixF y [] k).toInt = -1 := rfl
      rw [e]; omega
    | cons b bs ih =>
      intro k hk
      simp only [List.length_cons] at hk
      unfold pv_ixF
      split
      · have e : (Int32.ofNat k).toInt = (k : Int) := iI_to (z := (k : Int)) ⟨by omega, by omega⟩
        rw [e]; omega
      · exact ih (k + 1) (by omega)
  refine gen _ _ 0 ?_
  rcases s with _ | _ | _ | _ | _ | s <;> first | decide | exact Nat.zero_le _
def LW (A : qA) : Prop := A 34 (fd 4) = 36 ∨ A 34 (fd 4) = 71
theorem LW_fr {W : List Nat} {V : List (Nat × Nat)} {A A' : qA} (h : LW A) (f : frm W V A A') (c : (noW 34 W && noVf 34 4 V) = true) : LW A' := by
  unfold LW
  rw [frm_f f c]
  exact h
/-- a letter's step names a letter -/
def KO (A : qA) : Prop := (∀ i, 0 ≤ i → i < 200 → A 37 i = 107 → 0 ≤ A 38 i ∧ A 38 i ≤ 13) ∧ (∀ i, 0 ≤ i → i < 200 → A 72 i = 107 → 0 ≤ A 73 i ∧ A 73 i ≤ 13)
theorem KO_fr {W : List Nat} {V : List (Nat × Nat)} {A A' : qA} (h : KO A) (f : frm W V A A') (c : ((noW 37 W && noV 37 V) && (noW 38 W && noV 38 V) && (noW 72 W && noV 72 V) && (noW 73 W && noV 73 V)) = true) : KO A' := by
  simp only [Bool.and_eq_true] at c
  obtain ⟨⟨⟨⟨a1, a2⟩, ⟨b1, b2⟩⟩, ⟨c1, c2⟩⟩, ⟨d1, d2⟩⟩ := c
  unfold KO
  rw [frm_a f (by rw [a1, a2]; rfl), frm_a f (by rw [b1, b2]; rfl), frm_a f (by rw [c1, c2]; rfl), frm_a f (by rw [d1, d2]; rfl)]
  exact h
theorem okM_or {L : List qY} {D j : Nat} {s s1 s2 : qS} (h1 : okM L D j s1) (h2 : okM L D j s2) (h : ∀ as A K, s as A K → s1 as A K ∨ s2 as A K) : okM L D j s := by
  intro d hd as A K hA has hs
  rcases h as A K hs with q | q
  · exact h1 d hd as A K hA has q
  · exact h2 d hd as A K hA has q
def sC_carries : qS := fun as A K => ∃ w c l : Int, as = [rf 15, ni w, ni c, ni l] ∧ (iva IC A ∧ ivf JC A ∧ 1 ≤ w ∧ w ≤ 99 ∧ 0 ≤ c ∧ c ≤ 7 ∧ 0 ≤ l ∧ l ≤ 5) ∧ (∀ r : Int, 0 ≤ r → r ≤ 1 → K (some (ni r)) A)
theorem okC_carries : okM LC 1 1 sC_carries := by
  refine qmeth [] false [] 20 rfl trivial ?_
  rintro _ A K hA has ⟨w, c, l, rfl, ⟨i0, j0, p1, p2, p3, p4, p5, p6⟩, hK⟩
  have rg_w : rng w := has (ni w) (by simp)
  have rg_c : rng c := has (ni c) (by simp)
  have rg_l : rng l := has (ni l) (by simp)
  have f0 := frm_0 [] [] A
  refine ⟨Nat.le_of_ble_eq_true rfl, [], trivial, ?_⟩
  refine fun v7 e8 => ?_
  refine fun v9 e10 => ?_
  refine And.intro (by omega) (fun v11 gv11 e12 => ?_)
  have b13 := iva_at i0 15 rfl (i := c) (by omega) (by omega)
  refine And.intro (by omega) (And.intro (fun h14 => ?_) (fun h14 => ?_))
  · exact And.intro (by omega) (hK _ (by omega) (by omega))
  · exact And.intro (by omega) (hK _ (by omega) (by omega))
def sC_browFact : qS := fun as A K => ∃ c w : Int, as = [rf 15, ni c, ni w] ∧ (iva IC A ∧ ivf JC A ∧ 0 ≤ c ∧ c ≤ 7) ∧ (∀ r : Int, rng r → K (some (ni r)) A)
theorem okC_browFact : okM LC 1 2 sC_browFact := by
  refine qmeth [] false [] 30 rfl trivial ?_
  rintro _ A K hA has ⟨c, w, rfl, ⟨i0, j0, p1, p2⟩, hK⟩
  have rg_c : rng c := has (ni c) (by simp)
  have rg_w : rng w := has (ni w) (by simp)
  have f0 := frm_0 [] [] A
  refine ⟨Nat.le_of_ble_eq_true rfl, [], trivial, ?_⟩
  refine (And.intro (fun h3 => ?_) (And.intro (fun h3 => ?_) (And.intro (fun h3 => ?_) (And.intro (fun h3 => ?_) (And.intro (fun h3 => ?_) trivial)))))
  · exact hK _ (by first | exact wI_rng _ | omega | (exact (hA _ _).2 rfl))
  · refine And.intro (by omega) (fun v4 gv4 e5 => ?_)
    have b6 := iva_at i0 13 rfl (i := c) (by omega) (by omega)
    exact hK _ (by first | exact wI_rng _ | omega | (exact (hA _ _).2 rfl))
  · refine And.intro (by omega) (fun v7 gv7 e8 => ?_)
    have b9 := iva_at i0 14 rfl (i := c) (by omega) (by omega)
    exact hK _ (by first | exact wI_rng _ | omega | (exact (hA _ _).2 rfl))
  · refine And.intro (by omega) (fun v10 gv10 e11 => ?_)
    exact hK _ (by first | exact wI_rng _ | omega | (exact (hA _ _).2 rfl))
  · refine And.intro (by omega) (fun v12 gv12 e13 => ?_)
    exact hK _ (by first | exact wI_rng _ | omega | (exact (hA _ _).2 rfl))
def sC_open : qS := fun as A K => ∃ c t : Int, as = [rf 24, rf 1, ni c, ni t] ∧ (iva IC A ∧ ivf JC A ∧ 0 ≤ c ∧ c ≤ 47 ∧ (0 ≤ A 6 c ∧ A 6 c ≤ 5)) ∧ (∀ A' : qA, iva IC A' → ivf JC A' → frm [25, 26, 27, 28, 29, 33] [] A A' → ∀ r : Int, 0 ≤ r → r ≤ 60 → (0 ≤ A' 26 r ∧ A' 26 r ≤ 5) → K (some (ni r)) A')
theorem okC_open : okM LC 4 15 sC_open := by
  refine qmeth [] false [(23, sC_isRipe)] 56 rfl ⟨okC_isRipe.le (by decide), trivial⟩ ?_
  rintro _ A K hA has ⟨c, t, rfl, ⟨i0, j0, p1, p2, p3⟩, hK⟩
  have rg_c : rng c := has (ni c) (by simp)
  have rg_t : rng t := has (ni t) (by simp)
  have f0 := frm_0 [25, 26, 27, 28, 29, 33] [] A
  obtain ⟨v4, e5⟩ : ∃ v, v = A 6 c := ⟨_, rfl⟩
  rw [← e5] at p3
  refine ⟨Nat.le_of_ble_eq_true rfl, [], trivial, ?_⟩
  refine fun v6 gv6 e7 => ?_
  have b8 := ivf_at j0 0 rfl
  refine And.intro (by omega) (fun A9 e10 => ?_)
  have i11 := iva_st i0 e10 (And.intro (by omega) trivial)
  have j12 := ivf_sa j0 e10 rfl
  have f13 := frm_s f0 e10 rfl
  refine fun v14 gv14 e15 => ?_
  have b16 := ivf_at j12 0 rfl
  have q17 : v6 = v14 := (e15.trans ((congrFun (st_a e10 rfl) _).trans e7.symm)).symm
  subst q17
  refine And.intro (by omega) (fun v18 gv18 e19 => ?_)
  have b20 := iva_at i11 2 rfl (i := c) (by omega) (by omega)
  have q21 : v4 = v18 := (e19.trans ((congrFun (st_a e10 rfl) _).trans e5.symm)).symm
  subst q21
  refine And.intro (by omega) (fun A22 e23 => ?_)
  have i24 := iva_st i11 e23 (And.intro (by omega) trivial)
  have j25 := ivf_sa j12 e23 rfl
  have f26 := frm_s f13 e23 rfl
  refine fun v27 gv27 e28 => ?_
  have b29 := ivf_at j25 0 rfl
  have q30 : v6 = v27 := (e28.trans ((congrFun (st_a e23 rfl) _).trans e15.symm)).symm
  subst q30
  refine And.intro (by omega) (fun v31 gv31 e32 => ?_)
  have b33 := iva_at i24 3 rfl (i := c) (by omega) (by omega)
  refine And.intro (by omega) (fun A34 e35 => ?_)
  have i36 := iva_st i24 e35 (And.intro (by omega) trivial)
  have j37 := ivf_sa j25 e35 rfl
  have f38 := frm_s f26 e35 rfl
  refine fun v39 gv39 e40 => ?_
  have b41 := ivf_at j37 0 rfl
  have q42 : v6 = v39 := (e40.trans ((congrFun (st_a e35 rfl) _).trans e28.symm)).symm
  subst q42
  refine Exists.intro c (And.intro rfl (And.intro (And.intro i36 j37) (fun r43 g44 g45 => ?_)))
  refine And.intro (by omega) (And.intro (by omega) (fun A46 e47 => ?_))
  have i48 := iva_st i36 e47 (And.intro (by omega) trivial)
  have j49 := ivf_sa j37 e47 rfl
  have f50 := frm_s f38 e47 rfl
  refine fun v51 gv51 e52 => ?_
  have b53 := ivf_at j49 0 rfl
  have q54 : v6 = v51 := (e52.trans ((congrFun (st_a e47 rfl) _).trans e40.symm)).symm
  subst q54
  refine And.intro (by omega) (fun v55 gv55 e56 => ?_)
  have b57 := iva_at i48 5 rfl (i := c) (by omega) (by omega)
  refine And.intro (by omega) (And.intro (by omega) (fun A58 e59 => ?_))
  have i60 := iva_st i48 e59 (And.intro (by omega) trivial)
  have j61 := ivf_sa j49 e59 rfl
  have f62 := frm_s f50 e59 rfl
  refine fun v63 gv63 e64 => ?_
  have b65 := ivf_at j61 0 rfl
  have q66 : v6 = v63 := (e64.trans ((congrFun (st_a e59 rfl) _).trans e52.symm)).symm
  subst q66
  refine And.intro (by omega) (fun A67 e68 => ?_)
  have i69 := iva_st i60 e68 trivial
  have j70 := ivf_sa j61 e68 rfl
  have f71 := frm_s f62 e68 rfl
  refine fun v72 gv72 e73 => ?_
  have b74 := ivf_at j70 0 rfl
  have q75 : v6 = v72 := (e73.trans ((congrFun (st_a e68 rfl) _).trans e64.symm)).symm
  subst q75
  obtain ⟨v76, e77⟩ : ∃ v, v = A67 26 v6 := ⟨_, rfl⟩
  have b78 := iva_at i69 18 rfl (i := v6) (by omega) (by omega)
  have q79 : v4 = v76 := (e77.trans ((congrFun (Eq.trans (Eq.trans (Eq.trans (st_a e68 rfl) (st_a e59 rfl)) (st_a e47 rfl)) (st_a e35 rfl)) _).trans (st_v e23))).symm
  subst q79
  exact hK _ i69 j70 f71 _ (by omega) (by omega) (by rw [← e77]; omega)
def sC_close : qS := fun as A K => as = [rf 24] ∧ (iva IC A ∧ ivf JC A) ∧ (∀ A' : qA, iva IC A' → ivf JC A' → frm [] [(24, 9), (24, 10)] A A' → K none A')
theorem okC_close : okM LC 1 16 sC_close := by
  refine qmeth [] true [] 23 rfl trivial ?_
  rintro _ A K hA has ⟨rfl, ⟨i0, j0⟩, hK⟩
  have f0 := frm_0 [] [(24, 9), (24, 10)] A
  refine ⟨Nat.le_of_ble_eq_true rfl, [], trivial, ?_⟩
  refine fun v1 gv1 e2 => ?_
  refine fun v3 e4 => ?_
  have w7 := wI_rng v3
  refine fun A5 e6 => ?_
  have i8 := iva_sf i0 e6 rfl
  have j9 := ivf_st j0 e6 trivial
  have f10 := frm_sf f0 e6 rfl
  refine fun v11 gv11 e12 => ?_
  have b13 := ivf_at j9 0 rfl
  refine And.intro (fun h14 => ?_) (fun h14 => ?_)
  · exact hK _ i8 j9 f10
  · refine fun v15 gv15 e16 => ?_
    have b17 := ivf_at j9 0 rfl
    have q18 : v11 = v15 := (e16.trans e12.symm).symm
    subst q18
    refine fun v19 e20 => ?_
    have w23 := wI_rng v19
    have w24 : wI v19 = v19 := wI_id (by omega)
    refine fun A21 e22 => ?_
    have i25 := iva_sf i8 e22 rfl
    have j26 := ivf_st j9 e22 (And.intro (by omega) trivial)
    have f27 := frm_sf f10 e22 rfl
    exact hK _ i25 j26 f27
def sC_isWritten : qS := fun as A K => ∃ i : Int, as = [rf 24, ni i] ∧ (iva IC A ∧ ivf JC A) ∧ ((0 ≤ i ∧ i ≤ 59 → K (some (ni 1)) A) ∧ (True → K (some (ni 0)) A))
theorem okC_isWritten : okM LC 1 17 sC_isWritten := by
  refine qmeth [] false [] 16 rfl trivial ?_
  rintro _ A K hA has ⟨i, rfl, ⟨i0, j0⟩, hK⟩
  have rg_i : rng i := has (ni i) (by simp)
  have f0 := frm_0 [] [] A
  refine ⟨Nat.le_of_ble_eq_true rfl, [], trivial, ?_⟩
  refine And.intro (fun h1 => ?_) (fun h1 => ?_)
  · exact And.intro (by omega) (hK.2 (by first | omega | (subst_vars; omega) | (simp_all; done) | (simp_all; omega)))
  · refine fun v2 gv2 e3 => ?_
    have b4 := ivf_at j0 0 rfl
    refine And.intro (fun h5 => ?_) (fun h5 => ?_)
    · exact And.intro (by omega) (hK.2 (by first | omega | (subst_vars; omega) | (simp_all; done) | (simp_all; omega)))
    · exact And.intro (by omega) (hK.1 (by first | omega | (subst_vars; omega) | (simp_all; done) | (simp_all; omega)))
def sC_fallFact : qS := fun as A K => ∃ i w : Int, as = [rf 24, ni i, ni w] ∧ (iva IC A ∧ ivf JC A ∧ 0 ≤ i ∧ i ≤ 60) ∧ (∀ r : Int, rng r → K (some (ni r)) A)
theorem okC_fallFact : okM LC 1 18 sC_fallFact := by
  refine qmeth [] false [] 49 rfl trivial ?_
  rintro _ A K hA has ⟨i, w, rfl, ⟨i0, j0, p1, p2⟩, hK⟩
  have rg_i : rng i := has (ni i) (by simp)
  have rg_w : rng w := has (ni w) (by simp)
  have f0 := frm_0 [] [] A
  refine ⟨Nat.le_of_ble_eq_true rfl, [], trivial, ?_⟩
  refine (And.intro (fun h3 => ?_) (And.intro (fun h3 => ?_) (And.intro (fun h3 => ?_) (And.intro (fun h3 => ?_) (And.intro (fun h3 => ?_) (And.intro (fun h3 => ?_) (And.intro (fun h3 => ?_) (And.intro (fun h3 => ?_) trivial))))))))
  · exact hK _ (by first | exact wI_rng _ | omega | (exact (hA _ _).2 rfl))
  · refine And.intro (by omega) (fun v4 gv4 e5 => ?_)
    have b6 := iva_at i0 17 rfl (i := i) (by omega) (by omega)
    refine And.intro (by omega) (fun v7 e8 => ?_)
    have h9 := qd_nn (a := v4) (b := 6) (by omega)
    exact And.intro (by omega) (hK _ (by first | exact wI_rng _ | omega | (exact (hA _ _).2 rfl)))
  · refine And.intro (by omega) (fun v10 gv10 e11 => ?_)
    have b12 := iva_at i0 17 rfl (i := i) (by omega) (by omega)
    refine And.intro (by omega) (fun v13 e14 => ?_)
    have h15 := qm_nn (a := v10) (b := 6) (by omega)
    exact hK _ (by first | exact wI_rng _ | omega | (exact (hA _ _).2 rfl))
  · refine And.intro (by omega) (fun v16 gv16 e17 => ?_)
    have b18 := iva_at i0 18 rfl (i := i) (by omega) (by omega)
    exact hK _ (by first | exact wI_rng _ | omega | (exact (hA _ _).2 rfl))
  · refine And.intro (by omega) (fun v19 gv19 e20 => ?_)
    have b21 := iva_at i0 19 rfl (i := i) (by omega) (by omega)
    exact hK _ (by first | exact wI_rng _ | omega | (exact (hA _ _).2 rfl))
  · refine And.intro (by omega) (fun v22 gv22 e23 => ?_)
    have b24 := iva_at i0 20 rfl (i := i) (by omega) (by omega)
    exact hK _ (by first | exact wI_rng _ | omega | (exact (hA _ _).2 rfl))
  · refine And.intro (by omega) (fun v25 gv25 e26 => ?_)
    have b27 := iva_at i0 21 rfl (i := i) (by omega) (by omega)
    exact hK _ (by first | exact wI_rng _ | omega | (exact (hA _ _).2 rfl))
  · refine And.intro (by omega) (fun v28 gv28 e29 => ?_)
    exact hK _ (by first | exact wI_rng _ | omega | (exact (hA _ _).2 rfl))
def sC_append : qS := fun as A K => ∃ x : Int, as = [rf 52, ni x] ∧ (iva IC A ∧ ivf JC A) ∧ (∀ A' : qA, iva IC A' → ivf JC A' → frm [53] [(52, 1)] A A' → K none A')
theorem okC_append : okM LC 1 84 sC_append := by
  refine qmeth [] false [] 33 rfl trivial ?_
  rintro _ A K hA has ⟨x, rfl, ⟨i0, j0⟩, hK⟩
  have rg_x : rng x := has (ni x) (by simp)
  have f0 := frm_0 [53] [(52, 1)] A
  refine ⟨Nat.le_of_ble_eq_true rfl, [(2, [(0, 2, 52), (1, 0, 0), (2, 0, 0)], fun zs B nn => match zs with | [l1, k] => iva IC B ∧ ivf JC B ∧ frm [53] [(52, 1)] A B ∧ nn = (k + 8 : Int).toNat ∧ (l1 = x) ∧ ((-8) ≤ k) ∧ (k ≤ 24) | _ => False)], ?_, ?_⟩
  · refine ⟨⟨rfl, ?_⟩, trivial⟩
    · refine fun l1 k B mm hB hz hI => ?_
      obtain ⟨i1, j1, f1, hm, c0, c1, c2⟩ := hI
      obtain ⟨hz_l1, hz_k, _⟩ := hz
      refine And.intro (fun h1 => ?_) (fun h1 => ?_)
      · exact hK _ i1 j1 f1
      · refine fun v2 gv2 e3 => ?_
        have b4 := ivf_at j1 1 rfl
        refine And.intro (fun h5 => ?_) (fun h5 => ?_)
        · exact hK _ i1 j1 f1
        · refine fun v6 gv6 e7 => ?_
          have b8 := ivf_at j1 1 rfl
          have q9 : v2 = v6 := (e7.trans e3.symm).symm
          subst q9
          refine fun v10 e11 => ?_
          refine fun v12 e13 => ?_
          have h14 := ia_bd (a := v10) (b := 255) (by omega) (by omega)
          refine And.intro (by omega) (fun A15 e16 => ?_)
          have i17 := iva_st i1 e16 (And.intro (by omega) trivial)
          have j18 := ivf_sa j1 e16 rfl
          have f19 := frm_s f1 e16 rfl
          refine fun v20 gv20 e21 => ?_
          have b22 := ivf_at j18 1 rfl
          have q23 : v2 = v20 := (e21.trans ((congrFun (st_a e16 rfl) _).trans e7.symm)).symm
          subst q23
          refine fun v24 e25 => ?_
          refine And.intro (by omega) (fun A26 e27 => ?_)
          have i28 := iva_sf i17 e27 rfl
          have j29 := ivf_st j18 e27 (And.intro (by omega) trivial)
          have f30 := frm_sf f19 e27 rfl
          refine fun v31 e32 => ?_
          exact And.intro (by omega) (Exists.intro (v31 + 8 : Int).toNat (And.intro (by omega) (And.intro i28 (And.intro j29 (And.intro f30 (And.intro rfl (And.intro (by omega) (And.intro (by omega) (by omega)))))))))
  · exact Exists.intro (24 + 8 : Int).toNat (And.intro i0 (And.intro j0 (And.intro f0 (And.intro rfl (And.intro (by omega) (And.intro (by omega) (by omega)))))))
def sC_numberAt : qS := fun as A K => ∃ p : Int, as = [rf 52, ni p] ∧ (iva IC A ∧ ivf JC A ∧ 0 ≤ p ∧ p ≤ 5) ∧ (∀ r : Int, rng r → K (some (ni r)) A)
theorem okC_numberAt : okM LC 1 85 sC_numberAt := by
  refine qmeth [] true [] 37 rfl trivial ?_
  rintro _ A K hA has ⟨p, rfl, ⟨i0, j0, p1, p2⟩, hK⟩
  have rg_p : rng p := has (ni p) (by simp)
  have f0 := frm_0 [] [] A
  refine ⟨Nat.le_of_ble_eq_true rfl, [(6, [(0, 2, 52), (1, 0, 0), (2, 0, 0), (3, 0, 0)], fun zs B nn => match zs with | [l1, s, k] => A = B ∧ nn = (24 - k : Int).toNat ∧ (l1 = p) ∧ (0 ≤ k) ∧ (k ≤ 24) | _ => False)], ?_, ?_⟩
  · refine ⟨⟨rfl, ?_⟩, trivial⟩
    · refine fun l1 s k B mm hB hz hI => ?_
      obtain ⟨rfl, hm, c0, c1, c2⟩ := hI
      obtain ⟨hz_l1, hz_s, hz_k, _⟩ := hz
      refine And.intro (fun h7 => by exfalso; omega) (fun h7 => ?_)
      refine fun v8 e9 => ?_
      refine fun v10 e11 => ?_
      have w13 := wI_rng v10
      have w14 : wI v10 = v10 := wI_id (by omega)
      refine And.intro (fun h12 => ?_) (fun h12 => ?_)
      · exact hK _ (by first | exact wI_rng _ | omega | (exact (hA _ _).2 rfl))
      · refine And.intro (fun h15 => by exfalso; omega) (fun h15 => ?_)
        refine fun v16 e17 => ?_
        refine And.intro (by omega) (fun v18 gv18 e19 => ?_)
        have b20 := iva_at i0 26 rfl (i := k) (by omega) (by omega)
        refine fun v21 e22 => ?_
        refine fun v23 e24 => ?_
        have w25 := wI_rng v23
        have w26 : wI v23 = v23 := wI_id (by omega)
        exact Exists.intro (24 - ((wI v23)) : Int).toNat (And.intro (by omega) (And.intro rfl (And.intro rfl (And.intro (by omega) (And.intro (by omega) (by omega))))))
  · refine fun v3 e4 => ?_
    have w5 := wI_rng v3
    have w6 : wI v3 = v3 := wI_id (by omega)
    exact Exists.intro (24 - ((wI v3)) : Int).toNat (And.intro rfl (And.intro rfl (And.intro (by omega) (And.intro (by omega) (by omega)))))
def sC_fill35 : qS := fun as A K => ∃ v : Int, as = [rf 35, ni v] ∧ (iva IC A ∧ ivf JC A) ∧ (∀ A' : qA, iva IC A' → ivf JC A' → frm [35] [] A A' → K none A')
theorem okC_fill35 : okM LC 1 250 sC_fill35 := by
  refine qmeth [] false [] 21 rfl trivial ?_
  rintro _ A K hA has ⟨v, rfl, ⟨i0, j0⟩, hK⟩
  have rg_v : rng v := has (ni v) (by simp)
  have f0 := frm_0 [35] [] A
  refine ⟨Nat.le_of_ble_eq_true rfl, [(5, [(0, 2, 35), (1, 0, 0), (2, 0, 0), (3, 0, 0)], fun zs B nn => match zs with | [l1, i, n] => iva IC B ∧ ivf JC B ∧ frm [35] [] A B ∧ nn = (14 - i : Int).toNat ∧ (l1 = v) ∧ (0 ≤ i) ∧ (i ≤ 14) ∧ (n = 14) | _ => False)], ?_, ?_⟩
  · refine ⟨⟨rfl, ?_⟩, trivial⟩
    · refine fun l1 i n B mm hB hz hI => ?_
      obtain ⟨i1, j1, f1, hm, c0, c1, c2, c3⟩ := hI
      obtain ⟨hz_l1, hz_i, hz_n, _⟩ := hz
      refine And.intro (fun h1 => ?_) (fun h1 => ?_)
      · exact hK _ i1 j1 f1
      · refine And.intro (by omega) (fun A2 e3 => ?_)
        have i4 := iva_st i1 e3 trivial
        have j5 := ivf_sa j1 e3 rfl
        have f6 := frm_s f1 e3 rfl
        refine fun v7 e8 => ?_
        exact And.intro (by omega) (Exists.intro (14 - v7 : Int).toNat (And.intro (by omega) (And.intro i4 (And.intro j5 (And.intro f6 (And.intro rfl (And.intro (by omega) (And.intro (by omega) (And.intro (by omega) (by omega))))))))))
  · exact Exists.intro (14 - 0 : Int).toNat (And.intro i0 (And.intro j0 (And.intro f0 (And.intro rfl (And.intro (by omega) (And.intro (by omega) (And.intro (by omega) (by omega))))))))
def sC_fill45 : qS := fun as A K => ∃ v : Int, as = [rf 45, ni v] ∧ (iva IC A ∧ ivf JC A) ∧ (∀ A' : qA, iva IC A' → ivf JC A' → frm [45] [] A A' → K none A')
theorem okC_fill45 : okM LC 1 250 sC_fill45 := by
  refine qmeth [] false [] 21 rfl trivial ?_
  rintro _ A K hA has ⟨v, rfl, ⟨i0, j0⟩, hK⟩
  have rg_v : rng v := has (ni v) (by simp)
  have f0 := frm_0 [45] [] A
  refine ⟨Nat.le_of_ble_eq_true rfl, [(5, [(0, 2, 45), (1, 0, 0), (2, 0, 0), (3, 0, 0)], fun zs B nn => match zs with | [l1, i, n] => iva IC B ∧ ivf JC B ∧ frm [45] [] A B ∧ nn = (8 - i : Int).toNat ∧ (l1 = v) ∧ (0 ≤ i) ∧ (i ≤ 8) ∧ (n = 8) | _ => False)], ?_, ?_⟩
  · refine ⟨⟨rfl, ?_⟩, trivial⟩
    · refine fun l1 i n B mm hB hz hI => ?_
      obtain ⟨i1, j1, f1, hm, c0, c1, c2, c3⟩ := hI
      obtain ⟨hz_l1, hz_i, hz_n, _⟩ := hz
      refine And.intro (fun h1 => ?_) (fun h1 => ?_)
      · exact hK _ i1 j1 f1
      · refine And.intro (by omega) (fun A2 e3 => ?_)
        have i4 := iva_st i1 e3 trivial
        have j5 := ivf_sa j1 e3 rfl
        have f6 := frm_s f1 e3 rfl
        refine fun v7 e8 => ?_
        exact And.intro (by omega) (Exists.intro (8 - v7 : Int).toNat (And.intro (by omega) (And.intro i4 (And.intro j5 (And.intro f6 (And.intro rfl (And.intro (by omega) (And.intro (by omega) (And.intro (by omega) (by omega))))))))))
  · exact Exists.intro (8 - 0 : Int).toNat (And.intro i0 (And.intro j0 (And.intro f0 (And.intro rfl (And.intro (by omega) (And.intro (by omega) (And.intro (by omega) (by omega))))))))
def sC_fill57 : qS := fun as A K => ∃ v : Int, as = [rf 57, ni v] ∧ (iva IC A ∧ ivf JC A) ∧ (∀ A' : qA, iva IC A' → ivf JC A' → frm [57] [] A A' → K none A')
theorem okC_fill57 : okM LC 1 250 sC_fill57 := by
  refine qmeth [] false [] 21 rfl trivial ?_
  rintro _ A K hA has ⟨v, rfl, ⟨i0, j0⟩, hK⟩
  have rg_v : rng v := has (ni v) (by simp)
  have f0 := frm_0 [57] [] A
  refine ⟨Nat.le_of_ble_eq_true rfl, [(5, [(0, 2, 57), (1, 0, 0), (2, 0, 0), (3, 0, 0)], fun zs B nn => match zs with | [l1, i, n] => iva IC B ∧ ivf JC B ∧ frm [57] [] A B ∧ nn = (72 - i : Int).toNat ∧ (l1 = v) ∧ (0 ≤ i) ∧ (i ≤ 72) ∧ (n = 72) | _ => False)], ?_, ?_⟩
  · refine ⟨⟨rfl, ?_⟩, trivial⟩
    · refine fun l1 i n B mm hB hz hI => ?_
      obtain ⟨i1, j1, f1, hm, c0, c1, c2, c3⟩ := hI
      obtain ⟨hz_l1, hz_i, hz_n, _⟩ := hz
      refine And.intro (fun h1 => ?_) (fun h1 => ?_)
      · exact hK _ i1 j1 f1
      · refine And.intro (by omega) (fun A2 e3 => ?_)
        have i4 := iva_st i1 e3 trivial
        have j5 := ivf_sa j1 e3 rfl
        have f6 := frm_s f1 e3 rfl
        refine fun v7 e8 => ?_
        exact And.intro (by omega) (Exists.intro (72 - v7 : Int).toNat (And.intro (by omega) (And.intro i4 (And.intro j5 (And.intro f6 (And.intro rfl (And.intro (by omega) (And.intro (by omega) (And.intro (by omega) (by omega))))))))))
  · exact Exists.intro (72 - 0 : Int).toNat (And.intro i0 (And.intro j0 (And.intro f0 (And.intro rfl (And.intro (by omega) (And.intro (by omega) (And.intro (by omega) (by omega))))))))
def sC_fill69 : qS := fun as A K => ∃ v : Int, as = [rf 69, ni v] ∧ (iva IC A ∧ ivf JC A) ∧ (∀ A' : qA, iva IC A' → ivf JC A' → frm [69] [] A A' → K none A')
theorem okC_fill69 : okM LC 1 250 sC_fill69 := by
  refine qmeth [] false [] 21 rfl trivial ?_
  rintro _ A K hA has ⟨v, rfl, ⟨i0, j0⟩, hK⟩
  have rg_v : rng v := has (ni v) (by simp)
  have f0 := frm_0 [69] [] A
  refine ⟨Nat.le_of_ble_eq_true rfl, [(5, [(0, 2, 69), (1, 0, 0), (2, 0, 0), (3, 0, 0)], fun zs B nn => match zs with | [l1, i, n] => iva IC B ∧ ivf JC B ∧ frm [69] [] A B ∧ nn = (24 - i : Int).toNat ∧ (l1 = v) ∧ (0 ≤ i) ∧ (i ≤ 24) ∧ (n = 24) | _ => False)], ?_, ?_⟩
  · refine ⟨⟨rfl, ?_⟩, trivial⟩
    · refine fun l1 i n B mm hB hz hI => ?_
      obtain ⟨i1, j1, f1, hm, c0, c1, c2, c3⟩ := hI
      obtain ⟨hz_l1, hz_i, hz_n, _⟩ := hz
      refine And.intro (fun h1 => ?_) (fun h1 => ?_)
      · exact hK _ i1 j1 f1
      · refine And.intro (by omega) (fun A2 e3 => ?_)
        have i4 := iva_st i1 e3 trivial
        have j5 := ivf_sa j1 e3 rfl
        have f6 := frm_s f1 e3 rfl
        refine fun v7 e8 => ?_
        exact And.intro (by omega) (Exists.intro (24 - v7 : Int).toNat (And.intro (by omega) (And.intro i4 (And.intro j5 (And.intro f6 (And.intro rfl (And.intro (by omega) (And.intro (by omega) (And.intro (by omega) (by omega))))))))))
  · exact Exists.intro (24 - 0 : Int).toNat (And.intro i0 (And.intro j0 (And.intro f0 (And.intro rfl (And.intro (by omega) (And.intro (by omega) (And.intro (by omega) (by omega))))))))
def sC_bitsL : qS := fun as A K => ∃ x : Int, as = [nl x] ∧ (∀ r : Int, rng r → K (some (ni r)) A)
theorem okC_bitsL : okM LC 1 249 sC_bitsL := by
  refine qmeth [] true [] 55 rfl trivial ?_
  rintro _ A K hA has ⟨x, rfl, hK⟩
  have rg_x : rngL x := has (nl x) (by simp)
  refine ⟨Nat.le_of_ble_eq_true rfl, [], trivial, ?_⟩
  refine fun v1 e2 => ?_
  refine fun v3 e4 => ?_
  refine fun v5 e6 => ?_
  refine fun v7 e8 => ?_
  refine fun v9 e10 => ?_
  refine fun v11 e12 => ?_
  refine fun v13 e14 => ?_
  refine fun v15 e16 => ?_
  refine fun v17 e18 => ?_
  refine fun v19 e20 => ?_
  refine fun v21 e22 => ?_
  refine fun v23 e24 => ?_
  refine fun v25 e26 => ?_
  refine fun v27 e28 => ?_
  refine fun v29 e30 => ?_
  refine fun v31 e32 => ?_
  refine fun v33 e34 => ?_
  have h35 := ia_bd (a := v31) (b := 127) (by omega) (by omega)
  exact hK _ (by first | exact wI_rng _ | omega | (exact (hA _ _).2 rfl))
def sC_bitsI : qS := fun as A K => ∃ x : Int, as = [ni x] ∧ (∀ r : Int, rng r → K (some (ni r)) A)
theorem okC_bitsI : okM LC 1 248 sC_bitsI := by
  refine qmeth [] true [] 48 rfl trivial ?_
  rintro _ A K hA has ⟨x, rfl, hK⟩
  have rg_x : rng x := has (ni x) (by simp)
  refine ⟨Nat.le_of_ble_eq_true rfl, [], trivial, ?_⟩
  refine fun v1 e2 => ?_
  have k3 : qn 1431655765 = 1431655765 := by decide
  refine fun v4 e5 => ?_
  have h6 := ia_bd (a := v1) (b := (qn 1431655765)) (by omega) (by omega)
  refine fun v7 e8 => ?_
  have k9 : qn 858993459 = 858993459 := by decide
  refine fun v10 e11 => ?_
  have h12 := ia_bd (a := v7) (b := (qn 858993459)) (by omega) (by omega)
  refine fun v13 e14 => ?_
  have k15 : qn 858993459 = 858993459 := by decide
  refine fun v16 e17 => ?_
  have h18 := ia_bd (a := v13) (b := (qn 858993459)) (by omega) (by omega)
  refine fun v19 e20 => ?_
  refine fun v21 e22 => ?_
  refine fun v23 e24 => ?_
  have k25 : qn 252645135 = 252645135 := by decide
  refine fun v26 e27 => ?_
  have h28 := ia_bd (a := v23) (b := (qn 252645135)) (by omega) (by omega)
  refine fun v29 e30 => ?_
  refine fun v31 e32 => ?_
  refine fun v33 e34 => ?_
  refine fun v35 e36 => ?_
  refine fun v37 e38 => ?_
  have h39 := ia_bd (a := v35) (b := 63) (by omega) (by omega)
  exact hK _ (by first | exact wI_rng _ | omega | (exact (hA _ _).2 rfl))
end
section
def sC_joined : qS := fun as A K => ∃ g a b : Int, as = [ni g, ni a, ni b] ∧ (∀ r : Int, rng r → K (some (ni r)) A)
theorem okC_joined : okM LC 1 78 sC_joined := by
  refine qmeth [] true [] 57 rfl trivial ?_
  rintro _ A K hA has ⟨g, a, b, rfl, hK⟩
  have rg_g : rng g := has (ni g) (by simp)
  have rg_a : rng a := has (ni a) (by simp)
  have rg_b : rng b := has (ni b) (by simp)
  refine ⟨Nat.le_of_ble_eq_true rfl, [], trivial, ?_⟩
  refine (And.intro (fun h1 => ?_) (fun h8 => (And.intro (fun h1 => ?_) (fun h7 => (And.intro (fun h1 => ?_) (fun h6 => (And.intro (fun h1 => ?_) (fun h5 => (And.intro (fun h1 => ?_) (fun h4 => (And.intro (fun h1 => ?_) (fun h3 => (And.intro (fun h1 => ?_) (fun h2 => ?_))))))))))))))
  · refine And.intro (fun h9 => ?_) (fun h9 => ?_)
    · refine And.intro (by omega) (fun v10 e11 => ?_)
      have h12 := qm_rng (a := a) (b := b) (by omega)
      exact hK _ (by first | exact wI_rng _ | omega | (exact (hA _ _).2 rfl))
    · exact hK _ (by first | exact wI_rng _ | omega | (exact (hA _ _).2 rfl))
  · refine fun v13 e14 => ?_
    have w15 := wI_rng v13
    exact hK _ (by first | exact wI_rng _ | omega | (exact (hA _ _).2 rfl))
  · refine fun v16 e17 => ?_
    have w18 := wI_rng v16
    exact hK _ (by first | exact wI_rng _ | omega | (exact (hA _ _).2 rfl))
  · refine fun v19 e20 => ?_
    have w21 := wI_rng v19
    exact hK _ (by first | exact wI_rng _ | omega | (exact (hA _ _).2 rfl))
  · refine And.intro (fun h22 => ?_) (fun h22 => ?_)
    · refine And.intro (by omega) (fun v23 e24 => ?_)
      have w26 := wI_rng v23
      exact hK _ (by first | exact wI_rng _ | omega | (exact (hA _ _).2 rfl))
    · exact hK _ (by first | exact wI_rng _ | omega | (exact (hA _ _).2 rfl))
  · refine And.intro (fun h27 => ?_) (fun h27 => ?_)
    · exact hK _ (by first | exact wI_rng _ | omega | (exact (hA _ _).2 rfl))
    · exact hK _ (by first | exact wI_rng _ | omega | (exact (hA _ _).2 rfl))
  · refine And.intro (fun h28 => ?_) (fun h28 => ?_)
    · exact hK _ (by first | exact wI_rng _ | omega | (exact (hA _ _).2 rfl))
    · exact hK _ (by first | exact wI_rng _ | omega | (exact (hA _ _).2 rfl))
  · refine And.intro (fun h29 => ?_) (fun h29 => ?_)
    · exact hK _ (by first | exact wI_rng _ | omega | (exact (hA _ _).2 rfl))
    · exact hK _ (by first | exact wI_rng _ | omega | (exact (hA _ _).2 rfl))
def sC_put36 : qS := fun as A K => ∃ g x : Int, as = [rf 36, ni g, ni x] ∧ (iva IC A ∧ ivf JC A ∧ 0 ≤ x ∧ x ≤ 99999) ∧ (∀ A' : qA, iva IC A' → ivf JC A' → frm [37, 38] [(36, 8)] A A' → K none A')
theorem okC_put36 : okM LC 1 75 sC_put36 := by
  refine qmeth [] false [] 29 rfl trivial ?_
  rintro _ A K hA has ⟨g, x, rfl, ⟨i0, j0, p1, p2⟩, hK⟩
  have rg_g : rng g := has (ni g) (by simp)
  have rg_x : rng x := has (ni x) (by simp)
  have f0 := frm_0 [37, 38] [(36, 8)] A
  refine ⟨Nat.le_of_ble_eq_true rfl, [], trivial, ?_⟩
  refine fun v3 gv3 e4 => ?_
  have b5 := ivf_at j0 7 rfl
  refine And.intro (fun h6 => ?_) (fun h6 => ?_)
  · exact hK _ i0 j0 f0
  · refine fun v7 gv7 e8 => ?_
    have b9 := ivf_at j0 7 rfl
    have q10 : v3 = v7 := (e8.trans e4.symm).symm
    subst q10
    refine And.intro (by omega) (fun A11 e12 => ?_)
    have i13 := iva_st i0 e12 trivial
    have j14 := ivf_sa j0 e12 rfl
    have f15 := frm_s f0 e12 rfl
    refine fun v16 gv16 e17 => ?_
    have b18 := ivf_at j14 7 rfl
    have q19 : v3 = v16 := (e17.trans ((congrFun (st_a e12 rfl) _).trans e8.symm)).symm
    subst q19
    refine And.intro (by omega) (fun A20 e21 => ?_)
    have i22 := iva_st i13 e21 (And.intro (by omega) trivial)
    have j23 := ivf_sa j14 e21 rfl
    have f24 := frm_s f15 e21 rfl
    refine fun v25 gv25 e26 => ?_
    have b27 := ivf_at j23 7 rfl
    have q28 : v3 = v25 := (e26.trans ((congrFun (st_a e21 rfl) _).trans e17.symm)).symm
    subst q28
    refine fun v29 e30 => ?_
    refine And.intro (by omega) (fun A31 e32 => ?_)
    have i33 := iva_sf i22 e32 rfl
    have j34 := ivf_st j23 e32 (And.intro (by omega) trivial)
    have f35 := frm_sf f24 e32 rfl
    exact hK _ i33 j34 f35
def sC_reckon36 : qS := fun as A K => ∃ f t : Int, as = [rf 36, ni f, ni t, rf 35] ∧ (iva IC A ∧ ivf JC A ∧ 0 ≤ f ∧ f ≤ 200 ∧ 0 ≤ t ∧ t ≤ 200 ∧ (KO A)) ∧ (∀ A' : qA, iva IC A' → ivf JC A' → frm [43] [(36, 9)] A A' → ∀ r : Int, rng r → K (some (ni r)) A')
theorem okC_reckon36 : okM LC 2 77 sC_reckon36 := by
  refine qmeth [] true [(78, sC_joined)] 186 rfl ⟨okC_joined.le (by decide), trivial⟩ ?_
  rintro _ A K hA has ⟨f, t, rfl, ⟨i0, j0, p1, p2, p3, p4, p5⟩, hK⟩
  have rg_f : rng f := has (ni f) (by simp)
  have rg_t : rng t := has (ni t) (by simp)
  have f0 := frm_0 [43] [(36, 9)] A
  refine ⟨Nat.le_of_ble_eq_true rfl, [(5, [(0, 2, 36), (2, 0, 0), (3, 2, 35), (4, 0, 0)], fun zs B nn => match zs with | [l2, k] => iva IC B ∧ ivf JC B ∧ frm [43] [(36, 9)] A B ∧ nn = (200 - k : Int).toNat ∧ (l2 = t) ∧ (0 ≤ k) ∧ (k ≤ 100000) | _ => False)], ?_, ?_⟩
  · refine ⟨⟨rfl, ?_⟩, trivial⟩
    · refine fun l2 k B mm hB hz hI => ?_
      obtain ⟨i1, j1, f1, hm, c0, c1, c2⟩ := hI
      obtain ⟨hz_l2, hz_k, _⟩ := hz
      refine And.intro (fun h11 => ?_) (fun h11 => ?_)
      · refine fun v12 gv12 e13 => ?_
        have b14 := ivf_at j1 8 rfl
        refine And.intro (fun h15 => ?_) (fun h15 => ?_)
        · exact hK _ i1 j1 f1 _ (by first | exact wI_rng _ | omega | (exact (hA _ _).2 rfl))
        · refine And.intro (by omega) (fun v16 gv16 e17 => ?_)
          exact hK _ i1 j1 f1 _ (by first | exact wI_rng _ | omega | (exact (hA _ _).2 rfl))
      · refine And.intro (fun h18 => by exfalso; omega) (fun h18 => ?_)
        refine And.intro (by omega) (fun v19 gv19 e20 => ?_)
        refine And.intro (fun h21 => ?_) (fun h21 => ?_)
        · refine fun v22 gv22 e23 => ?_
          have b24 := ivf_at j1 8 rfl
          refine And.intro (fun h25 => ?_) (fun h25 => ?_)
          · refine fun v26 gv26 e27 => ?_
            have b28 := ivf_at j1 8 rfl
            have q29 : v22 = v26 := (e27.trans e23.symm).symm
            subst q29
            refine And.intro (fun h30 => by exfalso; omega) (fun h30 => ?_)
            refine And.intro (by omega) (fun v31 gv31 e32 => ?_)
            have b33 := iva_at i1 34 rfl (i := k) (by omega) (by omega)
            refine And.intro (by omega) (fun A34 e35 => ?_)
            have i36 := iva_st i1 e35 trivial
            have j37 := ivf_sa j1 e35 rfl
            have f38 := frm_s f1 e35 rfl
            refine fun v39 gv39 e40 => ?_
            have b41 := ivf_at j37 8 rfl
            have q42 : v22 = v39 := (e40.trans ((congrFun (st_a e35 rfl) _).trans e27.symm)).symm
            subst q42
            refine fun v43 e44 => ?_
            have w47 := wI_rng v43
            have w48 : wI v43 = v43 := wI_id (by omega)
            refine fun A45 e46 => ?_
            have i49 := iva_sf i36 e46 rfl
            have j50 := ivf_st j37 e46 (And.intro (by omega) trivial)
            have f51 := frm_sf f38 e46 rfl
            refine fun v52 e53 => ?_
            have w54 := wI_rng v52
            have w55 : wI v52 = v52 := wI_id (by omega)
            exact Exists.intro (200 - ((wI v52)) : Int).toNat (And.intro (by omega) (And.intro i49 (And.intro j50 (And.intro f51 (And.intro rfl (And.intro (by omega) (And.intro (by omega) (by omega))))))))
          · exact hK _ i1 j1 f1 _ (by first | exact wI_rng _ | omega | (exact (hA _ _).2 rfl))
        · refine And.intro (fun h56 => ?_) (fun h56 => ?_)
          · refine fun v57 gv57 e58 => ?_
            have b59 := ivf_at j1 8 rfl
            refine And.intro (fun h60 => ?_) (fun h60 => ?_)
            · refine And.intro (fun h61 => ?_) (fun h61 => ?_)
              · refine And.intro (fun h62 => ?_) (fun h62 => ?_)
                · refine fun v63 gv63 e64 => ?_
                  have b65 := ivf_at j1 8 rfl
                  have q66 : v57 = v63 := (e64.trans e58.symm).symm
                  subst q66
                  refine fun v67 e68 => ?_
                  refine And.intro (by omega) (fun v69 gv69 e70 => ?_)
                  refine And.intro (fun h71 => ?_) (fun h71 => ?_)
                  · refine And.intro (fun h72 => ?_) (fun h72 => by exfalso; omega)
                    refine And.intro (fun h73 => by exfalso; omega) (fun h73 => ?_)
                    refine And.intro (by omega) (fun v74 gv74 e75 => ?_)
                    have b76 := iva_at i1 34 rfl (i := k) (by omega) (by omega)
                    refine fun v77 e78 => ?_
                    have w81 := wI_rng v77
                    have w82 : wI v77 = v77 := wI_id (by omega)
                    refine (fun v79 e80 => ?_)
                    refine fun v83 e84 => ?_
                    have w85 := wI_rng v83
                    have w86 : wI v83 = v83 := wI_id (by omega)
                    exact Exists.intro (200 - ((wI v83)) : Int).toNat (And.intro (by omega) (And.intro i1 (And.intro j1 (And.intro f1 (And.intro rfl (And.intro (by omega) (And.intro (by omega) (by omega))))))))
                  · refine And.intro (fun h87 => ?_) (fun h87 => by exfalso; omega)
                    refine And.intro (fun h88 => ?_) (fun h88 => by exfalso; omega)
                    refine fun v89 gv89 e90 => ?_
                    have b91 := ivf_at j1 8 rfl
                    have q92 : v57 = v89 := (e90.trans e64.symm).symm
                    subst q92
                    refine fun v93 e94 => ?_
                    have w97 := wI_rng v93
                    have w98 : wI v93 = v93 := wI_id (by omega)
                    refine fun A95 e96 => ?_
                    have i99 := iva_sf i1 e96 rfl
                    have j100 := ivf_st j1 e96 (And.intro (by omega) trivial)
                    have f101 := frm_sf f1 e96 rfl
                    refine fun v102 e103 => ?_
                    have w104 := wI_rng v102
                    have w105 : wI v102 = v102 := wI_id (by omega)
                    exact Exists.intro (200 - ((wI v102)) : Int).toNat (And.intro (by omega) (And.intro i99 (And.intro j100 (And.intro f101 (And.intro rfl (And.intro (by omega) (And.intro (by omega) (by omega))))))))
                · refine And.intro (fun h106 => ?_) (fun h106 => ?_)
                  · refine fun v107 gv107 e108 => ?_
                    have b109 := ivf_at j1 8 rfl
                    have q110 : v57 = v107 := (e108.trans e58.symm).symm
                    subst q110
                    refine And.intro (fun h111 => ?_) (fun h111 => ?_)
                    · exact hK _ i1 j1 f1 _ (by first | exact wI_rng _ | omega | (exact (hA _ _).2 rfl))
                    · refine fun v112 gv112 e113 => ?_
                      have b114 := ivf_at j1 8 rfl
                      have q115 : v57 = v112 := (e113.trans e108.symm).symm
                      subst q115
                      refine fun v116 e117 => ?_
                      refine And.intro (by omega) (fun v118 gv118 e119 => ?_)
                      refine And.intro (fun h120 => ?_) (fun h120 => ?_)
                      · refine fun v121 gv121 e122 => ?_
                        have b123 := ivf_at j1 8 rfl
                        have q124 : v57 = v121 := (e122.trans e113.symm).symm
                        subst q124
                        refine fun v125 e126 => ?_
                        have w129 := wI_rng v125
                        have w130 : wI v125 = v125 := wI_id (by omega)
                        refine fun A127 e128 => ?_
                        have i131 := iva_sf i1 e128 rfl
                        have j132 := ivf_st j1 e128 (And.intro (by omega) trivial)
                        have f133 := frm_sf f1 e128 rfl
                        refine fun v134 gv134 e135 => ?_
                        have b136 := ivf_at j132 8 rfl
                        have q137 : (wI v125) = v134 := (e135.trans (st_v e128)).symm
                        subst q137
                        refine fun v138 e139 => ?_
                        refine fun v140 gv140 e141 => ?_
                        have b142 := ivf_at j132 8 rfl
                        have q143 : (wI v125) = v140 := (e141.trans e135.symm).symm
                        subst q143
                        refine fun v144 e145 => ?_
                        refine And.intro (by omega) (fun v146 gv146 e147 => ?_)
                        refine fun v148 gv148 e149 => ?_
                        have b150 := ivf_at j132 8 rfl
                        have q151 : (wI v125) = v148 := (e149.trans e141.symm).symm
                        subst q151
                        refine And.intro (by omega) (fun v152 gv152 e153 => ?_)
                        refine Exists.intro v19 (Exists.intro v146 (Exists.intro v152 (And.intro rfl (fun r154 g155 => ?_))))
                        refine And.intro (by omega) (fun A156 e157 => ?_)
                        have i158 := iva_st i131 e157 trivial
                        have j159 := ivf_sa j132 e157 rfl
                        have f160 := frm_s f133 e157 rfl
                        refine fun v161 e162 => ?_
                        have w163 := wI_rng v161
                        have w164 : wI v161 = v161 := wI_id (by omega)
                        exact Exists.intro (200 - ((wI v161)) : Int).toNat (And.intro (by omega) (And.intro i158 (And.intro j159 (And.intro f160 (And.intro rfl (And.intro (by omega) (And.intro (by omega) (by omega))))))))
                      · refine And.intro (fun h165 => ?_) (fun h165 => ?_)
                        · exact hK _ i1 j1 f1 _ (by first | exact wI_rng _ | omega | (exact (hA _ _).2 rfl))
                        · refine And.intro (fun h166 => ?_) (fun h166 => ?_)
                          · refine fun v167 gv167 e168 => ?_
                            have b169 := ivf_at j1 8 rfl
                            have q170 : v57 = v167 := (e168.trans e113.symm).symm
                            subst q170
                            refine fun v171 e172 => ?_
                            have w175 := wI_rng v171
                            have w176 : wI v171 = v171 := wI_id (by omega)
                            refine fun A173 e174 => ?_
                            have i177 := iva_sf i1 e174 rfl
                            have j178 := ivf_st j1 e174 (And.intro (by omega) trivial)
                            have f179 := frm_sf f1 e174 rfl
                            refine fun v180 gv180 e181 => ?_
                            have b182 := ivf_at j178 8 rfl
                            have q183 : (wI v171) = v180 := (e181.trans (st_v e174)).symm
                            subst q183
                            refine fun v184 e185 => ?_
                            refine fun v186 gv186 e187 => ?_
                            have b188 := ivf_at j178 8 rfl
                            have q189 : (wI v171) = v186 := (e187.trans e181.symm).symm
                            subst q189
                            refine fun v190 e191 => ?_
                            refine And.intro (by omega) (fun v192 gv192 e193 => ?_)
                            refine fun v194 gv194 e195 => ?_
                            have b196 := ivf_at j178 8 rfl
                            have q197 : (wI v171) = v194 := (e195.trans e187.symm).symm
                            subst q197
                            refine And.intro (by omega) (fun v198 gv198 e199 => ?_)
                            refine Exists.intro v19 (Exists.intro v192 (Exists.intro v198 (And.intro rfl (fun r200 g201 => ?_))))
                            refine And.intro (by omega) (fun A202 e203 => ?_)
                            have i204 := iva_st i177 e203 trivial
                            have j205 := ivf_sa j178 e203 rfl
                            have f206 := frm_s f179 e203 rfl
                            refine fun v207 e208 => ?_
                            have w209 := wI_rng v207
                            have w210 : wI v207 = v207 := wI_id (by omega)
                            exact Exists.intro (200 - ((wI v207)) : Int).toNat (And.intro (by omega) (And.intro i204 (And.intro j205 (And.intro f206 (And.intro rfl (And.intro (by omega) (And.intro (by omega) (by omega))))))))
                          · exact hK _ i1 j1 f1 _ (by first | exact wI_rng _ | omega | (exact (hA _ _).2 rfl))
                  · refine fun v211 gv211 e212 => ?_
                    have b213 := ivf_at j1 8 rfl
                    have q214 : v57 = v211 := (e212.trans e58.symm).symm
                    subst q214
                    refine fun v215 e216 => ?_
                    refine And.intro (by omega) (fun v217 gv217 e218 => ?_)
                    refine And.intro (fun h219 => ?_) (fun h219 => ?_)
                    · refine And.intro (fun h220 => by exfalso; omega) (fun h220 => ?_)
                      refine And.intro (fun h221 => ?_) (fun h221 => by exfalso; omega)
                      refine fun v222 gv222 e223 => ?_
                      have b224 := ivf_at j1 8 rfl
                      have q225 : v57 = v222 := (e223.trans e212.symm).symm
                      subst q225
                      refine fun v226 e227 => ?_
                      have w230 := wI_rng v226
                      have w231 : wI v226 = v226 := wI_id (by omega)
                      refine fun A228 e229 => ?_
                      have i232 := iva_sf i1 e229 rfl
                      have j233 := ivf_st j1 e229 (And.intro (by omega) trivial)
                      have f234 := frm_sf f1 e229 rfl
                      refine fun v235 e236 => ?_
                      have w237 := wI_rng v235
                      have w238 : wI v235 = v235 := wI_id (by omega)
                      exact Exists.intro (200 - ((wI v235)) : Int).toNat (And.intro (by omega) (And.intro i232 (And.intro j233 (And.intro f234 (And.intro rfl (And.intro (by omega) (And.intro (by omega) (by omega))))))))
                    · refine And.intro (fun h239 => by exfalso; omega) (fun h239 => ?_)
                      refine And.intro (fun h240 => by exfalso; omega) (fun h240 => ?_)
                      refine And.intro (by omega) (fun v241 gv241 e242 => ?_)
                      have b243 := iva_at i1 34 rfl (i := k) (by omega) (by omega)
                      refine fun v244 e245 => ?_
                      have w248 := wI_rng v244
                      have w249 : wI v244 = v244 := wI_id (by omega)
                      refine (fun v246 e247 => ?_)
                      refine fun v250 e251 => ?_
                      have w252 := wI_rng v250
                      have w253 : wI v250 = v250 := wI_id (by omega)
                      exact Exists.intro (200 - ((wI v250)) : Int).toNat (And.intro (by omega) (And.intro i1 (And.intro j1 (And.intro f1 (And.intro rfl (And.intro (by omega) (And.intro (by omega) (by omega))))))))
              · refine fun v254 gv254 e255 => ?_
                have b256 := ivf_at j1 8 rfl
                have q257 : v57 = v254 := (e255.trans e58.symm).symm
                subst q257
                refine fun v258 e259 => ?_
                refine fun v260 gv260 e261 => ?_
                have b262 := ivf_at j1 8 rfl
                have q263 : v57 = v260 := (e261.trans e255.symm).symm
                subst q263
                refine fun v264 e265 => ?_
                refine And.intro (by omega) (fun v266 gv266 e267 => ?_)
                refine fun v268 e269 => ?_
                have w272 := wI_rng v268
                refine And.intro (by omega) (fun A270 e271 => ?_)
                have i273 := iva_st i1 e271 trivial
                have j274 := ivf_sa j1 e271 rfl
                have f275 := frm_s f1 e271 rfl
                refine fun v276 e277 => ?_
                have w278 := wI_rng v276
                have w279 : wI v276 = v276 := wI_id (by omega)
                exact Exists.intro (200 - ((wI v276)) : Int).toNat (And.intro (by omega) (And.intro i273 (And.intro j274 (And.intro f275 (And.intro rfl (And.intro (by omega) (And.intro (by omega) (by omega))))))))
            · exact hK _ i1 j1 f1 _ (by first | exact wI_rng _ | omega | (exact (hA _ _).2 rfl))
          · refine fun v280 gv280 e281 => ?_
            have b282 := ivf_at j1 8 rfl
            refine And.intro (fun h283 => ?_) (fun h283 => ?_)
            · refine fun v284 gv284 e285 => ?_
              have b286 := ivf_at j1 8 rfl
              have q287 : v280 = v284 := (e285.trans e281.symm).symm
              subst q287
              refine And.intro (fun h288 => ?_) (fun h288 => by exfalso; omega)
              refine And.intro (by omega) (fun v289 gv289 e290 => ?_)
              have b291 := iva_at i1 34 rfl (i := k) (by omega) (by omega)
              have kk := (KO_fr p5 f1 rfl).1 k (by omega) (by omega)
              refine And.intro (by omega) (fun v292 gv292 e293 => ?_)
              refine And.intro (by omega) (fun A294 e295 => ?_)
              have i296 := iva_st i1 e295 trivial
              have j297 := ivf_sa j1 e295 rfl
              have f298 := frm_s f1 e295 rfl
              refine fun v299 gv299 e300 => ?_
              have b301 := ivf_at j297 8 rfl
              have q302 : v280 = v299 := (e300.trans ((congrFun (st_a e295 rfl) _).trans e285.symm)).symm
              subst q302
              refine fun v303 e304 => ?_
              have w307 := wI_rng v303
              have w308 : wI v303 = v303 := wI_id (by omega)
              refine fun A305 e306 => ?_
              have i309 := iva_sf i296 e306 rfl
              have j310 := ivf_st j297 e306 (And.intro (by omega) trivial)
              have f311 := frm_sf f298 e306 rfl
              refine fun v312 e313 => ?_
              have w314 := wI_rng v312
              have w315 : wI v312 = v312 := wI_id (by omega)
              exact Exists.intro (200 - ((wI v312)) : Int).toNat (And.intro (by omega) (And.intro i309 (And.intro j310 (And.intro f311 (And.intro rfl (And.intro (by omega) (And.intro (by omega) (by omega))))))))
            · exact hK _ i1 j1 f1 _ (by first | exact wI_rng _ | omega | (exact (hA _ _).2 rfl))
  · refine fun A6 e7 => ?_
    have i8 := iva_sf i0 e7 rfl
    have j9 := ivf_st j0 e7 (And.intro (by omega) trivial)
    have f10 := frm_sf f0 e7 rfl
    exact Exists.intro (200 - f : Int).toNat (And.intro i8 (And.intro j9 (And.intro f10 (And.intro rfl (And.intro (by omega) (And.intro (by omega) (by omega)))))))
def sC_answer36 : qS := fun as A K => ∃ w m : Int, as = [rf 36, ni w, ni m, rf 35] ∧ (iva IC A ∧ ivf JC A ∧ 0 ≤ m ∧ m ≤ 1000 ∧ (KO A)) ∧ (∀ A' : qA, iva IC A' → ivf JC A' → frm [43] [(36, 9)] A A' → ∀ r : Int, 0 ≤ r → r ≤ 1000 → (r ≤ m) → K (some (ni r)) A')
theorem okC_answer36 : okM LC 3 76 sC_answer36 := by
  refine qmeth [] false [(77, sC_reckon36)] 53 rfl ⟨okC_reckon36.le (by decide), trivial⟩ ?_
  rintro _ A K hA has ⟨w, m, rfl, ⟨i0, j0, p1, p2, p3⟩, hK⟩
  have rg_w : rng w := has (ni w) (by simp)
  have rg_m : rng m := has (ni m) (by simp)
  have f0 := frm_0 [43] [(36, 9)] A
  refine ⟨Nat.le_of_ble_eq_true rfl, [(2, [(0, 2, 36), (1, 0, 0), (2, 0, 0), (3, 2, 35), (4, 0, 0)], fun zs B nn => match zs with | [l1, l2, i] => iva IC B ∧ ivf JC B ∧ frm [43] [(36, 9)] A B ∧ nn = (14 - i : Int).toNat ∧ (l1 = w) ∧ (l2 = m) ∧ (0 ≤ i) ∧ (i ≤ 14) | _ => False)], ?_, ?_⟩
  · refine ⟨⟨rfl, ?_⟩, trivial⟩
    · refine fun l1 l2 i B mm hB hz hI => ?_
      obtain ⟨i1, j1, f1, hm, c0, c1, c2, c3⟩ := hI
      obtain ⟨hz_l1, hz_l2, hz_i, _⟩ := hz
      refine fun v4 gv4 e5 => ?_
      have b6 := ivf_at j1 6 rfl
      refine And.intro (fun h7 => ?_) (fun h7 => ?_)
      · exact hK _ i1 j1 f1 _ (by omega) (by omega) (by first | assumption | omega | simp_all)
      · refine And.intro (fun h8 => by exfalso; omega) (fun h8 => ?_)
        refine And.intro (by omega) (fun v9 gv9 e10 => ?_)
        refine And.intro (fun h11 => ?_) (fun h11 => ?_)
        · refine fun v12 e13 => ?_
          exact And.intro (by omega) (Exists.intro (14 - v12 : Int).toNat (And.intro (by omega) (And.intro i1 (And.intro j1 (And.intro f1 (And.intro rfl (And.intro (by omega) (And.intro (by omega) (And.intro (by omega) (by omega))))))))))
        · refine And.intro (by omega) (fun v14 gv14 e15 => ?_)
          have b16 := iva_at i1 37 rfl (i := i) (by omega) (by omega)
          refine And.intro (by omega) (fun v17 gv17 e18 => ?_)
          have b19 := iva_at i1 38 rfl (i := i) (by omega) (by omega)
          refine Exists.intro v14 (Exists.intro v17 (And.intro rfl (And.intro (And.intro i1 (And.intro j1 (And.intro (by omega) (And.intro (by omega) (And.intro (by omega) (And.intro (by omega) (KO_fr p3 f1 rfl))))))) (fun A20 i21 j22 f23 r24 g25 => ?_))))
          have f26 := frm_c f1 f23 rfl
          refine And.intro (fun h27 => ?_) (fun h27 => ?_)
          · refine fun v28 e29 => ?_
            exact And.intro (by omega) (Exists.intro (14 - v28 : Int).toNat (And.intro (by omega) (And.intro i21 (And.intro j22 (And.intro f26 (And.intro rfl (And.intro (by omega) (And.intro (by omega) (And.intro (by omega) (by omega))))))))))
          · refine And.intro (by omega) (fun v30 gv30 e31 => ?_)
            have b32 := iva_at i21 36 rfl (i := i) (by omega) (by omega)
            refine And.intro (by omega) (fun v33 gv33 e34 => ?_)
            have b35 := iva_at i21 37 rfl (i := i) (by omega) (by omega)
            have q36 : v14 = v33 := (e34.trans ((congrFun (frm_a f23 rfl) _).trans e15.symm)).symm
            subst q36
            refine Exists.intro v30 (Exists.intro v14 (And.intro rfl (And.intro (And.intro i21 (And.intro j22 (And.intro (by omega) (And.intro (by omega) (And.intro (by omega) (And.intro (by omega) (KO_fr p3 f26 rfl))))))) (fun A37 i38 j39 f40 r41 g42 => ?_))))
            have f43 := frm_c f26 f40 rfl
            refine (fun v44 e45 => ?_)
            refine (fun v46 e47 => ?_)
            exact hK _ i38 j39 f43 _ (by omega) (by omega) (by first | assumption | omega | simp_all)
  · exact Exists.intro (14 - 0 : Int).toNat (And.intro i0 (And.intro j0 (And.intro f0 (And.intro rfl (And.intro (by omega) (And.intro (by omega) (And.intro (by omega) (by omega))))))))
def sC_put71 : qS := fun as A K => ∃ g x : Int, as = [rf 71, ni g, ni x] ∧ (iva IC A ∧ ivf JC A ∧ 0 ≤ x ∧ x ≤ 99999) ∧ (∀ A' : qA, iva IC A' → ivf JC A' → frm [72, 73] [(71, 8)] A A' → K none A')
theorem okC_put71 : okM LC 1 75 sC_put71 := by
  refine qmeth [] false [] 29 rfl trivial ?_
  rintro _ A K hA has ⟨g, x, rfl, ⟨i0, j0, p1, p2⟩, hK⟩
  have rg_g : rng g := has (ni g) (by simp)
  have rg_x : rng x := has (ni x) (by simp)
  have f0 := frm_0 [72, 73] [(71, 8)] A
  refine ⟨Nat.le_of_ble_eq_true rfl, [], trivial, ?_⟩
  refine fun v3 gv3 e4 => ?_
  have b5 := ivf_at j0 10 rfl
  refine And.intro (fun h6 => ?_) (fun h6 => ?_)
  · exact hK _ i0 j0 f0
  · refine fun v7 gv7 e8 => ?_
    have b9 := ivf_at j0 10 rfl
    have q10 : v3 = v7 := (e8.trans e4.symm).symm
    subst q10
    refine And.intro (by omega) (fun A11 e12 => ?_)
    have i13 := iva_st i0 e12 trivial
    have j14 := ivf_sa j0 e12 rfl
    have f15 := frm_s f0 e12 rfl
    refine fun v16 gv16 e17 => ?_
    have b18 := ivf_at j14 10 rfl
    have q19 : v3 = v16 := (e17.trans ((congrFun (st_a e12 rfl) _).trans e8.symm)).symm
    subst q19
    refine And.intro (by omega) (fun A20 e21 => ?_)
    have i22 := iva_st i13 e21 (And.intro (by omega) trivial)
    have j23 := ivf_sa j14 e21 rfl
    have f24 := frm_s f15 e21 rfl
    refine fun v25 gv25 e26 => ?_
    have b27 := ivf_at j23 10 rfl
    have q28 : v3 = v25 := (e26.trans ((congrFun (st_a e21 rfl) _).trans e17.symm)).symm
    subst q28
    refine fun v29 e30 => ?_
    refine And.intro (by omega) (fun A31 e32 => ?_)
    have i33 := iva_sf i22 e32 rfl
    have j34 := ivf_st j23 e32 (And.intro (by omega) trivial)
    have f35 := frm_sf f24 e32 rfl
    exact hK _ i33 j34 f35
def sC_reckon71 : qS := fun as A K => ∃ f t : Int, as = [rf 71, ni f, ni t, rf 35] ∧ (iva IC A ∧ ivf JC A ∧ 0 ≤ f ∧ f ≤ 200 ∧ 0 ≤ t ∧ t ≤ 200 ∧ (KO A)) ∧ (∀ A' : qA, iva IC A' → ivf JC A' → frm [78] [(71, 9)] A A' → ∀ r : Int, rng r → K (some (ni r)) A')
theorem okC_reckon71 : okM LC 2 77 sC_reckon71 := by
  refine qmeth [] true [(78, sC_joined)] 186 rfl ⟨okC_joined.le (by decide), trivial⟩ ?_
  rintro _ A K hA has ⟨f, t, rfl, ⟨i0, j0, p1, p2, p3, p4, p5⟩, hK⟩
  have rg_f : rng f := has (ni f) (by simp)
  have rg_t : rng t := has (ni t) (by simp)
  have f0 := frm_0 [78] [(71, 9)] A
  refine ⟨Nat.le_of_ble_eq_true rfl, [(5, [(0, 2, 71), (2, 0, 0), (3, 2, 35), (4, 0, 0)], fun zs B nn => match zs with | [l2, k] => iva IC B ∧ ivf JC B ∧ frm [78] [(71, 9)] A B ∧ nn = (200 - k : Int).toNat ∧ (l2 = t) ∧ (0 ≤ k) ∧ (k ≤ 100000) | _ => False)], ?_, ?_⟩
  · refine ⟨⟨rfl, ?_⟩, trivial⟩
    · refine fun l2 k B mm hB hz hI => ?_
      obtain ⟨i1, j1, f1, hm, c0, c1, c2⟩ := hI
      obtain ⟨hz_l2, hz_k, _⟩ := hz
      refine And.intro (fun h11 => ?_) (fun h11 => ?_)
      · refine fun v12 gv12 e13 => ?_
        have b14 := ivf_at j1 11 rfl
        refine And.intro (fun h15 => ?_) (fun h15 => ?_)
        · exact hK _ i1 j1 f1 _ (by first | exact wI_rng _ | omega | (exact (hA _ _).2 rfl))
        · refine And.intro (by omega) (fun v16 gv16 e17 => ?_)
          exact hK _ i1 j1 f1 _ (by first | exact wI_rng _ | omega | (exact (hA _ _).2 rfl))
      · refine And.intro (fun h18 => by exfalso; omega) (fun h18 => ?_)
        refine And.intro (by omega) (fun v19 gv19 e20 => ?_)
        refine And.intro (fun h21 => ?_) (fun h21 => ?_)
        · refine fun v22 gv22 e23 => ?_
          have b24 := ivf_at j1 11 rfl
          refine And.intro (fun h25 => ?_) (fun h25 => ?_)
          · refine fun v26 gv26 e27 => ?_
            have b28 := ivf_at j1 11 rfl
            have q29 : v22 = v26 := (e27.trans e23.symm).symm
            subst q29
            refine And.intro (fun h30 => by exfalso; omega) (fun h30 => ?_)
            refine And.intro (by omega) (fun v31 gv31 e32 => ?_)
            have b33 := iva_at i1 35 rfl (i := k) (by omega) (by omega)
            refine And.intro (by omega) (fun A34 e35 => ?_)
            have i36 := iva_st i1 e35 trivial
            have j37 := ivf_sa j1 e35 rfl
            have f38 := frm_s f1 e35 rfl
            refine fun v39 gv39 e40 => ?_
            have b41 := ivf_at j37 11 rfl
            have q42 : v22 = v39 := (e40.trans ((congrFun (st_a e35 rfl) _).trans e27.symm)).symm
            subst q42
            refine fun v43 e44 => ?_
            have w47 := wI_rng v43
            have w48 : wI v43 = v43 := wI_id (by omega)
            refine fun A45 e46 => ?_
            have i49 := iva_sf i36 e46 rfl
            have j50 := ivf_st j37 e46 (And.intro (by omega) trivial)
            have f51 := frm_sf f38 e46 rfl
            refine fun v52 e53 => ?_
            have w54 := wI_rng v52
            have w55 : wI v52 = v52 := wI_id (by omega)
            exact Exists.intro (200 - ((wI v52)) : Int).toNat (And.intro (by omega) (And.intro i49 (And.intro j50 (And.intro f51 (And.intro rfl (And.intro (by omega) (And.intro (by omega) (by omega))))))))
          · exact hK _ i1 j1 f1 _ (by first | exact wI_rng _ | omega | (exact (hA _ _).2 rfl))
        · refine And.intro (fun h56 => ?_) (fun h56 => ?_)
          · refine fun v57 gv57 e58 => ?_
            have b59 := ivf_at j1 11 rfl
            refine And.intro (fun h60 => ?_) (fun h60 => ?_)
            · refine And.intro (fun h61 => ?_) (fun h61 => ?_)
              · refine And.intro (fun h62 => ?_) (fun h62 => ?_)
                · refine fun v63 gv63 e64 => ?_
                  have b65 := ivf_at j1 11 rfl
                  have q66 : v57 = v63 := (e64.trans e58.symm).symm
                  subst q66
                  refine fun v67 e68 => ?_
                  refine And.intro (by omega) (fun v69 gv69 e70 => ?_)
                  refine And.intro (fun h71 => ?_) (fun h71 => ?_)
                  · refine And.intro (fun h72 => ?_) (fun h72 => by exfalso; omega)
                    refine And.intro (fun h73 => by exfalso; omega) (fun h73 => ?_)
                    refine And.intro (by omega) (fun v74 gv74 e75 => ?_)
                    have b76 := iva_at i1 35 rfl (i := k) (by omega) (by omega)
                    refine fun v77 e78 => ?_
                    have w81 := wI_rng v77
                    have w82 : wI v77 = v77 := wI_id (by omega)
                    refine (fun v79 e80 => ?_)
                    refine fun v83 e84 => ?_
                    have w85 := wI_rng v83
                    have w86 : wI v83 = v83 := wI_id (by omega)
                    exact Exists.intro (200 - ((wI v83)) : Int).toNat (And.intro (by omega) (And.intro i1 (And.intro j1 (And.intro f1 (And.intro rfl (And.intro (by omega) (And.intro (by omega) (by omega))))))))
                  · refine And.intro (fun h87 => ?_) (fun h87 => by exfalso; omega)
                    refine And.intro (fun h88 => ?_) (fun h88 => by exfalso; omega)
                    refine fun v89 gv89 e90 => ?_
                    have b91 := ivf_at j1 11 rfl
                    have q92 : v57 = v89 := (e90.trans e64.symm).symm
                    subst q92
                    refine fun v93 e94 => ?_
                    have w97 := wI_rng v93
                    have w98 : wI v93 = v93 := wI_id (by omega)
                    refine fun A95 e96 => ?_
                    have i99 := iva_sf i1 e96 rfl
                    have j100 := ivf_st j1 e96 (And.intro (by omega) trivial)
                    have f101 := frm_sf f1 e96 rfl
                    refine fun v102 e103 => ?_
                    have w104 := wI_rng v102
                    have w105 : wI v102 = v102 := wI_id (by omega)
                    exact Exists.intro (200 - ((wI v102)) : Int).toNat (And.intro (by omega) (And.intro i99 (And.intro j100 (And.intro f101 (And.intro rfl (And.intro (by omega) (And.intro (by omega) (by omega))))))))
                · refine And.intro (fun h106 => ?_) (fun h106 => ?_)
                  · refine fun v107 gv107 e108 => ?_
                    have b109 := ivf_at j1 11 rfl
                    have q110 : v57 = v107 := (e108.trans e58.symm).symm
                    subst q110
                    refine And.intro (fun h111 => ?_) (fun h111 => ?_)
                    · exact hK _ i1 j1 f1 _ (by first | exact wI_rng _ | omega | (exact (hA _ _).2 rfl))
                    · refine fun v112 gv112 e113 => ?_
                      have b114 := ivf_at j1 11 rfl
                      have q115 : v57 = v112 := (e113.trans e108.symm).symm
                      subst q115
                      refine fun v116 e117 => ?_
                      refine And.intro (by omega) (fun v118 gv118 e119 => ?_)
                      refine And.intro (fun h120 => ?_) (fun h120 => ?_)
                      · refine fun v121 gv121 e122 => ?_
                        have b123 := ivf_at j1 11 rfl
                        have q124 : v57 = v121 := (e122.trans e113.symm).symm
                        subst q124
                        refine fun v125 e126 => ?_
                        have w129 := wI_rng v125
                        have w130 : wI v125 = v125 := wI_id (by omega)
                        refine fun A127 e128 => ?_
                        have i131 := iva_sf i1 e128 rfl
                        have j132 := ivf_st j1 e128 (And.intro (by omega) trivial)
                        have f133 := frm_sf f1 e128 rfl
                        refine fun v134 gv134 e135 => ?_
                        have b136 := ivf_at j132 11 rfl
                        have q137 : (wI v125) = v134 := (e135.trans (st_v e128)).symm
                        subst q137
                        refine fun v138 e139 => ?_
                        refine fun v140 gv140 e141 => ?_
                        have b142 := ivf_at j132 11 rfl
                        have q143 : (wI v125) = v140 := (e141.trans e135.symm).symm
                        subst q143
                        refine fun v144 e145 => ?_
                        refine And.intro (by omega) (fun v146 gv146 e147 => ?_)
                        refine fun v148 gv148 e149 => ?_
                        have b150 := ivf_at j132 11 rfl
                        have q151 : (wI v125) = v148 := (e149.trans e141.symm).symm
                        subst q151
                        refine And.intro (by omega) (fun v152 gv152 e153 => ?_)
                        refine Exists.intro v19 (Exists.intro v146 (Exists.intro v152 (And.intro rfl (fun r154 g155 => ?_))))
                        refine And.intro (by omega) (fun A156 e157 => ?_)
                        have i158 := iva_st i131 e157 trivial
                        have j159 := ivf_sa j132 e157 rfl
                        have f160 := frm_s f133 e157 rfl
                        refine fun v161 e162 => ?_
                        have w163 := wI_rng v161
                        have w164 : wI v161 = v161 := wI_id (by omega)
                        exact Exists.intro (200 - ((wI v161)) : Int).toNat (And.intro (by omega) (And.intro i158 (And.intro j159 (And.intro f160 (And.intro rfl (And.intro (by omega) (And.intro (by omega) (by omega))))))))
                      · refine And.intro (fun h165 => ?_) (fun h165 => ?_)
                        · exact hK _ i1 j1 f1 _ (by first | exact wI_rng _ | omega | (exact (hA _ _).2 rfl))
                        · refine And.intro (fun h166 => ?_) (fun h166 => ?_)
                          · refine fun v167 gv167 e168 => ?_
                            have b169 := ivf_at j1 11 rfl
                            have q170 : v57 = v167 := (e168.trans e113.symm).symm
                            subst q170
                            refine fun v171 e172 => ?_
                            have w175 := wI_rng v171
                            have w176 : wI v171 = v171 := wI_id (by omega)
                            refine fun A173 e174 => ?_
                            have i177 := iva_sf i1 e174 rfl
                            have j178 := ivf_st j1 e174 (And.intro (by omega) trivial)
                            have f179 := frm_sf f1 e174 rfl
                            refine fun v180 gv180 e181 => ?_
                            have b182 := ivf_at j178 11 rfl
                            have q183 : (wI v171) = v180 := (e181.trans (st_v e174)).symm
                            subst q183
                            refine fun v184 e185 => ?_
                            refine fun v186 gv186 e187 => ?_
                            have b188 := ivf_at j178 11 rfl
                            have q189 : (wI v171) = v186 := (e187.trans e181.symm).symm
                            subst q189
                            refine fun v190 e191 => ?_
                            refine And.intro (by omega) (fun v192 gv192 e193 => ?_)
                            refine fun v194 gv194 e195 => ?_
                            have b196 := ivf_at j178 11 rfl
                            have q197 : (wI v171) = v194 := (e195.trans e187.symm).symm
                            subst q197
                            refine And.intro (by omega) (fun v198 gv198 e199 => ?_)
                            refine Exists.intro v19 (Exists.intro v192 (Exists.intro v198 (And.intro rfl (fun r200 g201 => ?_))))
                            refine And.intro (by omega) (fun A202 e203 => ?_)
                            have i204 := iva_st i177 e203 trivial
                            have j205 := ivf_sa j178 e203 rfl
                            have f206 := frm_s f179 e203 rfl
                            refine fun v207 e208 => ?_
                            have w209 := wI_rng v207
                            have w210 : wI v207 = v207 := wI_id (by omega)
                            exact Exists.intro (200 - ((wI v207)) : Int).toNat (And.intro (by omega) (And.intro i204 (And.intro j205 (And.intro f206 (And.intro rfl (And.intro (by omega) (And.intro (by omega) (by omega))))))))
                          · exact hK _ i1 j1 f1 _ (by first | exact wI_rng _ | omega | (exact (hA _ _).2 rfl))
                  · refine fun v211 gv211 e212 => ?_
                    have b213 := ivf_at j1 11 rfl
                    have q214 : v57 = v211 := (e212.trans e58.symm).symm
                    subst q214
                    refine fun v215 e216 => ?_
                    refine And.intro (by omega) (fun v217 gv217 e218 => ?_)
                    refine And.intro (fun h219 => ?_) (fun h219 => ?_)
                    · refine And.intro (fun h220 => by exfalso; omega) (fun h220 => ?_)
                      refine And.intro (fun h221 => ?_) (fun h221 => by exfalso; omega)
                      refine fun v222 gv222 e223 => ?_
                      have b224 := ivf_at j1 11 rfl
                      have q225 : v57 = v222 := (e223.trans e212.symm).symm
                      subst q225
                      refine fun v226 e227 => ?_
                      have w230 := wI_rng v226
                      have w231 : wI v226 = v226 := wI_id (by omega)
                      refine fun A228 e229 => ?_
                      have i232 := iva_sf i1 e229 rfl
                      have j233 := ivf_st j1 e229 (And.intro (by omega) trivial)
                      have f234 := frm_sf f1 e229 rfl
                      refine fun v235 e236 => ?_
                      have w237 := wI_rng v235
                      have w238 : wI v235 = v235 := wI_id (by omega)
                      exact Exists.intro (200 - ((wI v235)) : Int).toNat (And.intro (by omega) (And.intro i232 (And.intro j233 (And.intro f234 (And.intro rfl (And.intro (by omega) (And.intro (by omega) (by omega))))))))
                    · refine And.intro (fun h239 => by exfalso; omega) (fun h239 => ?_)
                      refine And.intro (fun h240 => by exfalso; omega) (fun h240 => ?_)
                      refine And.intro (by omega) (fun v241 gv241 e242 => ?_)
                      have b243 := iva_at i1 35 rfl (i := k) (by omega) (by omega)
                      refine fun v244 e245 => ?_
                      have w248 := wI_rng v244
                      have w249 : wI v244 = v244 := wI_id (by omega)
                      refine (fun v246 e247 => ?_)
                      refine fun v250 e251 => ?_
                      have w252 := wI_rng v250
                      have w253 : wI v250 = v250 := wI_id (by omega)
                      exact Exists.intro (200 - ((wI v250)) : Int).toNat (And.intro (by omega) (And.intro i1 (And.intro j1 (And.intro f1 (And.intro rfl (And.intro (by omega) (And.intro (by omega) (by omega))))))))
              · refine fun v254 gv254 e255 => ?_
                have b256 := ivf_at j1 11 rfl
                have q257 : v57 = v254 := (e255.trans e58.symm).symm
                subst q257
                refine fun v258 e259 => ?_
                refine fun v260 gv260 e261 => ?_
                have b262 := ivf_at j1 11 rfl
                have q263 : v57 = v260 := (e261.trans e255.symm).symm
                subst q263
                refine fun v264 e265 => ?_
                refine And.intro (by omega) (fun v266 gv266 e267 => ?_)
                refine fun v268 e269 => ?_
                have w272 := wI_rng v268
                refine And.intro (by omega) (fun A270 e271 => ?_)
                have i273 := iva_st i1 e271 trivial
                have j274 := ivf_sa j1 e271 rfl
                have f275 := frm_s f1 e271 rfl
                refine fun v276 e277 => ?_
                have w278 := wI_rng v276
                have w279 : wI v276 = v276 := wI_id (by omega)
                exact Exists.intro (200 - ((wI v276)) : Int).toNat (And.intro (by omega) (And.intro i273 (And.intro j274 (And.intro f275 (And.intro rfl (And.intro (by omega) (And.intro (by omega) (by omega))))))))
            · exact hK _ i1 j1 f1 _ (by first | exact wI_rng _ | omega | (exact (hA _ _).2 rfl))
          · refine fun v280 gv280 e281 => ?_
            have b282 := ivf_at j1 11 rfl
            refine And.intro (fun h283 => ?_) (fun h283 => ?_)
            · refine fun v284 gv284 e285 => ?_
              have b286 := ivf_at j1 11 rfl
              have q287 : v280 = v284 := (e285.trans e281.symm).symm
              subst q287
              refine And.intro (fun h288 => ?_) (fun h288 => by exfalso; omega)
              refine And.intro (by omega) (fun v289 gv289 e290 => ?_)
              have b291 := iva_at i1 35 rfl (i := k) (by omega) (by omega)
              have kk := (KO_fr p5 f1 rfl).2 k (by omega) (by omega)
              refine And.intro (by omega) (fun v292 gv292 e293 => ?_)
              refine And.intro (by omega) (fun A294 e295 => ?_)
              have i296 := iva_st i1 e295 trivial
              have j297 := ivf_sa j1 e295 rfl
              have f298 := frm_s f1 e295 rfl
              refine fun v299 gv299 e300 => ?_
              have b301 := ivf_at j297 11 rfl
              have q302 : v280 = v299 := (e300.trans ((congrFun (st_a e295 rfl) _).trans e285.symm)).symm
              subst q302
              refine fun v303 e304 => ?_
              have w307 := wI_rng v303
              have w308 : wI v303 = v303 := wI_id (by omega)
              refine fun A305 e306 => ?_
              have i309 := iva_sf i296 e306 rfl
              have j310 := ivf_st j297 e306 (And.intro (by omega) trivial)
              have f311 := frm_sf f298 e306 rfl
              refine fun v312 e313 => ?_
              have w314 := wI_rng v312
              have w315 : wI v312 = v312 := wI_id (by omega)
              exact Exists.intro (200 - ((wI v312)) : Int).toNat (And.intro (by omega) (And.intro i309 (And.intro j310 (And.intro f311 (And.intro rfl (And.intro (by omega) (And.intro (by omega) (by omega))))))))
            · exact hK _ i1 j1 f1 _ (by first | exact wI_rng _ | omega | (exact (hA _ _).2 rfl))
  · refine fun A6 e7 => ?_
    have i8 := iva_sf i0 e7 rfl
    have j9 := ivf_st j0 e7 (And.intro (by omega) trivial)
    have f10 := frm_sf f0 e7 rfl
    exact Exists.intro (200 - f : Int).toNat (And.intro i8 (And.intro j9 (And.intro f10 (And.intro rfl (And.intro (by omega) (And.intro (by omega) (by omega)))))))
def sC_answer71 : qS := fun as A K => ∃ w m : Int, as = [rf 71, ni w, ni m, rf 35] ∧ (iva IC A ∧ ivf JC A ∧ 0 ≤ m ∧ m ≤ 1000 ∧ (KO A)) ∧ (∀ A' : qA, iva IC A' → ivf JC A' → frm [78] [(71, 9)] A A' → ∀ r : Int, 0 ≤ r → r ≤ 1000 → (r ≤ m) → K (some (ni r)) A')
theorem okC_answer71 : okM LC 3 76 sC_answer71 := by
  refine qmeth [] false [(77, sC_reckon71)] 53 rfl ⟨okC_reckon71.le (by decide), trivial⟩ ?_
  rintro _ A K hA has ⟨w, m, rfl, ⟨i0, j0, p1, p2, p3⟩, hK⟩
  have rg_w : rng w := has (ni w) (by simp)
  have rg_m : rng m := has (ni m) (by simp)
  have f0 := frm_0 [78] [(71, 9)] A
  refine ⟨Nat.le_of_ble_eq_true rfl, [(2, [(0, 2, 71), (1, 0, 0), (2, 0, 0), (3, 2, 35), (4, 0, 0)], fun zs B nn => match zs with | [l1, l2, i] => iva IC B ∧ ivf JC B ∧ frm [78] [(71, 9)] A B ∧ nn = (14 - i : Int).toNat ∧ (l1 = w) ∧ (l2 = m) ∧ (0 ≤ i) ∧ (i ≤ 14) | _ => False)], ?_, ?_⟩
  · refine ⟨⟨rfl, ?_⟩, trivial⟩
    · refine fun l1 l2 i B mm hB hz hI => ?_
      obtain ⟨i1, j1, f1, hm, c0, c1, c2, c3⟩ := hI
      obtain ⟨hz_l1, hz_l2, hz_i, _⟩ := hz
      refine fun v4 gv4 e5 => ?_
      have b6 := ivf_at j1 9 rfl
      refine And.intro (fun h7 => ?_) (fun h7 => ?_)
      · exact hK _ i1 j1 f1 _ (by omega) (by omega) (by first | assumption | omega | simp_all)
      · refine And.intro (fun h8 => by exfalso; omega) (fun h8 => ?_)
        refine And.intro (by omega) (fun v9 gv9 e10 => ?_)
        refine And.intro (fun h11 => ?_) (fun h11 => ?_)
        · refine fun v12 e13 => ?_
          exact And.intro (by omega) (Exists.intro (14 - v12 : Int).toNat (And.intro (by omega) (And.intro i1 (And.intro j1 (And.intro f1 (And.intro rfl (And.intro (by omega) (And.intro (by omega) (And.intro (by omega) (by omega))))))))))
        · refine And.intro (by omega) (fun v14 gv14 e15 => ?_)
          have b16 := iva_at i1 40 rfl (i := i) (by omega) (by omega)
          refine And.intro (by omega) (fun v17 gv17 e18 => ?_)
          have b19 := iva_at i1 41 rfl (i := i) (by omega) (by omega)
          refine Exists.intro v14 (Exists.intro v17 (And.intro rfl (And.intro (And.intro i1 (And.intro j1 (And.intro (by omega) (And.intro (by omega) (And.intro (by omega) (And.intro (by omega) (KO_fr p3 f1 rfl))))))) (fun A20 i21 j22 f23 r24 g25 => ?_))))
          have f26 := frm_c f1 f23 rfl
          refine And.intro (fun h27 => ?_) (fun h27 => ?_)
          · refine fun v28 e29 => ?_
            exact And.intro (by omega) (Exists.intro (14 - v28 : Int).toNat (And.intro (by omega) (And.intro i21 (And.intro j22 (And.intro f26 (And.intro rfl (And.intro (by omega) (And.intro (by omega) (And.intro (by omega) (by omega))))))))))
          · refine And.intro (by omega) (fun v30 gv30 e31 => ?_)
            have b32 := iva_at i21 39 rfl (i := i) (by omega) (by omega)
            refine And.intro (by omega) (fun v33 gv33 e34 => ?_)
            have b35 := iva_at i21 40 rfl (i := i) (by omega) (by omega)
            have q36 : v14 = v33 := (e34.trans ((congrFun (frm_a f23 rfl) _).trans e15.symm)).symm
            subst q36
            refine Exists.intro v30 (Exists.intro v14 (And.intro rfl (And.intro (And.intro i21 (And.intro j22 (And.intro (by omega) (And.intro (by omega) (And.intro (by omega) (And.intro (by omega) (KO_fr p3 f26 rfl))))))) (fun A37 i38 j39 f40 r41 g42 => ?_))))
            have f43 := frm_c f26 f40 rfl
            refine (fun v44 e45 => ?_)
            refine (fun v46 e47 => ?_)
            exact hK _ i38 j39 f43 _ (by omega) (by omega) (by first | assumption | omega | simp_all)
  · exact Exists.intro (14 - 0 : Int).toNat (And.intro i0 (And.intro j0 (And.intro f0 (And.intro rfl (And.intro (by omega) (And.intro (by omega) (And.intro (by omega) (by omega))))))))
end
section
def sC_seeCell : qS := fun as A K => ∃ c : Int, as = [rf 34, ni c] ∧ (iva IC A ∧ ivf JC A ∧ 0 ≤ c ∧ c ≤ 47) ∧ (∀ A' : qA, iva IC A' → ivf JC A' → frm [35] [] A A' → K none A')
theorem okC_seeCell : okM LC 2 10 sC_seeCell := by
  refine qmeth [] false [(250, sC_fill35)] 79 rfl ⟨okC_fill35.le (by decide), trivial⟩ ?_
  rintro _ A K hA has ⟨c, rfl, ⟨i0, j0, p1, p2⟩, hK⟩
  have rg_c : rng c := has (ni c) (by simp)
  have f0 := frm_0 [35] [] A
  refine ⟨Nat.le_of_ble_eq_true rfl, [], trivial, ?_⟩
  refine Exists.intro 0 (And.intro rfl (And.intro (And.intro i0 j0) (fun A3 i4 j5 f6 => ?_)))
  have f7 := frm_c f0 f6 rfl
  refine And.intro (by omega) (fun v8 e9 => ?_)
  have h10 := qd_nn (a := c) (b := 6) (by omega)
  refine And.intro (by omega) (And.intro (by omega) (fun A11 e12 => ?_))
  have i13 := iva_st i4 e12 trivial
  have j14 := ivf_sa j5 e12 rfl
  have f15 := frm_s f7 e12 rfl
  refine And.intro (by omega) (fun v16 e17 => ?_)
  have h18 := qm_nn (a := c) (b := 6) (by omega)
  refine And.intro (by omega) (fun A19 e20 => ?_)
  have i21 := iva_st i13 e20 trivial
  have j22 := ivf_sa j14 e20 rfl
  have f23 := frm_s f15 e20 rfl
  refine And.intro (by omega) (fun v24 gv24 e25 => ?_)
  refine And.intro (by omega) (fun A26 e27 => ?_)
  have i28 := iva_st i21 e27 trivial
  have j29 := ivf_sa j22 e27 rfl
  have f30 := frm_s f23 e27 rfl
  refine And.intro (by omega) (fun v31 gv31 e32 => ?_)
  have b33 := iva_at i28 0 rfl (i := c) (by omega) (by omega)
  refine And.intro (by omega) (fun A34 e35 => ?_)
  have i36 := iva_st i28 e35 trivial
  have j37 := ivf_sa j29 e35 rfl
  have f38 := frm_s f30 e35 rfl
  refine And.intro (by omega) (fun v39 gv39 e40 => ?_)
  refine And.intro (by omega) (fun A41 e42 => ?_)
  have i43 := iva_st i36 e42 trivial
  have j44 := ivf_sa j37 e42 rfl
  have f45 := frm_s f38 e42 rfl
  refine And.intro (by omega) (fun v46 gv46 e47 => ?_)
  have b48 := iva_at i43 4 rfl (i := c) (by omega) (by omega)
  refine And.intro (by omega) (fun A49 e50 => ?_)
  have i51 := iva_st i43 e50 trivial
  have j52 := ivf_sa j44 e50 rfl
  have f53 := frm_s f45 e50 rfl
  refine fun v54 gv54 e55 => ?_
  refine And.intro (by omega) (fun A56 e57 => ?_)
  have i58 := iva_st i51 e57 trivial
  have j59 := ivf_sa j52 e57 rfl
  have f60 := frm_s f53 e57 rfl
  refine And.intro (by omega) (fun v61 e62 => ?_)
  have h63 := qd_nn (a := c) (b := 6) (by omega)
  refine And.intro (by omega) (fun v64 gv64 e65 => ?_)
  have b66 := iva_at i58 13 rfl (i := v61) (by omega) (by omega)
  refine And.intro (by omega) (fun A67 e68 => ?_)
  have i69 := iva_st i58 e68 trivial
  have j70 := ivf_sa j59 e68 rfl
  have f71 := frm_s f60 e68 rfl
  exact hK _ i69 j70 f71
def sC_seeFallen : qS := fun as A K => ∃ i : Int, as = [rf 34, ni i] ∧ (iva IC A ∧ ivf JC A ∧ 0 ≤ i ∧ i ≤ 60) ∧ (∀ A' : qA, iva IC A' → ivf JC A' → frm [35] [] A A' → K none A')
theorem okC_seeFallen : okM LC 1 12 sC_seeFallen := by
  refine qmeth [] false [] 51 rfl trivial ?_
  rintro _ A K hA has ⟨i, rfl, ⟨i0, j0, p1, p2⟩, hK⟩
  have rg_i : rng i := has (ni i) (by simp)
  have f0 := frm_0 [35] [] A
  refine ⟨Nat.le_of_ble_eq_true rfl, [], trivial, ?_⟩
  refine And.intro (by omega) (fun v3 gv3 e4 => ?_)
  have b5 := iva_at i0 18 rfl (i := i) (by omega) (by omega)
  refine And.intro (by omega) (fun A6 e7 => ?_)
  have i8 := iva_st i0 e7 trivial
  have j9 := ivf_sa j0 e7 rfl
  have f10 := frm_s f0 e7 rfl
  refine And.intro (by omega) (fun v11 gv11 e12 => ?_)
  have b13 := iva_at i8 19 rfl (i := i) (by omega) (by omega)
  refine And.intro (by omega) (fun A14 e15 => ?_)
  have i16 := iva_st i8 e15 trivial
  have j17 := ivf_sa j9 e15 rfl
  have f18 := frm_s f10 e15 rfl
  refine And.intro (by omega) (fun v19 gv19 e20 => ?_)
  have b21 := iva_at i16 6 rfl (i := i) (by omega) (by omega)
  refine And.intro (fun h22 => ?_) (fun h22 => ?_)
  · refine And.intro (by omega) (fun A23 e24 => ?_)
    have i25 := iva_st i16 e24 trivial
    have j26 := ivf_sa j17 e24 rfl
    have f27 := frm_s f18 e24 rfl
    refine And.intro (by omega) (fun v28 gv28 e29 => ?_)
    have b30 := iva_at i25 7 rfl (i := i) (by omega) (by omega)
    refine And.intro (fun h31 => ?_) (fun h31 => ?_)
    · refine And.intro (by omega) (fun A32 e33 => ?_)
      have i34 := iva_st i25 e33 trivial
      have j35 := ivf_sa j26 e33 rfl
      have f36 := frm_s f27 e33 rfl
      exact hK _ i34 j35 f36
    · refine And.intro (by omega) (fun A37 e38 => ?_)
      have i39 := iva_st i25 e38 trivial
      have j40 := ivf_sa j26 e38 rfl
      have f41 := frm_s f27 e38 rfl
      exact hK _ i39 j40 f41
  · refine And.intro (by omega) (fun A42 e43 => ?_)
    have i44 := iva_st i16 e43 trivial
    have j45 := ivf_sa j17 e43 rfl
    have f46 := frm_s f18 e43 rfl
    refine And.intro (by omega) (fun v47 gv47 e48 => ?_)
    have b49 := iva_at i44 7 rfl (i := i) (by omega) (by omega)
    refine And.intro (fun h50 => ?_) (fun h50 => ?_)
    · refine And.intro (by omega) (fun A51 e52 => ?_)
      have i53 := iva_st i44 e52 trivial
      have j54 := ivf_sa j45 e52 rfl
      have f55 := frm_s f46 e52 rfl
      exact hK _ i53 j54 f55
    · refine And.intro (by omega) (fun A56 e57 => ?_)
      have i58 := iva_st i44 e57 trivial
      have j59 := ivf_sa j45 e57 rfl
      have f60 := frm_s f46 e57 rfl
      exact hK _ i58 j59 f60
def sC_seeCellAndCrop : qS := fun as A K => ∃ c : Int, as = [rf 34, ni c] ∧ (iva IC A ∧ ivf JC A ∧ 0 ≤ c ∧ c ≤ 47) ∧ (∀ A' : qA, iva IC A' → ivf JC A' → frm [35] [] A A' → K none A')
theorem okC_seeCellAndCrop : okM LC 4 11 sC_seeCellAndCrop := by
  refine qmeth [] false [(10, sC_seeCell), (22, sC_hasCrop), (23, sC_isRipe)] 58 rfl ⟨okC_seeCell.le (by decide), ⟨okC_hasCrop.le (by decide), ⟨okC_isRipe.le (by decide), trivial⟩⟩⟩ ?_
  rintro _ A K hA has ⟨c, rfl, ⟨i0, j0, p1, p2⟩, hK⟩
  have rg_c : rng c := has (ni c) (by simp)
  have f0 := frm_0 [35] [] A
  refine ⟨Nat.le_of_ble_eq_true rfl, [], trivial, ?_⟩
  refine Exists.intro c (And.intro rfl (And.intro (And.intro i0 (And.intro j0 (And.intro (by omega) (by omega)))) (fun A3 i4 j5 f6 => ?_)))
  have f7 := frm_c f0 f6 rfl
  refine Exists.intro c (And.intro rfl (And.intro (fun h8 => ?_) (fun h8 => ?_)))
  · refine And.intro (fun h9 => by exfalso; omega) (fun h9 => ?_)
    refine And.intro (by omega) (fun v10 gv10 e11 => ?_)
    have b12 := iva_at i4 2 rfl (i := c) (by omega) (by omega)
    refine And.intro (by omega) (fun A13 e14 => ?_)
    have i15 := iva_st i4 e14 trivial
    have j16 := ivf_sa j5 e14 rfl
    have f17 := frm_s f7 e14 rfl
    refine And.intro (by omega) (fun v18 gv18 e19 => ?_)
    have b20 := iva_at i15 3 rfl (i := c) (by omega) (by omega)
    refine And.intro (by omega) (fun A21 e22 => ?_)
    have i23 := iva_st i15 e22 trivial
    have j24 := ivf_sa j16 e22 rfl
    have f25 := frm_s f17 e22 rfl
    refine Exists.intro c (And.intro rfl (And.intro (And.intro i23 j24) (fun r26 g27 g28 => ?_)))
    refine And.intro (fun h29 => ?_) (fun h29 => ?_)
    · refine And.intro (by omega) (fun A30 e31 => ?_)
      have i32 := iva_st i23 e31 trivial
      have j33 := ivf_sa j24 e31 rfl
      have f34 := frm_s f25 e31 rfl
      refine And.intro (by omega) (fun v35 gv35 e36 => ?_)
      have b37 := iva_at i32 5 rfl (i := c) (by omega) (by omega)
      refine And.intro (fun h38 => ?_) (fun h38 => ?_)
      · refine And.intro (by omega) (fun A39 e40 => ?_)
        have i41 := iva_st i32 e40 trivial
        have j42 := ivf_sa j33 e40 rfl
        have f43 := frm_s f34 e40 rfl
        exact hK _ i41 j42 f43
      · refine And.intro (by omega) (fun A44 e45 => ?_)
        have i46 := iva_st i32 e45 trivial
        have j47 := ivf_sa j33 e45 rfl
        have f48 := frm_s f34 e45 rfl
        exact hK _ i46 j47 f48
    · refine And.intro (by omega) (fun A49 e50 => ?_)
      have i51 := iva_st i23 e50 trivial
      have j52 := ivf_sa j24 e50 rfl
      have f53 := frm_s f25 e50 rfl
      refine And.intro (by omega) (fun v54 gv54 e55 => ?_)
      have b56 := iva_at i51 5 rfl (i := c) (by omega) (by omega)
      refine And.intro (fun h57 => ?_) (fun h57 => ?_)
      · refine And.intro (by omega) (fun A58 e59 => ?_)
        have i60 := iva_st i51 e59 trivial
        have j61 := ivf_sa j52 e59 rfl
        have f62 := frm_s f53 e59 rfl
        exact hK _ i60 j61 f62
      · refine And.intro (by omega) (fun A63 e64 => ?_)
        have i65 := iva_st i51 e64 trivial
        have j66 := ivf_sa j52 e64 rfl
        have f67 := frm_s f53 e64 rfl
        exact hK _ i65 j66 f67
  · refine And.intro (fun h68 => ?_) (fun h68 => by exfalso; omega)
    exact hK _ i4 j5 f7
def sC_seeFall : qS := fun as A K => ∃ i : Int, as = [rf 34, ni i] ∧ (iva IC A ∧ ivf JC A ∧ 0 ≤ i ∧ i ≤ 60) ∧ (∀ A' : qA, iva IC A' → ivf JC A' → frm [35] [] A A' → K none A')
theorem okC_seeFall : okM LC 3 13 sC_seeFall := by
  refine qmeth [] false [(10, sC_seeCell), (12, sC_seeFallen)] 34 rfl ⟨okC_seeCell.le (by decide), ⟨okC_seeFallen.le (by decide), trivial⟩⟩ ?_
  rintro _ A K hA has ⟨i, rfl, ⟨i0, j0, p1, p2⟩, hK⟩
  have rg_i : rng i := has (ni i) (by simp)
  have f0 := frm_0 [35] [] A
  refine ⟨Nat.le_of_ble_eq_true rfl, [], trivial, ?_⟩
  refine And.intro (by omega) (fun v3 gv3 e4 => ?_)
  have b5 := iva_at i0 17 rfl (i := i) (by omega) (by omega)
  refine Exists.intro v3 (And.intro rfl (And.intro (And.intro i0 (And.intro j0 (And.intro (by omega) (by omega)))) (fun A6 i7 j8 f9 => ?_)))
  have f10 := frm_c f0 f9 rfl
  refine Exists.intro i (And.intro rfl (And.intro (And.intro i7 (And.intro j8 (And.intro (by omega) (by omega)))) (fun A11 i12 j13 f14 => ?_)))
  have f15 := frm_c f10 f14 rfl
  refine And.intro (by omega) (fun v16 gv16 e17 => ?_)
  have b18 := iva_at i12 20 rfl (i := i) (by omega) (by omega)
  refine And.intro (by omega) (fun v19 gv19 e20 => ?_)
  have b21 := iva_at i12 17 rfl (i := i) (by omega) (by omega)
  have q22 : v3 = v19 := (e20.trans ((congrFun (Eq.trans (frm_a f14 rfl) (frm_a f9 rfl)) _).trans e4.symm)).symm
  subst q22
  refine And.intro (by omega) (fun v23 e24 => ?_)
  have h25 := qm_nn (a := v3) (b := 6) (by omega)
  refine fun v26 e27 => ?_
  refine And.intro (by omega) (And.intro (by omega) (fun A28 e29 => ?_))
  have i30 := iva_st i12 e29 trivial
  have j31 := ivf_sa j13 e29 rfl
  have f32 := frm_s f15 e29 rfl
  exact hK _ i30 j31 f32
def sC_growth36 : qS := fun as A K => ∃ c d : Int, as = [rf 34, ni c, ni d] ∧ (iva IC A ∧ ivf JC A ∧ 0 ≤ c ∧ c ≤ 47 ∧ (36 ≤ A 34 (fd 4) ∧ A 34 (fd 4) ≤ 36) ∧ (KO A)) ∧ (∀ A' : qA, iva IC A' → ivf JC A' → frm [35, 43, 78] [(36, 9), (71, 9)] A A' → ∀ r : Int, 0 ≤ r → r ≤ 50 → K (some (ni r)) A')
theorem okC_growth36 : okM LC 5 4 sC_growth36 := by
  refine qmeth [(34, 4, 36)] false [(11, sC_seeCellAndCrop), (76, sC_answer36)] 22 rfl ⟨okC_seeCellAndCrop.le (by decide), ⟨okC_answer36.le (by decide), trivial⟩⟩ ?_
  rintro _ A K hA has ⟨c, d, rfl, ⟨i0, j0, p1, p2, p3, p4⟩, hK⟩
  have rg_c : rng c := has (ni c) (by simp)
  have rg_d : rng d := has (ni d) (by simp)
  have f0 := frm_0 [35, 43, 78] [(36, 9), (71, 9)] A
  obtain ⟨v5, e6⟩ : ∃ v, v = A 34 (fd 4) := ⟨_, rfl⟩
  rw [← e6] at p3
  refine ⟨Nat.le_of_ble_eq_true rfl, [], trivial, ?_⟩
  refine Exists.intro c (And.intro rfl (And.intro (And.intro i0 (And.intro j0 (And.intro (by omega) (by omega)))) (fun A7 i8 j9 f10 => ?_)))
  have f11 := frm_c f0 f10 rfl
  refine And.intro (by omega) (fun A12 e13 => ?_)
  have i14 := iva_st i8 e13 trivial
  have j15 := ivf_sa j9 e13 rfl
  have f16 := frm_s f11 e13 rfl
  obtain ⟨v17, e18⟩ : ∃ v, v = A12 34 (fd 4) := ⟨_, rfl⟩
  have q19 : v5 = v17 := (e18.trans ((Eq.trans (congrFun (st_a e13 rfl) _) (frm_f f10 rfl)).trans e6.symm)).symm
  subst q19
  refine And.intro (show A12 34 (fd 4) = ((36 : Nat) : Int) by omega) ?_
  refine Exists.intro 103 (Exists.intro 50 (And.intro rfl (And.intro (And.intro i14 (And.intro j15 (And.intro (by omega) (And.intro (by omega) (KO_fr p4 f16 rfl))))) (fun A20 i21 j22 f23 r24 g26 g27 g25 => ?_))))
  have f28 := frm_c f16 f23 rfl
  exact hK _ i21 j22 f28 _ (by omega) (by omega)
def sC_growth71 : qS := fun as A K => ∃ c d : Int, as = [rf 34, ni c, ni d] ∧ (iva IC A ∧ ivf JC A ∧ 0 ≤ c ∧ c ≤ 47 ∧ (71 ≤ A 34 (fd 4) ∧ A 34 (fd 4) ≤ 71) ∧ (KO A)) ∧ (∀ A' : qA, iva IC A' → ivf JC A' → frm [35, 43, 78] [(36, 9), (71, 9)] A A' → ∀ r : Int, 0 ≤ r → r ≤ 50 → K (some (ni r)) A')
theorem okC_growth71 : okM LC 5 4 sC_growth71 := by
  refine qmeth [(34, 4, 71)] false [(11, sC_seeCellAndCrop), (76, sC_answer71)] 22 rfl ⟨okC_seeCellAndCrop.le (by decide), ⟨okC_answer71.le (by decide), trivial⟩⟩ ?_
  rintro _ A K hA has ⟨c, d, rfl, ⟨i0, j0, p1, p2, p3, p4⟩, hK⟩
  have rg_c : rng c := has (ni c) (by simp)
  have rg_d : rng d := has (ni d) (by simp)
  have f0 := frm_0 [35, 43, 78] [(36, 9), (71, 9)] A
  obtain ⟨v5, e6⟩ : ∃ v, v = A 34 (fd 4) := ⟨_, rfl⟩
  rw [← e6] at p3
  refine ⟨Nat.le_of_ble_eq_true rfl, [], trivial, ?_⟩
  refine Exists.intro c (And.intro rfl (And.intro (And.intro i0 (And.intro j0 (And.intro (by omega) (by omega)))) (fun A7 i8 j9 f10 => ?_)))
  have f11 := frm_c f0 f10 rfl
  refine And.intro (by omega) (fun A12 e13 => ?_)
  have i14 := iva_st i8 e13 trivial
  have j15 := ivf_sa j9 e13 rfl
  have f16 := frm_s f11 e13 rfl
  obtain ⟨v17, e18⟩ : ∃ v, v = A12 34 (fd 4) := ⟨_, rfl⟩
  have q19 : v5 = v17 := (e18.trans ((Eq.trans (congrFun (st_a e13 rfl) _) (frm_f f10 rfl)).trans e6.symm)).symm
  subst q19
  refine And.intro (show A12 34 (fd 4) = ((71 : Nat) : Int) by omega) ?_
  refine Exists.intro 103 (Exists.intro 50 (And.intro rfl (And.intro (And.intro i14 (And.intro j15 (And.intro (by omega) (And.intro (by omega) (KO_fr p4 f16 rfl))))) (fun A20 i21 j22 f23 r24 g26 g27 g25 => ?_))))
  have f28 := frm_c f16 f23 rfl
  exact hK _ i21 j22 f28 _ (by omega) (by omega)
def sC_growth : qS := fun as A K => ∃ c d : Int, as = [rf 34, ni c, ni d] ∧ (iva IC A ∧ ivf JC A ∧ 0 ≤ c ∧ c ≤ 47 ∧ (LW A) ∧ (KO A)) ∧ (∀ A' : qA, iva IC A' → ivf JC A' → frm [35, 43, 78] [(36, 9), (71, 9)] A A' → ∀ r : Int, 0 ≤ r → r ≤ 50 → K (some (ni r)) A')
theorem okC_growth : okM LC 5 4 sC_growth := by
  refine okM_or (okC_growth36.le (by decide)) (okC_growth71.le (by decide)) ?_
  rintro _ A K ⟨c, d, rfl, ⟨h0, h1, h2, h3, h4, h5⟩, hK⟩
  rcases h4 with q | q
  · exact Or.inl ⟨c, d, rfl, ⟨h0, h1, h2, h3, ⟨by omega, by omega⟩, h5⟩, hK⟩
  · exact Or.inr ⟨c, d, rfl, ⟨h0, h1, h2, h3, ⟨by omega, by omega⟩, h5⟩, hK⟩
def sC_odds36 : qS := fun as A K => ∃ c : Int, as = [rf 34, ni c] ∧ (iva IC A ∧ ivf JC A ∧ 0 ≤ c ∧ c ≤ 47 ∧ (36 ≤ A 34 (fd 4) ∧ A 34 (fd 4) ≤ 36) ∧ (KO A)) ∧ (∀ A' : qA, iva IC A' → ivf JC A' → frm [35, 43, 78] [(36, 9), (71, 9)] A A' → ∀ r : Int, 0 ≤ r → r ≤ 1000 → K (some (ni r)) A')
theorem okC_odds36 : okM LC 5 5 sC_odds36 := by
  refine qmeth [(34, 4, 36)] false [(11, sC_seeCellAndCrop), (76, sC_answer36)] 17 rfl ⟨okC_seeCellAndCrop.le (by decide), ⟨okC_answer36.le (by decide), trivial⟩⟩ ?_
  rintro _ A K hA has ⟨c, rfl, ⟨i0, j0, p1, p2, p3, p4⟩, hK⟩
  have rg_c : rng c := has (ni c) (by simp)
  have f0 := frm_0 [35, 43, 78] [(36, 9), (71, 9)] A
  obtain ⟨v5, e6⟩ : ∃ v, v = A 34 (fd 4) := ⟨_, rfl⟩
  rw [← e6] at p3
  refine ⟨Nat.le_of_ble_eq_true rfl, [], trivial, ?_⟩
  refine Exists.intro c (And.intro rfl (And.intro (And.intro i0 (And.intro j0 (And.intro (by omega) (by omega)))) (fun A7 i8 j9 f10 => ?_)))
  have f11 := frm_c f0 f10 rfl
  obtain ⟨v12, e13⟩ : ∃ v, v = A7 34 (fd 4) := ⟨_, rfl⟩
  have q14 : v5 = v12 := (e13.trans ((frm_f f10 rfl).trans e6.symm)).symm
  subst q14
  refine And.intro (show A7 34 (fd 4) = ((36 : Nat) : Int) by omega) ?_
  refine Exists.intro 102 (Exists.intro 1000 (And.intro rfl (And.intro (And.intro i8 (And.intro j9 (And.intro (by omega) (And.intro (by omega) (KO_fr p4 f11 rfl))))) (fun A15 i16 j17 f18 r19 g21 g22 g20 => ?_))))
  have f23 := frm_c f11 f18 rfl
  exact hK _ i16 j17 f23 _ (by omega) (by omega)
def sC_odds71 : qS := fun as A K => ∃ c : Int, as = [rf 34, ni c] ∧ (iva IC A ∧ ivf JC A ∧ 0 ≤ c ∧ c ≤ 47 ∧ (71 ≤ A 34 (fd 4) ∧ A 34 (fd 4) ≤ 71) ∧ (KO A)) ∧ (∀ A' : qA, iva IC A' → ivf JC A' → frm [35, 43, 78] [(36, 9), (71, 9)] A A' → ∀ r : Int, 0 ≤ r → r ≤ 1000 → K (some (ni r)) A')
theorem okC_odds71 : okM LC 5 5 sC_odds71 := by
  refine qmeth [(34, 4, 71)] false [(11, sC_seeCellAndCrop), (76, sC_answer71)] 17 rfl ⟨okC_seeCellAndCrop.le (by decide), ⟨okC_answer71.le (by decide), trivial⟩⟩ ?_
  rintro _ A K hA has ⟨c, rfl, ⟨i0, j0, p1, p2, p3, p4⟩, hK⟩
  have rg_c : rng c := has (ni c) (by simp)
  have f0 := frm_0 [35, 43, 78] [(36, 9), (71, 9)] A
  obtain ⟨v5, e6⟩ : ∃ v, v = A 34 (fd 4) := ⟨_, rfl⟩
  rw [← e6] at p3
  refine ⟨Nat.le_of_ble_eq_true rfl, [], trivial, ?_⟩
  refine Exists.intro c (And.intro rfl (And.intro (And.intro i0 (And.intro j0 (And.intro (by omega) (by omega)))) (fun A7 i8 j9 f10 => ?_)))
  have f11 := frm_c f0 f10 rfl
  obtain ⟨v12, e13⟩ : ∃ v, v = A7 34 (fd 4) := ⟨_, rfl⟩
  have q14 : v5 = v12 := (e13.trans ((frm_f f10 rfl).trans e6.symm)).symm
  subst q14
  refine And.intro (show A7 34 (fd 4) = ((71 : Nat) : Int) by omega) ?_
  refine Exists.intro 102 (Exists.intro 1000 (And.intro rfl (And.intro (And.intro i8 (And.intro j9 (And.intro (by omega) (And.intro (by omega) (KO_fr p4 f11 rfl))))) (fun A15 i16 j17 f18 r19 g21 g22 g20 => ?_))))
  have f23 := frm_c f11 f18 rfl
  exact hK _ i16 j17 f23 _ (by omega) (by omega)
def sC_odds : qS := fun as A K => ∃ c : Int, as = [rf 34, ni c] ∧ (iva IC A ∧ ivf JC A ∧ 0 ≤ c ∧ c ≤ 47 ∧ (LW A) ∧ (KO A)) ∧ (∀ A' : qA, iva IC A' → ivf JC A' → frm [35, 43, 78] [(36, 9), (71, 9)] A A' → ∀ r : Int, 0 ≤ r → r ≤ 1000 → K (some (ni r)) A')
theorem okC_odds : okM LC 5 5 sC_odds := by
  refine okM_or (okC_odds36.le (by decide)) (okC_odds71.le (by decide)) ?_
  rintro _ A K ⟨c, rfl, ⟨h0, h1, h2, h3, h4, h5⟩, hK⟩
  rcases h4 with q | q
  · exact Or.inl ⟨c, rfl, ⟨h0, h1, h2, h3, ⟨by omega, by omega⟩, h5⟩, hK⟩
  · exact Or.inr ⟨c, rfl, ⟨h0, h1, h2, h3, ⟨by omega, by omega⟩, h5⟩, hK⟩
def sC_ageing36 : qS := fun as A K => ∃ c : Int, as = [rf 34, ni c] ∧ (iva IC A ∧ ivf JC A ∧ 0 ≤ c ∧ c ≤ 47 ∧ (36 ≤ A 34 (fd 4) ∧ A 34 (fd 4) ≤ 36) ∧ (KO A)) ∧ (∀ A' : qA, iva IC A' → ivf JC A' → frm [35, 43, 78] [(36, 9), (71, 9)] A A' → ∀ r : Int, 0 ≤ r → r ≤ 999 → K (some (ni r)) A')
theorem okC_ageing36 : okM LC 5 6 sC_ageing36 := by
  refine qmeth [(34, 4, 36)] false [(11, sC_seeCellAndCrop), (76, sC_answer36)] 17 rfl ⟨okC_seeCellAndCrop.le (by decide), ⟨okC_answer36.le (by decide), trivial⟩⟩ ?_
  rintro _ A K hA has ⟨c, rfl, ⟨i0, j0, p1, p2, p3, p4⟩, hK⟩
  have rg_c : rng c := has (ni c) (by simp)
  have f0 := frm_0 [35, 43, 78] [(36, 9), (71, 9)] A
  obtain ⟨v5, e6⟩ : ∃ v, v = A 34 (fd 4) := ⟨_, rfl⟩
  rw [← e6] at p3
  refine ⟨Nat.le_of_ble_eq_true rfl, [], trivial, ?_⟩
  refine Exists.intro c (And.intro rfl (And.intro (And.intro i0 (And.intro j0 (And.intro (by omega) (by omega)))) (fun A7 i8 j9 f10 => ?_)))
  have f11 := frm_c f0 f10 rfl
  obtain ⟨v12, e13⟩ : ∃ v, v = A7 34 (fd 4) := ⟨_, rfl⟩
  have q14 : v5 = v12 := (e13.trans ((frm_f f10 rfl).trans e6.symm)).symm
  subst q14
  refine And.intro (show A7 34 (fd 4) = ((36 : Nat) : Int) by omega) ?_
  refine Exists.intro 97 (Exists.intro 999 (And.intro rfl (And.intro (And.intro i8 (And.intro j9 (And.intro (by omega) (And.intro (by omega) (KO_fr p4 f11 rfl))))) (fun A15 i16 j17 f18 r19 g21 g22 g20 => ?_))))
  have f23 := frm_c f11 f18 rfl
  exact hK _ i16 j17 f23 _ (by omega) (by omega)
def sC_ageing71 : qS := fun as A K => ∃ c : Int, as = [rf 34, ni c] ∧ (iva IC A ∧ ivf JC A ∧ 0 ≤ c ∧ c ≤ 47 ∧ (71 ≤ A 34 (fd 4) ∧ A 34 (fd 4) ≤ 71) ∧ (KO A)) ∧ (∀ A' : qA, iva IC A' → ivf JC A' → frm [35, 43, 78] [(36, 9), (71, 9)] A A' → ∀ r : Int, 0 ≤ r → r ≤ 999 → K (some (ni r)) A')
theorem okC_ageing71 : okM LC 5 6 sC_ageing71 := by
  refine qmeth [(34, 4, 71)] false [(11, sC_seeCellAndCrop), (76, sC_answer71)] 17 rfl ⟨okC_seeCellAndCrop.le (by decide), ⟨okC_answer71.le (by decide), trivial⟩⟩ ?_
  rintro _ A K hA has ⟨c, rfl, ⟨i0, j0, p1, p2, p3, p4⟩, hK⟩
  have rg_c : rng c := has (ni c) (by simp)
  have f0 := frm_0 [35, 43, 78] [(36, 9), (71, 9)] A
  obtain ⟨v5, e6⟩ : ∃ v, v = A 34 (fd 4) := ⟨_, rfl⟩
  rw [← e6] at p3
  refine ⟨Nat.le_of_ble_eq_true rfl, [], trivial, ?_⟩
  refine Exists.intro c (And.intro rfl (And.intro (And.intro i0 (And.intro j0 (And.intro (by omega) (by omega)))) (fun A7 i8 j9 f10 => ?_)))
  have f11 := frm_c f0 f10 rfl
  obtain ⟨v12, e13⟩ : ∃ v, v = A7 34 (fd 4) := ⟨_, rfl⟩
  have q14 : v5 = v12 := (e13.trans ((frm_f f10 rfl).trans e6.symm)).symm
  subst q14
  refine And.intro (show A7 34 (fd 4) = ((71 : Nat) : Int) by omega) ?_
  refine Exists.intro 97 (Exists.intro 999 (And.intro rfl (And.intro (And.intro i8 (And.intro j9 (And.intro (by omega) (And.intro (by omega) (KO_fr p4 f11 rfl))))) (fun A15 i16 j17 f18 r19 g21 g22 g20 => ?_))))
  have f23 := frm_c f11 f18 rfl
  exact hK _ i16 j17 f23 _ (by omega) (by omega)
def sC_ageing : qS := fun as A K => ∃ c : Int, as = [rf 34, ni c] ∧ (iva IC A ∧ ivf JC A ∧ 0 ≤ c ∧ c ≤ 47 ∧ (LW A) ∧ (KO A)) ∧ (∀ A' : qA, iva IC A' → ivf JC A' → frm [35, 43, 78] [(36, 9), (71, 9)] A A' → ∀ r : Int, 0 ≤ r → r ≤ 999 → K (some (ni r)) A')
theorem okC_ageing : okM LC 5 6 sC_ageing := by
  refine okM_or (okC_ageing36.le (by decide)) (okC_ageing71.le (by decide)) ?_
  rintro _ A K ⟨c, rfl, ⟨h0, h1, h2, h3, h4, h5⟩, hK⟩
  rcases h4 with q | q
  · exact Or.inl ⟨c, rfl, ⟨h0, h1, h2, h3, ⟨by omega, by omega⟩, h5⟩, hK⟩
  · exact Or.inr ⟨c, rfl, ⟨h0, h1, h2, h3, ⟨by omega, by omega⟩, h5⟩, hK⟩
def sC_ownerOf36 : qS := fun as A K => ∃ i : Int, as = [rf 34, ni i] ∧ (iva IC A ∧ ivf JC A ∧ 0 ≤ i ∧ i ≤ 60 ∧ (36 ≤ A 34 (fd 4) ∧ A 34 (fd 4) ≤ 36) ∧ (KO A)) ∧ (∀ A' : qA, iva IC A' → ivf JC A' → frm [35, 43, 78] [(36, 9), (71, 9)] A A' → ∀ r : Int, 0 ≤ r → r ≤ 7 → K (some (ni r)) A')
theorem okC_ownerOf36 : okM LC 4 8 sC_ownerOf36 := by
  refine qmeth [(34, 4, 36)] false [(13, sC_seeFall), (76, sC_answer36)] 17 rfl ⟨okC_seeFall.le (by decide), ⟨okC_answer36.le (by decide), trivial⟩⟩ ?_
  rintro _ A K hA has ⟨i, rfl, ⟨i0, j0, p1, p2, p3, p4⟩, hK⟩
  have rg_i : rng i := has (ni i) (by simp)
  have f0 := frm_0 [35, 43, 78] [(36, 9), (71, 9)] A
  obtain ⟨v5, e6⟩ : ∃ v, v = A 34 (fd 4) := ⟨_, rfl⟩
  rw [← e6] at p3
  refine ⟨Nat.le_of_ble_eq_true rfl, [], trivial, ?_⟩
  refine Exists.intro i (And.intro rfl (And.intro (And.intro i0 (And.intro j0 (And.intro (by omega) (by omega)))) (fun A7 i8 j9 f10 => ?_)))
  have f11 := frm_c f0 f10 rfl
  obtain ⟨v12, e13⟩ : ∃ v, v = A7 34 (fd 4) := ⟨_, rfl⟩
  have q14 : v5 = v12 := (e13.trans ((frm_f f10 rfl).trans e6.symm)).symm
  subst q14
  refine And.intro (show A7 34 (fd 4) = ((36 : Nat) : Int) by omega) ?_
  refine Exists.intro 111 (Exists.intro 7 (And.intro rfl (And.intro (And.intro i8 (And.intro j9 (And.intro (by omega) (And.intro (by omega) (KO_fr p4 f11 rfl))))) (fun A15 i16 j17 f18 r19 g21 g22 g20 => ?_))))
  have f23 := frm_c f11 f18 rfl
  exact hK _ i16 j17 f23 _ (by omega) (by omega)
def sC_ownerOf71 : qS := fun as A K => ∃ i : Int, as = [rf 34, ni i] ∧ (iva IC A ∧ ivf JC A ∧ 0 ≤ i ∧ i ≤ 60 ∧ (71 ≤ A 34 (fd 4) ∧ A 34 (fd 4) ≤ 71) ∧ (KO A)) ∧ (∀ A' : qA, iva IC A' → ivf JC A' → frm [35, 43, 78] [(36, 9), (71, 9)] A A' → ∀ r : Int, 0 ≤ r → r ≤ 7 → K (some (ni r)) A')
theorem okC_ownerOf71 : okM LC 4 8 sC_ownerOf71 := by
  refine qmeth [(34, 4, 71)] false [(13, sC_seeFall), (76, sC_answer71)] 17 rfl ⟨okC_seeFall.le (by decide), ⟨okC_answer71.le (by decide), trivial⟩⟩ ?_
  rintro _ A K hA has ⟨i, rfl, ⟨i0, j0, p1, p2, p3, p4⟩, hK⟩
  have rg_i : rng i := has (ni i) (by simp)
  have f0 := frm_0 [35, 43, 78] [(36, 9), (71, 9)] A
  obtain ⟨v5, e6⟩ : ∃ v, v = A 34 (fd 4) := ⟨_, rfl⟩
  rw [← e6] at p3
  refine ⟨Nat.le_of_ble_eq_true rfl, [], trivial, ?_⟩
  refine Exists.intro i (And.intro rfl (And.intro (And.intro i0 (And.intro j0 (And.intro (by omega) (by omega)))) (fun A7 i8 j9 f10 => ?_)))
  have f11 := frm_c f0 f10 rfl
  obtain ⟨v12, e13⟩ : ∃ v, v = A7 34 (fd 4) := ⟨_, rfl⟩
  have q14 : v5 = v12 := (e13.trans ((frm_f f10 rfl).trans e6.symm)).symm
  subst q14
  refine And.intro (show A7 34 (fd 4) = ((71 : Nat) : Int) by omega) ?_
  refine Exists.intro 111 (Exists.intro 7 (And.intro rfl (And.intro (And.intro i8 (And.intro j9 (And.intro (by omega) (And.intro (by omega) (KO_fr p4 f11 rfl))))) (fun A15 i16 j17 f18 r19 g21 g22 g20 => ?_))))
  have f23 := frm_c f11 f18 rfl
  exact hK _ i16 j17 f23 _ (by omega) (by omega)
def sC_ownerOf : qS := fun as A K => ∃ i : Int, as = [rf 34, ni i] ∧ (iva IC A ∧ ivf JC A ∧ 0 ≤ i ∧ i ≤ 60 ∧ (LW A) ∧ (KO A)) ∧ (∀ A' : qA, iva IC A' → ivf JC A' → frm [35, 43, 78] [(36, 9), (71, 9)] A A' → ∀ r : Int, 0 ≤ r → r ≤ 7 → K (some (ni r)) A')
theorem okC_ownerOf : okM LC 4 8 sC_ownerOf := by
  refine okM_or (okC_ownerOf36.le (by decide)) (okC_ownerOf71.le (by decide)) ?_
  rintro _ A K ⟨i, rfl, ⟨h0, h1, h2, h3, h4, h5⟩, hK⟩
  rcases h4 with q | q
  · exact Or.inl ⟨i, rfl, ⟨h0, h1, h2, h3, ⟨by omega, by omega⟩, h5⟩, hK⟩
  · exact Or.inr ⟨i, rfl, ⟨h0, h1, h2, h3, ⟨by omega, by omega⟩, h5⟩, hK⟩
def sC_pointsOf36 : qS := fun as A K => ∃ i b : Int, as = [rf 34, ni i, ni b] ∧ (iva IC A ∧ ivf JC A ∧ 0 ≤ i ∧ i ≤ 60 ∧ 0 ≤ b ∧ b ≤ 7 ∧ (36 ≤ A 34 (fd 4) ∧ A 34 (fd 4) ≤ 36) ∧ (KO A)) ∧ (∀ A' : qA, iva IC A' → ivf JC A' → frm [35, 43, 78] [(36, 9), (71, 9)] A A' → ∀ r : Int, 0 ≤ r → r ≤ 1000 → K (some (ni r)) A')
theorem okC_pointsOf36 : okM LC 4 9 sC_pointsOf36 := by
  refine qmeth [(34, 4, 36)] false [(13, sC_seeFall), (76, sC_answer36)] 22 rfl ⟨okC_seeFall.le (by decide), ⟨okC_answer36.le (by decide), trivial⟩⟩ ?_
  rintro _ A K hA has ⟨i, b, rfl, ⟨i0, j0, p1, p2, p3, p4, p5, p6⟩, hK⟩
  have rg_i : rng i := has (ni i) (by simp)
  have rg_b : rng b := has (ni b) (by simp)
  have f0 := frm_0 [35, 43, 78] [(36, 9), (71, 9)] A
  obtain ⟨v7, e8⟩ : ∃ v, v = A 34 (fd 4) := ⟨_, rfl⟩
  rw [← e8] at p5
  refine ⟨Nat.le_of_ble_eq_true rfl, [], trivial, ?_⟩
  refine Exists.intro i (And.intro rfl (And.intro (And.intro i0 (And.intro j0 (And.intro (by omega) (by omega)))) (fun A9 i10 j11 f12 => ?_)))
  have f13 := frm_c f0 f12 rfl
  refine And.intro (by omega) (fun A14 e15 => ?_)
  have i16 := iva_st i10 e15 trivial
  have j17 := ivf_sa j11 e15 rfl
  have f18 := frm_s f13 e15 rfl
  obtain ⟨v19, e20⟩ : ∃ v, v = A14 34 (fd 4) := ⟨_, rfl⟩
  have q21 : v7 = v19 := (e20.trans ((Eq.trans (congrFun (st_a e15 rfl) _) (frm_f f12 rfl)).trans e8.symm)).symm
  subst q21
  refine And.intro (show A14 34 (fd 4) = ((36 : Nat) : Int) by omega) ?_
  refine Exists.intro 113 (Exists.intro 1000 (And.intro rfl (And.intro (And.intro i16 (And.intro j17 (And.intro (by omega) (And.intro (by omega) (KO_fr p6 f18 rfl))))) (fun A22 i23 j24 f25 r26 g28 g29 g27 => ?_))))
  have f30 := frm_c f18 f25 rfl
  exact hK _ i23 j24 f30 _ (by omega) (by omega)
def sC_pointsOf71 : qS := fun as A K => ∃ i b : Int, as = [rf 34, ni i, ni b] ∧ (iva IC A ∧ ivf JC A ∧ 0 ≤ i ∧ i ≤ 60 ∧ 0 ≤ b ∧ b ≤ 7 ∧ (71 ≤ A 34 (fd 4) ∧ A 34 (fd 4) ≤ 71) ∧ (KO A)) ∧ (∀ A' : qA, iva IC A' → ivf JC A' → frm [35, 43, 78] [(36, 9), (71, 9)] A A' → ∀ r : Int, 0 ≤ r → r ≤ 1000 → K (some (ni r)) A')
theorem okC_pointsOf71 : okM LC 4 9 sC_pointsOf71 := by
  refine qmeth [(34, 4, 71)] false [(13, sC_seeFall), (76, sC_answer71)] 22 rfl ⟨okC_seeFall.le (by decide), ⟨okC_answer71.le (by decide), trivial⟩⟩ ?_
  rintro _ A K hA has ⟨i, b, rfl, ⟨i0, j0, p1, p2, p3, p4, p5, p6⟩, hK⟩
  have rg_i : rng i := has (ni i) (by simp)
  have rg_b : rng b := has (ni b) (by simp)
  have f0 := frm_0 [35, 43, 78] [(36, 9), (71, 9)] A
  obtain ⟨v7, e8⟩ : ∃ v, v = A 34 (fd 4) := ⟨_, rfl⟩
  rw [← e8] at p5
  refine ⟨Nat.le_of_ble_eq_true rfl, [], trivial, ?_⟩
  refine Exists.intro i (And.intro rfl (And.intro (And.intro i0 (And.intro j0 (And.intro (by omega) (by omega)))) (fun A9 i10 j11 f12 => ?_)))
  have f13 := frm_c f0 f12 rfl
  refine And.intro (by omega) (fun A14 e15 => ?_)
  have i16 := iva_st i10 e15 trivial
  have j17 := ivf_sa j11 e15 rfl
  have f18 := frm_s f13 e15 rfl
  obtain ⟨v19, e20⟩ : ∃ v, v = A14 34 (fd 4) := ⟨_, rfl⟩
  have q21 : v7 = v19 := (e20.trans ((Eq.trans (congrFun (st_a e15 rfl) _) (frm_f f12 rfl)).trans e8.symm)).symm
  subst q21
  refine And.intro (show A14 34 (fd 4) = ((71 : Nat) : Int) by omega) ?_
  refine Exists.intro 113 (Exists.intro 1000 (And.intro rfl (And.intro (And.intro i16 (And.intro j17 (And.intro (by omega) (And.intro (by omega) (KO_fr p6 f18 rfl))))) (fun A22 i23 j24 f25 r26 g28 g29 g27 => ?_))))
  have f30 := frm_c f18 f25 rfl
  exact hK _ i23 j24 f30 _ (by omega) (by omega)
def sC_pointsOf : qS := fun as A K => ∃ i b : Int, as = [rf 34, ni i, ni b] ∧ (iva IC A ∧ ivf JC A ∧ 0 ≤ i ∧ i ≤ 60 ∧ 0 ≤ b ∧ b ≤ 7 ∧ (LW A) ∧ (KO A)) ∧ (∀ A' : qA, iva IC A' → ivf JC A' → frm [35, 43, 78] [(36, 9), (71, 9)] A A' → ∀ r : Int, 0 ≤ r → r ≤ 1000 → K (some (ni r)) A')
theorem okC_pointsOf : okM LC 4 9 sC_pointsOf := by
  refine okM_or (okC_pointsOf36.le (by decide)) (okC_pointsOf71.le (by decide)) ?_
  rintro _ A K ⟨i, b, rfl, ⟨h0, h1, h2, h3, h4, h5, h6, h7⟩, hK⟩
  rcases h6 with q | q
  · exact Or.inl ⟨i, b, rfl, ⟨h0, h1, h2, h3, h4, h5, ⟨by omega, by omega⟩, h7⟩, hK⟩
  · exact Or.inr ⟨i, b, rfl, ⟨h0, h1, h2, h3, h4, h5, ⟨by omega, by omega⟩, h7⟩, hK⟩
def sC_catching36 : qS := fun as A K => ∃ i : Int, as = [rf 34, ni i] ∧ (iva IC A ∧ ivf JC A ∧ 0 ≤ i ∧ i ≤ 60 ∧ (36 ≤ A 34 (fd 4) ∧ A 34 (fd 4) ≤ 36) ∧ (KO A)) ∧ (∀ A' : qA, iva IC A' → ivf JC A' → frm [35, 43, 78] [(36, 9), (71, 9)] A A' → ∀ r : Int, 0 ≤ r → r ≤ 6 → K (some (ni r)) A')
theorem okC_catching36 : okM LC 4 7 sC_catching36 := by
  refine qmeth [(34, 4, 36)] false [(20, sC_endOfColumn), (21, sC_hangs), (10, sC_seeCell), (12, sC_seeFallen), (76, sC_answer36)] 56 rfl ⟨okC_endOfColumn.le (by decide), ⟨okC_hangs.le (by decide), ⟨okC_seeCell.le (by decide), ⟨okC_seeFallen.le (by decide), ⟨okC_answer36.le (by decide), trivial⟩⟩⟩⟩⟩ ?_
  rintro _ A K hA has ⟨i, rfl, ⟨i0, j0, p1, p2, p3, p4⟩, hK⟩
  have rg_i : rng i := has (ni i) (by simp)
  have f0 := frm_0 [35, 43, 78] [(36, 9), (71, 9)] A
  obtain ⟨v5, e6⟩ : ∃ v, v = A 34 (fd 4) := ⟨_, rfl⟩
  rw [← e6] at p3
  refine ⟨Nat.le_of_ble_eq_true rfl, [(13, [(0, 2, 34), (1, 0, 0), (2, 0, 0), (3, 0, 0), (4, 0, 0)], fun zs B nn => match zs with | [l1, f, e, k] => iva IC B ∧ ivf JC B ∧ frm [35, 43, 78] [(36, 9), (71, 9)] A B ∧ nn = (48 - k : Int).toNat ∧ (l1 = i) ∧ (0 ≤ f) ∧ (f ≤ 47) ∧ (e = f - f % 6 + 6) ∧ (f + 1 ≤ k) ∧ (k ≤ 48) | _ => False)], ?_, ?_⟩
  · refine ⟨⟨rfl, ?_⟩, trivial⟩
    · refine fun l1 f e k B mm hB hz hI => ?_
      obtain ⟨i1, j1, f1, hm, c0, c1, c2, c3, c4, c5⟩ := hI
      obtain ⟨hz_l1, hz_f, hz_e, hz_k, _⟩ := hz
      refine And.intro (fun h12 => ?_) (fun h12 => ?_)
      · exact hK _ i1 j1 f1 _ (by omega) (by omega)
      · refine Exists.intro k (And.intro rfl (And.intro (fun h13 => ?_) (fun h13 => ?_)))
        · refine And.intro (fun h14 => by exfalso; omega) (fun h14 => ?_)
          refine Exists.intro k (And.intro rfl (And.intro (And.intro i1 (And.intro j1 (And.intro (by omega) (by omega)))) (fun A15 i16 j17 f18 => ?_)))
          have f19 := frm_c f1 f18 rfl
          refine Exists.intro l1 (And.intro rfl (And.intro (And.intro i16 (And.intro j17 (And.intro (by omega) (by omega)))) (fun A20 i21 j22 f23 => ?_)))
          have f24 := frm_c f19 f23 rfl
          refine fun v25 e26 => ?_
          refine And.intro (by omega) (And.intro (by omega) (fun A27 e28 => ?_))
          have i29 := iva_st i21 e28 trivial
          have j30 := ivf_sa j22 e28 rfl
          have f31 := frm_s f24 e28 rfl
          obtain ⟨v32, e33⟩ : ∃ v, v = A27 34 (fd 4) := ⟨_, rfl⟩
          have q34 : v5 = v32 := (e33.trans ((Eq.trans (Eq.trans (Eq.trans (congrFun (st_a e28 rfl) _) (frm_f f23 rfl)) (frm_f f18 rfl)) (frm_f f1 rfl)).trans e6.symm)).symm
          subst q34
          refine And.intro (show A27 34 (fd 4) = ((36 : Nat) : Int) by omega) ?_
          refine Exists.intro 99 (Exists.intro 1 (And.intro rfl (And.intro (And.intro i29 (And.intro j30 (And.intro (by omega) (And.intro (by omega) (KO_fr p4 f31 rfl))))) (fun A35 i36 j37 f38 r39 g41 g42 g40 => ?_))))
          have f43 := frm_c f31 f38 rfl
          refine And.intro (fun h44 => ?_) (fun h44 => ?_)
          · refine fun v45 e46 => ?_
            exact And.intro (by omega) (Exists.intro (48 - v45 : Int).toNat (And.intro (by omega) (And.intro i36 (And.intro j37 (And.intro f43 (And.intro rfl (And.intro (by omega) (And.intro (by omega) (And.intro (by omega) (And.intro (by omega) (And.intro (by omega) (by omega))))))))))))
          · refine And.intro (by omega) (fun v47 e48 => ?_)
            have h49 := qm_nn (a := k) (b := 6) (by omega)
            exact hK _ i36 j37 f43 _ (by omega) (by omega)
        · refine And.intro (fun h50 => ?_) (fun h50 => by exfalso; omega)
          refine fun v51 e52 => ?_
          exact And.intro (by omega) (Exists.intro (48 - v51 : Int).toNat (And.intro (by omega) (And.intro i1 (And.intro j1 (And.intro f1 (And.intro rfl (And.intro (by omega) (And.intro (by omega) (And.intro (by omega) (And.intro (by omega) (And.intro (by omega) (by omega))))))))))))
  · refine And.intro (by omega) (fun v7 gv7 e8 => ?_)
    have b9 := iva_at i0 17 rfl (i := i) (by omega) (by omega)
    refine Exists.intro v7 (And.intro rfl (And.intro (And.intro (by omega) (by omega)) ?_))
    refine fun v10 e11 => ?_
    exact And.intro (by omega) (Exists.intro (48 - v10 : Int).toNat (And.intro i0 (And.intro j0 (And.intro f0 (And.intro rfl (And.intro (by omega) (And.intro (by omega) (And.intro (by omega) (And.intro (by omega) (And.intro (by omega) (by omega)))))))))))
def sC_catching71 : qS := fun as A K => ∃ i : Int, as = [rf 34, ni i] ∧ (iva IC A ∧ ivf JC A ∧ 0 ≤ i ∧ i ≤ 60 ∧ (71 ≤ A 34 (fd 4) ∧ A 34 (fd 4) ≤ 71) ∧ (KO A)) ∧ (∀ A' : qA, iva IC A' → ivf JC A' → frm [35, 43, 78] [(36, 9), (71, 9)] A A' → ∀ r : Int, 0 ≤ r → r ≤ 6 → K (some (ni r)) A')
theorem okC_catching71 : okM LC 4 7 sC_catching71 := by
  refine qmeth [(34, 4, 71)] false [(20, sC_endOfColumn), (21, sC_hangs), (10, sC_seeCell), (12, sC_seeFallen), (76, sC_answer71)] 56 rfl ⟨okC_endOfColumn.le (by decide), ⟨okC_hangs.le (by decide), ⟨okC_seeCell.le (by decide), ⟨okC_seeFallen.le (by decide), ⟨okC_answer71.le (by decide), trivial⟩⟩⟩⟩⟩ ?_
  rintro _ A K hA has ⟨i, rfl, ⟨i0, j0, p1, p2, p3, p4⟩, hK⟩
  have rg_i : rng i := has (ni i) (by simp)
  have f0 := frm_0 [35, 43, 78] [(36, 9), (71, 9)] A
  obtain ⟨v5, e6⟩ : ∃ v, v = A 34 (fd 4) := ⟨_, rfl⟩
  rw [← e6] at p3
  refine ⟨Nat.le_of_ble_eq_true rfl, [(13, [(0, 2, 34), (1, 0, 0), (2, 0, 0), (3, 0, 0), (4, 0, 0)], fun zs B nn => match zs with | [l1, f, e, k] => iva IC B ∧ ivf JC B ∧ frm [35, 43, 78] [(36, 9), (71, 9)] A B ∧ nn = (48 - k : Int).toNat ∧ (l1 = i) ∧ (0 ≤ f) ∧ (f ≤ 47) ∧ (e = f - f % 6 + 6) ∧ (f + 1 ≤ k) ∧ (k ≤ 48) | _ => False)], ?_, ?_⟩
  · refine ⟨⟨rfl, ?_⟩, trivial⟩
    · refine fun l1 f e k B mm hB hz hI => ?_
      obtain ⟨i1, j1, f1, hm, c0, c1, c2, c3, c4, c5⟩ := hI
      obtain ⟨hz_l1, hz_f, hz_e, hz_k, _⟩ := hz
      refine And.intro (fun h12 => ?_) (fun h12 => ?_)
      · exact hK _ i1 j1 f1 _ (by omega) (by omega)
      · refine Exists.intro k (And.intro rfl (And.intro (fun h13 => ?_) (fun h13 => ?_)))
        · refine And.intro (fun h14 => by exfalso; omega) (fun h14 => ?_)
          refine Exists.intro k (And.intro rfl (And.intro (And.intro i1 (And.intro j1 (And.intro (by omega) (by omega)))) (fun A15 i16 j17 f18 => ?_)))
          have f19 := frm_c f1 f18 rfl
          refine Exists.intro l1 (And.intro rfl (And.intro (And.intro i16 (And.intro j17 (And.intro (by omega) (by omega)))) (fun A20 i21 j22 f23 => ?_)))
          have f24 := frm_c f19 f23 rfl
          refine fun v25 e26 => ?_
          refine And.intro (by omega) (And.intro (by omega) (fun A27 e28 => ?_))
          have i29 := iva_st i21 e28 trivial
          have j30 := ivf_sa j22 e28 rfl
          have f31 := frm_s f24 e28 rfl
          obtain ⟨v32, e33⟩ : ∃ v, v = A27 34 (fd 4) := ⟨_, rfl⟩
          have q34 : v5 = v32 := (e33.trans ((Eq.trans (Eq.trans (Eq.trans (congrFun (st_a e28 rfl) _) (frm_f f23 rfl)) (frm_f f18 rfl)) (frm_f f1 rfl)).trans e6.symm)).symm
          subst q34
          refine And.intro (show A27 34 (fd 4) = ((71 : Nat) : Int) by omega) ?_
          refine Exists.intro 99 (Exists.intro 1 (And.intro rfl (And.intro (And.intro i29 (And.intro j30 (And.intro (by omega) (And.intro (by omega) (KO_fr p4 f31 rfl))))) (fun A35 i36 j37 f38 r39 g41 g42 g40 => ?_))))
          have f43 := frm_c f31 f38 rfl
          refine And.intro (fun h44 => ?_) (fun h44 => ?_)
          · refine fun v45 e46 => ?_
            exact And.intro (by omega) (Exists.intro (48 - v45 : Int).toNat (And.intro (by omega) (And.intro i36 (And.intro j37 (And.intro f43 (And.intro rfl (And.intro (by omega) (And.intro (by omega) (And.intro (by omega) (And.intro (by omega) (And.intro (by omega) (by omega))))))))))))
          · refine And.intro (by omega) (fun v47 e48 => ?_)
            have h49 := qm_nn (a := k) (b := 6) (by omega)
            exact hK _ i36 j37 f43 _ (by omega) (by omega)
        · refine And.intro (fun h50 => ?_) (fun h50 => by exfalso; omega)
          refine fun v51 e52 => ?_
          exact And.intro (by omega) (Exists.intro (48 - v51 : Int).toNat (And.intro (by omega) (And.intro i1 (And.intro j1 (And.intro f1 (And.intro rfl (And.intro (by omega) (And.intro (by omega) (And.intro (by omega) (And.intro (by omega) (And.intro (by omega) (by omega))))))))))))
  · refine And.intro (by omega) (fun v7 gv7 e8 => ?_)
    have b9 := iva_at i0 17 rfl (i := i) (by omega) (by omega)
    refine Exists.intro v7 (And.intro rfl (And.intro (And.intro (by omega) (by omega)) ?_))
    refine fun v10 e11 => ?_
    exact And.intro (by omega) (Exists.intro (48 - v10 : Int).toNat (And.intro i0 (And.intro j0 (And.intro f0 (And.intro rfl (And.intro (by omega) (And.intro (by omega) (And.intro (by omega) (And.intro (by omega) (And.intro (by omega) (by omega)))))))))))
def sC_catching : qS := fun as A K => ∃ i : Int, as = [rf 34, ni i] ∧ (iva IC A ∧ ivf JC A ∧ 0 ≤ i ∧ i ≤ 60 ∧ (LW A) ∧ (KO A)) ∧ (∀ A' : qA, iva IC A' → ivf JC A' → frm [35, 43, 78] [(36, 9), (71, 9)] A A' → ∀ r : Int, 0 ≤ r → r ≤ 6 → K (some (ni r)) A')
theorem okC_catching : okM LC 4 7 sC_catching := by
  refine okM_or (okC_catching36.le (by decide)) (okC_catching71.le (by decide)) ?_
  rintro _ A K ⟨i, rfl, ⟨h0, h1, h2, h3, h4, h5⟩, hK⟩
  rcases h4 with q | q
  · exact Or.inl ⟨i, rfl, ⟨h0, h1, h2, h3, ⟨by omega, by omega⟩, h5⟩, hK⟩
  · exact Or.inr ⟨i, rfl, ⟨h0, h1, h2, h3, ⟨by omega, by omega⟩, h5⟩, hK⟩
end
section
def sC_pourA : qS := fun as A K => as = [rf 44, rf 16, rf 9] ∧ (iva IC A ∧ ivf JC A) ∧ (∀ A' : qA, iva IC A' → ivf JC A' → frm [45, 46, 9] [] A A' → K none A')
theorem okC_pourA : okM LC 5 87 sC_pourA := by
  sorry
def sC_pourB : qS := fun as A K => as = [rf 44, rf 49, rf 50] ∧ (iva IC A ∧ ivf JC A) ∧ (∀ A' : qA, iva IC A' → ivf JC A' → frm [45, 46, 50] [] A A' → K none A')
theorem okC_pourB : okM LC 5 87 sC_pourB := by
  sorry
def sC_reckonGrowth : qS := fun as A K => ∃ d : Int, as = [rf 44, ni d] ∧ (iva IC A ∧ ivf JC A ∧ 0 ≤ d ∧ d ≤ 36 ∧ (LW A) ∧ (KO A)) ∧ (∀ A' : qA, iva IC A' → ivf JC A' → frm [51, 35, 43, 78] [(36, 9), (71, 9)] A A' → K none A')
theorem okC_reckonGrowth : okM LC 6 90 sC_reckonGrowth := by
  refine qmeth [] false [(24, sC_needOf), (22, sC_hasCrop), (4, sC_growth)] 51 rfl ⟨okC_needOf.le (by decide), ⟨okC_hasCrop.le (by decide), ⟨okC_growth.le (by decide), trivial⟩⟩⟩ ?_
  rintro _ A K hA has ⟨d, rfl, ⟨i0, j0, p1, p2, p3, p4⟩, hK⟩
  have rg_d : rng d := has (ni d) (by simp)
  have f0 := frm_0 [51, 35, 43, 78] [(36, 9), (71, 9)] A
  refine ⟨Nat.le_of_ble_eq_true rfl, [(2, [(0, 2, 44), (1, 0, 0), (2, 0, 0)], fun zs B nn => match zs with | [l1, c] => iva IC B ∧ ivf JC B ∧ frm [51, 35, 43, 78] [(36, 9), (71, 9)] A B ∧ nn = ((48 - c) * 100 + 50 : Int).toNat ∧ (l1 = d) ∧ (0 ≤ c) ∧ (c ≤ 48) | _ => False), (14, [(0, 2, 44), (1, 0, 0), (2, 0, 0), (3, 0, 0), (4, 0, 0)], fun zs B nn => match zs with | [l1, c, t, k] => iva IC B ∧ ivf JC B ∧ frm [51, 35, 43, 78] [(36, 9), (71, 9)] A B ∧ nn = ((48 - c) * 100 + 22 - k : Int).toNat ∧ (l1 = d) ∧ (0 ≤ c) ∧ (c ≤ 47) ∧ (0 ≤ k) ∧ (k ≤ 21) | _ => False)], ?_, ?_⟩
  · refine ⟨⟨rfl, ?_⟩, ⟨rfl, ?_⟩, trivial⟩
    · refine fun l1 c B mm hB hz hI => ?_
      obtain ⟨i1, j1, f1, hm, c0, c1, c2⟩ := hI
      obtain ⟨hz_l1, hz_c, _⟩ := hz
      refine And.intro (fun h5 => ?_) (fun h5 => ?_)
      · exact hK _ i1 j1 f1
      · refine Exists.intro c (And.intro rfl (And.intro (And.intro i1 j1) (fun r6 g7 g8 => ?_)))
        refine (fun v9 e10 => ?_)
        exact Exists.intro ((48 - c) * 100 + 22 - 0 : Int).toNat (And.intro (by omega) (And.intro i1 (And.intro j1 (And.intro f1 (And.intro rfl (And.intro (by omega) (And.intro (by omega) (And.intro (by omega) (And.intro (by omega) (by omega))))))))))
    · refine fun l1 c t k B mm hB hz hI => ?_
      obtain ⟨i1, j1, f1, hm, c0, c1, c2, c3, c4⟩ := hI
      obtain ⟨hz_l1, hz_c, hz_t, hz_k, _⟩ := hz
      refine And.intro (fun h11 => ?_) (fun h11 => ?_)
      · refine fun v12 e13 => ?_
        exact And.intro (by omega) (Exists.intro ((48 - v12) * 100 + 50 : Int).toNat (And.intro (by omega) (And.intro i1 (And.intro j1 (And.intro f1 (And.intro rfl (And.intro (by omega) (And.intro (by omega) (by omega)))))))))
      · refine And.intro (fun h14 => ?_) (fun h14 => ?_)
        · refine fun v15 e16 => ?_
          exact And.intro (by omega) (Exists.intro ((48 - v15) * 100 + 50 : Int).toNat (And.intro (by omega) (And.intro i1 (And.intro j1 (And.intro f1 (And.intro rfl (And.intro (by omega) (And.intro (by omega) (by omega)))))))))
        · refine fun v17 e18 => ?_
          refine fun v19 e20 => ?_
          refine Exists.intro c (And.intro rfl (And.intro (fun h21 => ?_) (fun h21 => ?_)))
          · refine And.intro (fun h22 => by exfalso; omega) (fun h22 => ?_)
            refine Exists.intro c (Exists.intro k (And.intro rfl (And.intro (And.intro i1 (And.intro j1 (And.intro (by omega) (And.intro (by omega) (And.intro (LW_fr p3 f1 rfl) (KO_fr p4 f1 rfl)))))) (fun A23 i24 j25 f26 r27 g28 g29 => ?_))))
            have f30 := frm_c f1 f26 rfl
            refine And.intro (by omega) (fun A31 e32 => ?_)
            have i33 := iva_st i24 e32 trivial
            have j34 := ivf_sa j25 e32 rfl
            have f35 := frm_s f30 e32 rfl
            refine fun v36 e37 => ?_
            exact And.intro (by omega) (Exists.intro ((48 - c) * 100 + 22 - v36 : Int).toNat (And.intro (by omega) (And.intro i33 (And.intro j34 (And.intro f35 (And.intro rfl (And.intro (by omega) (And.intro (by omega) (And.intro (by omega) (And.intro (by omega) (by omega)))))))))))
          · refine And.intro (fun h38 => ?_) (fun h38 => by exfalso; omega)
            refine And.intro (by omega) (fun A39 e40 => ?_)
            have i41 := iva_st i1 e40 trivial
            have j42 := ivf_sa j1 e40 rfl
            have f43 := frm_s f1 e40 rfl
            refine fun v44 e45 => ?_
            exact And.intro (by omega) (Exists.intro ((48 - c) * 100 + 22 - v44 : Int).toNat (And.intro (by omega) (And.intro i41 (And.intro j42 (And.intro f43 (And.intro rfl (And.intro (by omega) (And.intro (by omega) (And.intro (by omega) (And.intro (by omega) (by omega)))))))))))
  · exact Exists.intro ((48 - 0) * 100 + 50 : Int).toNat (And.intro i0 (And.intro j0 (And.intro f0 (And.intro rfl (And.intro (by omega) (And.intro (by omega) (by omega)))))))
def sC_weighTrial : qS := fun as A K => as = [rf 44] ∧ (iva IC A ∧ ivf JC A) ∧ (∀ A' : qA, iva IC A' → ivf JC A' → frm [45, 46, 50, 48] [(44, 10)] A A' → K none A')
theorem okC_weighTrial : okM LC 6 92 sC_weighTrial := by
  refine qmeth [] true [(87, sC_pourB)] 62 rfl ⟨okC_pourB.le (by decide), trivial⟩ ?_
  rintro _ A K hA has ⟨rfl, ⟨i0, j0⟩, hK⟩
  have f0 := frm_0 [45, 46, 50, 48] [(44, 10)] A
  refine ⟨Nat.le_of_ble_eq_true rfl, [(10, [(0, 2, 44), (1, 0, 0), (2, 0, 0)], fun zs B nn => match zs with | [s, k] => iva IC B ∧ ivf JC B ∧ frm [45, 46, 50, 48] [(44, 10)] A B ∧ nn = (148 - k : Int).toNat ∧ (0 ≤ k) ∧ (k ≤ 48) | _ => False), (38, [(0, 2, 44), (2, 0, 0)], fun zs B nn => match zs with | [k] => iva IC B ∧ ivf JC B ∧ frm [45, 46, 50, 48] [(44, 10)] A B ∧ nn = (4 - k : Int).toNat ∧ (0 ≤ k) ∧ (k ≤ 4) | _ => False)], ?_, ?_⟩
  · refine ⟨⟨rfl, ?_⟩, ⟨rfl, ?_⟩, trivial⟩
    · refine fun s k B mm hB hz hI => ?_
      obtain ⟨i1, j1, f1, hm, c0, c1⟩ := hI
      obtain ⟨hz_s, hz_k, _⟩ := hz
      refine And.intro (fun h6 => ?_) (fun h6 => ?_)
      · refine fun v7 gv7 e8 => ?_
        refine And.intro (fun h9 => ?_) (fun h9 => ?_)
        · exact hK _ i1 j1 f1
        · refine fun A10 e11 => ?_
          have i12 := iva_sf i1 e11 rfl
          have j13 := ivf_st j1 e11 trivial
          have f14 := frm_sf f1 e11 rfl
          exact Exists.intro (4 - 0 : Int).toNat (And.intro (by omega) (And.intro i12 (And.intro j13 (And.intro f14 (And.intro rfl (And.intro (by omega) (by omega)))))))
      · refine fun v15 e16 => ?_
        refine And.intro (by omega) (fun v17 gv17 e18 => ?_)
        have b19 := iva_at i1 25 rfl (i := k) (by omega) (by omega)
        refine fun v20 e21 => ?_
        refine And.intro (by omega) (fun v22 gv22 e23 => ?_)
        refine fun v24 e25 => ?_
        refine fun v26 e27 => ?_
        have w28 := wI_rng v24
        have w29 := wI_rng v26
        have w30 : wI v26 = v26 := wI_id (by omega)
        exact Exists.intro (148 - ((wI v26)) : Int).toNat (And.intro (by omega) (And.intro i1 (And.intro j1 (And.intro f1 (And.intro rfl (And.intro (by omega) (by omega)))))))
    · refine fun k B mm hB hz hI => ?_
      obtain ⟨i1, j1, f1, hm, c0, c1⟩ := hI
      obtain ⟨hz_k, _⟩ := hz
      refine fun v31 gv31 e32 => ?_
      have b33 := ivf_at j1 2 rfl
      refine And.intro (fun h34 => ?_) (fun h34 => ?_)
      · exact hK _ i1 j1 f1
      · refine And.intro (by omega) (fun v35 gv35 e36 => ?_)
        have b37 := iva_at i1 22 rfl (i := k) (by omega) (by omega)
        refine And.intro (by omega) (fun v38 gv38 e39 => ?_)
        have b40 := iva_at i1 24 rfl (i := v35) (by omega) (by omega)
        refine And.intro (by omega) (fun A41 e42 => ?_)
        have i43 := iva_st i1 e42 (And.intro (by omega) trivial)
        have j44 := ivf_sa j1 e42 rfl
        have f45 := frm_s f1 e42 rfl
        refine fun v46 e47 => ?_
        have w48 := wI_rng v46
        have w49 : wI v46 = v46 := wI_id (by omega)
        exact Exists.intro (4 - ((wI v46)) : Int).toNat (And.intro (by omega) (And.intro i43 (And.intro j44 (And.intro f45 (And.intro rfl (And.intro (by omega) (by omega)))))))
  · refine And.intro rfl (And.intro (And.intro i0 j0) (fun A1 i2 j3 f4 => ?_))
    have f5 := frm_c f0 f4 rfl
    exact Exists.intro (148 - 0 : Int).toNat (And.intro i2 (And.intro j3 (And.intro f5 (And.intro rfl (And.intro (by omega) (by omega))))))
def sC_tryValve4 : qS := fun as A K => ∃ p f : Int, as = [rf 44, ni p, ni f] ∧ (iva IC A ∧ ivf JC A ∧ 4 ≤ p ∧ p ≤ 4) ∧ (∀ A' : qA, iva IC A' → ivf JC A' → frm [49, 45, 46, 50, 48] [(44, 10)] A A' → K none A')
theorem okC_tryValve4 : okM LC 7 91 sC_tryValve4 := by
  refine qmeth [] false [(92, sC_weighTrial)] 43 rfl ⟨okC_weighTrial.le (by decide), trivial⟩ ?_
  rintro _ A K hA has ⟨p, f, rfl, ⟨i0, j0, p1, p2⟩, hK⟩
  have rg_p : rng p := has (ni p) (by simp)
  have rg_f : rng f := has (ni f) (by simp)
  have f0 := frm_0 [49, 45, 46, 50, 48] [(44, 10)] A
  refine ⟨Nat.le_of_ble_eq_true rfl, [], trivial, ?_⟩
  refine fun v3 gv3 e4 => ?_
  have b5 := ivf_at j0 2 rfl
  refine And.intro (fun h6 => ?_) (fun h6 => by exfalso; omega)
  refine And.intro rfl (And.intro (And.intro i0 j0) (fun A7 i8 j9 f10 => ?_))
  have f11 := frm_c f0 f10 rfl
  exact hK _ i8 j9 f11
def sC_tryValve3 : qS := fun as A K => ∃ p f : Int, as = [rf 44, ni p, ni f] ∧ (iva IC A ∧ ivf JC A ∧ 3 ≤ p ∧ p ≤ 3) ∧ (∀ A' : qA, iva IC A' → ivf JC A' → frm [49, 45, 46, 50, 48] [(44, 10)] A A' → K none A')
theorem okC_tryValve3 : okM LC 8 91 sC_tryValve3 := by
  refine qmeth [] false [(92, sC_weighTrial), (91, sC_tryValve4)] 43 rfl ⟨okC_weighTrial.le (by decide), ⟨okC_tryValve4.le (by decide), trivial⟩⟩ ?_
  rintro _ A K hA has ⟨p, f, rfl, ⟨i0, j0, p1, p2⟩, hK⟩
  have rg_p : rng p := has (ni p) (by simp)
  have rg_f : rng f := has (ni f) (by simp)
  have f0 := frm_0 [49, 45, 46, 50, 48] [(44, 10)] A
  refine ⟨Nat.le_of_ble_eq_true rfl, [(12, [(0, 2, 44), (1, 0, 0), (2, 0, 0), (3, 0, 0)], fun zs B nn => match zs with | [l1, l2, k] => iva IC B ∧ ivf JC B ∧ frm [49, 45, 46, 50, 48] [(44, 10)] A B ∧ nn = (10 - k : Int).toNat ∧ (l1 = p) ∧ (l2 = f) ∧ (0 ≤ k) ∧ (k ≤ 10) | _ => False)], ?_, ?_⟩
  · refine ⟨⟨rfl, ?_⟩, trivial⟩
    · refine fun l1 l2 k B mm hB hz hI => ?_
      obtain ⟨i1, j1, f1, hm, c0, c1, c2, c3⟩ := hI
      obtain ⟨hz_l1, hz_l2, hz_k, _⟩ := hz
      refine And.intro (fun h13 => ?_) (fun h13 => ?_)
      · exact hK _ i1 j1 f1
      · refine And.intro (fun h14 => ?_) (fun h14 => ?_)
        · exact hK _ i1 j1 f1
        · refine And.intro (by omega) (fun v15 gv15 e16 => ?_)
          have b17 := iva_at i1 22 rfl (i := l1) (by omega) (by omega)
          refine And.intro (by omega) (fun A18 e19 => ?_)
          have i20 := iva_st i1 e19 (And.intro (by omega) trivial)
          have j21 := ivf_sa j1 e19 rfl
          have f22 := frm_s f1 e19 rfl
          refine fun v23 e24 => ?_
          refine fun v25 e26 => ?_
          refine And.intro (by omega) (And.intro (by omega) (Exists.intro v23 (Exists.intro v25 (And.intro rfl (And.intro (And.intro i20 (And.intro j21 (And.intro (by omega) (by omega)))) (fun A27 i28 j29 f30 => ?_))))))
          have f31 := frm_c f22 f30 rfl
          refine fun v32 e33 => ?_
          exact And.intro (by omega) (Exists.intro (10 - v32 : Int).toNat (And.intro (by omega) (And.intro i28 (And.intro j29 (And.intro f31 (And.intro rfl (And.intro (by omega) (And.intro (by omega) (And.intro (by omega) (by omega))))))))))
  · refine fun v3 gv3 e4 => ?_
    have b5 := ivf_at j0 2 rfl
    refine And.intro (fun h6 => ?_) (fun h6 => ?_)
    · refine And.intro rfl (And.intro (And.intro i0 j0) (fun A7 i8 j9 f10 => ?_))
      have f11 := frm_c f0 f10 rfl
      exact hK _ i8 j9 f11
    · refine And.intro (fun h12 => ?_) (fun h12 => by exfalso; omega)
      exact Exists.intro (10 - 0 : Int).toNat (And.intro i0 (And.intro j0 (And.intro f0 (And.intro rfl (And.intro (by omega) (And.intro (by omega) (And.intro (by omega) (by omega))))))))
def sC_tryValve2 : qS := fun as A K => ∃ p f : Int, as = [rf 44, ni p, ni f] ∧ (iva IC A ∧ ivf JC A ∧ 2 ≤ p ∧ p ≤ 2) ∧ (∀ A' : qA, iva IC A' → ivf JC A' → frm [49, 45, 46, 50, 48] [(44, 10)] A A' → K none A')
theorem okC_tryValve2 : okM LC 9 91 sC_tryValve2 := by
  refine qmeth [] false [(92, sC_weighTrial), (91, sC_tryValve3)] 43 rfl ⟨okC_weighTrial.le (by decide), ⟨okC_tryValve3.le (by decide), trivial⟩⟩ ?_
  rintro _ A K hA has ⟨p, f, rfl, ⟨i0, j0, p1, p2⟩, hK⟩
  have rg_p : rng p := has (ni p) (by simp)
  have rg_f : rng f := has (ni f) (by simp)
  have f0 := frm_0 [49, 45, 46, 50, 48] [(44, 10)] A
  refine ⟨Nat.le_of_ble_eq_true rfl, [(12, [(0, 2, 44), (1, 0, 0), (2, 0, 0), (3, 0, 0)], fun zs B nn => match zs with | [l1, l2, k] => iva IC B ∧ ivf JC B ∧ frm [49, 45, 46, 50, 48] [(44, 10)] A B ∧ nn = (10 - k : Int).toNat ∧ (l1 = p) ∧ (l2 = f) ∧ (0 ≤ k) ∧ (k ≤ 10) | _ => False)], ?_, ?_⟩
  · refine ⟨⟨rfl, ?_⟩, trivial⟩
    · refine fun l1 l2 k B mm hB hz hI => ?_
      obtain ⟨i1, j1, f1, hm, c0, c1, c2, c3⟩ := hI
      obtain ⟨hz_l1, hz_l2, hz_k, _⟩ := hz
      refine And.intro (fun h13 => ?_) (fun h13 => ?_)
      · exact hK _ i1 j1 f1
      · refine And.intro (fun h14 => ?_) (fun h14 => ?_)
        · exact hK _ i1 j1 f1
        · refine And.intro (by omega) (fun v15 gv15 e16 => ?_)
          have b17 := iva_at i1 22 rfl (i := l1) (by omega) (by omega)
          refine And.intro (by omega) (fun A18 e19 => ?_)
          have i20 := iva_st i1 e19 (And.intro (by omega) trivial)
          have j21 := ivf_sa j1 e19 rfl
          have f22 := frm_s f1 e19 rfl
          refine fun v23 e24 => ?_
          refine fun v25 e26 => ?_
          refine And.intro (by omega) (And.intro (by omega) (Exists.intro v23 (Exists.intro v25 (And.intro rfl (And.intro (And.intro i20 (And.intro j21 (And.intro (by omega) (by omega)))) (fun A27 i28 j29 f30 => ?_))))))
          have f31 := frm_c f22 f30 rfl
          refine fun v32 e33 => ?_
          exact And.intro (by omega) (Exists.intro (10 - v32 : Int).toNat (And.intro (by omega) (And.intro i28 (And.intro j29 (And.intro f31 (And.intro rfl (And.intro (by omega) (And.intro (by omega) (And.intro (by omega) (by omega))))))))))
  · refine fun v3 gv3 e4 => ?_
    have b5 := ivf_at j0 2 rfl
    refine And.intro (fun h6 => ?_) (fun h6 => ?_)
    · refine And.intro rfl (And.intro (And.intro i0 j0) (fun A7 i8 j9 f10 => ?_))
      have f11 := frm_c f0 f10 rfl
      exact hK _ i8 j9 f11
    · refine And.intro (fun h12 => ?_) (fun h12 => by exfalso; omega)
      exact Exists.intro (10 - 0 : Int).toNat (And.intro i0 (And.intro j0 (And.intro f0 (And.intro rfl (And.intro (by omega) (And.intro (by omega) (And.intro (by omega) (by omega))))))))
def sC_tryValve1 : qS := fun as A K => ∃ p f : Int, as = [rf 44, ni p, ni f] ∧ (iva IC A ∧ ivf JC A ∧ 1 ≤ p ∧ p ≤ 1) ∧ (∀ A' : qA, iva IC A' → ivf JC A' → frm [49, 45, 46, 50, 48] [(44, 10)] A A' → K none A')
theorem okC_tryValve1 : okM LC 10 91 sC_tryValve1 := by
  refine qmeth [] false [(92, sC_weighTrial), (91, sC_tryValve2)] 43 rfl ⟨okC_weighTrial.le (by decide), ⟨okC_tryValve2.le (by decide), trivial⟩⟩ ?_
  rintro _ A K hA has ⟨p, f, rfl, ⟨i0, j0, p1, p2⟩, hK⟩
  have rg_p : rng p := has (ni p) (by simp)
  have rg_f : rng f := has (ni f) (by simp)
  have f0 := frm_0 [49, 45, 46, 50, 48] [(44, 10)] A
  refine ⟨Nat.le_of_ble_eq_true rfl, [(12, [(0, 2, 44), (1, 0, 0), (2, 0, 0), (3, 0, 0)], fun zs B nn => match zs with | [l1, l2, k] => iva IC B ∧ ivf JC B ∧ frm [49, 45, 46, 50, 48] [(44, 10)] A B ∧ nn = (10 - k : Int).toNat ∧ (l1 = p) ∧ (l2 = f) ∧ (0 ≤ k) ∧ (k ≤ 10) | _ => False)], ?_, ?_⟩
  · refine ⟨⟨rfl, ?_⟩, trivial⟩
    · refine fun l1 l2 k B mm hB hz hI => ?_
      obtain ⟨i1, j1, f1, hm, c0, c1, c2, c3⟩ := hI
      obtain ⟨hz_l1, hz_l2, hz_k, _⟩ := hz
      refine And.intro (fun h13 => ?_) (fun h13 => ?_)
      · exact hK _ i1 j1 f1
      · refine And.intro (fun h14 => ?_) (fun h14 => ?_)
        · exact hK _ i1 j1 f1
        · refine And.intro (by omega) (fun v15 gv15 e16 => ?_)
          have b17 := iva_at i1 22 rfl (i := l1) (by omega) (by omega)
          refine And.intro (by omega) (fun A18 e19 => ?_)
          have i20 := iva_st i1 e19 (And.intro (by omega) trivial)
          have j21 := ivf_sa j1 e19 rfl
          have f22 := frm_s f1 e19 rfl
          refine fun v23 e24 => ?_
          refine fun v25 e26 => ?_
          refine And.intro (by omega) (And.intro (by omega) (Exists.intro v23 (Exists.intro v25 (And.intro rfl (And.intro (And.intro i20 (And.intro j21 (And.intro (by omega) (by omega)))) (fun A27 i28 j29 f30 => ?_))))))
          have f31 := frm_c f22 f30 rfl
          refine fun v32 e33 => ?_
          exact And.intro (by omega) (Exists.intro (10 - v32 : Int).toNat (And.intro (by omega) (And.intro i28 (And.intro j29 (And.intro f31 (And.intro rfl (And.intro (by omega) (And.intro (by omega) (And.intro (by omega) (by omega))))))))))
  · refine fun v3 gv3 e4 => ?_
    have b5 := ivf_at j0 2 rfl
    refine And.intro (fun h6 => ?_) (fun h6 => ?_)
    · refine And.intro rfl (And.intro (And.intro i0 j0) (fun A7 i8 j9 f10 => ?_))
      have f11 := frm_c f0 f10 rfl
      exact hK _ i8 j9 f11
    · refine And.intro (fun h12 => ?_) (fun h12 => by exfalso; omega)
      exact Exists.intro (10 - 0 : Int).toNat (And.intro i0 (And.intro j0 (And.intro f0 (And.intro rfl (And.intro (by omega) (And.intro (by omega) (And.intro (by omega) (by omega))))))))
def sC_tryValve0 : qS := fun as A K => ∃ p f : Int, as = [rf 44, ni p, ni f] ∧ (iva IC A ∧ ivf JC A ∧ 0 ≤ p ∧ p ≤ 0) ∧ (∀ A' : qA, iva IC A' → ivf JC A' → frm [49, 45, 46, 50, 48] [(44, 10)] A A' → K none A')
theorem okC_tryValve0 : okM LC 11 91 sC_tryValve0 := by
  refine qmeth [] false [(92, sC_weighTrial), (91, sC_tryValve1)] 43 rfl ⟨okC_weighTrial.le (by decide), ⟨okC_tryValve1.le (by decide), trivial⟩⟩ ?_
  rintro _ A K hA has ⟨p, f, rfl, ⟨i0, j0, p1, p2⟩, hK⟩
  have rg_p : rng p := has (ni p) (by simp)
  have rg_f : rng f := has (ni f) (by simp)
  have f0 := frm_0 [49, 45, 46, 50, 48] [(44, 10)] A
  refine ⟨Nat.le_of_ble_eq_true rfl, [(12, [(0, 2, 44), (1, 0, 0), (2, 0, 0), (3, 0, 0)], fun zs B nn => match zs with | [l1, l2, k] => iva IC B ∧ ivf JC B ∧ frm [49, 45, 46, 50, 48] [(44, 10)] A B ∧ nn = (10 - k : Int).toNat ∧ (l1 = p) ∧ (l2 = f) ∧ (0 ≤ k) ∧ (k ≤ 10) | _ => False)], ?_, ?_⟩
  · refine ⟨⟨rfl, ?_⟩, trivial⟩
    · refine fun l1 l2 k B mm hB hz hI => ?_
      obtain ⟨i1, j1, f1, hm, c0, c1, c2, c3⟩ := hI
      obtain ⟨hz_l1, hz_l2, hz_k, _⟩ := hz
      refine And.intro (fun h13 => ?_) (fun h13 => ?_)
      · exact hK _ i1 j1 f1
      · refine And.intro (fun h14 => ?_) (fun h14 => ?_)
        · exact hK _ i1 j1 f1
        · refine And.intro (by omega) (fun v15 gv15 e16 => ?_)
          have b17 := iva_at i1 22 rfl (i := l1) (by omega) (by omega)
          refine And.intro (by omega) (fun A18 e19 => ?_)
          have i20 := iva_st i1 e19 (And.intro (by omega) trivial)
          have j21 := ivf_sa j1 e19 rfl
          have f22 := frm_s f1 e19 rfl
          refine fun v23 e24 => ?_
          refine fun v25 e26 => ?_
          refine And.intro (by omega) (And.intro (by omega) (Exists.intro v23 (Exists.intro v25 (And.intro rfl (And.intro (And.intro i20 (And.intro j21 (And.intro (by omega) (by omega)))) (fun A27 i28 j29 f30 => ?_))))))
          have f31 := frm_c f22 f30 rfl
          refine fun v32 e33 => ?_
          exact And.intro (by omega) (Exists.intro (10 - v32 : Int).toNat (And.intro (by omega) (And.intro i28 (And.intro j29 (And.intro f31 (And.intro rfl (And.intro (by omega) (And.intro (by omega) (And.intro (by omega) (by omega))))))))))
  · refine fun v3 gv3 e4 => ?_
    have b5 := ivf_at j0 2 rfl
    refine And.intro (fun h6 => ?_) (fun h6 => ?_)
    · refine And.intro rfl (And.intro (And.intro i0 j0) (fun A7 i8 j9 f10 => ?_))
      have f11 := frm_c f0 f10 rfl
      exact hK _ i8 j9 f11
    · refine And.intro (fun h12 => ?_) (fun h12 => by exfalso; omega)
      exact Exists.intro (10 - 0 : Int).toNat (And.intro i0 (And.intro j0 (And.intro f0 (And.intro rfl (And.intro (by omega) (And.intro (by omega) (And.intro (by omega) (by omega))))))))
def sC_share : qS := fun as A K => ∃ d x : Int, as = [rf 44, ni d, ni x] ∧ (iva IC A ∧ ivf JC A ∧ 0 ≤ d ∧ d ≤ 36 ∧ (LW A) ∧ (KO A)) ∧ (∀ A' : qA, iva IC A' → ivf JC A' → frm [49, 47, 48, 51, 45, 46, 50, 35, 43, 78] [(44, 9), (44, 10), (36, 9), (71, 9)] A A' → K none A')
theorem okC_share : okM LC 12 89 sC_share := by
  refine qmeth [] false [(90, sC_reckonGrowth), (91, sC_tryValve0)] 54 rfl ⟨okC_reckonGrowth.le (by decide), ⟨okC_tryValve0.le (by decide), trivial⟩⟩ ?_
  rintro _ A K hA has ⟨d, x, rfl, ⟨i0, j0, p1, p2, p3, p4⟩, hK⟩
  have rg_d : rng d := has (ni d) (by simp)
  have rg_x : rng x := has (ni x) (by simp)
  have f0 := frm_0 [49, 47, 48, 51, 45, 46, 50, 35, 43, 78] [(44, 9), (44, 10), (36, 9), (71, 9)] A
  refine ⟨Nat.le_of_ble_eq_true rfl, [(5, [(0, 2, 44), (1, 0, 0), (2, 0, 0), (3, 0, 0)], fun zs B nn => match zs with | [l1, l2, k] => iva IC B ∧ ivf JC B ∧ frm [49, 47, 48, 51, 45, 46, 50, 35, 43, 78] [(44, 9), (44, 10), (36, 9), (71, 9)] A B ∧ nn = (8 - k : Int).toNat ∧ (l1 = d) ∧ (l2 = x) ∧ (0 ≤ k) ∧ (k ≤ 8) | _ => False)], ?_, ?_⟩
  · refine ⟨⟨rfl, ?_⟩, trivial⟩
    · refine fun l1 l2 k B mm hB hz hI => ?_
      obtain ⟨i1, j1, f1, hm, c0, c1, c2, c3⟩ := hI
      obtain ⟨hz_l1, hz_l2, hz_k, _⟩ := hz
      refine And.intro (fun h10 => ?_) (fun h10 => ?_)
      · refine Exists.intro l1 (And.intro rfl (And.intro (And.intro i1 (And.intro j1 (And.intro (by omega) (And.intro (by omega) (And.intro (LW_fr p3 f1 rfl) (KO_fr p4 f1 rfl)))))) (fun A11 i12 j13 f14 => ?_)))
        have f15 := frm_c f1 f14 rfl
        refine fun A16 e17 => ?_
        have i18 := iva_sf i12 e17 rfl
        have j19 := ivf_st j13 e17 trivial
        have f20 := frm_sf f15 e17 rfl
        refine Exists.intro 0 (Exists.intro l1 (And.intro rfl (And.intro (And.intro i18 (And.intro j19 (And.intro (by omega) (by omega)))) (fun A21 i22 j23 f24 => ?_))))
        have f25 := frm_c f20 f24 rfl
        exact hK _ i22 j23 f25
      · refine And.intro (by omega) (fun A26 e27 => ?_)
        have i28 := iva_st i1 e27 (And.intro (by omega) trivial)
        have j29 := ivf_sa j1 e27 rfl
        have f30 := frm_s f1 e27 rfl
        refine fun v31 e32 => ?_
        refine fun v33 e34 => ?_
        have h35 := ia_bd (a := v31) (b := 1) (by omega) (by omega)
        refine And.intro (fun h36 => ?_) (fun h36 => ?_)
        · refine fun v37 e38 => ?_
          exact And.intro (by omega) (Exists.intro (8 - v37 : Int).toNat (And.intro (by omega) (And.intro i28 (And.intro j29 (And.intro f30 (And.intro rfl (And.intro (by omega) (And.intro (by omega) (And.intro (by omega) (by omega))))))))))
        · refine fun v39 gv39 e40 => ?_
          have b41 := ivf_at j29 2 rfl
          refine And.intro (fun h42 => ?_) (fun h42 => ?_)
          · refine fun v43 e44 => ?_
            exact And.intro (by omega) (Exists.intro (8 - v43 : Int).toNat (And.intro (by omega) (And.intro i28 (And.intro j29 (And.intro f30 (And.intro rfl (And.intro (by omega) (And.intro (by omega) (And.intro (by omega) (by omega))))))))))
          · refine fun v45 gv45 e46 => ?_
            have b47 := ivf_at j29 2 rfl
            have q48 : v39 = v45 := (e46.trans e40.symm).symm
            subst q48
            refine And.intro (by omega) (fun A49 e50 => ?_)
            have i51 := iva_st i28 e50 (And.intro (by omega) trivial)
            have j52 := ivf_sa j29 e50 rfl
            have f53 := frm_s f30 e50 rfl
            refine fun v54 gv54 e55 => ?_
            have b56 := ivf_at j52 2 rfl
            have q57 : v39 = v54 := (e55.trans ((congrFun (st_a e50 rfl) _).trans e46.symm)).symm
            subst q57
            refine fun v58 e59 => ?_
            refine And.intro (by omega) (fun A60 e61 => ?_)
            have i62 := iva_sf i51 e61 rfl
            have j63 := ivf_st j52 e61 (And.intro (by omega) trivial)
            have f64 := frm_sf f53 e61 rfl
            refine fun v65 e66 => ?_
            exact And.intro (by omega) (Exists.intro (8 - v65 : Int).toNat (And.intro (by omega) (And.intro i62 (And.intro j63 (And.intro f64 (And.intro rfl (And.intro (by omega) (And.intro (by omega) (And.intro (by omega) (by omega))))))))))
  · refine fun A5 e6 => ?_
    have i7 := iva_sf i0 e6 rfl
    have j8 := ivf_st j0 e6 (And.intro (by omega) trivial)
    have f9 := frm_sf f0 e6 rfl
    exact Exists.intro (8 - 0 : Int).toNat (And.intro i7 (And.intro j8 (And.intro f9 (And.intro rfl (And.intro (by omega) (And.intro (by omega) (And.intro (by omega) (by omega))))))))
def sC_dropsAt : qS := fun as A K => ∃ p : Int, as = [rf 44, ni p] ∧ (iva IC A ∧ ivf JC A) ∧ (∀ r : Int, (-1) ≤ r → r ≤ 99 → K (some (ni r)) A)
theorem okC_dropsAt : okM LC 2 93 sC_dropsAt := by
  refine qmeth [] false [(138, sC_within)] 17 rfl ⟨okC_within.le (by decide), trivial⟩ ?_
  rintro _ A K hA has ⟨p, rfl, ⟨i0, j0⟩, hK⟩
  have rg_p : rng p := has (ni p) (by simp)
  have f0 := frm_0 [] [] A
  refine ⟨Nat.le_of_ble_eq_true rfl, [], trivial, ?_⟩
  refine Exists.intro p (Exists.intro 3 (And.intro rfl (And.intro (fun h1 => ?_) (fun h1 => ?_))))
  · refine And.intro (fun h2 => by exfalso; omega) (fun h2 => ?_)
    refine And.intro (by omega) (fun v3 gv3 e4 => ?_)
    have b5 := iva_at i0 23 rfl (i := p) (by omega) (by omega)
    exact hK _ (by omega) (by omega)
  · refine And.intro (fun h6 => ?_) (fun h6 => by exfalso; omega)
    exact hK _ (by omega) (by omega)
def sC_arrive : qS := fun as A K => ∃ c t y to b : Int, as = [rf 68, ni c, ni t, ni y, ni to, ni b] ∧ (iva IC A ∧ ivf JC A ∧ 0 ≤ c ∧ c ≤ 7 ∧ 0 ≤ t ∧ t ≤ 2) ∧ (∀ A' : qA, iva IC A' → ivf JC A' → frm [69] [] A A' → K none A')
theorem okC_arrive : okM LC 1 81 sC_arrive := by
  refine qmeth [] true [] 39 rfl trivial ?_
  rintro _ A K hA has ⟨c, t, y, to, b, rfl, ⟨i0, j0, p1, p2, p3, p4⟩, hK⟩
  have rg_c : rng c := has (ni c) (by simp)
  have rg_t : rng t := has (ni t) (by simp)
  have rg_y : rng y := has (ni y) (by simp)
  have rg_to : rng to := has (ni to) (by simp)
  have rg_b : rng b := has (ni b) (by simp)
  have f0 := frm_0 [69] [] A
  refine ⟨Nat.le_of_ble_eq_true rfl, [], trivial, ?_⟩
  refine And.intro (fun h5 => ?_) (fun h5 => ?_)
  · refine And.intro (fun h6 => ?_) (fun h6 => ?_)
    · refine fun v7 e8 => ?_
      refine fun v9 e10 => ?_
      refine And.intro (by omega) (fun v11 gv11 e12 => ?_)
      refine fun v13 e14 => ?_
      have w17 := wI_rng v13
      refine And.intro (by omega) (fun A15 e16 => ?_)
      have i18 := iva_st i0 e16 trivial
      have j19 := ivf_sa j0 e16 rfl
      have f20 := frm_s f0 e16 rfl
      exact hK _ i18 j19 f20
    · refine And.intro (fun h21 => ?_) (fun h21 => ?_)
      · refine fun v22 e23 => ?_
        refine fun v24 e25 => ?_
        refine And.intro (by omega) (fun v26 gv26 e27 => ?_)
        refine fun v28 e29 => ?_
        have w32 := wI_rng v28
        refine And.intro (by omega) (fun A30 e31 => ?_)
        have i33 := iva_st i0 e31 trivial
        have j34 := ivf_sa j0 e31 rfl
        have f35 := frm_s f0 e31 rfl
        exact hK _ i33 j34 f35
      · refine fun v36 e37 => ?_
        refine fun v38 e39 => ?_
        refine And.intro (by omega) (fun v40 gv40 e41 => ?_)
        refine fun v42 e43 => ?_
        have w46 := wI_rng v42
        refine And.intro (by omega) (fun A44 e45 => ?_)
        have i47 := iva_st i0 e45 trivial
        have j48 := ivf_sa j0 e45 rfl
        have f49 := frm_s f0 e45 rfl
        exact hK _ i47 j48 f49
  · refine fun v50 e51 => ?_
    refine fun v52 e53 => ?_
    have h54 := ia_bd (a := v50) (b := 1) (by omega) (by omega)
    refine And.intro (fun h55 => ?_) (fun h55 => ?_)
    · refine And.intro (fun h56 => ?_) (fun h56 => by exfalso; omega)
      refine fun v57 e58 => ?_
      refine fun v59 e60 => ?_
      refine And.intro (by omega) (fun v61 gv61 e62 => ?_)
      refine fun v63 e64 => ?_
      have w67 := wI_rng v63
      refine And.intro (by omega) (fun A65 e66 => ?_)
      have i68 := iva_st i0 e66 trivial
      have j69 := ivf_sa j0 e66 rfl
      have f70 := frm_s f0 e66 rfl
      exact hK _ i68 j69 f70
    · refine And.intro (fun h71 => by exfalso; omega) (fun h71 => ?_)
      refine And.intro (fun h72 => ?_) (fun h72 => ?_)
      · refine fun v73 e74 => ?_
        refine fun v75 e76 => ?_
        refine And.intro (by omega) (fun v77 gv77 e78 => ?_)
        refine fun v79 e80 => ?_
        have w83 := wI_rng v79
        refine And.intro (by omega) (fun A81 e82 => ?_)
        have i84 := iva_st i0 e82 trivial
        have j85 := ivf_sa j0 e82 rfl
        have f86 := frm_s f0 e82 rfl
        exact hK _ i84 j85 f86
      · refine fun v87 e88 => ?_
        refine fun v89 e90 => ?_
        refine And.intro (by omega) (fun v91 gv91 e92 => ?_)
        refine fun v93 e94 => ?_
        have w97 := wI_rng v93
        refine And.intro (by omega) (fun A95 e96 => ?_)
        have i98 := iva_st i0 e96 trivial
        have j99 := ivf_sa j0 e96 rfl
        have f100 := frm_s f0 e96 rfl
        exact hK _ i98 j99 f100
def sC_cancel : qS := fun as A K => ∃ x : Int, as = [rf 68, ni x] ∧ (iva IC A ∧ ivf JC A ∧ 0 ≤ x ∧ x ≤ 12) ∧ (∀ A' : qA, iva IC A' → ivf JC A' → frm [] [(68, 2), (68, 3)] A A' → K none A')
theorem okC_cancel : okM LC 1 82 sC_cancel := by
  refine qmeth [] true [] 31 rfl trivial ?_
  rintro _ A K hA has ⟨x, rfl, ⟨i0, j0, p1, p2⟩, hK⟩
  have rg_x : rng x := has (ni x) (by simp)
  have f0 := frm_0 [] [(68, 2), (68, 3)] A
  refine ⟨Nat.le_of_ble_eq_true rfl, [(2, [(0, 2, 68), (1, 0, 0), (2, 0, 0)], fun zs B nn => match zs with | [l1, i] => iva IC B ∧ ivf JC B ∧ frm [] [(68, 2), (68, 3)] A B ∧ nn = (12 - i : Int).toNat ∧ (l1 = x) ∧ (0 ≤ i) ∧ (i ≤ 12) | _ => False)], ?_, ?_⟩
  · refine ⟨⟨rfl, ?_⟩, trivial⟩
    · refine fun l1 i B mm hB hz hI => ?_
      obtain ⟨i1, j1, f1, hm, c0, c1, c2⟩ := hI
      obtain ⟨hz_l1, hz_i, _⟩ := hz
      refine And.intro (fun h3 => ?_) (fun h3 => ?_)
      · exact hK _ i1 j1 f1
      · refine fun v4 gv4 e5 => ?_
        refine And.intro (by omega) (fun v6 e7 => ?_)
        have h8 := qm_bd (a := v4) (b := 3) (by omega)
        refine And.intro (fun h9 => ?_) (fun h9 => ?_)
        · exact hK _ i1 j1 f1
        · refine fun v10 gv10 e11 => ?_
          have q12 : v4 = v10 := (e11.trans e5.symm).symm
          subst q12
          refine And.intro (by omega) (fun v13 e14 => ?_)
          have h15 := qd_bd (a := v4) (b := 3) (lo := (-2147483648)) (hi := 2147483647) (by omega) (by omega) (by omega) (by omega) (by omega)
          have w18 := wI_rng v13
          have w19 : wI v13 = v13 := wI_id (by omega)
          refine fun A16 e17 => ?_
          have i20 := iva_sf i1 e17 rfl
          have j21 := ivf_st j1 e17 trivial
          have f22 := frm_sf f1 e17 rfl
          refine fun v23 gv23 e24 => ?_
          refine And.intro (by omega) (fun v25 e26 => ?_)
          have h27 := qd_bd (a := v23) (b := 3) (lo := (-2147483648)) (hi := 2147483647) (by omega) (by omega) (by omega) (by omega) (by omega)
          have w30 := wI_rng v25
          have w31 : wI v25 = v25 := wI_id (by omega)
          refine fun A28 e29 => ?_
          have i32 := iva_sf i20 e29 rfl
          have j33 := ivf_st j21 e29 trivial
          have f34 := frm_sf f22 e29 rfl
          refine fun v35 e36 => ?_
          have w37 := wI_rng v35
          have w38 : wI v35 = v35 := wI_id (by omega)
          exact Exists.intro (12 - ((wI v35)) : Int).toNat (And.intro (by omega) (And.intro i32 (And.intro j33 (And.intro f34 (And.intro rfl (And.intro (by omega) (And.intro (by omega) (by omega))))))))
  · exact Exists.intro (12 - 0 : Int).toNat (And.intro i0 (And.intro j0 (And.intro f0 (And.intro rfl (And.intro (by omega) (And.intro (by omega) (by omega)))))))
def sC_fly : qS := fun as A K => ∃ f to b x : Int, as = [rf 68, ni f, ni to, ni b, ni x] ∧ (iva IC A ∧ ivf JC A ∧ 0 ≤ f ∧ f ≤ 7 ∧ 0 ≤ x ∧ x ≤ 12) ∧ (∀ A' : qA, iva IC A' → ivf JC A' → frm [69, 70] [(68, 2), (68, 3)] A A' → K none A')
theorem okC_fly : okM LC 2 80 sC_fly := by
  refine qmeth [] true [(250, sC_fill69), (81, sC_arrive), (82, sC_cancel)] 127 rfl ⟨okC_fill69.le (by decide), ⟨okC_arrive.le (by decide), ⟨okC_cancel.le (by decide), trivial⟩⟩⟩ ?_
  rintro _ A K hA has ⟨f, to, b, x, rfl, ⟨i0, j0, p1, p2, p3, p4⟩, hK⟩
  have rg_f : rng f := has (ni f) (by simp)
  have rg_to : rng to := has (ni to) (by simp)
  have rg_b : rng b := has (ni b) (by simp)
  have rg_x : rng x := has (ni x) (by simp)
  have f0 := frm_0 [69, 70] [(68, 2), (68, 3)] A
  refine ⟨Nat.le_of_ble_eq_true rfl, [(16, [(0, 2, 68), (2, 0, 0), (3, 0, 0), (4, 0, 0), (5, 0, 0)], fun zs B nn => match zs with | [l2, l3, l4, i] => iva IC B ∧ ivf JC B ∧ frm [69, 70] [(68, 2), (68, 3)] A B ∧ nn = ((12 - i) * 100 + 1099 : Int).toNat ∧ (l2 = to) ∧ (l3 = b) ∧ (l4 = x) ∧ (0 ≤ i) ∧ (i ≤ 12) | _ => False), (99, [(0, 2, 68), (4, 0, 0), (5, 0, 0)], fun zs B nn => match zs with | [l4, k] => iva IC B ∧ ivf JC B ∧ frm [69, 70] [(68, 2), (68, 3)] A B ∧ nn = (8 - k : Int).toNat ∧ (l4 = x) ∧ (0 ≤ k) ∧ (k ≤ 8) | _ => False), (33, [(0, 2, 68), (2, 0, 0), (3, 0, 0), (4, 0, 0), (5, 0, 0), (6, 0, 0)], fun zs B nn => match zs with | [l2, l3, l4, i, k] => iva IC B ∧ ivf JC B ∧ frm [69, 70] [(68, 2), (68, 3)] A B ∧ nn = ((12 - i) * 100 + 1024 - k : Int).toNat ∧ (l2 = to) ∧ (l3 = b) ∧ (l4 = x) ∧ (0 ≤ i) ∧ (i ≤ 11) ∧ (0 ≤ k) ∧ (k ≤ 24) | _ => False)], ?_, ?_⟩
  · refine ⟨⟨rfl, ?_⟩, ⟨rfl, ?_⟩, ⟨rfl, ?_⟩, trivial⟩
    · refine fun l2 l3 l4 i B mm hB hz hI => ?_
      obtain ⟨i1, j1, f1, hm, c0, c1, c2, c3, c4⟩ := hI
      obtain ⟨hz_l2, hz_l3, hz_l4, hz_i, _⟩ := hz
      refine And.intro (fun h20 => ?_) (fun h20 => ?_)
      · refine fun A21 e22 => ?_
        have i23 := iva_sf i1 e22 rfl
        have j24 := ivf_st j1 e22 trivial
        have f25 := frm_sf f1 e22 rfl
        exact Exists.intro (8 - 0 : Int).toNat (And.intro (by omega) (And.intro i23 (And.intro j24 (And.intro f25 (And.intro rfl (And.intro (by omega) (And.intro (by omega) (by omega))))))))
      · refine And.intro (by omega) (fun A26 e27 => ?_)
        have i28 := iva_cp i1 e27 (fun i h0 h1 => trivial)
        have j29 := ivf_cp j1 e27 rfl
        have f30 := frm_cp f1 e27 rfl
        refine Exists.intro 0 (And.intro rfl (And.intro (And.intro i28 j29) (fun A31 i32 j33 f34 => ?_)))
        have f35 := frm_c f30 f34 rfl
        exact Exists.intro ((12 - i) * 100 + 1024 - 0 : Int).toNat (And.intro (by omega) (And.intro i32 (And.intro j33 (And.intro f35 (And.intro rfl (And.intro (by omega) (And.intro (by omega) (And.intro (by omega) (And.intro (by omega) (And.intro (by omega) (And.intro (by omega) (by omega))))))))))))
    · refine fun l4 k B mm hB hz hI => ?_
      obtain ⟨i1, j1, f1, hm, c0, c1, c2⟩ := hI
      obtain ⟨hz_l4, hz_k, _⟩ := hz
      refine And.intro (fun h36 => ?_) (fun h36 => ?_)
      · refine Exists.intro l4 (And.intro rfl (And.intro (And.intro i1 (And.intro j1 (And.intro (by omega) (by omega)))) (fun A37 i38 j39 f40 => ?_)))
        have f41 := frm_c f1 f40 rfl
        exact hK _ i38 j39 f41
      · refine fun v42 gv42 e43 => ?_
        refine fun v44 e45 => ?_
        refine fun v46 e47 => ?_
        refine And.intro (by omega) (fun v48 gv48 e49 => ?_)
        refine fun v50 e51 => ?_
        have w54 := wI_rng v50
        refine fun A52 e53 => ?_
        have i55 := iva_sf i1 e53 rfl
        have j56 := ivf_st j1 e53 trivial
        have f57 := frm_sf f1 e53 rfl
        refine fun v58 e59 => ?_
        have w60 := wI_rng v58
        have w61 : wI v58 = v58 := wI_id (by omega)
        exact Exists.intro (8 - ((wI v58)) : Int).toNat (And.intro (by omega) (And.intro i55 (And.intro j56 (And.intro f57 (And.intro rfl (And.intro (by omega) (And.intro (by omega) (by omega))))))))
    · refine fun l2 l3 l4 i k B mm hB hz hI => ?_
      obtain ⟨i1, j1, f1, hm, c0, c1, c2, c3, c4, c5, c6⟩ := hI
      obtain ⟨hz_l2, hz_l3, hz_l4, hz_i, hz_k, _⟩ := hz
      refine And.intro (fun h62 => ?_) (fun h62 => ?_)
      · refine fun v63 gv63 e64 => ?_
        refine fun v65 e66 => ?_
        have w69 := wI_rng v65
        refine fun A67 e68 => ?_
        have i70 := iva_sf i1 e68 rfl
        have j71 := ivf_st j1 e68 trivial
        have f72 := frm_sf f1 e68 rfl
        refine fun v73 e74 => ?_
        have w75 := wI_rng v73
        have w76 : wI v73 = v73 := wI_id (by omega)
        exact Exists.intro ((12 - ((wI v73))) * 100 + 1099 : Int).toNat (And.intro (by omega) (And.intro i70 (And.intro j71 (And.intro f72 (And.intro rfl (And.intro (by omega) (And.intro (by omega) (And.intro (by omega) (And.intro (by omega) (by omega))))))))))
      · refine And.intro (by omega) (fun v77 e78 => ?_)
        have h79 := qd_nn (a := k) (b := 3) (by omega)
        refine fun v80 e81 => ?_
        have w84 := wI_rng v80
        have w85 : wI v80 = v80 := wI_id (by omega)
        refine (fun v82 e83 => ?_)
        refine And.intro (by omega) (fun v86 e87 => ?_)
        have h88 := qm_nn (a := k) (b := 3) (by omega)
        refine And.intro (by omega) (fun v89 gv89 e90 => ?_)
        refine Exists.intro v82 (Exists.intro v86 (Exists.intro v89 (Exists.intro l2 (Exists.intro l3 (And.intro rfl (And.intro (And.intro i1 (And.intro j1 (And.intro (by omega) (And.intro (by omega) (And.intro (by omega) (by omega)))))) (fun A91 i92 j93 f94 => ?_)))))))
        have f95 := frm_c f1 f94 rfl
        refine And.intro (by omega) (fun v96 e97 => ?_)
        have h98 := qm_nn (a := k) (b := 3) (by omega)
        refine And.intro (by omega) (fun v99 gv99 e100 => ?_)
        have q101 : v89 = v99 := (e100.trans ((congrFun (frm_a f94 rfl) _).trans e90.symm)).symm
        subst q101
        have w102 := wI_rng v77
        have w103 : wI v77 = v77 := wI_id (by omega)
        refine Exists.intro (wI v77) (Exists.intro v96 (Exists.intro v89 (Exists.intro l2 (Exists.intro l3 (And.intro rfl (And.intro (And.intro i92 (And.intro j93 (And.intro (by omega) (And.intro (by omega) (And.intro (by omega) (by omega)))))) (fun A104 i105 j106 f107 => ?_)))))))
        have f108 := frm_c f95 f107 rfl
        refine fun v109 e110 => ?_
        have w113 := wI_rng v109
        have w114 : wI v109 = v109 := wI_id (by omega)
        refine (fun v111 e112 => ?_)
        refine And.intro (by omega) (fun v115 e116 => ?_)
        have h117 := qm_nn (a := k) (b := 3) (by omega)
        refine And.intro (by omega) (fun v118 gv118 e119 => ?_)
        have q120 : v89 = v118 := (e119.trans ((congrFun (frm_a f107 rfl) _).trans e100.symm)).symm
        subst q120
        refine Exists.intro v111 (Exists.intro v115 (Exists.intro v89 (Exists.intro l2 (Exists.intro l3 (And.intro rfl (And.intro (And.intro i105 (And.intro j106 (And.intro (by omega) (And.intro (by omega) (And.intro (by omega) (by omega)))))) (fun A121 i122 j123 f124 => ?_)))))))
        have f125 := frm_c f108 f124 rfl
        refine fun v126 e127 => ?_
        have w128 := wI_rng v126
        have w129 : wI v126 = v126 := wI_id (by omega)
        exact Exists.intro ((12 - i) * 100 + 1024 - ((wI v126)) : Int).toNat (And.intro (by omega) (And.intro i122 (And.intro j123 (And.intro f125 (And.intro rfl (And.intro (by omega) (And.intro (by omega) (And.intro (by omega) (And.intro (by omega) (And.intro (by omega) (And.intro (by omega) (by omega))))))))))))
  · refine Exists.intro 0 (And.intro rfl (And.intro (And.intro i0 j0) (fun A5 i6 j7 f8 => ?_)))
    have f9 := frm_c f0 f8 rfl
    refine Exists.intro f (Exists.intro 0 (Exists.intro 1 (Exists.intro to (Exists.intro b (And.intro rfl (And.intro (And.intro i6 (And.intro j7 (And.intro (by omega) (And.intro (by omega) (And.intro (by omega) (by omega)))))) (fun A10 i11 j12 f13 => ?_)))))))
    have f14 := frm_c f9 f13 rfl
    refine fun A15 e16 => ?_
    have i17 := iva_sf i11 e16 rfl
    have j18 := ivf_st j12 e16 trivial
    have f19 := frm_sf f14 e16 rfl
    exact Exists.intro ((12 - 0) * 100 + 1099 : Int).toNat (And.intro i17 (And.intro j18 (And.intro f19 (And.intro rfl (And.intro (by omega) (And.intro (by omega) (And.intro (by omega) (And.intro (by omega) (by omega)))))))))
end
section
def sC_isTold : qS := fun as A K => ∃ x c : Int, as = [nl x, ni c] ∧ (∀ r : Int, 0 ≤ r → r ≤ 1 → K (some (ni r)) A)
theorem okC_isTold : okM LC 1 142 sC_isTold := by
  refine qmeth [] false [] 18 rfl trivial ?_
  rintro _ A K hA has ⟨x, c, rfl, hK⟩
  have rg_x : rngL x := has (nl x) (by simp)
  have rg_c : rng c := has (ni c) (by simp)
  refine ⟨Nat.le_of_ble_eq_true rfl, [], trivial, ?_⟩
  refine fun v1 e2 => ?_
  refine fun (v3 : Int) (e4 : v3 = 1) => ?_
  refine fun v5 e6 => ?_
  refine fun (v7 : Int) (e8 : v7 = 0) => ?_
  refine fun v9 e10 => ?_
  refine And.intro (fun h11 => ?_) (fun h11 => ?_)
  · exact And.intro (by omega) (hK _ (by omega) (by omega))
  · exact And.intro (by omega) (hK _ (by omega) (by omega))
def sC_toldCells : qS := fun as A K => ∃ x t : Int, as = [nl x, ni t] ∧ (∀ r : Int, rng r → K (some (ni r)) A)
theorem okC_toldCells : okM LC 2 143 sC_toldCells := by
  refine qmeth [] true [(249, sC_bitsL)] 22 rfl ⟨okC_bitsL.le (by decide), trivial⟩ ?_
  rintro _ A K hA has ⟨x, t, rfl, hK⟩
  have rg_x : rngL x := has (nl x) (by simp)
  have rg_t : rng t := has (ni t) (by simp)
  refine ⟨Nat.le_of_ble_eq_true rfl, [], trivial, ?_⟩
  refine Exists.intro x (And.intro rfl (fun r1 g2 => ?_))
  refine fun v3 e4 => ?_
  refine fun (v5 : Int) (e6 : v5 = 0) => ?_
  refine fun v7 e8 => ?_
  refine And.intro (fun h9 => ?_) (fun h9 => ?_)
  · exact hK _ (by first | exact wI_rng _ | omega | (exact (hA _ _).2 rfl))
  · refine And.intro (fun h10 => ?_) (fun h10 => ?_)
    · exact hK _ (by first | exact wI_rng _ | omega | (exact (hA _ _).2 rfl))
    · exact hK _ (by first | exact wI_rng _ | omega | (exact (hA _ _).2 rfl))
def sC_hoursBetween : qS := fun as A K => ∃ a b : Int, as = [ni a, ni b] ∧ (0 ≤ a ∧ a ≤ 47 ∧ 0 ≤ b ∧ b ≤ 47) ∧ (∀ r : Int, 0 ≤ r → r ≤ 19 → K (some (ni r)) A)
theorem okC_hoursBetween : okM LC 1 65 sC_hoursBetween := by
  refine qmeth [] false [] 26 rfl trivial ?_
  rintro _ A K hA has ⟨a, b, rfl, ⟨p1, p2, p3, p4⟩, hK⟩
  have rg_a : rng a := has (ni a) (by simp)
  have rg_b : rng b := has (ni b) (by simp)
  refine ⟨Nat.le_of_ble_eq_true rfl, [], trivial, ?_⟩
  refine And.intro (by omega) (fun v5 e6 => ?_)
  have h7 := qd_nn (a := a) (b := 6) (by omega)
  refine And.intro (by omega) (fun v8 e9 => ?_)
  have h10 := qd_nn (a := b) (b := 6) (by omega)
  refine fun v11 e12 => ?_
  refine And.intro (by omega) ((And.intro (by omega) (fun v13 e14 => ?_)))
  have h15 := abs_bd v11
  rw [← e14] at h15
  refine fun v16 e17 => ?_
  refine And.intro (by omega) (fun v18 e19 => ?_)
  have h20 := qm_nn (a := a) (b := 6) (by omega)
  refine And.intro (by omega) (fun v21 e22 => ?_)
  have h23 := qm_nn (a := b) (b := 6) (by omega)
  refine fun v24 e25 => ?_
  refine And.intro (by omega) ((And.intro (by omega) (fun v26 e27 => ?_)))
  have h28 := abs_bd v24
  rw [← e27] at h28
  refine fun v29 e30 => ?_
  exact And.intro (by omega) (hK _ (by omega) (by omega))
def sC_tell : qS := fun as A K => ∃ x : Int, as = [rf 55, nl x] ∧ (iva IC A ∧ ivf JC A) ∧ (∀ A' : qA, iva IC A' → ivf JC A' → frm [56] [(55, 7)] A A' → K none A')
theorem okC_tell : okM LC 2 63 sC_tell := by
  refine qmeth [] false [(142, sC_isTold)] 37 rfl ⟨okC_isTold.le (by decide), trivial⟩ ?_
  rintro _ A K hA has ⟨x, rfl, ⟨i0, j0⟩, hK⟩
  have rg_x : rngL x := has (nl x) (by simp)
  have f0 := frm_0 [56] [(55, 7)] A
  refine ⟨Nat.le_of_ble_eq_true rfl, [(5, [(0, 2, 55), (1, 1, 0), (3, 0, 0)], fun zs B nn => match zs with | [l1, k] => iva IC B ∧ ivf JC B ∧ frm [56] [(55, 7)] A B ∧ nn = (48 - k : Int).toNat ∧ (l1 = x) ∧ (0 ≤ k) ∧ (k ≤ 48) | _ => False)], ?_, ?_⟩
  · refine ⟨⟨rfl, ?_⟩, trivial⟩
    · refine fun l1 k B mm hB hz hI => ?_
      obtain ⟨i1, j1, f1, hm, c0, c1, c2⟩ := hI
      obtain ⟨hz_l1, hz_k, _⟩ := hz
      refine And.intro (fun h6 => ?_) (fun h6 => ?_)
      · exact hK _ i1 j1 f1
      · refine Exists.intro l1 (Exists.intro k (And.intro rfl (fun r7 g8 g9 => ?_)))
        refine And.intro (fun h10 => ?_) (fun h10 => ?_)
        · refine fun v11 e12 => ?_
          exact And.intro (by omega) (Exists.intro (48 - v11 : Int).toNat (And.intro (by omega) (And.intro i1 (And.intro j1 (And.intro f1 (And.intro rfl (And.intro (by omega) (And.intro (by omega) (by omega)))))))))
        · refine fun v13 gv13 e14 => ?_
          have b15 := ivf_at j1 3 rfl
          refine And.intro (fun h16 => ?_) (fun h16 => ?_)
          · refine fun v17 e18 => ?_
            exact And.intro (by omega) (Exists.intro (48 - v17 : Int).toNat (And.intro (by omega) (And.intro i1 (And.intro j1 (And.intro f1 (And.intro rfl (And.intro (by omega) (And.intro (by omega) (by omega)))))))))
          · refine fun v19 gv19 e20 => ?_
            have b21 := ivf_at j1 3 rfl
            have q22 : v13 = v19 := (e20.trans e14.symm).symm
            subst q22
            refine And.intro (by omega) (fun A23 e24 => ?_)
            have i25 := iva_st i1 e24 (And.intro (by omega) trivial)
            have j26 := ivf_sa j1 e24 rfl
            have f27 := frm_s f1 e24 rfl
            refine fun v28 gv28 e29 => ?_
            have b30 := ivf_at j26 3 rfl
            have q31 : v13 = v28 := (e29.trans ((congrFun (st_a e24 rfl) _).trans e20.symm)).symm
            subst q31
            refine fun v32 e33 => ?_
            refine And.intro (by omega) (fun A34 e35 => ?_)
            have i36 := iva_sf i25 e35 rfl
            have j37 := ivf_st j26 e35 (And.intro (by omega) trivial)
            have f38 := frm_sf f27 e35 rfl
            refine fun v39 e40 => ?_
            exact And.intro (by omega) (Exists.intro (48 - v39 : Int).toNat (And.intro (by omega) (And.intro i36 (And.intro j37 (And.intro f38 (And.intro rfl (And.intro (by omega) (And.intro (by omega) (by omega)))))))))
  · refine fun A1 e2 => ?_
    have i3 := iva_sf i0 e2 rfl
    have j4 := ivf_st j0 e2 (And.intro (by omega) trivial)
    have f5 := frm_sf f0 e2 rfl
    exact Exists.intro (48 - 0 : Int).toNat (And.intro i3 (And.intro j4 (And.intro f5 (And.intro rfl (And.intro (by omega) (And.intro (by omega) (by omega)))))))
def sC_asWork : qS := fun as A K => ∃ c : Int, as = [rf 55, ni c] ∧ (iva IC A ∧ ivf JC A ∧ 0 ≤ c ∧ c ≤ 7) ∧ (∀ A' : qA, iva IC A' → ivf JC A' → frm [57, 58, 59, 60] [] A A' → K none A')
theorem okC_asWork : okM LC 2 64 sC_asWork := by
  refine qmeth [] false [(65, sC_hoursBetween)] 73 rfl ⟨okC_hoursBetween.le (by decide), trivial⟩ ?_
  rintro _ A K hA has ⟨c, rfl, ⟨i0, j0, p1, p2⟩, hK⟩
  have rg_c : rng c := has (ni c) (by simp)
  have f0 := frm_0 [57, 58, 59, 60] [] A
  refine ⟨Nat.le_of_ble_eq_true rfl, [(2, [(0, 2, 55), (1, 0, 0), (2, 0, 0)], fun zs B nn => match zs with | [l1, x] => iva IC B ∧ ivf JC B ∧ frm [57, 58, 59, 60] [] A B ∧ nn = ((8 - x) * 100 + 50 : Int).toNat ∧ (l1 = c) ∧ (0 ≤ x) ∧ (x ≤ 8) | _ => False), (8, [(0, 2, 55), (1, 0, 0), (2, 0, 0), (3, 0, 0)], fun zs B nn => match zs with | [l1, x, y] => iva IC B ∧ ivf JC B ∧ frm [57, 58, 59, 60] [] A B ∧ nn = ((8 - x) * 100 + 8 - y : Int).toNat ∧ (l1 = c) ∧ (0 ≤ x) ∧ (x ≤ 7) ∧ (0 ≤ y) ∧ (y ≤ 8) | _ => False)], ?_, ?_⟩
  · refine ⟨⟨rfl, ?_⟩, ⟨rfl, ?_⟩, trivial⟩
    · refine fun l1 x B mm hB hz hI => ?_
      obtain ⟨i1, j1, f1, hm, c0, c1, c2⟩ := hI
      obtain ⟨hz_l1, hz_x, _⟩ := hz
      refine fun v3 gv3 e4 => ?_
      have b5 := ivf_at j1 3 rfl
      refine And.intro (fun h6 => ?_) (fun h6 => ?_)
      · exact hK _ i1 j1 f1
      · exact Exists.intro ((8 - x) * 100 + 8 - 0 : Int).toNat (And.intro (by omega) (And.intro i1 (And.intro j1 (And.intro f1 (And.intro rfl (And.intro (by omega) (And.intro (by omega) (And.intro (by omega) (And.intro (by omega) (by omega))))))))))
    · refine fun l1 x y B mm hB hz hI => ?_
      obtain ⟨i1, j1, f1, hm, c0, c1, c2, c3, c4⟩ := hI
      obtain ⟨hz_l1, hz_x, hz_y, _⟩ := hz
      refine fun v7 gv7 e8 => ?_
      have b9 := ivf_at j1 3 rfl
      refine And.intro (fun h10 => ?_) (fun h10 => ?_)
      · refine fun v11 e12 => ?_
        refine fun v13 e14 => ?_
        refine And.intro (by omega) (fun v15 gv15 e16 => ?_)
        have b17 := iva_at i1 27 rfl (i := x) (by omega) (by omega)
        refine And.intro (by omega) (Exists.intro v13 (Exists.intro v15 (And.intro rfl (And.intro (And.intro (by omega) (And.intro (by omega) (And.intro (by omega) (by omega)))) (fun r18 g19 g20 => ?_)))))
        refine fun v21 e22 => ?_
        refine And.intro (by omega) (And.intro (by omega) (fun A23 e24 => ?_))
        have i25 := iva_st i1 e24 trivial
        have j26 := ivf_sa j1 e24 rfl
        have f27 := frm_s f1 e24 rfl
        refine And.intro (by omega) (fun A28 e29 => ?_)
        have i30 := iva_st i25 e29 (And.intro (by omega) trivial)
        have j31 := ivf_sa j26 e29 rfl
        have f32 := frm_s f27 e29 rfl
        refine And.intro (by omega) (fun A33 e34 => ?_)
        have i35 := iva_st i30 e34 (And.intro (by omega) trivial)
        have j36 := ivf_sa j31 e34 rfl
        have f37 := frm_s f32 e34 rfl
        refine And.intro (by omega) (fun A38 e39 => ?_)
        have i40 := iva_st i35 e39 trivial
        have j41 := ivf_sa j36 e39 rfl
        have f42 := frm_s f37 e39 rfl
        refine fun v43 e44 => ?_
        exact And.intro (by omega) (Exists.intro ((8 - v43) * 100 + 50 : Int).toNat (And.intro (by omega) (And.intro i40 (And.intro j41 (And.intro f42 (And.intro rfl (And.intro (by omega) (And.intro (by omega) (by omega)))))))))
      · refine fun v45 e46 => ?_
        refine fun v47 e48 => ?_
        refine And.intro (by omega) (fun v49 gv49 e50 => ?_)
        have b51 := iva_at i1 27 rfl (i := y) (by omega) (by omega)
        refine And.intro (by omega) (fun v52 gv52 e53 => ?_)
        have b54 := iva_at i1 27 rfl (i := x) (by omega) (by omega)
        refine Exists.intro v49 (Exists.intro v52 (And.intro rfl (And.intro (And.intro (by omega) (And.intro (by omega) (And.intro (by omega) (by omega)))) (fun r55 g56 g57 => ?_))))
        refine fun v58 e59 => ?_
        refine And.intro (by omega) (And.intro (by omega) (fun A60 e61 => ?_))
        have i62 := iva_st i1 e61 trivial
        have j63 := ivf_sa j1 e61 rfl
        have f64 := frm_s f1 e61 rfl
        refine fun v65 e66 => ?_
        exact And.intro (by omega) (Exists.intro ((8 - x) * 100 + 8 - v65 : Int).toNat (And.intro (by omega) (And.intro i62 (And.intro j63 (And.intro f64 (And.intro rfl (And.intro (by omega) (And.intro (by omega) (And.intro (by omega) (And.intro (by omega) (by omega)))))))))))
  · exact Exists.intro ((8 - 0) * 100 + 50 : Int).toNat (And.intro i0 (And.intro j0 (And.intro f0 (And.intro rfl (And.intro (by omega) (And.intro (by omega) (by omega)))))))
def sC_asMending : qS := fun as A K => as = [rf 55, rf 22] ∧ (iva IC A ∧ ivf JC A) ∧ (∀ A' : qA, iva IC A' → ivf JC A' → frm [57, 58, 59, 60] [] A A' → K none A')
theorem okC_asMending : okM LC 2 66 sC_asMending := by
  refine qmeth [] false [(250, sC_fill57)] 79 rfl ⟨okC_fill57.le (by decide), trivial⟩ ?_
  rintro _ A K hA has ⟨rfl, ⟨i0, j0⟩, hK⟩
  have f0 := frm_0 [57, 58, 59, 60] [] A
  refine ⟨Nat.le_of_ble_eq_true rfl, [(6, [(0, 2, 55), (1, 2, 22), (2, 0, 0)], fun zs B nn => match zs with | [x] => iva IC B ∧ ivf JC B ∧ frm [57, 58, 59, 60] [] A B ∧ nn = (8 - x : Int).toNat ∧ (0 ≤ x) ∧ (x ≤ 8) | _ => False)], ?_, ?_⟩
  · refine ⟨⟨rfl, ?_⟩, trivial⟩
    · refine fun x B mm hB hz hI => ?_
      obtain ⟨i1, j1, f1, hm, c0, c1⟩ := hI
      obtain ⟨hz_x, _⟩ := hz
      refine fun v6 gv6 e7 => ?_
      have b8 := ivf_at j1 3 rfl
      refine And.intro (fun h9 => ?_) (fun h9 => ?_)
      · exact hK _ i1 j1 f1
      · refine And.intro (by omega) (fun v10 gv10 e11 => ?_)
        have b12 := iva_at i1 27 rfl (i := x) (by omega) (by omega)
        refine And.intro (by omega) (fun v13 e14 => ?_)
        have h15 := qm_nn (a := v10) (b := 6) (by omega)
        refine And.intro (by omega) (fun v16 gv16 e17 => ?_)
        have b18 := iva_at i1 27 rfl (i := x) (by omega) (by omega)
        have q19 : v10 = v16 := (e17.trans e11.symm).symm
        subst q19
        refine And.intro (by omega) (fun v20 e21 => ?_)
        have h22 := qd_nn (a := v10) (b := 6) (by omega)
        refine And.intro (by omega) (fun v23 gv23 e24 => ?_)
        have b25 := iva_at i1 16 rfl (i := v20) (by omega) (by omega)
        refine And.intro (by omega) (fun A26 e27 => ?_)
        have i28 := iva_st i1 e27 (And.intro (by omega) trivial)
        have j29 := ivf_sa j1 e27 rfl
        have f30 := frm_s f1 e27 rfl
        refine fun v31 e32 => ?_
        refine And.intro (by omega) (And.intro (by omega) (fun A33 e34 => ?_))
        have i35 := iva_st i28 e34 (And.intro (by omega) trivial)
        have j36 := ivf_sa j29 e34 rfl
        have f37 := frm_s f30 e34 rfl
        refine And.intro (fun h38 => ?_) (fun h38 => ?_)
        · refine And.intro (fun h39 => ?_) (fun h39 => by exfalso; omega)
          refine And.intro (by omega) (fun A40 e41 => ?_)
          have i42 := iva_st i35 e41 trivial
          have j43 := ivf_sa j36 e41 rfl
          have f44 := frm_s f37 e41 rfl
          refine fun v45 e46 => ?_
          exact And.intro (by omega) (Exists.intro (8 - v45 : Int).toNat (And.intro (by omega) (And.intro i42 (And.intro j43 (And.intro f44 (And.intro rfl (And.intro (by omega) (by omega))))))))
        · refine And.intro (fun h47 => ?_) (fun h47 => ?_)
          · refine And.intro (fun h48 => ?_) (fun h48 => by exfalso; omega)
            refine And.intro (by omega) (fun A49 e50 => ?_)
            have i51 := iva_st i35 e50 trivial
            have j52 := ivf_sa j36 e50 rfl
            have f53 := frm_s f37 e50 rfl
            refine fun v54 e55 => ?_
            exact And.intro (by omega) (Exists.intro (8 - v54 : Int).toNat (And.intro (by omega) (And.intro i51 (And.intro j52 (And.intro f53 (And.intro rfl (And.intro (by omega) (by omega))))))))
          · refine fun v56 e57 => ?_
            refine And.intro (by omega) (fun v58 gv58 e59 => ?_)
            have b60 := iva_at i35 27 rfl (i := v56) (by omega) (by omega)
            refine And.intro (by omega) (fun v61 gv61 e62 => ?_)
            have b63 := iva_at i35 27 rfl (i := x) (by omega) (by omega)
            have q64 : v10 = v61 := (e62.trans ((congrFun (Eq.trans (st_a e34 rfl) (st_a e27 rfl)) _).trans e17.symm)).symm
            subst q64
            refine fun v65 e66 => ?_
            refine And.intro (by omega) (And.intro (fun h67 => ?_) (fun h67 => ?_))
            · refine And.intro (fun h68 => ?_) (fun h68 => by exfalso; omega)
              refine And.intro (by omega) (fun A69 e70 => ?_)
              have i71 := iva_st i35 e70 trivial
              have j72 := ivf_sa j36 e70 rfl
              have f73 := frm_s f37 e70 rfl
              refine fun v74 e75 => ?_
              exact And.intro (by omega) (Exists.intro (8 - v74 : Int).toNat (And.intro (by omega) (And.intro i71 (And.intro j72 (And.intro f73 (And.intro rfl (And.intro (by omega) (by omega))))))))
            · refine And.intro (fun h76 => by exfalso; omega) (fun h76 => ?_)
              refine fun v77 e78 => ?_
              refine fun v79 e80 => ?_
              have h81 := sl_bd (b := v77) 6 (by decide) (by omega) (by omega)
              refine And.intro (by omega) (fun A82 e83 => ?_)
              have i84 := iva_st i35 e83 trivial
              have j85 := ivf_sa j36 e83 rfl
              have f86 := frm_s f37 e83 rfl
              refine fun v87 e88 => ?_
              exact And.intro (by omega) (Exists.intro (8 - v87 : Int).toNat (And.intro (by omega) (And.intro i84 (And.intro j85 (And.intro f86 (And.intro rfl (And.intro (by omega) (by omega))))))))
  · refine Exists.intro 0 (And.intro rfl (And.intro (And.intro i0 j0) (fun A1 i2 j3 f4 => ?_)))
    have f5 := frm_c f0 f4 rfl
    exact Exists.intro (8 - 0 : Int).toNat (And.intro i2 (And.intro j3 (And.intro f5 (And.intro rfl (And.intro (by omega) (by omega))))))
def sC_spentOn : qS := fun as A K => ∃ d : Int, as = [rf 55, ni d] ∧ (iva IC A ∧ ivf JC A ∧ 0 ≤ d ∧ d ≤ 255) ∧ (∀ r : Int, rng r → K (some (ni r)) A)
theorem okC_spentOn : okM LC 1 68 sC_spentOn := by
  refine qmeth [] true [] 31 rfl trivial ?_
  rintro _ A K hA has ⟨d, rfl, ⟨i0, j0, p1, p2⟩, hK⟩
  have rg_d : rng d := has (ni d) (by simp)
  have f0 := frm_0 [] [] A
  refine ⟨Nat.le_of_ble_eq_true rfl, [(4, [(0, 2, 55), (1, 0, 0), (2, 0, 0), (3, 0, 0)], fun zs B nn => match zs with | [l1, s, k] => A = B ∧ nn = (8 - k : Int).toNat ∧ (l1 = d) ∧ (0 ≤ k) ∧ (k ≤ 8) | _ => False)], ?_, ?_⟩
  · refine ⟨⟨rfl, ?_⟩, trivial⟩
    · refine fun l1 s k B mm hB hz hI => ?_
      obtain ⟨rfl, hm, c0, c1, c2⟩ := hI
      obtain ⟨hz_l1, hz_s, hz_k, _⟩ := hz
      refine fun v3 gv3 e4 => ?_
      have b5 := ivf_at j0 3 rfl
      refine And.intro (fun h6 => ?_) (fun h6 => ?_)
      · exact hK _ (by first | exact wI_rng _ | omega | (exact (hA _ _).2 rfl))
      · refine fun v7 e8 => ?_
        have h9 := sr_bd (a := l1) (b := k) (by omega) (by omega)
        refine fun v10 e11 => ?_
        have h12 := ia_bd (a := v7) (b := 1) (by omega) (by omega)
        refine And.intro (fun h13 => ?_) (fun h13 => ?_)
        · refine fun v14 e15 => ?_
          have w16 := wI_rng v14
          have w17 : wI v14 = v14 := wI_id (by omega)
          exact Exists.intro (8 - ((wI v14)) : Int).toNat (And.intro (by omega) (And.intro rfl (And.intro rfl (And.intro (by omega) (And.intro (by omega) (by omega))))))
        · refine And.intro (by omega) (fun v18 gv18 e19 => ?_)
          have b20 := iva_at i0 29 rfl (i := k) (by omega) (by omega)
          refine fun v21 e22 => ?_
          refine fun v23 e24 => ?_
          have w25 := wI_rng v21
          have w26 := wI_rng v23
          have w27 : wI v23 = v23 := wI_id (by omega)
          exact Exists.intro (8 - ((wI v23)) : Int).toNat (And.intro (by omega) (And.intro rfl (And.intro rfl (And.intro (by omega) (And.intro (by omega) (by omega))))))
  · exact Exists.intro (8 - 0 : Int).toNat (And.intro rfl (And.intro rfl (And.intro (by omega) (And.intro (by omega) (by omega)))))
def sC_costVia : qS := fun as A K => ∃ d l k s : Int, as = [rf 55, ni d, ni l, ni k, ni s] ∧ (iva IC A ∧ ivf JC A ∧ 0 ≤ d ∧ d ≤ 255 ∧ 0 ≤ l ∧ l ≤ 8 ∧ 0 ≤ k ∧ k ≤ 7) ∧ (∀ r : Int, rng r → K (some (ni r)) A)
theorem okC_costVia : okM LC 1 70 sC_costVia := by
  refine qmeth [] true [] 59 rfl trivial ?_
  rintro _ A K hA has ⟨d, l, k, s, rfl, ⟨i0, j0, p1, p2, p3, p4, p5, p6⟩, hK⟩
  have rg_d : rng d := has (ni d) (by simp)
  have rg_l : rng l := has (ni l) (by simp)
  have rg_k : rng k := has (ni k) (by simp)
  have rg_s : rng s := has (ni s) (by simp)
  have f0 := frm_0 [] [] A
  refine ⟨Nat.le_of_ble_eq_true rfl, [], trivial, ?_⟩
  refine fun v7 e8 => ?_
  have h9 := sr_bd (a := d) (b := k) (by omega) (by omega)
  refine fun v10 e11 => ?_
  have h12 := ia_bd (a := v7) (b := 1) (by omega) (by omega)
  refine And.intro (fun h13 => ?_) (fun h13 => ?_)
  · have k14 : qn 1000000000 = 1000000000 := by decide
    exact hK _ (by first | exact wI_rng _ | omega | (exact (hA _ _).2 rfl))
  · refine And.intro (by omega) (fun v15 gv15 e16 => ?_)
    refine fun v17 e18 => ?_
    refine fun v19 e20 => ?_
    refine And.intro (fun h22 => ?_) (fun h22 => ?_)
    · refine fun v23 e24 => ?_
      refine fun v25 e26 => ?_
      refine And.intro (by omega) (fun v27 gv27 e28 => ?_)
      refine And.intro (by omega) (fun v29 gv29 e30 => ?_)
      have b31 := iva_at i0 28 rfl (i := k) (by omega) (by omega)
      refine And.intro (by omega) (fun v32 gv32 e33 => ?_)
      have b34 := iva_at i0 29 rfl (i := k) (by omega) (by omega)
      refine fun v35 e36 => ?_
      refine fun v37 e38 => ?_
      refine fun v39 e40 => ?_
      refine fun v41 e42 => ?_
      have h43 := sl_bd (b := k) 7 (by decide) (by omega) (by omega)
      refine fun v44 e45 => ?_
      have h46 := io_bd (a := d) (b := v41) 8 (by decide) (by omega) (by omega) (by omega) (by omega)
      refine fun v47 e48 => ?_
      refine fun v49 e50 => ?_
      refine And.intro (by omega) (fun v51 gv51 e52 => ?_)
      refine fun v53 e54 => ?_
      have w55 := wI_rng v53
      exact hK _ (by first | exact wI_rng _ | omega | (exact (hA _ _).2 rfl))
    · have k56 : qn 1000000000 = 1000000000 := by decide
      exact hK _ (by first | exact wI_rng _ | omega | (exact (hA _ _).2 rfl))
def sC_leastOnward : qS := fun as A K => ∃ d l s : Int, as = [rf 55, ni d, ni l, ni s] ∧ (iva IC A ∧ ivf JC A ∧ 0 ≤ d ∧ d ≤ 255 ∧ 0 ≤ l ∧ l ≤ 8) ∧ (∀ r : Int, rng r → K (some (ni r)) A)
theorem okC_leastOnward : okM LC 2 69 sC_leastOnward := by
  refine qmeth [] true [(70, sC_costVia)] 27 rfl ⟨okC_costVia.le (by decide), trivial⟩ ?_
  rintro _ A K hA has ⟨d, l, s, rfl, ⟨i0, j0, p1, p2, p3, p4⟩, hK⟩
  have rg_d : rng d := has (ni d) (by simp)
  have rg_l : rng l := has (ni l) (by simp)
  have rg_s : rng s := has (ni s) (by simp)
  have f0 := frm_0 [] [] A
  refine ⟨Nat.le_of_ble_eq_true rfl, [(4, [(0, 2, 55), (1, 0, 0), (2, 0, 0), (3, 0, 0), (4, 0, 0), (5, 0, 0)], fun zs B nn => match zs with | [l1, l2, l3, b, k] => A = B ∧ nn = (8 - k : Int).toNat ∧ (l1 = d) ∧ (l2 = l) ∧ (l3 = s) ∧ (0 ≤ k) ∧ (k ≤ 8) | _ => False)], ?_, ?_⟩
  · refine ⟨⟨rfl, ?_⟩, trivial⟩
    · refine fun l1 l2 l3 b k B mm hB hz hI => ?_
      obtain ⟨rfl, hm, c0, c1, c2, c3, c4⟩ := hI
      obtain ⟨hz_l1, hz_l2, hz_l3, hz_b, hz_k, _⟩ := hz
      refine fun v6 gv6 e7 => ?_
      have b8 := ivf_at j0 3 rfl
      refine And.intro (fun h9 => ?_) (fun h9 => ?_)
      · exact hK _ (by first | exact wI_rng _ | omega | (exact (hA _ _).2 rfl))
      · refine Exists.intro l1 (Exists.intro l2 (Exists.intro k (Exists.intro l3 (And.intro rfl (And.intro (And.intro i0 (And.intro j0 (And.intro (by omega) (And.intro (by omega) (And.intro (by omega) (And.intro (by omega) (And.intro (by omega) (by omega)))))))) (fun r10 g11 => ?_))))))
        refine (fun v12 e13 => ?_)
        refine fun v14 e15 => ?_
        have w16 := wI_rng v14
        have w17 : wI v14 = v14 := wI_id (by omega)
        exact Exists.intro (8 - ((wI v14)) : Int).toNat (And.intro (by omega) (And.intro rfl (And.intro rfl (And.intro (by omega) (And.intro (by omega) (And.intro (by omega) (And.intro (by omega) (by omega))))))))
  · have k5 : qn 1000000000 = 1000000000 := by decide
    exact Exists.intro (8 - 0 : Int).toNat (And.intro rfl (And.intro rfl (And.intro (by omega) (And.intro (by omega) (And.intro (by omega) (And.intro (by omega) (by omega)))))))
def sC_findRow : qS := fun as A K => ∃ a : Int, as = [rf 55, ni a] ∧ (iva IC A ∧ ivf JC A) ∧ (∀ A' : qA, iva IC A' → ivf JC A' → frm [62] [] A A' → K none A')
theorem okC_findRow : okM LC 2 71 sC_findRow := by
  refine qmeth [] true [(68, sC_spentOn), (70, sC_costVia)] 67 rfl ⟨okC_spentOn.le (by decide), ⟨okC_costVia.le (by decide), trivial⟩⟩ ?_
  rintro _ A K hA has ⟨a, rfl, ⟨i0, j0⟩, hK⟩
  have rg_a : rng a := has (ni a) (by simp)
  have f0 := frm_0 [62] [] A
  refine ⟨Nat.le_of_ble_eq_true rfl, [(6, [(0, 2, 55), (1, 0, 0), (2, 0, 0), (3, 0, 0), (4, 0, 0)], fun zs B nn => match zs with | [l1, d, l, p] => iva IC B ∧ ivf JC B ∧ frm [62] [] A B ∧ nn = ((8 - p) * 100 + 50 : Int).toNat ∧ (l1 = a) ∧ (0 ≤ p) ∧ (p ≤ 8) ∧ (0 ≤ d) ∧ (d ≤ 255) ∧ (0 ≤ l) ∧ (l ≤ 8) | _ => False), (19, [(0, 2, 55), (1, 0, 0), (2, 0, 0), (3, 0, 0), (4, 0, 0), (5, 0, 0), (6, 0, 0)], fun zs B nn => match zs with | [l1, d, l, p, s, k] => iva IC B ∧ ivf JC B ∧ frm [62] [] A B ∧ nn = ((8 - p) * 100 + 20 - k : Int).toNat ∧ (l1 = a) ∧ (0 ≤ p) ∧ (p ≤ 7) ∧ (0 ≤ d) ∧ (d ≤ 255) ∧ (0 ≤ l) ∧ (l ≤ 8) ∧ (0 ≤ k) ∧ (k ≤ 7) | _ => False)], ?_, ?_⟩
  · refine ⟨⟨rfl, ?_⟩, ⟨rfl, ?_⟩, trivial⟩
    · refine fun l1 d l p B mm hB hz hI => ?_
      obtain ⟨i1, j1, f1, hm, c0, c1, c2, c3, c4, c5, c6⟩ := hI
      obtain ⟨hz_l1, hz_d, hz_l, hz_p, _⟩ := hz
      refine fun v1 gv1 e2 => ?_
      have b3 := ivf_at j1 3 rfl
      refine And.intro (fun h4 => ?_) (fun h4 => ?_)
      · exact hK _ i1 j1 f1
      · refine And.intro (fun h5 => ?_) (fun h5 => ?_)
        · exact hK _ i1 j1 f1
        · refine Exists.intro d (And.intro rfl (And.intro (And.intro i1 (And.intro j1 (And.intro (by omega) (by omega)))) (fun r6 g7 => ?_)))
          exact Exists.intro ((8 - p) * 100 + 20 - 0 : Int).toNat (And.intro (by omega) (And.intro i1 (And.intro j1 (And.intro f1 (And.intro rfl (And.intro (by omega) (And.intro (by omega) (And.intro (by omega) (And.intro (by omega) (And.intro (by omega) (And.intro (by omega) (And.intro (by omega) (And.intro (by omega) (by omega))))))))))))))
    · refine fun l1 d l p s k B mm hB hz hI => ?_
      obtain ⟨i1, j1, f1, hm, c0, c1, c2, c3, c4, c5, c6, c7, c8⟩ := hI
      obtain ⟨hz_l1, hz_d, hz_l, hz_p, hz_s, hz_k, _⟩ := hz
      refine fun v8 gv8 e9 => ?_
      have b10 := ivf_at j1 3 rfl
      refine fun v11 e12 => ?_
      have w14 := wI_rng v11
      have w15 : wI v11 = v11 := wI_id (by omega)
      refine And.intro (fun h13 => ?_) (fun h13 => ?_)
      · refine And.intro (by omega) (fun v16 gv16 e17 => ?_)
        have b18 := iva_at i1 27 rfl (i := k) (by omega) (by omega)
        refine And.intro (by omega) (fun A19 e20 => ?_)
        have i21 := iva_st i1 e20 (And.intro (by omega) trivial)
        have j22 := ivf_sa j1 e20 rfl
        have f23 := frm_s f1 e20 rfl
        refine fun v24 e25 => ?_
        have h26 := sl_bd (b := k) 7 (by decide) (by omega) (by omega)
        refine fun v27 e28 => ?_
        have h29 := io_bd (a := d) (b := v24) 8 (by decide) (by omega) (by omega) (by omega) (by omega)
        refine fun v30 e31 => ?_
        have w32 := wI_rng v30
        have w33 : wI v30 = v30 := wI_id (by omega)
        exact Exists.intro ((8 - ((wI v30))) * 100 + 50 : Int).toNat (And.intro (by omega) (And.intro i21 (And.intro j22 (And.intro f23 (And.intro rfl (And.intro (by omega) (And.intro (by omega) (And.intro (by omega) (And.intro (by omega) (And.intro (by omega) (And.intro (by omega) (by omega))))))))))))
      · refine Exists.intro d (Exists.intro l (Exists.intro k (Exists.intro s (And.intro rfl (And.intro (And.intro i1 (And.intro j1 (And.intro (by omega) (And.intro (by omega) (And.intro (by omega) (And.intro (by omega) (And.intro (by omega) (by omega)))))))) (fun r34 g35 => ?_))))))
        refine fun v36 e37 => ?_
        refine fun v38 e39 => ?_
        refine And.intro (by omega) (fun v40 gv40 e41 => ?_)
        refine And.intro (fun h42 => ?_) (fun h42 => ?_)
        · refine And.intro (by omega) (fun v43 gv43 e44 => ?_)
          have b45 := iva_at i1 27 rfl (i := k) (by omega) (by omega)
          refine And.intro (by omega) (fun A46 e47 => ?_)
          have i48 := iva_st i1 e47 (And.intro (by omega) trivial)
          have j49 := ivf_sa j1 e47 rfl
          have f50 := frm_s f1 e47 rfl
          refine fun v51 e52 => ?_
          have h53 := sl_bd (b := k) 6 (by decide) (by omega) (by omega)
          refine fun v54 e55 => ?_
          have h56 := io_bd (a := d) (b := v51) 8 (by decide) (by omega) (by omega) (by omega) (by omega)
          refine fun v57 e58 => ?_
          have w59 := wI_rng v57
          have w60 : wI v57 = v57 := wI_id (by omega)
          exact Exists.intro ((8 - ((wI v57))) * 100 + 50 : Int).toNat (And.intro (by omega) (And.intro i48 (And.intro j49 (And.intro f50 (And.intro rfl (And.intro (by omega) (And.intro (by omega) (And.intro (by omega) (And.intro (by omega) (And.intro (by omega) (And.intro (by omega) (by omega))))))))))))
        · refine fun v61 e62 => ?_
          have w63 := wI_rng v61
          have w64 : wI v61 = v61 := wI_id (by omega)
          exact Exists.intro ((8 - p) * 100 + 20 - ((wI v61)) : Int).toNat (And.intro (by omega) (And.intro i1 (And.intro j1 (And.intro f1 (And.intro rfl (And.intro (by omega) (And.intro (by omega) (And.intro (by omega) (And.intro (by omega) (And.intro (by omega) (And.intro (by omega) (And.intro (by omega) (And.intro (by omega) (by omega))))))))))))))
  · exact Exists.intro ((8 - 0) * 100 + 50 : Int).toNat (And.intro i0 (And.intro j0 (And.intro f0 (And.intro rfl (And.intro (by omega) (And.intro (by omega) (And.intro (by omega) (And.intro (by omega) (And.intro (by omega) (And.intro (by omega) (by omega)))))))))))
def sC_solve : qS := fun as A K => as = [rf 55] ∧ (iva IC A ∧ ivf JC A) ∧ (∀ A' : qA, iva IC A' → ivf JC A' → frm [61, 62] [] A A' → K none A')
theorem okC_solve : okM LC 3 67 sC_solve := by
  refine qmeth [] true [(71, sC_findRow), (68, sC_spentOn), (69, sC_leastOnward)] 73 rfl ⟨okC_findRow.le (by decide), ⟨okC_spentOn.le (by decide), ⟨okC_leastOnward.le (by decide), trivial⟩⟩⟩ ?_
  rintro _ A K hA has ⟨rfl, ⟨i0, j0⟩, hK⟩
  have f0 := frm_0 [61, 62] [] A
  refine ⟨Nat.le_of_ble_eq_true rfl, [(9, [(0, 2, 55), (1, 0, 0), (2, 0, 0)], fun zs B nn => match zs with | [a, d] => iva IC B ∧ ivf JC B ∧ frm [61, 62] [] A B ∧ nn = ((d + 1) * 100 + 50 : Int).toNat ∧ (0 ≤ a) ∧ (a ≤ 255) ∧ ((-1) ≤ d) ∧ (d ≤ 255) | _ => False), (17, [(0, 2, 55), (1, 0, 0), (2, 0, 0), (3, 0, 0), (4, 0, 0)], fun zs B nn => match zs with | [a, d, s, l] => iva IC B ∧ ivf JC B ∧ frm [61, 62] [] A B ∧ nn = ((d + 1) * 100 + 10 - l : Int).toNat ∧ (0 ≤ a) ∧ (a ≤ 255) ∧ (0 ≤ d) ∧ (d ≤ 255) ∧ (0 ≤ l) ∧ (l ≤ 9) | _ => False)], ?_, ?_⟩
  · refine ⟨⟨rfl, ?_⟩, ⟨rfl, ?_⟩, trivial⟩
    · refine fun a d B mm hB hz hI => ?_
      obtain ⟨i1, j1, f1, hm, c0, c1, c2, c3⟩ := hI
      obtain ⟨hz_a, hz_d, _⟩ := hz
      refine And.intro (fun h13 => ?_) (fun h13 => ?_)
      · refine Exists.intro a (And.intro rfl (And.intro (And.intro i1 j1) (fun A14 i15 j16 f17 => ?_)))
        have f18 := frm_c f1 f17 rfl
        exact hK _ i15 j16 f18
      · refine Exists.intro d (And.intro rfl (And.intro (And.intro i1 (And.intro j1 (And.intro (by omega) (by omega)))) (fun r19 g20 => ?_)))
        exact Exists.intro ((d + 1) * 100 + 10 - 0 : Int).toNat (And.intro (by omega) (And.intro i1 (And.intro j1 (And.intro f1 (And.intro rfl (And.intro (by omega) (And.intro (by omega) (And.intro (by omega) (And.intro (by omega) (And.intro (by omega) (by omega)))))))))))
    · refine fun a d s l B mm hB hz hI => ?_
      obtain ⟨i1, j1, f1, hm, c0, c1, c2, c3, c4, c5⟩ := hI
      obtain ⟨hz_a, hz_d, hz_s, hz_l, _⟩ := hz
      refine And.intro (fun h21 => ?_) (fun h21 => ?_)
      · refine fun v22 e23 => ?_
        have w24 := wI_rng v22
        have w25 : wI v22 = v22 := wI_id (by omega)
        exact Exists.intro ((((wI v22)) + 1) * 100 + 50 : Int).toNat (And.intro (by omega) (And.intro i1 (And.intro j1 (And.intro f1 (And.intro rfl (And.intro (by omega) (And.intro (by omega) (And.intro (by omega) (by omega)))))))))
      · refine And.intro (fun h26 => ?_) (fun h26 => ?_)
        · refine fun v27 e28 => ?_
          have h29 := sr_bd (a := d) (b := l) (by omega) (by omega)
          refine fun v30 e31 => ?_
          have h32 := ia_bd (a := v27) (b := 1) (by omega) (by omega)
          refine And.intro (fun h33 => ?_) (fun h33 => ?_)
          · refine And.intro (fun h34 => ?_) (fun h34 => by exfalso; omega)
            refine fun v35 e36 => ?_
            have w37 := wI_rng v35
            have w38 : wI v35 = v35 := wI_id (by omega)
            exact Exists.intro ((d + 1) * 100 + 10 - ((wI v35)) : Int).toNat (And.intro (by omega) (And.intro i1 (And.intro j1 (And.intro f1 (And.intro rfl (And.intro (by omega) (And.intro (by omega) (And.intro (by omega) (And.intro (by omega) (And.intro (by omega) (by omega)))))))))))
          · refine And.intro (fun h39 => by exfalso; omega) (fun h39 => ?_)
            refine fun v40 e41 => ?_
            refine fun v42 e43 => ?_
            refine And.intro (fun h44 => ?_) (fun h44 => ?_)
            · refine Exists.intro d (Exists.intro l (Exists.intro s (And.intro rfl (And.intro (And.intro i1 (And.intro j1 (And.intro (by omega) (And.intro (by omega) (And.intro (by omega) (by omega)))))) (fun r45 g46 => ?_)))))
              refine And.intro (by omega) (fun A47 e48 => ?_)
              have i49 := iva_st i1 e48 trivial
              have j50 := ivf_sa j1 e48 rfl
              have f51 := frm_s f1 e48 rfl
              refine fun v52 e53 => ?_
              have w54 := wI_rng v52
              have w55 : wI v52 = v52 := wI_id (by omega)
              exact Exists.intro ((d + 1) * 100 + 10 - ((wI v52)) : Int).toNat (And.intro (by omega) (And.intro i49 (And.intro j50 (And.intro f51 (And.intro rfl (And.intro (by omega) (And.intro (by omega) (And.intro (by omega) (And.intro (by omega) (And.intro (by omega) (by omega)))))))))))
            · refine And.intro (by omega) (fun A56 e57 => ?_)
              have i58 := iva_st i1 e57 trivial
              have j59 := ivf_sa j1 e57 rfl
              have f60 := frm_s f1 e57 rfl
              refine fun v61 e62 => ?_
              have w63 := wI_rng v61
              have w64 : wI v61 = v61 := wI_id (by omega)
              exact Exists.intro ((d + 1) * 100 + 10 - ((wI v61)) : Int).toNat (And.intro (by omega) (And.intro i58 (And.intro j59 (And.intro f60 (And.intro rfl (And.intro (by omega) (And.intro (by omega) (And.intro (by omega) (And.intro (by omega) (And.intro (by omega) (by omega)))))))))))
        · refine And.intro (fun h65 => ?_) (fun h65 => ?_)
          · refine And.intro (fun h66 => ?_) (fun h66 => by exfalso; omega)
            refine fun v67 e68 => ?_
            have w69 := wI_rng v67
            have w70 : wI v67 = v67 := wI_id (by omega)
            exact Exists.intro ((d + 1) * 100 + 10 - ((wI v67)) : Int).toNat (And.intro (by omega) (And.intro i1 (And.intro j1 (And.intro f1 (And.intro rfl (And.intro (by omega) (And.intro (by omega) (And.intro (by omega) (And.intro (by omega) (And.intro (by omega) (by omega)))))))))))
          · refine And.intro (fun h71 => by exfalso; omega) (fun h71 => ?_)
            refine fun v72 e73 => ?_
            refine fun v74 e75 => ?_
            refine And.intro (fun h76 => ?_) (fun h76 => ?_)
            · refine Exists.intro d (Exists.intro l (Exists.intro s (And.intro rfl (And.intro (And.intro i1 (And.intro j1 (And.intro (by omega) (And.intro (by omega) (And.intro (by omega) (by omega)))))) (fun r77 g78 => ?_)))))
              refine And.intro (by omega) (fun A79 e80 => ?_)
              have i81 := iva_st i1 e80 trivial
              have j82 := ivf_sa j1 e80 rfl
              have f83 := frm_s f1 e80 rfl
              refine fun v84 e85 => ?_
              have w86 := wI_rng v84
              have w87 : wI v84 = v84 := wI_id (by omega)
              exact Exists.intro ((d + 1) * 100 + 10 - ((wI v84)) : Int).toNat (And.intro (by omega) (And.intro i81 (And.intro j82 (And.intro f83 (And.intro rfl (And.intro (by omega) (And.intro (by omega) (And.intro (by omega) (And.intro (by omega) (And.intro (by omega) (by omega)))))))))))
            · refine And.intro (by omega) (fun A88 e89 => ?_)
              have i90 := iva_st i1 e89 trivial
              have j91 := ivf_sa j1 e89 rfl
              have f92 := frm_s f1 e89 rfl
              refine fun v93 e94 => ?_
              have w95 := wI_rng v93
              have w96 : wI v93 = v93 := wI_id (by omega)
              exact Exists.intro ((d + 1) * 100 + 10 - ((wI v93)) : Int).toNat (And.intro (by omega) (And.intro i90 (And.intro j91 (And.intro f92 (And.intro rfl (And.intro (by omega) (And.intro (by omega) (And.intro (by omega) (And.intro (by omega) (And.intro (by omega) (by omega)))))))))))
  · refine fun v1 gv1 e2 => ?_
    have b3 := ivf_at j0 3 rfl
    refine fun v4 e5 => ?_
    have h6 := sl_bd (b := v1) 8 (by decide) (by omega) (by omega)
    refine fun v7 e8 => ?_
    have w9 := wI_rng v7
    have w10 : wI v7 = v7 := wI_id (by omega)
    have w11 := wI_rng v7
    have w12 : wI v7 = v7 := wI_id (by omega)
    exact Exists.intro ((((wI v7)) + 1) * 100 + 50 : Int).toNat (And.intro i0 (And.intro j0 (And.intro f0 (And.intro rfl (And.intro (by omega) (And.intro (by omega) (And.intro (by omega) (by omega))))))))
def sC_least : qS := fun as A K => as = [rf 55] ∧ (iva IC A ∧ ivf JC A) ∧ (∀ r : Int, rng r → K (some (ni r)) A)
theorem okC_least : okM LC 1 72 sC_least := by
  refine qmeth [] false [] 11 rfl trivial ?_
  rintro _ A K hA has ⟨rfl, ⟨i0, j0⟩, hK⟩
  have f0 := frm_0 [] [] A
  refine ⟨Nat.le_of_ble_eq_true rfl, [], trivial, ?_⟩
  refine And.intro (by omega) (fun v1 gv1 e2 => ?_)
  exact hK _ (by first | exact wI_rng _ | omega | (exact (hA _ _).2 rfl))
def sC_cellAt : qS := fun as A K => ∃ p : Int, as = [rf 55, ni p] ∧ (iva IC A ∧ ivf JC A) ∧ (∀ r : Int, (-1) ≤ r → r ≤ 47 → K (some (ni r)) A)
theorem okC_cellAt : okM LC 2 73 sC_cellAt := by
  refine qmeth [] false [(138, sC_within)] 17 rfl ⟨okC_within.le (by decide), trivial⟩ ?_
  rintro _ A K hA has ⟨p, rfl, ⟨i0, j0⟩, hK⟩
  have rg_p : rng p := has (ni p) (by simp)
  have f0 := frm_0 [] [] A
  refine ⟨Nat.le_of_ble_eq_true rfl, [], trivial, ?_⟩
  refine Exists.intro p (Exists.intro 7 (And.intro rfl (And.intro (fun h1 => ?_) (fun h1 => ?_))))
  · refine And.intro (fun h2 => by exfalso; omega) (fun h2 => ?_)
    refine And.intro (by omega) (fun v3 gv3 e4 => ?_)
    have b5 := iva_at i0 30 rfl (i := p) (by omega) (by omega)
    exact hK _ (by omega) (by omega)
  · refine And.intro (fun h6 => ?_) (fun h6 => by exfalso; omega)
    exact hK _ (by omega) (by omega)
def sC_fits : qS := fun as A K => ∃ c h : Int, as = [rf 63, ni c, ni h] ∧ (iva IC A ∧ ivf JC A ∧ 0 ≤ c ∧ c ≤ 47 ∧ 1 ≤ h ∧ h ≤ 200) ∧ (∀ r : Int, 0 ≤ r → r ≤ 1 → K (some (ni r)) A)
theorem okC_fits : okM LC 1 40 sC_fits := by
  refine qmeth [] false [] 44 rfl trivial ?_
  rintro _ A K hA has ⟨c, h, rfl, ⟨i0, j0, p1, p2, p3, p4⟩, hK⟩
  have rg_c : rng c := has (ni c) (by simp)
  have rg_h : rng h := has (ni h) (by simp)
  have f0 := frm_0 [] [] A
  refine ⟨Nat.le_of_ble_eq_true rfl, [(23, [(0, 2, 63), (1, 0, 0), (2, 0, 0), (3, 0, 0)], fun zs B nn => match zs with | [l1, l2, k] => A = B ∧ nn = (48 - k : Int).toNat ∧ (l1 = c) ∧ (l2 = h) ∧ (0 ≤ k) ∧ (k ≤ 48) | _ => False)], ?_, ?_⟩
  · refine ⟨⟨rfl, ?_⟩, trivial⟩
    · refine fun l1 l2 k B mm hB hz hI => ?_
      obtain ⟨rfl, hm, c0, c1, c2, c3⟩ := hI
      obtain ⟨hz_l1, hz_l2, hz_k, _⟩ := hz
      refine And.intro (fun h25 => ?_) (fun h25 => ?_)
      · exact And.intro (by omega) (hK _ (by omega) (by omega))
      · refine And.intro (by omega) (fun v26 gv26 e27 => ?_)
        refine And.intro (fun h28 => ?_) (fun h28 => ?_)
        · refine fun v29 e30 => ?_
          exact And.intro (by omega) (Exists.intro (48 - v29 : Int).toNat (And.intro (by omega) (And.intro rfl (And.intro rfl (And.intro (by omega) (And.intro (by omega) (And.intro (by omega) (by omega))))))))
        · exact And.intro (by omega) (hK _ (by omega) (by omega))
  · refine And.intro (by omega) (fun v5 e6 => ?_)
    have h7 := qm_nn (a := c) (b := 6) (by omega)
    refine fun v8 e9 => ?_
    refine fun v10 e11 => ?_
    have h12 := mul_bd (a := h) (b := v8) (p := 200) (q := 6) (by omega) (by omega) (by omega) (by omega)
    rw [← e11] at h12
    refine And.intro (by omega) (fun v13 e14 => ?_)
    have h15 := qd_nn (a := c) (b := 6) (by omega)
    refine And.intro (by omega) (fun v16 gv16 e17 => ?_)
    have b18 := iva_at i0 14 rfl (i := v13) (by omega) (by omega)
    refine And.intro (by omega) (And.intro (fun h19 => ?_) (fun h19 => ?_))
    · refine And.intro (by omega) (fun v20 e21 => ?_)
      have h22 := qm_nn (a := c) (b := 6) (by omega)
      refine fun v23 e24 => ?_
      exact And.intro (by omega) (Exists.intro (48 - v23 : Int).toNat (And.intro rfl (And.intro rfl (And.intro (by omega) (And.intro (by omega) (And.intro (by omega) (by omega)))))))
    · exact And.intro (by omega) (hK _ (by omega) (by omega))
def sC_burden : qS := fun as A K => ∃ c h : Int, as = [rf 63, ni c, ni h] ∧ (iva IC A ∧ ivf JC A ∧ 0 ≤ c ∧ c ≤ 47) ∧ (∀ A' : qA, iva IC A' → ivf JC A' → frm [64] [] A A' → K none A')
theorem okC_burden : okM LC 1 41 sC_burden := by
  refine qmeth [] true [] 26 rfl trivial ?_
  rintro _ A K hA has ⟨c, h, rfl, ⟨i0, j0, p1, p2⟩, hK⟩
  have rg_c : rng c := has (ni c) (by simp)
  have rg_h : rng h := has (ni h) (by simp)
  have f0 := frm_0 [64] [] A
  refine ⟨Nat.le_of_ble_eq_true rfl, [(6, [(0, 2, 63), (1, 0, 0), (2, 0, 0), (3, 0, 0)], fun zs B nn => match zs with | [l1, l2, k] => iva IC B ∧ ivf JC B ∧ frm [64] [] A B ∧ nn = (48 - k : Int).toNat ∧ (l1 = c) ∧ (l2 = h) ∧ (0 ≤ k) ∧ (k ≤ 48) | _ => False)], ?_, ?_⟩
  · refine ⟨⟨rfl, ?_⟩, trivial⟩
    · refine fun l1 l2 k B mm hB hz hI => ?_
      obtain ⟨i1, j1, f1, hm, c0, c1, c2, c3⟩ := hI
      obtain ⟨hz_l1, hz_l2, hz_k, _⟩ := hz
      refine And.intro (fun h10 => ?_) (fun h10 => ?_)
      · exact hK _ i1 j1 f1
      · refine And.intro (by omega) (fun v11 gv11 e12 => ?_)
        refine fun v13 e14 => ?_
        have w17 := wI_rng v13
        refine And.intro (by omega) (fun A15 e16 => ?_)
        have i18 := iva_st i1 e16 trivial
        have j19 := ivf_sa j1 e16 rfl
        have f20 := frm_s f1 e16 rfl
        refine fun v21 e22 => ?_
        have w23 := wI_rng v21
        have w24 : wI v21 = v21 := wI_id (by omega)
        exact Exists.intro (48 - ((wI v21)) : Int).toNat (And.intro (by omega) (And.intro i18 (And.intro j19 (And.intro f20 (And.intro rfl (And.intro (by omega) (And.intro (by omega) (And.intro (by omega) (by omega)))))))))
  · refine And.intro (by omega) (fun v3 e4 => ?_)
    have h5 := qm_nn (a := c) (b := 6) (by omega)
    refine fun v6 e7 => ?_
    have w8 := wI_rng v6
    have w9 : wI v6 = v6 := wI_id (by omega)
    exact Exists.intro (48 - ((wI v6)) : Int).toNat (And.intro i0 (And.intro j0 (And.intro f0 (And.intro rfl (And.intro (by omega) (And.intro (by omega) (And.intro (by omega) (by omega))))))))
def sC_tryCell5 : qS := fun as A K => ∃ p s : Int, as = [rf 63, ni p, ni s] ∧ (iva IC A ∧ ivf JC A ∧ 5 ≤ p ∧ p ≤ 5) ∧ (∀ A' : qA, iva IC A' → ivf JC A' → frm [64, 66, 67] [(63, 7)] A A' → K none A')
theorem okC_tryCell5 : okM LC 1 39 sC_tryCell5 := by
  refine qmeth [] true [] 96 rfl trivial ?_
  rintro _ A K hA has ⟨p, s, rfl, ⟨i0, j0, p1, p2⟩, hK⟩
  have rg_p : rng p := has (ni p) (by simp)
  have rg_s : rng s := has (ni s) (by simp)
  have f0 := frm_0 [64, 66, 67] [(63, 7)] A
  refine ⟨Nat.le_of_ble_eq_true rfl, [], trivial, ?_⟩
  refine fun v3 gv3 e4 => ?_
  have b5 := ivf_at j0 4 rfl
  refine And.intro (fun h6 => ?_) (fun h6 => by exfalso; omega)
  refine fun v7 gv7 e8 => ?_
  refine And.intro (fun h9 => ?_) (fun h9 => ?_)
  · exact hK _ i0 j0 f0
  · refine fun A10 e11 => ?_
    have i12 := iva_sf i0 e11 rfl
    have j13 := ivf_st j0 e11 trivial
    have f14 := frm_sf f0 e11 rfl
    refine And.intro (by omega) (fun A15 e16 => ?_)
    have i17 := iva_cp i12 e16 (fun i h0 h1 => And.intro (by have := iva_at i12 32 rfl (i := 0 + i) (by omega) (by omega); omega) trivial)
    have j18 := ivf_cp j13 e16 rfl
    have f19 := frm_cp f14 e16 rfl
    exact hK _ i17 j18 f19
def sC_tryCell4 : qS := fun as A K => ∃ p s : Int, as = [rf 63, ni p, ni s] ∧ (iva IC A ∧ ivf JC A ∧ 4 ≤ p ∧ p ≤ 4) ∧ (∀ A' : qA, iva IC A' → ivf JC A' → frm [64, 66, 67] [(63, 7)] A A' → K none A')
theorem okC_tryCell4 : okM LC 2 39 sC_tryCell4 := by
  refine qmeth [] true [(39, sC_tryCell5), (40, sC_fits), (41, sC_burden)] 96 rfl ⟨okC_tryCell5.le (by decide), ⟨okC_fits.le (by decide), ⟨okC_burden.le (by decide), trivial⟩⟩⟩ ?_
  rintro _ A K hA has ⟨p, s, rfl, ⟨i0, j0, p1, p2⟩, hK⟩
  have rg_p : rng p := has (ni p) (by simp)
  have rg_s : rng s := has (ni s) (by simp)
  have f0 := frm_0 [64, 66, 67] [(63, 7)] A
  refine ⟨Nat.le_of_ble_eq_true rfl, [(36, [(0, 2, 63), (1, 0, 0), (2, 0, 0), (3, 0, 0)], fun zs B nn => match zs with | [l1, l2, k] => iva IC B ∧ ivf JC B ∧ frm [64, 66, 67] [(63, 7)] A B ∧ nn = (6 - k : Int).toNat ∧ (l1 = p) ∧ (l2 = s) ∧ (0 ≤ k) ∧ (k ≤ 6) | _ => False)], ?_, ?_⟩
  · refine ⟨⟨rfl, ?_⟩, trivial⟩
    · refine fun l1 l2 k B mm hB hz hI => ?_
      obtain ⟨i1, j1, f1, hm, c0, c1, c2, c3⟩ := hI
      obtain ⟨hz_l1, hz_l2, hz_k, _⟩ := hz
      refine And.intro (fun h35 => ?_) (fun h35 => ?_)
      · exact hK _ i1 j1 f1
      · refine And.intro (by omega) (fun v36 gv36 e37 => ?_)
        have b38 := iva_at i1 9 rfl (i := k) (by omega) (by omega)
        refine And.intro (by omega) (fun v39 gv39 e40 => ?_)
        have b41 := iva_at i1 31 rfl (i := l1) (by omega) (by omega)
        refine Exists.intro v39 (Exists.intro v36 (And.intro rfl (And.intro (And.intro i1 (And.intro j1 (And.intro (by omega) (And.intro (by omega) (And.intro (by omega) (by omega)))))) (fun r42 g43 g44 => ?_))))
        refine And.intro (fun h45 => ?_) (fun h45 => ?_)
        · refine fun v46 e47 => ?_
          have w48 := wI_rng v46
          have w49 : wI v46 = v46 := wI_id (by omega)
          exact Exists.intro (6 - ((wI v46)) : Int).toNat (And.intro (by omega) (And.intro i1 (And.intro j1 (And.intro f1 (And.intro rfl (And.intro (by omega) (And.intro (by omega) (And.intro (by omega) (by omega)))))))))
        · refine And.intro (by omega) (fun A50 e51 => ?_)
          have i52 := iva_st i1 e51 (And.intro (by omega) trivial)
          have j53 := ivf_sa j1 e51 rfl
          have f54 := frm_s f1 e51 rfl
          refine And.intro (by omega) (fun v55 gv55 e56 => ?_)
          have b57 := iva_at i52 31 rfl (i := l1) (by omega) (by omega)
          have q58 : v39 = v55 := (e56.trans ((congrFun (st_a e51 rfl) _).trans e40.symm)).symm
          subst q58
          refine Exists.intro v39 (Exists.intro v36 (And.intro rfl (And.intro (And.intro i52 (And.intro j53 (And.intro (by omega) (by omega)))) (fun A59 i60 j61 f62 => ?_))))
          have f63 := frm_c f54 f62 rfl
          refine fun v64 e65 => ?_
          refine And.intro (by omega) (fun v66 gv66 e67 => ?_)
          have b68 := iva_at i60 10 rfl (i := k) (by omega) (by omega)
          refine fun v69 e70 => ?_
          have h71 := mul_bd (a := v36) (b := v66) (p := 200) (q := 99) (by omega) (by omega) (by omega) (by omega)
          rw [← e70] at h71
          refine fun v72 e73 => ?_
          have w74 := wI_rng v64
          have w75 : wI v64 = v64 := wI_id (by omega)
          have w76 := wI_rng v72
          refine Exists.intro (wI v64) (Exists.intro (wI v72) (And.intro rfl (And.intro (And.intro i60 (And.intro j61 (And.intro (by omega) (by omega)))) (fun A77 i78 j79 f80 => ?_))))
          have f81 := frm_c f63 f80 rfl
          refine And.intro (by omega) (fun v82 gv82 e83 => ?_)
          have b84 := iva_at i78 31 rfl (i := l1) (by omega) (by omega)
          have q85 : v39 = v82 := (e83.trans ((congrFun (Eq.trans (frm_a f80 rfl) (frm_a f62 rfl)) _).trans e56.symm)).symm
          subst q85
          refine fun v86 e87 => ?_
          have w88 := wI_rng v86
          have w89 : wI v86 = v86 := wI_id (by omega)
          refine Exists.intro v39 (Exists.intro (wI v86) (And.intro rfl (And.intro (And.intro i78 (And.intro j79 (And.intro (by omega) (by omega)))) (fun A90 i91 j92 f93 => ?_))))
          have f94 := frm_c f81 f93 rfl
          refine fun v95 e96 => ?_
          have w97 := wI_rng v95
          have w98 : wI v95 = v95 := wI_id (by omega)
          exact Exists.intro (6 - ((wI v95)) : Int).toNat (And.intro (by omega) (And.intro i91 (And.intro j92 (And.intro f94 (And.intro rfl (And.intro (by omega) (And.intro (by omega) (And.intro (by omega) (by omega)))))))))
  · refine fun v3 gv3 e4 => ?_
    have b5 := ivf_at j0 4 rfl
    refine And.intro (fun h6 => ?_) (fun h6 => ?_)
    · refine fun v7 gv7 e8 => ?_
      refine And.intro (fun h9 => ?_) (fun h9 => ?_)
      · exact hK _ i0 j0 f0
      · refine fun A10 e11 => ?_
        have i12 := iva_sf i0 e11 rfl
        have j13 := ivf_st j0 e11 trivial
        have f14 := frm_sf f0 e11 rfl
        refine And.intro (by omega) (fun A15 e16 => ?_)
        have i17 := iva_cp i12 e16 (fun i h0 h1 => And.intro (by have := iva_at i12 32 rfl (i := 0 + i) (by omega) (by omega); omega) trivial)
        have j18 := ivf_cp j13 e16 rfl
        have f19 := frm_cp f14 e16 rfl
        exact hK _ i17 j18 f19
    · refine And.intro (fun h20 => ?_) (fun h20 => by exfalso; omega)
      refine And.intro (by omega) (fun A21 e22 => ?_)
      have i23 := iva_st i0 e22 (And.intro (by omega) trivial)
      have j24 := ivf_sa j0 e22 rfl
      have f25 := frm_s f0 e22 rfl
      refine fun v26 e27 => ?_
      have w28 := wI_rng v26
      have w29 : wI v26 = v26 := wI_id (by omega)
      refine Exists.intro (wI v26) (Exists.intro s (And.intro rfl (And.intro (And.intro i23 (And.intro j24 (And.intro (by omega) (by omega)))) (fun A30 i31 j32 f33 => ?_))))
      have f34 := frm_c f25 f33 rfl
      exact Exists.intro (6 - 0 : Int).toNat (And.intro i31 (And.intro j32 (And.intro f34 (And.intro rfl (And.intro (by omega) (And.intro (by omega) (And.intro (by omega) (by omega))))))))
def sC_tryCell3 : qS := fun as A K => ∃ p s : Int, as = [rf 63, ni p, ni s] ∧ (iva IC A ∧ ivf JC A ∧ 3 ≤ p ∧ p ≤ 3) ∧ (∀ A' : qA, iva IC A' → ivf JC A' → frm [64, 66, 67] [(63, 7)] A A' → K none A')
theorem okC_tryCell3 : okM LC 3 39 sC_tryCell3 := by
  refine qmeth [] true [(39, sC_tryCell4), (40, sC_fits), (41, sC_burden)] 96 rfl ⟨okC_tryCell4.le (by decide), ⟨okC_fits.le (by decide), ⟨okC_burden.le (by decide), trivial⟩⟩⟩ ?_
  rintro _ A K hA has ⟨p, s, rfl, ⟨i0, j0, p1, p2⟩, hK⟩
  have rg_p : rng p := has (ni p) (by simp)
  have rg_s : rng s := has (ni s) (by simp)
  have f0 := frm_0 [64, 66, 67] [(63, 7)] A
  refine ⟨Nat.le_of_ble_eq_true rfl, [(36, [(0, 2, 63), (1, 0, 0), (2, 0, 0), (3, 0, 0)], fun zs B nn => match zs with | [l1, l2, k] => iva IC B ∧ ivf JC B ∧ frm [64, 66, 67] [(63, 7)] A B ∧ nn = (6 - k : Int).toNat ∧ (l1 = p) ∧ (l2 = s) ∧ (0 ≤ k) ∧ (k ≤ 6) | _ => False)], ?_, ?_⟩
  · refine ⟨⟨rfl, ?_⟩, trivial⟩
    · refine fun l1 l2 k B mm hB hz hI => ?_
      obtain ⟨i1, j1, f1, hm, c0, c1, c2, c3⟩ := hI
      obtain ⟨hz_l1, hz_l2, hz_k, _⟩ := hz
      refine And.intro (fun h35 => ?_) (fun h35 => ?_)
      · exact hK _ i1 j1 f1
      · refine And.intro (by omega) (fun v36 gv36 e37 => ?_)
        have b38 := iva_at i1 9 rfl (i := k) (by omega) (by omega)
        refine And.intro (by omega) (fun v39 gv39 e40 => ?_)
        have b41 := iva_at i1 31 rfl (i := l1) (by omega) (by omega)
        refine Exists.intro v39 (Exists.intro v36 (And.intro rfl (And.intro (And.intro i1 (And.intro j1 (And.intro (by omega) (And.intro (by omega) (And.intro (by omega) (by omega)))))) (fun r42 g43 g44 => ?_))))
        refine And.intro (fun h45 => ?_) (fun h45 => ?_)
        · refine fun v46 e47 => ?_
          have w48 := wI_rng v46
          have w49 : wI v46 = v46 := wI_id (by omega)
          exact Exists.intro (6 - ((wI v46)) : Int).toNat (And.intro (by omega) (And.intro i1 (And.intro j1 (And.intro f1 (And.intro rfl (And.intro (by omega) (And.intro (by omega) (And.intro (by omega) (by omega)))))))))
        · refine And.intro (by omega) (fun A50 e51 => ?_)
          have i52 := iva_st i1 e51 (And.intro (by omega) trivial)
          have j53 := ivf_sa j1 e51 rfl
          have f54 := frm_s f1 e51 rfl
          refine And.intro (by omega) (fun v55 gv55 e56 => ?_)
          have b57 := iva_at i52 31 rfl (i := l1) (by omega) (by omega)
          have q58 : v39 = v55 := (e56.trans ((congrFun (st_a e51 rfl) _).trans e40.symm)).symm
          subst q58
          refine Exists.intro v39 (Exists.intro v36 (And.intro rfl (And.intro (And.intro i52 (And.intro j53 (And.intro (by omega) (by omega)))) (fun A59 i60 j61 f62 => ?_))))
          have f63 := frm_c f54 f62 rfl
          refine fun v64 e65 => ?_
          refine And.intro (by omega) (fun v66 gv66 e67 => ?_)
          have b68 := iva_at i60 10 rfl (i := k) (by omega) (by omega)
          refine fun v69 e70 => ?_
          have h71 := mul_bd (a := v36) (b := v66) (p := 200) (q := 99) (by omega) (by omega) (by omega) (by omega)
          rw [← e70] at h71
          refine fun v72 e73 => ?_
          have w74 := wI_rng v64
          have w75 : wI v64 = v64 := wI_id (by omega)
          have w76 := wI_rng v72
          refine Exists.intro (wI v64) (Exists.intro (wI v72) (And.intro rfl (And.intro (And.intro i60 (And.intro j61 (And.intro (by omega) (by omega)))) (fun A77 i78 j79 f80 => ?_))))
          have f81 := frm_c f63 f80 rfl
          refine And.intro (by omega) (fun v82 gv82 e83 => ?_)
          have b84 := iva_at i78 31 rfl (i := l1) (by omega) (by omega)
          have q85 : v39 = v82 := (e83.trans ((congrFun (Eq.trans (frm_a f80 rfl) (frm_a f62 rfl)) _).trans e56.symm)).symm
          subst q85
          refine fun v86 e87 => ?_
          have w88 := wI_rng v86
          have w89 : wI v86 = v86 := wI_id (by omega)
          refine Exists.intro v39 (Exists.intro (wI v86) (And.intro rfl (And.intro (And.intro i78 (And.intro j79 (And.intro (by omega) (by omega)))) (fun A90 i91 j92 f93 => ?_))))
          have f94 := frm_c f81 f93 rfl
          refine fun v95 e96 => ?_
          have w97 := wI_rng v95
          have w98 : wI v95 = v95 := wI_id (by omega)
          exact Exists.intro (6 - ((wI v95)) : Int).toNat (And.intro (by omega) (And.intro i91 (And.intro j92 (And.intro f94 (And.intro rfl (And.intro (by omega) (And.intro (by omega) (And.intro (by omega) (by omega)))))))))
  · refine fun v3 gv3 e4 => ?_
    have b5 := ivf_at j0 4 rfl
    refine And.intro (fun h6 => ?_) (fun h6 => ?_)
    · refine fun v7 gv7 e8 => ?_
      refine And.intro (fun h9 => ?_) (fun h9 => ?_)
      · exact hK _ i0 j0 f0
      · refine fun A10 e11 => ?_
        have i12 := iva_sf i0 e11 rfl
        have j13 := ivf_st j0 e11 trivial
        have f14 := frm_sf f0 e11 rfl
        refine And.intro (by omega) (fun A15 e16 => ?_)
        have i17 := iva_cp i12 e16 (fun i h0 h1 => And.intro (by have := iva_at i12 32 rfl (i := 0 + i) (by omega) (by omega); omega) trivial)
        have j18 := ivf_cp j13 e16 rfl
        have f19 := frm_cp f14 e16 rfl
        exact hK _ i17 j18 f19
    · refine And.intro (fun h20 => ?_) (fun h20 => by exfalso; omega)
      refine And.intro (by omega) (fun A21 e22 => ?_)
      have i23 := iva_st i0 e22 (And.intro (by omega) trivial)
      have j24 := ivf_sa j0 e22 rfl
      have f25 := frm_s f0 e22 rfl
      refine fun v26 e27 => ?_
      have w28 := wI_rng v26
      have w29 : wI v26 = v26 := wI_id (by omega)
      refine Exists.intro (wI v26) (Exists.intro s (And.intro rfl (And.intro (And.intro i23 (And.intro j24 (And.intro (by omega) (by omega)))) (fun A30 i31 j32 f33 => ?_))))
      have f34 := frm_c f25 f33 rfl
      exact Exists.intro (6 - 0 : Int).toNat (And.intro i31 (And.intro j32 (And.intro f34 (And.intro rfl (And.intro (by omega) (And.intro (by omega) (And.intro (by omega) (by omega))))))))
def sC_tryCell2 : qS := fun as A K => ∃ p s : Int, as = [rf 63, ni p, ni s] ∧ (iva IC A ∧ ivf JC A ∧ 2 ≤ p ∧ p ≤ 2) ∧ (∀ A' : qA, iva IC A' → ivf JC A' → frm [64, 66, 67] [(63, 7)] A A' → K none A')
theorem okC_tryCell2 : okM LC 4 39 sC_tryCell2 := by
  refine qmeth [] true [(39, sC_tryCell3), (40, sC_fits), (41, sC_burden)] 96 rfl ⟨okC_tryCell3.le (by decide), ⟨okC_fits.le (by decide), ⟨okC_burden.le (by decide), trivial⟩⟩⟩ ?_
  rintro _ A K hA has ⟨p, s, rfl, ⟨i0, j0, p1, p2⟩, hK⟩
  have rg_p : rng p := has (ni p) (by simp)
  have rg_s : rng s := has (ni s) (by simp)
  have f0 := frm_0 [64, 66, 67] [(63, 7)] A
  refine ⟨Nat.le_of_ble_eq_true rfl, [(36, [(0, 2, 63), (1, 0, 0), (2, 0, 0), (3, 0, 0)], fun zs B nn => match zs with | [l1, l2, k] => iva IC B ∧ ivf JC B ∧ frm [64, 66, 67] [(63, 7)] A B ∧ nn = (6 - k : Int).toNat ∧ (l1 = p) ∧ (l2 = s) ∧ (0 ≤ k) ∧ (k ≤ 6) | _ => False)], ?_, ?_⟩
  · refine ⟨⟨rfl, ?_⟩, trivial⟩
    · refine fun l1 l2 k B mm hB hz hI => ?_
      obtain ⟨i1, j1, f1, hm, c0, c1, c2, c3⟩ := hI
      obtain ⟨hz_l1, hz_l2, hz_k, _⟩ := hz
      refine And.intro (fun h35 => ?_) (fun h35 => ?_)
      · exact hK _ i1 j1 f1
      · refine And.intro (by omega) (fun v36 gv36 e37 => ?_)
        have b38 := iva_at i1 9 rfl (i := k) (by omega) (by omega)
        refine And.intro (by omega) (fun v39 gv39 e40 => ?_)
        have b41 := iva_at i1 31 rfl (i := l1) (by omega) (by omega)
        refine Exists.intro v39 (Exists.intro v36 (And.intro rfl (And.intro (And.intro i1 (And.intro j1 (And.intro (by omega) (And.intro (by omega) (And.intro (by omega) (by omega)))))) (fun r42 g43 g44 => ?_))))
        refine And.intro (fun h45 => ?_) (fun h45 => ?_)
        · refine fun v46 e47 => ?_
          have w48 := wI_rng v46
          have w49 : wI v46 = v46 := wI_id (by omega)
          exact Exists.intro (6 - ((wI v46)) : Int).toNat (And.intro (by omega) (And.intro i1 (And.intro j1 (And.intro f1 (And.intro rfl (And.intro (by omega) (And.intro (by omega) (And.intro (by omega) (by omega)))))))))
        · refine And.intro (by omega) (fun A50 e51 => ?_)
          have i52 := iva_st i1 e51 (And.intro (by omega) trivial)
          have j53 := ivf_sa j1 e51 rfl
          have f54 := frm_s f1 e51 rfl
          refine And.intro (by omega) (fun v55 gv55 e56 => ?_)
          have b57 := iva_at i52 31 rfl (i := l1) (by omega) (by omega)
          have q58 : v39 = v55 := (e56.trans ((congrFun (st_a e51 rfl) _).trans e40.symm)).symm
          subst q58
          refine Exists.intro v39 (Exists.intro v36 (And.intro rfl (And.intro (And.intro i52 (And.intro j53 (And.intro (by omega) (by omega)))) (fun A59 i60 j61 f62 => ?_))))
          have f63 := frm_c f54 f62 rfl
          refine fun v64 e65 => ?_
          refine And.intro (by omega) (fun v66 gv66 e67 => ?_)
          have b68 := iva_at i60 10 rfl (i := k) (by omega) (by omega)
          refine fun v69 e70 => ?_
          have h71 := mul_bd (a := v36) (b := v66) (p := 200) (q := 99) (by omega) (by omega) (by omega) (by omega)
          rw [← e70] at h71
          refine fun v72 e73 => ?_
          have w74 := wI_rng v64
          have w75 : wI v64 = v64 := wI_id (by omega)
          have w76 := wI_rng v72
          refine Exists.intro (wI v64) (Exists.intro (wI v72) (And.intro rfl (And.intro (And.intro i60 (And.intro j61 (And.intro (by omega) (by omega)))) (fun A77 i78 j79 f80 => ?_))))
          have f81 := frm_c f63 f80 rfl
          refine And.intro (by omega) (fun v82 gv82 e83 => ?_)
          have b84 := iva_at i78 31 rfl (i := l1) (by omega) (by omega)
          have q85 : v39 = v82 := (e83.trans ((congrFun (Eq.trans (frm_a f80 rfl) (frm_a f62 rfl)) _).trans e56.symm)).symm
          subst q85
          refine fun v86 e87 => ?_
          have w88 := wI_rng v86
          have w89 : wI v86 = v86 := wI_id (by omega)
          refine Exists.intro v39 (Exists.intro (wI v86) (And.intro rfl (And.intro (And.intro i78 (And.intro j79 (And.intro (by omega) (by omega)))) (fun A90 i91 j92 f93 => ?_))))
          have f94 := frm_c f81 f93 rfl
          refine fun v95 e96 => ?_
          have w97 := wI_rng v95
          have w98 : wI v95 = v95 := wI_id (by omega)
          exact Exists.intro (6 - ((wI v95)) : Int).toNat (And.intro (by omega) (And.intro i91 (And.intro j92 (And.intro f94 (And.intro rfl (And.intro (by omega) (And.intro (by omega) (And.intro (by omega) (by omega)))))))))
  · refine fun v3 gv3 e4 => ?_
    have b5 := ivf_at j0 4 rfl
    refine And.intro (fun h6 => ?_) (fun h6 => ?_)
    · refine fun v7 gv7 e8 => ?_
      refine And.intro (fun h9 => ?_) (fun h9 => ?_)
      · exact hK _ i0 j0 f0
      · refine fun A10 e11 => ?_
        have i12 := iva_sf i0 e11 rfl
        have j13 := ivf_st j0 e11 trivial
        have f14 := frm_sf f0 e11 rfl
        refine And.intro (by omega) (fun A15 e16 => ?_)
        have i17 := iva_cp i12 e16 (fun i h0 h1 => And.intro (by have := iva_at i12 32 rfl (i := 0 + i) (by omega) (by omega); omega) trivial)
        have j18 := ivf_cp j13 e16 rfl
        have f19 := frm_cp f14 e16 rfl
        exact hK _ i17 j18 f19
    · refine And.intro (fun h20 => ?_) (fun h20 => by exfalso; omega)
      refine And.intro (by omega) (fun A21 e22 => ?_)
      have i23 := iva_st i0 e22 (And.intro (by omega) trivial)
      have j24 := ivf_sa j0 e22 rfl
      have f25 := frm_s f0 e22 rfl
      refine fun v26 e27 => ?_
      have w28 := wI_rng v26
      have w29 : wI v26 = v26 := wI_id (by omega)
      refine Exists.intro (wI v26) (Exists.intro s (And.intro rfl (And.intro (And.intro i23 (And.intro j24 (And.intro (by omega) (by omega)))) (fun A30 i31 j32 f33 => ?_))))
      have f34 := frm_c f25 f33 rfl
      exact Exists.intro (6 - 0 : Int).toNat (And.intro i31 (And.intro j32 (And.intro f34 (And.intro rfl (And.intro (by omega) (And.intro (by omega) (And.intro (by omega) (by omega))))))))
def sC_tryCell1 : qS := fun as A K => ∃ p s : Int, as = [rf 63, ni p, ni s] ∧ (iva IC A ∧ ivf JC A ∧ 1 ≤ p ∧ p ≤ 1) ∧ (∀ A' : qA, iva IC A' → ivf JC A' → frm [64, 66, 67] [(63, 7)] A A' → K none A')
theorem okC_tryCell1 : okM LC 5 39 sC_tryCell1 := by
  refine qmeth [] true [(39, sC_tryCell2), (40, sC_fits), (41, sC_burden)] 96 rfl ⟨okC_tryCell2.le (by decide), ⟨okC_fits.le (by decide), ⟨okC_burden.le (by decide), trivial⟩⟩⟩ ?_
  rintro _ A K hA has ⟨p, s, rfl, ⟨i0, j0, p1, p2⟩, hK⟩
  have rg_p : rng p := has (ni p) (by simp)
  have rg_s : rng s := has (ni s) (by simp)
  have f0 := frm_0 [64, 66, 67] [(63, 7)] A
  refine ⟨Nat.le_of_ble_eq_true rfl, [(36, [(0, 2, 63), (1, 0, 0), (2, 0, 0), (3, 0, 0)], fun zs B nn => match zs with | [l1, l2, k] => iva IC B ∧ ivf JC B ∧ frm [64, 66, 67] [(63, 7)] A B ∧ nn = (6 - k : Int).toNat ∧ (l1 = p) ∧ (l2 = s) ∧ (0 ≤ k) ∧ (k ≤ 6) | _ => False)], ?_, ?_⟩
  · refine ⟨⟨rfl, ?_⟩, trivial⟩
    · refine fun l1 l2 k B mm hB hz hI => ?_
      obtain ⟨i1, j1, f1, hm, c0, c1, c2, c3⟩ := hI
      obtain ⟨hz_l1, hz_l2, hz_k, _⟩ := hz
      refine And.intro (fun h35 => ?_) (fun h35 => ?_)
      · exact hK _ i1 j1 f1
      · refine And.intro (by omega) (fun v36 gv36 e37 => ?_)
        have b38 := iva_at i1 9 rfl (i := k) (by omega) (by omega)
        refine And.intro (by omega) (fun v39 gv39 e40 => ?_)
        have b41 := iva_at i1 31 rfl (i := l1) (by omega) (by omega)
        refine Exists.intro v39 (Exists.intro v36 (And.intro rfl (And.intro (And.intro i1 (And.intro j1 (And.intro (by omega) (And.intro (by omega) (And.intro (by omega) (by omega)))))) (fun r42 g43 g44 => ?_))))
        refine And.intro (fun h45 => ?_) (fun h45 => ?_)
        · refine fun v46 e47 => ?_
          have w48 := wI_rng v46
          have w49 : wI v46 = v46 := wI_id (by omega)
          exact Exists.intro (6 - ((wI v46)) : Int).toNat (And.intro (by omega) (And.intro i1 (And.intro j1 (And.intro f1 (And.intro rfl (And.intro (by omega) (And.intro (by omega) (And.intro (by omega) (by omega)))))))))
        · refine And.intro (by omega) (fun A50 e51 => ?_)
          have i52 := iva_st i1 e51 (And.intro (by omega) trivial)
          have j53 := ivf_sa j1 e51 rfl
          have f54 := frm_s f1 e51 rfl
          refine And.intro (by omega) (fun v55 gv55 e56 => ?_)
          have b57 := iva_at i52 31 rfl (i := l1) (by omega) (by omega)
          have q58 : v39 = v55 := (e56.trans ((congrFun (st_a e51 rfl) _).trans e40.symm)).symm
          subst q58
          refine Exists.intro v39 (Exists.intro v36 (And.intro rfl (And.intro (And.intro i52 (And.intro j53 (And.intro (by omega) (by omega)))) (fun A59 i60 j61 f62 => ?_))))
          have f63 := frm_c f54 f62 rfl
          refine fun v64 e65 => ?_
          refine And.intro (by omega) (fun v66 gv66 e67 => ?_)
          have b68 := iva_at i60 10 rfl (i := k) (by omega) (by omega)
          refine fun v69 e70 => ?_
          have h71 := mul_bd (a := v36) (b := v66) (p := 200) (q := 99) (by omega) (by omega) (by omega) (by omega)
          rw [← e70] at h71
          refine fun v72 e73 => ?_
          have w74 := wI_rng v64
          have w75 : wI v64 = v64 := wI_id (by omega)
          have w76 := wI_rng v72
          refine Exists.intro (wI v64) (Exists.intro (wI v72) (And.intro rfl (And.intro (And.intro i60 (And.intro j61 (And.intro (by omega) (by omega)))) (fun A77 i78 j79 f80 => ?_))))
          have f81 := frm_c f63 f80 rfl
          refine And.intro (by omega) (fun v82 gv82 e83 => ?_)
          have b84 := iva_at i78 31 rfl (i := l1) (by omega) (by omega)
          have q85 : v39 = v82 := (e83.trans ((congrFun (Eq.trans (frm_a f80 rfl) (frm_a f62 rfl)) _).trans e56.symm)).symm
          subst q85
          refine fun v86 e87 => ?_
          have w88 := wI_rng v86
          have w89 : wI v86 = v86 := wI_id (by omega)
          refine Exists.intro v39 (Exists.intro (wI v86) (And.intro rfl (And.intro (And.intro i78 (And.intro j79 (And.intro (by omega) (by omega)))) (fun A90 i91 j92 f93 => ?_))))
          have f94 := frm_c f81 f93 rfl
          refine fun v95 e96 => ?_
          have w97 := wI_rng v95
          have w98 : wI v95 = v95 := wI_id (by omega)
          exact Exists.intro (6 - ((wI v95)) : Int).toNat (And.intro (by omega) (And.intro i91 (And.intro j92 (And.intro f94 (And.intro rfl (And.intro (by omega) (And.intro (by omega) (And.intro (by omega) (by omega)))))))))
  · refine fun v3 gv3 e4 => ?_
    have b5 := ivf_at j0 4 rfl
    refine And.intro (fun h6 => ?_) (fun h6 => ?_)
    · refine fun v7 gv7 e8 => ?_
      refine And.intro (fun h9 => ?_) (fun h9 => ?_)
      · exact hK _ i0 j0 f0
      · refine fun A10 e11 => ?_
        have i12 := iva_sf i0 e11 rfl
        have j13 := ivf_st j0 e11 trivial
        have f14 := frm_sf f0 e11 rfl
        refine And.intro (by omega) (fun A15 e16 => ?_)
        have i17 := iva_cp i12 e16 (fun i h0 h1 => And.intro (by have := iva_at i12 32 rfl (i := 0 + i) (by omega) (by omega); omega) trivial)
        have j18 := ivf_cp j13 e16 rfl
        have f19 := frm_cp f14 e16 rfl
        exact hK _ i17 j18 f19
    · refine And.intro (fun h20 => ?_) (fun h20 => by exfalso; omega)
      refine And.intro (by omega) (fun A21 e22 => ?_)
      have i23 := iva_st i0 e22 (And.intro (by omega) trivial)
      have j24 := ivf_sa j0 e22 rfl
      have f25 := frm_s f0 e22 rfl
      refine fun v26 e27 => ?_
      have w28 := wI_rng v26
      have w29 : wI v26 = v26 := wI_id (by omega)
      refine Exists.intro (wI v26) (Exists.intro s (And.intro rfl (And.intro (And.intro i23 (And.intro j24 (And.intro (by omega) (by omega)))) (fun A30 i31 j32 f33 => ?_))))
      have f34 := frm_c f25 f33 rfl
      exact Exists.intro (6 - 0 : Int).toNat (And.intro i31 (And.intro j32 (And.intro f34 (And.intro rfl (And.intro (by omega) (And.intro (by omega) (And.intro (by omega) (by omega))))))))
def sC_tryCell0 : qS := fun as A K => ∃ p s : Int, as = [rf 63, ni p, ni s] ∧ (iva IC A ∧ ivf JC A ∧ 0 ≤ p ∧ p ≤ 0) ∧ (∀ A' : qA, iva IC A' → ivf JC A' → frm [64, 66, 67] [(63, 7)] A A' → K none A')
theorem okC_tryCell0 : okM LC 6 39 sC_tryCell0 := by
  refine qmeth [] true [(39, sC_tryCell1), (40, sC_fits), (41, sC_burden)] 96 rfl ⟨okC_tryCell1.le (by decide), ⟨okC_fits.le (by decide), ⟨okC_burden.le (by decide), trivial⟩⟩⟩ ?_
  rintro _ A K hA has ⟨p, s, rfl, ⟨i0, j0, p1, p2⟩, hK⟩
  have rg_p : rng p := has (ni p) (by simp)
  have rg_s : rng s := has (ni s) (by simp)
  have f0 := frm_0 [64, 66, 67] [(63, 7)] A
  refine ⟨Nat.le_of_ble_eq_true rfl, [(36, [(0, 2, 63), (1, 0, 0), (2, 0, 0), (3, 0, 0)], fun zs B nn => match zs with | [l1, l2, k] => iva IC B ∧ ivf JC B ∧ frm [64, 66, 67] [(63, 7)] A B ∧ nn = (6 - k : Int).toNat ∧ (l1 = p) ∧ (l2 = s) ∧ (0 ≤ k) ∧ (k ≤ 6) | _ => False)], ?_, ?_⟩
  · refine ⟨⟨rfl, ?_⟩, trivial⟩
    · refine fun l1 l2 k B mm hB hz hI => ?_
      obtain ⟨i1, j1, f1, hm, c0, c1, c2, c3⟩ := hI
      obtain ⟨hz_l1, hz_l2, hz_k, _⟩ := hz
      refine And.intro (fun h35 => ?_) (fun h35 => ?_)
      · exact hK _ i1 j1 f1
      · refine And.intro (by omega) (fun v36 gv36 e37 => ?_)
        have b38 := iva_at i1 9 rfl (i := k) (by omega) (by omega)
        refine And.intro (by omega) (fun v39 gv39 e40 => ?_)
        have b41 := iva_at i1 31 rfl (i := l1) (by omega) (by omega)
        refine Exists.intro v39 (Exists.intro v36 (And.intro rfl (And.intro (And.intro i1 (And.intro j1 (And.intro (by omega) (And.intro (by omega) (And.intro (by omega) (by omega)))))) (fun r42 g43 g44 => ?_))))
        refine And.intro (fun h45 => ?_) (fun h45 => ?_)
        · refine fun v46 e47 => ?_
          have w48 := wI_rng v46
          have w49 : wI v46 = v46 := wI_id (by omega)
          exact Exists.intro (6 - ((wI v46)) : Int).toNat (And.intro (by omega) (And.intro i1 (And.intro j1 (And.intro f1 (And.intro rfl (And.intro (by omega) (And.intro (by omega) (And.intro (by omega) (by omega)))))))))
        · refine And.intro (by omega) (fun A50 e51 => ?_)
          have i52 := iva_st i1 e51 (And.intro (by omega) trivial)
          have j53 := ivf_sa j1 e51 rfl
          have f54 := frm_s f1 e51 rfl
          refine And.intro (by omega) (fun v55 gv55 e56 => ?_)
          have b57 := iva_at i52 31 rfl (i := l1) (by omega) (by omega)
          have q58 : v39 = v55 := (e56.trans ((congrFun (st_a e51 rfl) _).trans e40.symm)).symm
          subst q58
          refine Exists.intro v39 (Exists.intro v36 (And.intro rfl (And.intro (And.intro i52 (And.intro j53 (And.intro (by omega) (by omega)))) (fun A59 i60 j61 f62 => ?_))))
          have f63 := frm_c f54 f62 rfl
          refine fun v64 e65 => ?_
          refine And.intro (by omega) (fun v66 gv66 e67 => ?_)
          have b68 := iva_at i60 10 rfl (i := k) (by omega) (by omega)
          refine fun v69 e70 => ?_
          have h71 := mul_bd (a := v36) (b := v66) (p := 200) (q := 99) (by omega) (by omega) (by omega) (by omega)
          rw [← e70] at h71
          refine fun v72 e73 => ?_
          have w74 := wI_rng v64
          have w75 : wI v64 = v64 := wI_id (by omega)
          have w76 := wI_rng v72
          refine Exists.intro (wI v64) (Exists.intro (wI v72) (And.intro rfl (And.intro (And.intro i60 (And.intro j61 (And.intro (by omega) (by omega)))) (fun A77 i78 j79 f80 => ?_))))
          have f81 := frm_c f63 f80 rfl
          refine And.intro (by omega) (fun v82 gv82 e83 => ?_)
          have b84 := iva_at i78 31 rfl (i := l1) (by omega) (by omega)
          have q85 : v39 = v82 := (e83.trans ((congrFun (Eq.trans (frm_a f80 rfl) (frm_a f62 rfl)) _).trans e56.symm)).symm
          subst q85
          refine fun v86 e87 => ?_
          have w88 := wI_rng v86
          have w89 : wI v86 = v86 := wI_id (by omega)
          refine Exists.intro v39 (Exists.intro (wI v86) (And.intro rfl (And.intro (And.intro i78 (And.intro j79 (And.intro (by omega) (by omega)))) (fun A90 i91 j92 f93 => ?_))))
          have f94 := frm_c f81 f93 rfl
          refine fun v95 e96 => ?_
          have w97 := wI_rng v95
          have w98 : wI v95 = v95 := wI_id (by omega)
          exact Exists.intro (6 - ((wI v95)) : Int).toNat (And.intro (by omega) (And.intro i91 (And.intro j92 (And.intro f94 (And.intro rfl (And.intro (by omega) (And.intro (by omega) (And.intro (by omega) (by omega)))))))))
  · refine fun v3 gv3 e4 => ?_
    have b5 := ivf_at j0 4 rfl
    refine And.intro (fun h6 => ?_) (fun h6 => ?_)
    · refine fun v7 gv7 e8 => ?_
      refine And.intro (fun h9 => ?_) (fun h9 => ?_)
      · exact hK _ i0 j0 f0
      · refine fun A10 e11 => ?_
        have i12 := iva_sf i0 e11 rfl
        have j13 := ivf_st j0 e11 trivial
        have f14 := frm_sf f0 e11 rfl
        refine And.intro (by omega) (fun A15 e16 => ?_)
        have i17 := iva_cp i12 e16 (fun i h0 h1 => And.intro (by have := iva_at i12 32 rfl (i := 0 + i) (by omega) (by omega); omega) trivial)
        have j18 := ivf_cp j13 e16 rfl
        have f19 := frm_cp f14 e16 rfl
        exact hK _ i17 j18 f19
    · refine And.intro (fun h20 => ?_) (fun h20 => by exfalso; omega)
      refine And.intro (by omega) (fun A21 e22 => ?_)
      have i23 := iva_st i0 e22 (And.intro (by omega) trivial)
      have j24 := ivf_sa j0 e22 rfl
      have f25 := frm_s f0 e22 rfl
      refine fun v26 e27 => ?_
      have w28 := wI_rng v26
      have w29 : wI v26 = v26 := wI_id (by omega)
      refine Exists.intro (wI v26) (Exists.intro s (And.intro rfl (And.intro (And.intro i23 (And.intro j24 (And.intro (by omega) (by omega)))) (fun A30 i31 j32 f33 => ?_))))
      have f34 := frm_c f25 f33 rfl
      exact Exists.intro (6 - 0 : Int).toNat (And.intro i31 (And.intro j32 (And.intro f34 (And.intro rfl (And.intro (by omega) (And.intro (by omega) (And.intro (by omega) (by omega))))))))
def sC_choose : qS := fun as A K => ∃ x : Int, as = [rf 63, nl x] ∧ (iva IC A ∧ ivf JC A) ∧ (∀ A' : qA, iva IC A' → ivf JC A' → frm [64, 65, 66, 67] [(63, 6), (63, 7)] A A' → ∀ r : Int, 0 ≤ r → r ≤ 1 → K (some (ni r)) A')
theorem okC_choose : okM LC 7 38 sC_choose := by
  refine qmeth [] true [(39, sC_tryCell0), (21, sC_hangs), (30, sC_ripeLoadOf), (142, sC_isTold)] 71 rfl ⟨okC_tryCell0.le (by decide), ⟨okC_hangs.le (by decide), ⟨okC_ripeLoadOf.le (by decide), ⟨okC_isTold.le (by decide), trivial⟩⟩⟩⟩ ?_
  rintro _ A K hA has ⟨x, rfl, ⟨i0, j0⟩, hK⟩
  have rg_x : rngL x := has (nl x) (by simp)
  have f0 := frm_0 [64, 65, 66, 67] [(63, 6), (63, 7)] A
  refine ⟨Nat.le_of_ble_eq_true rfl, [(8, [(0, 2, 63), (1, 1, 0), (3, 0, 0)], fun zs B nn => match zs with | [l1, k] => iva IC B ∧ ivf JC B ∧ frm [64, 65, 66, 67] [(63, 6), (63, 7)] A B ∧ nn = (48 - k : Int).toNat ∧ (l1 = x) ∧ (0 ≤ k) ∧ (k ≤ 48) | _ => False)], ?_, ?_⟩
  · refine ⟨⟨rfl, ?_⟩, trivial⟩
    · refine fun l1 k B mm hB hz hI => ?_
      obtain ⟨i1, j1, f1, hm, c0, c1, c2⟩ := hI
      obtain ⟨hz_l1, hz_k, _⟩ := hz
      refine And.intro (fun h11 => ?_) (fun h11 => ?_)
      · refine Exists.intro 0 (Exists.intro 0 (And.intro rfl (And.intro (And.intro i1 (And.intro j1 (And.intro (by omega) (by omega)))) (fun A12 i13 j14 f15 => ?_))))
        have f16 := frm_c f1 f15 rfl
        exact And.intro (by omega) (hK _ i13 j14 f16 _ (by omega) (by omega))
      · refine Exists.intro k (And.intro rfl (And.intro (fun h17 => ?_) (fun h17 => ?_)))
        · refine And.intro (fun h18 => by exfalso; omega) (fun h18 => ?_)
          refine And.intro (by omega) (fun v19 gv19 e20 => ?_)
          have b21 := iva_at i1 0 rfl (i := k) (by omega) (by omega)
          refine Exists.intro k (And.intro rfl (And.intro (And.intro i1 (And.intro j1 (And.intro (by omega) (by omega)))) (fun r22 g23 => ?_)))
          refine fun v24 e25 => ?_
          have w28 := wI_rng v24
          refine And.intro (by omega) (fun A26 e27 => ?_)
          have i29 := iva_st i1 e27 trivial
          have j30 := ivf_sa j1 e27 rfl
          have f31 := frm_s f1 e27 rfl
          refine And.intro (by omega) (fun v32 gv32 e33 => ?_)
          have q34 : (wI v24) = v32 := (e33.trans (st_v e27)).symm
          subst q34
          refine And.intro (fun h35 => ?_) (fun h35 => ?_)
          · refine Exists.intro l1 (Exists.intro k (And.intro rfl (fun r36 g37 g38 => ?_)))
            refine And.intro (fun h39 => ?_) (fun h39 => ?_)
            · refine fun v40 e41 => ?_
              have w42 := wI_rng v40
              have w43 : wI v40 = v40 := wI_id (by omega)
              exact Exists.intro (48 - ((wI v40)) : Int).toNat (And.intro (by omega) (And.intro i29 (And.intro j30 (And.intro f31 (And.intro rfl (And.intro (by omega) (And.intro (by omega) (by omega))))))))
            · refine fun v44 gv44 e45 => ?_
              have b46 := ivf_at j30 4 rfl
              refine And.intro (fun h47 => ?_) (fun h47 => ?_)
              · refine fun v48 e49 => ?_
                have w50 := wI_rng v48
                have w51 : wI v48 = v48 := wI_id (by omega)
                exact Exists.intro (48 - ((wI v48)) : Int).toNat (And.intro (by omega) (And.intro i29 (And.intro j30 (And.intro f31 (And.intro rfl (And.intro (by omega) (And.intro (by omega) (by omega))))))))
              · refine fun v52 gv52 e53 => ?_
                have b54 := ivf_at j30 4 rfl
                have q55 : v44 = v52 := (e53.trans e45.symm).symm
                subst q55
                refine And.intro (by omega) (fun A56 e57 => ?_)
                have i58 := iva_st i29 e57 (And.intro (by omega) trivial)
                have j59 := ivf_sa j30 e57 rfl
                have f60 := frm_s f31 e57 rfl
                refine fun v61 gv61 e62 => ?_
                have b63 := ivf_at j59 4 rfl
                have q64 : v44 = v61 := (e62.trans ((congrFun (st_a e57 rfl) _).trans e53.symm)).symm
                subst q64
                refine fun v65 e66 => ?_
                have w69 := wI_rng v65
                have w70 : wI v65 = v65 := wI_id (by omega)
                refine fun A67 e68 => ?_
                have i71 := iva_sf i58 e68 rfl
                have j72 := ivf_st j59 e68 (And.intro (by omega) trivial)
                have f73 := frm_sf f60 e68 rfl
                refine fun v74 e75 => ?_
                have w76 := wI_rng v74
                have w77 : wI v74 = v74 := wI_id (by omega)
                exact Exists.intro (48 - ((wI v74)) : Int).toNat (And.intro (by omega) (And.intro i71 (And.intro j72 (And.intro f73 (And.intro rfl (And.intro (by omega) (And.intro (by omega) (by omega))))))))
          · exact And.intro (by omega) (hK _ i29 j30 f31 _ (by omega) (by omega))
        · refine And.intro (fun h78 => ?_) (fun h78 => by exfalso; omega)
          refine Exists.intro l1 (Exists.intro k (And.intro rfl (fun r79 g80 g81 => ?_)))
          refine And.intro (fun h82 => ?_) (fun h82 => ?_)
          · refine fun v83 e84 => ?_
            have w85 := wI_rng v83
            have w86 : wI v83 = v83 := wI_id (by omega)
            exact Exists.intro (48 - ((wI v83)) : Int).toNat (And.intro (by omega) (And.intro i1 (And.intro j1 (And.intro f1 (And.intro rfl (And.intro (by omega) (And.intro (by omega) (by omega))))))))
          · refine fun v87 gv87 e88 => ?_
            have b89 := ivf_at j1 4 rfl
            refine And.intro (fun h90 => ?_) (fun h90 => ?_)
            · refine fun v91 e92 => ?_
              have w93 := wI_rng v91
              have w94 : wI v91 = v91 := wI_id (by omega)
              exact Exists.intro (48 - ((wI v91)) : Int).toNat (And.intro (by omega) (And.intro i1 (And.intro j1 (And.intro f1 (And.intro rfl (And.intro (by omega) (And.intro (by omega) (by omega))))))))
            · refine fun v95 gv95 e96 => ?_
              have b97 := ivf_at j1 4 rfl
              have q98 : v87 = v95 := (e96.trans e88.symm).symm
              subst q98
              refine And.intro (by omega) (fun A99 e100 => ?_)
              have i101 := iva_st i1 e100 (And.intro (by omega) trivial)
              have j102 := ivf_sa j1 e100 rfl
              have f103 := frm_s f1 e100 rfl
              refine fun v104 gv104 e105 => ?_
              have b106 := ivf_at j102 4 rfl
              have q107 : v87 = v104 := (e105.trans ((congrFun (st_a e100 rfl) _).trans e96.symm)).symm
              subst q107
              refine fun v108 e109 => ?_
              have w112 := wI_rng v108
              have w113 : wI v108 = v108 := wI_id (by omega)
              refine fun A110 e111 => ?_
              have i114 := iva_sf i101 e111 rfl
              have j115 := ivf_st j102 e111 (And.intro (by omega) trivial)
              have f116 := frm_sf f103 e111 rfl
              refine fun v117 e118 => ?_
              have w119 := wI_rng v117
              have w120 : wI v117 = v117 := wI_id (by omega)
              exact Exists.intro (48 - ((wI v117)) : Int).toNat (And.intro (by omega) (And.intro i114 (And.intro j115 (And.intro f116 (And.intro rfl (And.intro (by omega) (And.intro (by omega) (by omega))))))))
  · refine fun A1 e2 => ?_
    have i3 := iva_sf i0 e2 rfl
    have j4 := ivf_st j0 e2 (And.intro (by omega) trivial)
    have f5 := frm_sf f0 e2 rfl
    refine fun A6 e7 => ?_
    have i8 := iva_sf i3 e7 rfl
    have j9 := ivf_st j4 e7 trivial
    have f10 := frm_sf f5 e7 rfl
    exact Exists.intro (48 - 0 : Int).toNat (And.intro i8 (And.intro j9 (And.intro f10 (And.intro rfl (And.intro (by omega) (And.intro (by omega) (by omega)))))))
def sC_carryOut : qS := fun as A K => as = [rf 63] ∧ (iva IC A ∧ ivf JC A) ∧ (∀ A' : qA, iva IC A' → ivf JC A' → frm [6, 7, 10] [] A A' → K none A')
theorem okC_carryOut : okM LC 2 42 sC_carryOut := by
  refine qmeth [] false [(25, sC_setCrop)] 33 rfl ⟨okC_setCrop.le (by decide), trivial⟩ ?_
  rintro _ A K hA has ⟨rfl, ⟨i0, j0⟩, hK⟩
  have f0 := frm_0 [6, 7, 10] [] A
  refine ⟨Nat.le_of_ble_eq_true rfl, [(2, [(0, 2, 63), (1, 0, 0)], fun zs B nn => match zs with | [k] => iva IC B ∧ ivf JC B ∧ frm [6, 7, 10] [] A B ∧ nn = (5 - k : Int).toNat ∧ (0 ≤ k) ∧ (k ≤ 5) | _ => False)], ?_, ?_⟩
  · refine ⟨⟨rfl, ?_⟩, trivial⟩
    · refine fun k B mm hB hz hI => ?_
      obtain ⟨i1, j1, f1, hm, c0, c1⟩ := hI
      obtain ⟨hz_k, _⟩ := hz
      refine fun v1 gv1 e2 => ?_
      have b3 := ivf_at j1 4 rfl
      refine And.intro (fun h4 => ?_) (fun h4 => ?_)
      · exact hK _ i1 j1 f1
      · refine And.intro (by omega) (fun v5 gv5 e6 => ?_)
        have b7 := iva_at i1 33 rfl (i := k) (by omega) (by omega)
        refine And.intro (fun h8 => ?_) (fun h8 => ?_)
        · refine fun v9 e10 => ?_
          exact And.intro (by omega) (Exists.intro (5 - v9 : Int).toNat (And.intro (by omega) (And.intro i1 (And.intro j1 (And.intro f1 (And.intro rfl (And.intro (by omega) (by omega))))))))
        · refine And.intro (by omega) (fun v11 gv11 e12 => ?_)
          have b13 := iva_at i1 31 rfl (i := k) (by omega) (by omega)
          refine And.intro (by omega) (fun v14 gv14 e15 => ?_)
          have b16 := iva_at i1 33 rfl (i := k) (by omega) (by omega)
          have q17 : v5 = v14 := (e15.trans e6.symm).symm
          subst q17
          refine Exists.intro v11 (Exists.intro v5 (Exists.intro 0 (And.intro rfl (And.intro (And.intro i1 (And.intro j1 (And.intro (by omega) (And.intro (by omega) (And.intro (by omega) (And.intro (by omega) (And.intro (by omega) (by omega)))))))) (fun A18 i19 j20 f21 => ?_)))))
          have f22 := frm_c f1 f21 rfl
          refine fun v23 e24 => ?_
          exact And.intro (by omega) (Exists.intro (5 - v23 : Int).toNat (And.intro (by omega) (And.intro i19 (And.intro j20 (And.intro f22 (And.intro rfl (And.intro (by omega) (by omega))))))))
  · exact Exists.intro (5 - 0 : Int).toNat (And.intro i0 (And.intro j0 (And.intro f0 (And.intro rfl (And.intro (by omega) (by omega))))))
def sC_kindAt : qS := fun as A K => ∃ p : Int, as = [rf 63, ni p] ∧ (iva IC A ∧ ivf JC A) ∧ (∀ r : Int, (-1) ≤ r → r ≤ 5 → K (some (ni r)) A)
theorem okC_kindAt : okM LC 2 43 sC_kindAt := by
  refine qmeth [] false [(138, sC_within)] 17 rfl ⟨okC_within.le (by decide), trivial⟩ ?_
  rintro _ A K hA has ⟨p, rfl, ⟨i0, j0⟩, hK⟩
  have rg_p : rng p := has (ni p) (by simp)
  have f0 := frm_0 [] [] A
  refine ⟨Nat.le_of_ble_eq_true rfl, [], trivial, ?_⟩
  refine Exists.intro p (Exists.intro 4 (And.intro rfl (And.intro (fun h1 => ?_) (fun h1 => ?_))))
  · refine And.intro (fun h2 => by exfalso; omega) (fun h2 => ?_)
    refine And.intro (by omega) (fun v3 gv3 e4 => ?_)
    have b5 := iva_at i0 33 rfl (i := p) (by omega) (by omega)
    exact hK _ (by omega) (by omega)
  · refine And.intro (fun h6 => ?_) (fun h6 => by exfalso; omega)
    exact hK _ (by omega) (by omega)
end
