-- ===== PART A: goes FIRST, ahead of the names: the tables' words, and 'selects' of the private methods out of them =====
/-- a private method of a class that the tables say can be made, by its rows of tables_1 -/
def lw_okq (q : MethodName × Nat) : Prop := (q.1.cls ≠ "java/lang/invoke/MethodHandle" ∧ q.1.cls ≠ "java/lang/invoke/VarHandle") ∧ Cond.instantiable q.1.cls q.2 ∈ tables_1 ∧ Cond.privateMethod q.1 ∈ tables_1 ∧ Cond.instanceMethod q.1 ∈ tables_1
theorem lw_p0 : lw_okq (⟨"ReturnDesk", "modelAt", "(I)LReturnDesk$Model;"⟩, 18) := ⟨⟨by decide +kernel, by decide +kernel⟩, List.mem_of_getElem? (i := 21) (by decide +kernel), List.mem_of_getElem? (i := 291) (by decide +kernel), List.mem_of_getElem? (i := 292) (by decide +kernel)⟩
theorem lw_p1 : lw_okq (⟨"ReturnDesk", "lotAt", "(I)LReturnDesk$Lot;"⟩, 18) := ⟨⟨by decide +kernel, by decide +kernel⟩, List.mem_of_getElem? (i := 21) (by decide +kernel), List.mem_of_getElem? (i := 347) (by decide +kernel), List.mem_of_getElem? (i := 348) (by decide +kernel)⟩
theorem lw_p2 : lw_okq (⟨"ReturnDesk", "today", "()I"⟩, 18) := ⟨⟨by decide +kernel, by decide +kernel⟩, List.mem_of_getElem? (i := 21) (by decide +kernel), List.mem_of_getElem? (i := 356) (by decide +kernel), List.mem_of_getElem? (i := 357) (by decide +kernel)⟩
theorem lw_p3 : lw_okq (⟨"ReturnDesk", "saleAt", "(I)LReturnDesk$Sale;"⟩, 18) := ⟨⟨by decide +kernel, by decide +kernel⟩, List.mem_of_getElem? (i := 21) (by decide +kernel), List.mem_of_getElem? (i := 455) (by decide +kernel), List.mem_of_getElem? (i := 456) (by decide +kernel)⟩
theorem lw_p4 : lw_okq (⟨"ReturnDesk", "threesOf", "(LReturnDesk$Sale;)I"⟩, 18) := ⟨⟨by decide +kernel, by decide +kernel⟩, List.mem_of_getElem? (i := 21) (by decide +kernel), List.mem_of_getElem? (i := 464) (by decide +kernel), List.mem_of_getElem? (i := 465) (by decide +kernel)⟩
theorem lw_p5 : lw_okq (⟨"ReturnDesk$Reader", "start", "(Ljava/lang/String;)V"⟩, 5) := ⟨⟨by decide +kernel, by decide +kernel⟩, List.mem_of_getElem? (i := 67) (by decide +kernel), List.mem_of_getElem? (i := 504) (by decide +kernel), List.mem_of_getElem? (i := 505) (by decide +kernel)⟩
theorem lw_p6 : lw_okq (⟨"ReturnDesk$Tape", "byteAt", "(I)I"⟩, 6) := ⟨⟨by decide +kernel, by decide +kernel⟩, List.mem_of_getElem? (i := 73) (by decide +kernel), List.mem_of_getElem? (i := 512) (by decide +kernel), List.mem_of_getElem? (i := 513) (by decide +kernel)⟩
theorem lw_p7 : lw_okq (⟨"ReturnDesk$Tape", "endOfWord", "(I)I"⟩, 6) := ⟨⟨by decide +kernel, by decide +kernel⟩, List.mem_of_getElem? (i := 73) (by decide +kernel), List.mem_of_getElem? (i := 519) (by decide +kernel), List.mem_of_getElem? (i := 520) (by decide +kernel)⟩
theorem lw_p8 : lw_okq (⟨"ReturnDesk$Tape", "addWord", "(IILjava/lang/String;)V"⟩, 6) := ⟨⟨by decide +kernel, by decide +kernel⟩, List.mem_of_getElem? (i := 73) (by decide +kernel), List.mem_of_getElem? (i := 523) (by decide +kernel), List.mem_of_getElem? (i := 524) (by decide +kernel)⟩
theorem lw_p9 : lw_okq (⟨"ReturnDesk$Tape", "placeInList", "(Ljava/lang/String;II)I"⟩, 6) := ⟨⟨by decide +kernel, by decide +kernel⟩, List.mem_of_getElem? (i := 73) (by decide +kernel), List.mem_of_getElem? (i := 528) (by decide +kernel), List.mem_of_getElem? (i := 529) (by decide +kernel)⟩
theorem lw_p10 : lw_okq (⟨"ReturnDesk$Tape", "add", "(III)V"⟩, 6) := ⟨⟨by decide +kernel, by decide +kernel⟩, List.mem_of_getElem? (i := 73) (by decide +kernel), List.mem_of_getElem? (i := 580) (by decide +kernel), List.mem_of_getElem? (i := 581) (by decide +kernel)⟩
theorem lw_p11 : lw_okq (⟨"ReturnDesk$Tape", "endOfNumber", "(I)I"⟩, 6) := ⟨⟨by decide +kernel, by decide +kernel⟩, List.mem_of_getElem? (i := 73) (by decide +kernel), List.mem_of_getElem? (i := 588) (by decide +kernel), List.mem_of_getElem? (i := 589) (by decide +kernel)⟩
theorem lw_p12 : lw_okq (⟨"ReturnDesk$Tape", "addNumber", "(II)V"⟩, 6) := ⟨⟨by decide +kernel, by decide +kernel⟩, List.mem_of_getElem? (i := 73) (by decide +kernel), List.mem_of_getElem? (i := 592) (by decide +kernel), List.mem_of_getElem? (i := 593) (by decide +kernel)⟩
theorem lw_p13 : lw_okq (⟨"ReturnDesk$Reader", "readRule", "()Z"⟩, 5) := ⟨⟨by decide +kernel, by decide +kernel⟩, List.mem_of_getElem? (i := 67) (by decide +kernel), List.mem_of_getElem? (i := 654) (by decide +kernel), List.mem_of_getElem? (i := 655) (by decide +kernel)⟩
theorem lw_p14 : lw_okq (⟨"ReturnDesk$Reader", "readOut", "()Z"⟩, 5) := ⟨⟨by decide +kernel, by decide +kernel⟩, List.mem_of_getElem? (i := 67) (by decide +kernel), List.mem_of_getElem? (i := 658) (by decide +kernel), List.mem_of_getElem? (i := 659) (by decide +kernel)⟩
theorem lw_p15 : lw_okq (⟨"ReturnDesk$Reader", "step", "()V"⟩, 5) := ⟨⟨by decide +kernel, by decide +kernel⟩, List.mem_of_getElem? (i := 67) (by decide +kernel), List.mem_of_getElem? (i := 662) (by decide +kernel), List.mem_of_getElem? (i := 663) (by decide +kernel)⟩
def lw_privs_1 : List (MethodName × Nat) := [(⟨"ReturnDesk", "modelAt", "(I)LReturnDesk$Model;"⟩, 18), (⟨"ReturnDesk", "lotAt", "(I)LReturnDesk$Lot;"⟩, 18), (⟨"ReturnDesk", "today", "()I"⟩, 18), (⟨"ReturnDesk", "saleAt", "(I)LReturnDesk$Sale;"⟩, 18), (⟨"ReturnDesk", "threesOf", "(LReturnDesk$Sale;)I"⟩, 18), (⟨"ReturnDesk$Reader", "start", "(Ljava/lang/String;)V"⟩, 5), (⟨"ReturnDesk$Tape", "byteAt", "(I)I"⟩, 6), (⟨"ReturnDesk$Tape", "endOfWord", "(I)I"⟩, 6), (⟨"ReturnDesk$Tape", "addWord", "(IILjava/lang/String;)V"⟩, 6), (⟨"ReturnDesk$Tape", "placeInList", "(Ljava/lang/String;II)I"⟩, 6), (⟨"ReturnDesk$Tape", "add", "(III)V"⟩, 6), (⟨"ReturnDesk$Tape", "endOfNumber", "(I)I"⟩, 6), (⟨"ReturnDesk$Tape", "addNumber", "(II)V"⟩, 6), (⟨"ReturnDesk$Reader", "readRule", "()Z"⟩, 5), (⟨"ReturnDesk$Reader", "readOut", "()Z"⟩, 5), (⟨"ReturnDesk$Reader", "step", "()V"⟩, 5)]
theorem lw_r1 : ∀ q ∈ lw_privs_1, lw_okq q := List.forall_mem_cons.mpr ⟨lw_p0, List.forall_mem_cons.mpr ⟨lw_p1, List.forall_mem_cons.mpr ⟨lw_p2, List.forall_mem_cons.mpr ⟨lw_p3, List.forall_mem_cons.mpr ⟨lw_p4, List.forall_mem_cons.mpr ⟨lw_p5, List.forall_mem_cons.mpr ⟨lw_p6, List.forall_mem_cons.mpr ⟨lw_p7, List.forall_mem_cons.mpr ⟨lw_p8, List.forall_mem_cons.mpr ⟨lw_p9, List.forall_mem_cons.mpr ⟨lw_p10, List.forall_mem_cons.mpr ⟨lw_p11, List.forall_mem_cons.mpr ⟨lw_p12, List.forall_mem_cons.mpr ⟨lw_p13, List.forall_mem_cons.mpr ⟨lw_p14, List.forall_mem_cons.mpr ⟨lw_p15, fun _ h => absurd h List.not_mem_nil⟩⟩⟩⟩⟩⟩⟩⟩⟩⟩⟩⟩⟩⟩⟩⟩
theorem lw_p16 : lw_okq (⟨"ReturnDesk$Reader", "readSum", "(I)Z"⟩, 5) := ⟨⟨by decide +kernel, by decide +kernel⟩, List.mem_of_getElem? (i := 67) (by decide +kernel), List.mem_of_getElem? (i := 666) (by decide +kernel), List.mem_of_getElem? (i := 667) (by decide +kernel)⟩
theorem lw_p17 : lw_okq (⟨"ReturnDesk$Reader", "readProduct", "(I)Z"⟩, 5) := ⟨⟨by decide +kernel, by decide +kernel⟩, List.mem_of_getElem? (i := 67) (by decide +kernel), List.mem_of_getElem? (i := 670) (by decide +kernel), List.mem_of_getElem? (i := 671) (by decide +kernel)⟩
theorem lw_p18 : lw_okq (⟨"ReturnDesk$Reader", "readOperand", "(I)Z"⟩, 5) := ⟨⟨by decide +kernel, by decide +kernel⟩, List.mem_of_getElem? (i := 67) (by decide +kernel), List.mem_of_getElem? (i := 674) (by decide +kernel), List.mem_of_getElem? (i := 675) (by decide +kernel)⟩
theorem lw_p19 : lw_okq (⟨"ReturnDesk$Reader", "write", "(I)V"⟩, 5) := ⟨⟨by decide +kernel, by decide +kernel⟩, List.mem_of_getElem? (i := 67) (by decide +kernel), List.mem_of_getElem? (i := 678) (by decide +kernel), List.mem_of_getElem? (i := 679) (by decide +kernel)⟩
theorem lw_p20 : lw_okq (⟨"ReturnDesk$Reader", "readAny", "(I)Z"⟩, 5) := ⟨⟨by decide +kernel, by decide +kernel⟩, List.mem_of_getElem? (i := 67) (by decide +kernel), List.mem_of_getElem? (i := 682) (by decide +kernel), List.mem_of_getElem? (i := 683) (by decide +kernel)⟩
theorem lw_p21 : lw_okq (⟨"ReturnDesk$Reader", "readAll", "(I)Z"⟩, 5) := ⟨⟨by decide +kernel, by decide +kernel⟩, List.mem_of_getElem? (i := 67) (by decide +kernel), List.mem_of_getElem? (i := 686) (by decide +kernel), List.mem_of_getElem? (i := 687) (by decide +kernel)⟩
theorem lw_p22 : lw_okq (⟨"ReturnDesk$Reader", "readTest", "(I)Z"⟩, 5) := ⟨⟨by decide +kernel, by decide +kernel⟩, List.mem_of_getElem? (i := 67) (by decide +kernel), List.mem_of_getElem? (i := 690) (by decide +kernel), List.mem_of_getElem? (i := 691) (by decide +kernel)⟩
theorem lw_p23 : lw_okq (⟨"ReturnDesk$Reader", "readNot", "(I)Z"⟩, 5) := ⟨⟨by decide +kernel, by decide +kernel⟩, List.mem_of_getElem? (i := 67) (by decide +kernel), List.mem_of_getElem? (i := 694) (by decide +kernel), List.mem_of_getElem? (i := 695) (by decide +kernel)⟩
theorem lw_p24 : lw_okq (⟨"ReturnDesk", "textFor", "(ILReturnDesk$Sale;I)LReturnDesk$Text;"⟩, 18) := ⟨⟨by decide +kernel, by decide +kernel⟩, List.mem_of_getElem? (i := 21) (by decide +kernel), List.mem_of_getElem? (i := 745) (by decide +kernel), List.mem_of_getElem? (i := 746) (by decide +kernel)⟩
theorem lw_p25 : lw_okq (⟨"ReturnDesk", "tellSale", "(LReturnDesk$Sale;II)V"⟩, 18) := ⟨⟨by decide +kernel, by decide +kernel⟩, List.mem_of_getElem? (i := 21) (by decide +kernel), List.mem_of_getElem? (i := 760) (by decide +kernel), List.mem_of_getElem? (i := 761) (by decide +kernel)⟩
theorem lw_p26 : lw_okq (⟨"ReturnDesk", "timesOf", "(LReturnDesk$Sale;I)I"⟩, 18) := ⟨⟨by decide +kernel, by decide +kernel⟩, List.mem_of_getElem? (i := 21) (by decide +kernel), List.mem_of_getElem? (i := 768) (by decide +kernel), List.mem_of_getElem? (i := 769) (by decide +kernel)⟩
theorem lw_p27 : lw_okq (⟨"ReturnDesk", "backOfBuyer", "(III)I"⟩, 18) := ⟨⟨by decide +kernel, by decide +kernel⟩, List.mem_of_getElem? (i := 21) (by decide +kernel), List.mem_of_getElem? (i := 775) (by decide +kernel), List.mem_of_getElem? (i := 776) (by decide +kernel)⟩
theorem lw_p28 : lw_okq (⟨"ReturnDesk", "tellFacts", "(IIII)V"⟩, 18) := ⟨⟨by decide +kernel, by decide +kernel⟩, List.mem_of_getElem? (i := 21) (by decide +kernel), List.mem_of_getElem? (i := 779) (by decide +kernel), List.mem_of_getElem? (i := 780) (by decide +kernel)⟩
theorem lw_p29 : lw_okq (⟨"ReturnDesk", "outOf", "(LReturnDesk$Text;)I"⟩, 18) := ⟨⟨by decide +kernel, by decide +kernel⟩, List.mem_of_getElem? (i := 21) (by decide +kernel), List.mem_of_getElem? (i := 783) (by decide +kernel), List.mem_of_getElem? (i := 784) (by decide +kernel)⟩
theorem lw_p30 : lw_okq (⟨"ReturnDesk$Machine", "pop", "()I"⟩, 3) := ⟨⟨by decide +kernel, by decide +kernel⟩, List.mem_of_getElem? (i := 121) (by decide +kernel), List.mem_of_getElem? (i := 791) (by decide +kernel), List.mem_of_getElem? (i := 792) (by decide +kernel)⟩
theorem lw_p31 : lw_okq (⟨"ReturnDesk$Machine", "given", "(I)I"⟩, 3) := ⟨⟨by decide +kernel, by decide +kernel⟩, List.mem_of_getElem? (i := 121) (by decide +kernel), List.mem_of_getElem? (i := 795) (by decide +kernel), List.mem_of_getElem? (i := 796) (by decide +kernel)⟩
def lw_privs_2 : List (MethodName × Nat) := [(⟨"ReturnDesk$Reader", "readSum", "(I)Z"⟩, 5), (⟨"ReturnDesk$Reader", "readProduct", "(I)Z"⟩, 5), (⟨"ReturnDesk$Reader", "readOperand", "(I)Z"⟩, 5), (⟨"ReturnDesk$Reader", "write", "(I)V"⟩, 5), (⟨"ReturnDesk$Reader", "readAny", "(I)Z"⟩, 5), (⟨"ReturnDesk$Reader", "readAll", "(I)Z"⟩, 5), (⟨"ReturnDesk$Reader", "readTest", "(I)Z"⟩, 5), (⟨"ReturnDesk$Reader", "readNot", "(I)Z"⟩, 5), (⟨"ReturnDesk", "textFor", "(ILReturnDesk$Sale;I)LReturnDesk$Text;"⟩, 18), (⟨"ReturnDesk", "tellSale", "(LReturnDesk$Sale;II)V"⟩, 18), (⟨"ReturnDesk", "timesOf", "(LReturnDesk$Sale;I)I"⟩, 18), (⟨"ReturnDesk", "backOfBuyer", "(III)I"⟩, 18), (⟨"ReturnDesk", "tellFacts", "(IIII)V"⟩, 18), (⟨"ReturnDesk", "outOf", "(LReturnDesk$Text;)I"⟩, 18), (⟨"ReturnDesk$Machine", "pop", "()I"⟩, 3), (⟨"ReturnDesk$Machine", "given", "(I)I"⟩, 3)]
theorem lw_r2 : ∀ q ∈ lw_privs_2, lw_okq q := List.forall_mem_cons.mpr ⟨lw_p16, List.forall_mem_cons.mpr ⟨lw_p17, List.forall_mem_cons.mpr ⟨lw_p18, List.forall_mem_cons.mpr ⟨lw_p19, List.forall_mem_cons.mpr ⟨lw_p20, List.forall_mem_cons.mpr ⟨lw_p21, List.forall_mem_cons.mpr ⟨lw_p22, List.forall_mem_cons.mpr ⟨lw_p23, List.forall_mem_cons.mpr ⟨lw_p24, List.forall_mem_cons.mpr ⟨lw_p25, List.forall_mem_cons.mpr ⟨lw_p26, List.forall_mem_cons.mpr ⟨lw_p27, List.forall_mem_cons.mpr ⟨lw_p28, List.forall_mem_cons.mpr ⟨lw_p29, List.forall_mem_cons.mpr ⟨lw_p30, List.forall_mem_cons.mpr ⟨lw_p31, fun _ h => absurd h List.not_mem_nil⟩⟩⟩⟩⟩⟩⟩⟩⟩⟩⟩⟩⟩⟩⟩⟩
theorem lw_p32 : lw_okq (⟨"ReturnDesk$Machine", "work", "(I)V"⟩, 3) := ⟨⟨by decide +kernel, by decide +kernel⟩, List.mem_of_getElem? (i := 121) (by decide +kernel), List.mem_of_getElem? (i := 801) (by decide +kernel), List.mem_of_getElem? (i := 802) (by decide +kernel)⟩
theorem lw_p33 : lw_okq (⟨"ReturnDesk$Machine", "push", "(I)V"⟩, 3) := ⟨⟨by decide +kernel, by decide +kernel⟩, List.mem_of_getElem? (i := 121) (by decide +kernel), List.mem_of_getElem? (i := 808) (by decide +kernel), List.mem_of_getElem? (i := 809) (by decide +kernel)⟩
theorem lw_p34 : lw_okq (⟨"ReturnDesk$Machine", "valueNamed", "(I)I"⟩, 3) := ⟨⟨by decide +kernel, by decide +kernel⟩, List.mem_of_getElem? (i := 121) (by decide +kernel), List.mem_of_getElem? (i := 816) (by decide +kernel), List.mem_of_getElem? (i := 817) (by decide +kernel)⟩
theorem lw_p35 : lw_okq (⟨"ReturnDesk", "askingAt", "(I)LReturnDesk$Asking;"⟩, 18) := ⟨⟨by decide +kernel, by decide +kernel⟩, List.mem_of_getElem? (i := 21) (by decide +kernel), List.mem_of_getElem? (i := 915) (by decide +kernel), List.mem_of_getElem? (i := 916) (by decide +kernel)⟩
theorem lw_p36 : lw_okq (⟨"ReturnDesk", "judge", "(LReturnDesk$Asking;I)V"⟩, 18) := ⟨⟨by decide +kernel, by decide +kernel⟩, List.mem_of_getElem? (i := 21) (by decide +kernel), List.mem_of_getElem? (i := 919) (by decide +kernel), List.mem_of_getElem? (i := 920) (by decide +kernel)⟩
theorem lw_p37 : lw_okq (⟨"ReturnDesk$Judgement", "worthOf", "(I)I"⟩, 7) := ⟨⟨by decide +kernel, by decide +kernel⟩, List.mem_of_getElem? (i := 137) (by decide +kernel), List.mem_of_getElem? (i := 934) (by decide +kernel), List.mem_of_getElem? (i := 935) (by decide +kernel)⟩
theorem lw_p38 : lw_okq (⟨"ReturnDesk", "carryOut", "(LReturnDesk$Asking;II)I"⟩, 18) := ⟨⟨by decide +kernel, by decide +kernel⟩, List.mem_of_getElem? (i := 21) (by decide +kernel), List.mem_of_getElem? (i := 950) (by decide +kernel), List.mem_of_getElem? (i := 951) (by decide +kernel)⟩
theorem lw_p39 : lw_okq (⟨"ReturnDesk", "giveNote", "(LReturnDesk$Asking;I)I"⟩, 18) := ⟨⟨by decide +kernel, by decide +kernel⟩, List.mem_of_getElem? (i := 21) (by decide +kernel), List.mem_of_getElem? (i := 954) (by decide +kernel), List.mem_of_getElem? (i := 955) (by decide +kernel)⟩
theorem lw_p40 : lw_okq (⟨"ReturnDesk", "giveCoins", "(LReturnDesk$Asking;I)I"⟩, 18) := ⟨⟨by decide +kernel, by decide +kernel⟩, List.mem_of_getElem? (i := 21) (by decide +kernel), List.mem_of_getElem? (i := 966) (by decide +kernel), List.mem_of_getElem? (i := 967) (by decide +kernel)⟩
theorem lw_p41 : lw_okq (⟨"ReturnDesk", "giveNewPiece", "(LReturnDesk$Asking;)I"⟩, 18) := ⟨⟨by decide +kernel, by decide +kernel⟩, List.mem_of_getElem? (i := 21) (by decide +kernel), List.mem_of_getElem? (i := 974) (by decide +kernel), List.mem_of_getElem? (i := 975) (by decide +kernel)⟩
theorem lw_p42 : lw_okq (⟨"ReturnDesk", "takeNewPiece", "(LReturnDesk$Model;)Z"⟩, 18) := ⟨⟨by decide +kernel, by decide +kernel⟩, List.mem_of_getElem? (i := 21) (by decide +kernel), List.mem_of_getElem? (i := 978) (by decide +kernel), List.mem_of_getElem? (i := 979) (by decide +kernel)⟩
theorem lw_p43 : lw_okq (⟨"ReturnDesk", "mendForBuyer", "(LReturnDesk$Sale;)I"⟩, 18) := ⟨⟨by decide +kernel, by decide +kernel⟩, List.mem_of_getElem? (i := 21) (by decide +kernel), List.mem_of_getElem? (i := 982) (by decide +kernel), List.mem_of_getElem? (i := 983) (by decide +kernel)⟩
theorem lw_p44 : lw_okq (⟨"ReturnDesk", "leftInLots", "(LReturnDesk$Model;)I"⟩, 18) := ⟨⟨by decide +kernel, by decide +kernel⟩, List.mem_of_getElem? (i := 21) (by decide +kernel), List.mem_of_getElem? (i := 1003) (by decide +kernel), List.mem_of_getElem? (i := 1004) (by decide +kernel)⟩
theorem lw_p45 : lw_okq (⟨"ReturnDesk", "salesOf", "(LReturnDesk$Model;ZZ)I"⟩, 18) := ⟨⟨by decide +kernel, by decide +kernel⟩, List.mem_of_getElem? (i := 21) (by decide +kernel), List.mem_of_getElem? (i := 1007) (by decide +kernel), List.mem_of_getElem? (i := 1008) (by decide +kernel)⟩
theorem lw_p46 : lw_okq (⟨"ReturnDesk", "worthNow", "(LReturnDesk$Sale;I)I"⟩, 18) := ⟨⟨by decide +kernel, by decide +kernel⟩, List.mem_of_getElem? (i := 21) (by decide +kernel), List.mem_of_getElem? (i := 1015) (by decide +kernel), List.mem_of_getElem? (i := 1016) (by decide +kernel)⟩
theorem lw_p47 : lw_okq (⟨"ReturnDesk", "usedWorth", "(LReturnDesk$Sale;)I"⟩, 18) := ⟨⟨by decide +kernel, by decide +kernel⟩, List.mem_of_getElem? (i := 21) (by decide +kernel), List.mem_of_getElem? (i := 1028) (by decide +kernel), List.mem_of_getElem? (i := 1029) (by decide +kernel)⟩
def lw_privs_3 : List (MethodName × Nat) := [(⟨"ReturnDesk$Machine", "work", "(I)V"⟩, 3), (⟨"ReturnDesk$Machine", "push", "(I)V"⟩, 3), (⟨"ReturnDesk$Machine", "valueNamed", "(I)I"⟩, 3), (⟨"ReturnDesk", "askingAt", "(I)LReturnDesk$Asking;"⟩, 18), (⟨"ReturnDesk", "judge", "(LReturnDesk$Asking;I)V"⟩, 18), (⟨"ReturnDesk$Judgement", "worthOf", "(I)I"⟩, 7), (⟨"ReturnDesk", "carryOut", "(LReturnDesk$Asking;II)I"⟩, 18), (⟨"ReturnDesk", "giveNote", "(LReturnDesk$Asking;I)I"⟩, 18), (⟨"ReturnDesk", "giveCoins", "(LReturnDesk$Asking;I)I"⟩, 18), (⟨"ReturnDesk", "giveNewPiece", "(LReturnDesk$Asking;)I"⟩, 18), (⟨"ReturnDesk", "takeNewPiece", "(LReturnDesk$Model;)Z"⟩, 18), (⟨"ReturnDesk", "mendForBuyer", "(LReturnDesk$Sale;)I"⟩, 18), (⟨"ReturnDesk", "leftInLots", "(LReturnDesk$Model;)I"⟩, 18), (⟨"ReturnDesk", "salesOf", "(LReturnDesk$Model;ZZ)I"⟩, 18), (⟨"ReturnDesk", "worthNow", "(LReturnDesk$Sale;I)I"⟩, 18), (⟨"ReturnDesk", "usedWorth", "(LReturnDesk$Sale;)I"⟩, 18)]
theorem lw_r3 : ∀ q ∈ lw_privs_3, lw_okq q := List.forall_mem_cons.mpr ⟨lw_p32, List.forall_mem_cons.mpr ⟨lw_p33, List.forall_mem_cons.mpr ⟨lw_p34, List.forall_mem_cons.mpr ⟨lw_p35, List.forall_mem_cons.mpr ⟨lw_p36, List.forall_mem_cons.mpr ⟨lw_p37, List.forall_mem_cons.mpr ⟨lw_p38, List.forall_mem_cons.mpr ⟨lw_p39, List.forall_mem_cons.mpr ⟨lw_p40, List.forall_mem_cons.mpr ⟨lw_p41, List.forall_mem_cons.mpr ⟨lw_p42, List.forall_mem_cons.mpr ⟨lw_p43, List.forall_mem_cons.mpr ⟨lw_p44, List.forall_mem_cons.mpr ⟨lw_p45, List.forall_mem_cons.mpr ⟨lw_p46, List.forall_mem_cons.mpr ⟨lw_p47, fun _ h => absurd h List.not_mem_nil⟩⟩⟩⟩⟩⟩⟩⟩⟩⟩⟩⟩⟩⟩⟩⟩
theorem lw_p48 : lw_okq (⟨"ReturnDesk", "bestWay", "(LReturnDesk$Sale;)I"⟩, 18) := ⟨⟨by decide +kernel, by decide +kernel⟩, List.mem_of_getElem? (i := 21) (by decide +kernel), List.mem_of_getElem? (i := 1044) (by decide +kernel), List.mem_of_getElem? (i := 1045) (by decide +kernel)⟩
theorem lw_p49 : lw_okq (⟨"ReturnDesk", "beyondChance", "(LReturnDesk$Lot;II)I"⟩, 18) := ⟨⟨by decide +kernel, by decide +kernel⟩, List.mem_of_getElem? (i := 21) (by decide +kernel), List.mem_of_getElem? (i := 1072) (by decide +kernel), List.mem_of_getElem? (i := 1073) (by decide +kernel)⟩
theorem lw_p50 : lw_okq (⟨"ReturnDesk", "nextChange", "(LReturnDesk$Model;I)I"⟩, 18) := ⟨⟨by decide +kernel, by decide +kernel⟩, List.mem_of_getElem? (i := 21) (by decide +kernel), List.mem_of_getElem? (i := 1091) (by decide +kernel), List.mem_of_getElem? (i := 1092) (by decide +kernel)⟩
theorem lw_p51 : lw_okq (⟨"ReturnDesk", "isAmong", "(II)Z"⟩, 18) := ⟨⟨by decide +kernel, by decide +kernel⟩, List.mem_of_getElem? (i := 21) (by decide +kernel), List.mem_of_getElem? (i := 1112) (by decide +kernel), List.mem_of_getElem? (i := 1113) (by decide +kernel)⟩
theorem lw_p52 : lw_okq (⟨"ReturnDesk", "boughtBy", "(I)I"⟩, 18) := ⟨⟨by decide +kernel, by decide +kernel⟩, List.mem_of_getElem? (i := 21) (by decide +kernel), List.mem_of_getElem? (i := 1116) (by decide +kernel), List.mem_of_getElem? (i := 1117) (by decide +kernel)⟩
theorem lw_p53 : lw_okq (⟨"ReturnDesk", "isHit", "(I)Z"⟩, 18) := ⟨⟨by decide +kernel, by decide +kernel⟩, List.mem_of_getElem? (i := 21) (by decide +kernel), List.mem_of_getElem? (i := 1120) (by decide +kernel), List.mem_of_getElem? (i := 1121) (by decide +kernel)⟩
theorem lw_p54 : lw_okq (⟨"ReturnDesk", "spentBy", "(I)I"⟩, 18) := ⟨⟨by decide +kernel, by decide +kernel⟩, List.mem_of_getElem? (i := 21) (by decide +kernel), List.mem_of_getElem? (i := 1124) (by decide +kernel), List.mem_of_getElem? (i := 1125) (by decide +kernel)⟩
theorem lw_p55 : lw_okq (⟨"ReturnDesk", "hasOtherSize", "(LReturnDesk$Sale;)Z"⟩, 18) := ⟨⟨by decide +kernel, by decide +kernel⟩, List.mem_of_getElem? (i := 21) (by decide +kernel), List.mem_of_getElem? (i := 1145) (by decide +kernel), List.mem_of_getElem? (i := 1146) (by decide +kernel)⟩
theorem lw_p56 : lw_okq (⟨"ReturnDeskModel", "isModel", "(I)Z"⟩, 81) := ⟨⟨by decide +kernel, by decide +kernel⟩, List.mem_of_getElem? (i := 1172) (by decide +kernel), List.mem_of_getElem? (i := 1435) (by decide +kernel), List.mem_of_getElem? (i := 1436) (by decide +kernel)⟩
theorem lw_p57 : lw_okq (⟨"ReturnDeskModel", "priceAt", "(II)I"⟩, 81) := ⟨⟨by decide +kernel, by decide +kernel⟩, List.mem_of_getElem? (i := 1172) (by decide +kernel), List.mem_of_getElem? (i := 1446) (by decide +kernel), List.mem_of_getElem? (i := 1447) (by decide +kernel)⟩
theorem lw_p58 : lw_okq (⟨"ReturnDeskModel", "isLot", "(I)Z"⟩, 81) := ⟨⟨by decide +kernel, by decide +kernel⟩, List.mem_of_getElem? (i := 1172) (by decide +kernel), List.mem_of_getElem? (i := 1468) (by decide +kernel), List.mem_of_getElem? (i := 1469) (by decide +kernel)⟩
theorem lw_p59 : lw_okq (⟨"ReturnDeskModel", "today", "()I"⟩, 81) := ⟨⟨by decide +kernel, by decide +kernel⟩, List.mem_of_getElem? (i := 1172) (by decide +kernel), List.mem_of_getElem? (i := 1472) (by decide +kernel), List.mem_of_getElem? (i := 1473) (by decide +kernel)⟩
theorem lw_p60 : lw_okq (⟨"ReturnDeskModel", "isSale", "(I)Z"⟩, 81) := ⟨⟨by decide +kernel, by decide +kernel⟩, List.mem_of_getElem? (i := 1172) (by decide +kernel), List.mem_of_getElem? (i := 1480) (by decide +kernel), List.mem_of_getElem? (i := 1481) (by decide +kernel)⟩
theorem lw_p61 : lw_okq (⟨"ReturnDeskModel", "modelOf", "(I)I"⟩, 81) := ⟨⟨by decide +kernel, by decide +kernel⟩, List.mem_of_getElem? (i := 1172) (by decide +kernel), List.mem_of_getElem? (i := 1489) (by decide +kernel), List.mem_of_getElem? (i := 1490) (by decide +kernel)⟩
theorem lw_p62 : lw_okq (⟨"ReturnDeskModel", "threes", "(I)I"⟩, 81) := ⟨⟨by decide +kernel, by decide +kernel⟩, List.mem_of_getElem? (i := 1172) (by decide +kernel), List.mem_of_getElem? (i := 1493) (by decide +kernel), List.mem_of_getElem? (i := 1494) (by decide +kernel)⟩
theorem lw_p63 : lw_okq (⟨"ReturnDeskModel", "feedOne", "(I)V"⟩, 81) := ⟨⟨by decide +kernel, by decide +kernel⟩, List.mem_of_getElem? (i := 1172) (by decide +kernel), List.mem_of_getElem? (i := 1509) (by decide +kernel), List.mem_of_getElem? (i := 1510) (by decide +kernel)⟩
def lw_privs_4 : List (MethodName × Nat) := [(⟨"ReturnDesk", "bestWay", "(LReturnDesk$Sale;)I"⟩, 18), (⟨"ReturnDesk", "beyondChance", "(LReturnDesk$Lot;II)I"⟩, 18), (⟨"ReturnDesk", "nextChange", "(LReturnDesk$Model;I)I"⟩, 18), (⟨"ReturnDesk", "isAmong", "(II)Z"⟩, 18), (⟨"ReturnDesk", "boughtBy", "(I)I"⟩, 18), (⟨"ReturnDesk", "isHit", "(I)Z"⟩, 18), (⟨"ReturnDesk", "spentBy", "(I)I"⟩, 18), (⟨"ReturnDesk", "hasOtherSize", "(LReturnDesk$Sale;)Z"⟩, 18), (⟨"ReturnDeskModel", "isModel", "(I)Z"⟩, 81), (⟨"ReturnDeskModel", "priceAt", "(II)I"⟩, 81), (⟨"ReturnDeskModel", "isLot", "(I)Z"⟩, 81), (⟨"ReturnDeskModel", "today", "()I"⟩, 81), (⟨"ReturnDeskModel", "isSale", "(I)Z"⟩, 81), (⟨"ReturnDeskModel", "modelOf", "(I)I"⟩, 81), (⟨"ReturnDeskModel", "threes", "(I)I"⟩, 81), (⟨"ReturnDeskModel", "feedOne", "(I)V"⟩, 81)]
theorem lw_r4 : ∀ q ∈ lw_privs_4, lw_okq q := List.forall_mem_cons.mpr ⟨lw_p48, List.forall_mem_cons.mpr ⟨lw_p49, List.forall_mem_cons.mpr ⟨lw_p50, List.forall_mem_cons.mpr ⟨lw_p51, List.forall_mem_cons.mpr ⟨lw_p52, List.forall_mem_cons.mpr ⟨lw_p53, List.forall_mem_cons.mpr ⟨lw_p54, List.forall_mem_cons.mpr ⟨lw_p55, List.forall_mem_cons.mpr ⟨lw_p56, List.forall_mem_cons.mpr ⟨lw_p57, List.forall_mem_cons.mpr ⟨lw_p58, List.forall_mem_cons.mpr ⟨lw_p59, List.forall_mem_cons.mpr ⟨lw_p60, List.forall_mem_cons.mpr ⟨lw_p61, List.forall_mem_cons.mpr ⟨lw_p62, List.forall_mem_cons.mpr ⟨lw_p63, fun _ h => absurd h List.not_mem_nil⟩⟩⟩⟩⟩⟩⟩⟩⟩⟩⟩⟩⟩⟩⟩⟩
theorem lw_p64 : lw_okq (⟨"ReturnDeskModel", "begin", "(I)V"⟩, 81) := ⟨⟨by decide +kernel, by decide +kernel⟩, List.mem_of_getElem? (i := 1172) (by decide +kernel), List.mem_of_getElem? (i := 1521) (by decide +kernel), List.mem_of_getElem? (i := 1522) (by decide +kernel)⟩
theorem lw_p65 : lw_okq (⟨"ReturnDeskModel", "next", "()V"⟩, 81) := ⟨⟨by decide +kernel, by decide +kernel⟩, List.mem_of_getElem? (i := 1172) (by decide +kernel), List.mem_of_getElem? (i := 1525) (by decide +kernel), List.mem_of_getElem? (i := 1526) (by decide +kernel)⟩
theorem lw_p66 : lw_okq (⟨"ReturnDeskModel", "rule", "()V"⟩, 81) := ⟨⟨by decide +kernel, by decide +kernel⟩, List.mem_of_getElem? (i := 1172) (by decide +kernel), List.mem_of_getElem? (i := 1535) (by decide +kernel), List.mem_of_getElem? (i := 1536) (by decide +kernel)⟩
theorem lw_p67 : lw_okq (⟨"ReturnDeskModel", "outOf", "()I"⟩, 81) := ⟨⟨by decide +kernel, by decide +kernel⟩, List.mem_of_getElem? (i := 1172) (by decide +kernel), List.mem_of_getElem? (i := 1539) (by decide +kernel), List.mem_of_getElem? (i := 1540) (by decide +kernel)⟩
theorem lw_p68 : lw_okq (⟨"ReturnDeskModel", "isWord", "(J)Z"⟩, 81) := ⟨⟨by decide +kernel, by decide +kernel⟩, List.mem_of_getElem? (i := 1172) (by decide +kernel), List.mem_of_getElem? (i := 1544) (by decide +kernel), List.mem_of_getElem? (i := 1545) (by decide +kernel)⟩
theorem lw_p69 : lw_okq (⟨"ReturnDeskModel", "question", "(I)V"⟩, 81) := ⟨⟨by decide +kernel, by decide +kernel⟩, List.mem_of_getElem? (i := 1172) (by decide +kernel), List.mem_of_getElem? (i := 1554) (by decide +kernel), List.mem_of_getElem? (i := 1555) (by decide +kernel)⟩
theorem lw_p70 : lw_okq (⟨"ReturnDeskModel", "all", "(I)V"⟩, 81) := ⟨⟨by decide +kernel, by decide +kernel⟩, List.mem_of_getElem? (i := 1172) (by decide +kernel), List.mem_of_getElem? (i := 1558) (by decide +kernel), List.mem_of_getElem? (i := 1559) (by decide +kernel)⟩
theorem lw_p71 : lw_okq (⟨"ReturnDeskModel", "base", "(I)V"⟩, 81) := ⟨⟨by decide +kernel, by decide +kernel⟩, List.mem_of_getElem? (i := 1172) (by decide +kernel), List.mem_of_getElem? (i := 1562) (by decide +kernel), List.mem_of_getElem? (i := 1563) (by decide +kernel)⟩
theorem lw_p72 : lw_okq (⟨"ReturnDeskModel", "opens", "()Z"⟩, 81) := ⟨⟨by decide +kernel, by decide +kernel⟩, List.mem_of_getElem? (i := 1172) (by decide +kernel), List.mem_of_getElem? (i := 1567) (by decide +kernel), List.mem_of_getElem? (i := 1568) (by decide +kernel)⟩
theorem lw_p73 : lw_okq (⟨"ReturnDeskModel", "wrong", "()V"⟩, 81) := ⟨⟨by decide +kernel, by decide +kernel⟩, List.mem_of_getElem? (i := 1172) (by decide +kernel), List.mem_of_getElem? (i := 1571) (by decide +kernel), List.mem_of_getElem? (i := 1572) (by decide +kernel)⟩
theorem lw_p74 : lw_okq (⟨"ReturnDeskModel", "lay", "(II)V"⟩, 81) := ⟨⟨by decide +kernel, by decide +kernel⟩, List.mem_of_getElem? (i := 1172) (by decide +kernel), List.mem_of_getElem? (i := 1575) (by decide +kernel), List.mem_of_getElem? (i := 1576) (by decide +kernel)⟩
theorem lw_p75 : lw_okq (⟨"ReturnDeskModel", "sum", "(I)V"⟩, 81) := ⟨⟨by decide +kernel, by decide +kernel⟩, List.mem_of_getElem? (i := 1172) (by decide +kernel), List.mem_of_getElem? (i := 1579) (by decide +kernel), List.mem_of_getElem? (i := 1580) (by decide +kernel)⟩
theorem lw_p76 : lw_okq (⟨"ReturnDeskModel", "product", "(I)V"⟩, 81) := ⟨⟨by decide +kernel, by decide +kernel⟩, List.mem_of_getElem? (i := 1172) (by decide +kernel), List.mem_of_getElem? (i := 1583) (by decide +kernel), List.mem_of_getElem? (i := 1584) (by decide +kernel)⟩
theorem lw_p77 : lw_okq (⟨"ReturnDeskModel", "operand", "(I)V"⟩, 81) := ⟨⟨by decide +kernel, by decide +kernel⟩, List.mem_of_getElem? (i := 1172) (by decide +kernel), List.mem_of_getElem? (i := 1587) (by decide +kernel), List.mem_of_getElem? (i := 1588) (by decide +kernel)⟩
theorem lw_p78 : lw_okq (⟨"ReturnDeskModel", "nameOf", "(I)I"⟩, 81) := ⟨⟨by decide +kernel, by decide +kernel⟩, List.mem_of_getElem? (i := 1172) (by decide +kernel), List.mem_of_getElem? (i := 1591) (by decide +kernel), List.mem_of_getElem? (i := 1592) (by decide +kernel)⟩
theorem lw_p79 : lw_okq (⟨"ReturnDeskModel", "forceOn", "(III)I"⟩, 81) := ⟨⟨by decide +kernel, by decide +kernel⟩, List.mem_of_getElem? (i := 1172) (by decide +kernel), List.mem_of_getElem? (i := 1603) (by decide +kernel), List.mem_of_getElem? (i := 1604) (by decide +kernel)⟩
def lw_privs_5 : List (MethodName × Nat) := [(⟨"ReturnDeskModel", "begin", "(I)V"⟩, 81), (⟨"ReturnDeskModel", "next", "()V"⟩, 81), (⟨"ReturnDeskModel", "rule", "()V"⟩, 81), (⟨"ReturnDeskModel", "outOf", "()I"⟩, 81), (⟨"ReturnDeskModel", "isWord", "(J)Z"⟩, 81), (⟨"ReturnDeskModel", "question", "(I)V"⟩, 81), (⟨"ReturnDeskModel", "all", "(I)V"⟩, 81), (⟨"ReturnDeskModel", "base", "(I)V"⟩, 81), (⟨"ReturnDeskModel", "opens", "()Z"⟩, 81), (⟨"ReturnDeskModel", "wrong", "()V"⟩, 81), (⟨"ReturnDeskModel", "lay", "(II)V"⟩, 81), (⟨"ReturnDeskModel", "sum", "(I)V"⟩, 81), (⟨"ReturnDeskModel", "product", "(I)V"⟩, 81), (⟨"ReturnDeskModel", "operand", "(I)V"⟩, 81), (⟨"ReturnDeskModel", "nameOf", "(I)I"⟩, 81), (⟨"ReturnDeskModel", "forceOn", "(III)I"⟩, 81)]
theorem lw_r5 : ∀ q ∈ lw_privs_5, lw_okq q := List.forall_mem_cons.mpr ⟨lw_p64, List.forall_mem_cons.mpr ⟨lw_p65, List.forall_mem_cons.mpr ⟨lw_p66, List.forall_mem_cons.mpr ⟨lw_p67, List.forall_mem_cons.mpr ⟨lw_p68, List.forall_mem_cons.mpr ⟨lw_p69, List.forall_mem_cons.mpr ⟨lw_p70, List.forall_mem_cons.mpr ⟨lw_p71, List.forall_mem_cons.mpr ⟨lw_p72, List.forall_mem_cons.mpr ⟨lw_p73, List.forall_mem_cons.mpr ⟨lw_p74, List.forall_mem_cons.mpr ⟨lw_p75, List.forall_mem_cons.mpr ⟨lw_p76, List.forall_mem_cons.mpr ⟨lw_p77, List.forall_mem_cons.mpr ⟨lw_p78, List.forall_mem_cons.mpr ⟨lw_p79, fun _ h => absurd h List.not_mem_nil⟩⟩⟩⟩⟩⟩⟩⟩⟩⟩⟩⟩⟩⟩⟩⟩
theorem lw_p80 : lw_okq (⟨"ReturnDeskModel", "dayOf", "(I)I"⟩, 81) := ⟨⟨by decide +kernel, by decide +kernel⟩, List.mem_of_getElem? (i := 1172) (by decide +kernel), List.mem_of_getElem? (i := 1607) (by decide +kernel), List.mem_of_getElem? (i := 1608) (by decide +kernel)⟩
theorem lw_p81 : lw_okq (⟨"ReturnDeskModel", "factsOf", "(III)V"⟩, 81) := ⟨⟨by decide +kernel, by decide +kernel⟩, List.mem_of_getElem? (i := 1172) (by decide +kernel), List.mem_of_getElem? (i := 1616) (by decide +kernel), List.mem_of_getElem? (i := 1617) (by decide +kernel)⟩
theorem lw_p82 : lw_okq (⟨"ReturnDeskModel", "times", "(II)I"⟩, 81) := ⟨⟨by decide +kernel, by decide +kernel⟩, List.mem_of_getElem? (i := 1172) (by decide +kernel), List.mem_of_getElem? (i := 1620) (by decide +kernel), List.mem_of_getElem? (i := 1621) (by decide +kernel)⟩
theorem lw_p83 : lw_okq (⟨"ReturnDeskModel", "sideSays", "(III)I"⟩, 81) := ⟨⟨by decide +kernel, by decide +kernel⟩, List.mem_of_getElem? (i := 1172) (by decide +kernel), List.mem_of_getElem? (i := 1624) (by decide +kernel), List.mem_of_getElem? (i := 1625) (by decide +kernel)⟩
theorem lw_p84 : lw_okq (⟨"ReturnDeskModel", "works", "(I)I"⟩, 81) := ⟨⟨by decide +kernel, by decide +kernel⟩, List.mem_of_getElem? (i := 1172) (by decide +kernel), List.mem_of_getElem? (i := 1628) (by decide +kernel), List.mem_of_getElem? (i := 1629) (by decide +kernel)⟩
theorem lw_p85 : lw_okq (⟨"ReturnDeskModel", "isAsking", "(I)Z"⟩, 81) := ⟨⟨by decide +kernel, by decide +kernel⟩, List.mem_of_getElem? (i := 1172) (by decide +kernel), List.mem_of_getElem? (i := 1651) (by decide +kernel), List.mem_of_getElem? (i := 1652) (by decide +kernel)⟩
theorem lw_p86 : lw_okq (⟨"ReturnDeskModel", "find", "(II)V"⟩, 81) := ⟨⟨by decide +kernel, by decide +kernel⟩, List.mem_of_getElem? (i := 1172) (by decide +kernel), List.mem_of_getElem? (i := 1655) (by decide +kernel), List.mem_of_getElem? (i := 1656) (by decide +kernel)⟩
theorem lw_p87 : lw_okq (⟨"ReturnDeskModel", "newOf", "(I)I"⟩, 81) := ⟨⟨by decide +kernel, by decide +kernel⟩, List.mem_of_getElem? (i := 1172) (by decide +kernel), List.mem_of_getElem? (i := 1672) (by decide +kernel), List.mem_of_getElem? (i := 1673) (by decide +kernel)⟩
theorem lw_p88 : lw_okq (⟨"ReturnDeskModel", "giveNew", "(I)V"⟩, 81) := ⟨⟨by decide +kernel, by decide +kernel⟩, List.mem_of_getElem? (i := 1172) (by decide +kernel), List.mem_of_getElem? (i := 1676) (by decide +kernel), List.mem_of_getElem? (i := 1677) (by decide +kernel)⟩
theorem lw_p89 : lw_okq (⟨"ReturnDeskModel", "usedOf", "(I)I"⟩, 81) := ⟨⟨by decide +kernel, by decide +kernel⟩, List.mem_of_getElem? (i := 1172) (by decide +kernel), List.mem_of_getElem? (i := 1692) (by decide +kernel), List.mem_of_getElem? (i := 1693) (by decide +kernel)⟩
theorem lw_p90 : lw_okq (⟨"ReturnDeskModel", "worthBy", "(II)I"⟩, 81) := ⟨⟨by decide +kernel, by decide +kernel⟩, List.mem_of_getElem? (i := 1172) (by decide +kernel), List.mem_of_getElem? (i := 1700) (by decide +kernel), List.mem_of_getElem? (i := 1701) (by decide +kernel)⟩
theorem lw_p91 : lw_okq (⟨"ReturnDeskModel", "wornOf", "(I)I"⟩, 81) := ⟨⟨by decide +kernel, by decide +kernel⟩, List.mem_of_getElem? (i := 1172) (by decide +kernel), List.mem_of_getElem? (i := 1704) (by decide +kernel), List.mem_of_getElem? (i := 1705) (by decide +kernel)⟩
theorem lw_p92 : lw_okq (⟨"ReturnDeskModel", "asUsed", "(II)I"⟩, 81) := ⟨⟨by decide +kernel, by decide +kernel⟩, List.mem_of_getElem? (i := 1172) (by decide +kernel), List.mem_of_getElem? (i := 1708) (by decide +kernel), List.mem_of_getElem? (i := 1709) (by decide +kernel)⟩
theorem lw_p93 : lw_okq (⟨"ReturnDeskModel", "isBeyond", "(III)I"⟩, 81) := ⟨⟨by decide +kernel, by decide +kernel⟩, List.mem_of_getElem? (i := 1172) (by decide +kernel), List.mem_of_getElem? (i := 1728) (by decide +kernel), List.mem_of_getElem? (i := 1729) (by decide +kernel)⟩
theorem lw_p94 : lw_okq (⟨"ReturnDeskModel", "soldBy", "(IIZ)I"⟩, 81) := ⟨⟨by decide +kernel, by decide +kernel⟩, List.mem_of_getElem? (i := 1172) (by decide +kernel), List.mem_of_getElem? (i := 1732) (by decide +kernel), List.mem_of_getElem? (i := 1733) (by decide +kernel)⟩
theorem lw_p95 : lw_okq (⟨"ReturnDeskModel", "choose", "(II)J"⟩, 81) := ⟨⟨by decide +kernel, by decide +kernel⟩, List.mem_of_getElem? (i := 1172) (by decide +kernel), List.mem_of_getElem? (i := 1737) (by decide +kernel), List.mem_of_getElem? (i := 1738) (by decide +kernel)⟩
def lw_privs_6 : List (MethodName × Nat) := [(⟨"ReturnDeskModel", "dayOf", "(I)I"⟩, 81), (⟨"ReturnDeskModel", "factsOf", "(III)V"⟩, 81), (⟨"ReturnDeskModel", "times", "(II)I"⟩, 81), (⟨"ReturnDeskModel", "sideSays", "(III)I"⟩, 81), (⟨"ReturnDeskModel", "works", "(I)I"⟩, 81), (⟨"ReturnDeskModel", "isAsking", "(I)Z"⟩, 81), (⟨"ReturnDeskModel", "find", "(II)V"⟩, 81), (⟨"ReturnDeskModel", "newOf", "(I)I"⟩, 81), (⟨"ReturnDeskModel", "giveNew", "(I)V"⟩, 81), (⟨"ReturnDeskModel", "usedOf", "(I)I"⟩, 81), (⟨"ReturnDeskModel", "worthBy", "(II)I"⟩, 81), (⟨"ReturnDeskModel", "wornOf", "(I)I"⟩, 81), (⟨"ReturnDeskModel", "asUsed", "(II)I"⟩, 81), (⟨"ReturnDeskModel", "isBeyond", "(III)I"⟩, 81), (⟨"ReturnDeskModel", "soldBy", "(IIZ)I"⟩, 81), (⟨"ReturnDeskModel", "choose", "(II)J"⟩, 81)]
theorem lw_r6 : ∀ q ∈ lw_privs_6, lw_okq q := List.forall_mem_cons.mpr ⟨lw_p80, List.forall_mem_cons.mpr ⟨lw_p81, List.forall_mem_cons.mpr ⟨lw_p82, List.forall_mem_cons.mpr ⟨lw_p83, List.forall_mem_cons.mpr ⟨lw_p84, List.forall_mem_cons.mpr ⟨lw_p85, List.forall_mem_cons.mpr ⟨lw_p86, List.forall_mem_cons.mpr ⟨lw_p87, List.forall_mem_cons.mpr ⟨lw_p88, List.forall_mem_cons.mpr ⟨lw_p89, List.forall_mem_cons.mpr ⟨lw_p90, List.forall_mem_cons.mpr ⟨lw_p91, List.forall_mem_cons.mpr ⟨lw_p92, List.forall_mem_cons.mpr ⟨lw_p93, List.forall_mem_cons.mpr ⟨lw_p94, List.forall_mem_cons.mpr ⟨lw_p95, fun _ h => absurd h List.not_mem_nil⟩⟩⟩⟩⟩⟩⟩⟩⟩⟩⟩⟩⟩⟩⟩⟩
theorem lw_p96 : lw_okq (⟨"ReturnDeskModel", "isHit", "(I)Z"⟩, 81) := ⟨⟨by decide +kernel, by decide +kernel⟩, List.mem_of_getElem? (i := 1172) (by decide +kernel), List.mem_of_getElem? (i := 1761) (by decide +kernel), List.mem_of_getElem? (i := 1762) (by decide +kernel)⟩
theorem lw_p97 : lw_okq (⟨"ReturnDeskModel", "hasBought", "(I)Z"⟩, 81) := ⟨⟨by decide +kernel, by decide +kernel⟩, List.mem_of_getElem? (i := 1172) (by decide +kernel), List.mem_of_getElem? (i := 1769) (by decide +kernel), List.mem_of_getElem? (i := 1770) (by decide +kernel)⟩
theorem lw_p98 : lw_okq (⟨"ReturnDeskModel", "hasOtherSize", "(I)Z"⟩, 81) := ⟨⟨by decide +kernel, by decide +kernel⟩, List.mem_of_getElem? (i := 1172) (by decide +kernel), List.mem_of_getElem? (i := 1781) (by decide +kernel), List.mem_of_getElem? (i := 1782) (by decide +kernel)⟩
def lw_privs_7 : List (MethodName × Nat) := [(⟨"ReturnDeskModel", "isHit", "(I)Z"⟩, 81), (⟨"ReturnDeskModel", "hasBought", "(I)Z"⟩, 81), (⟨"ReturnDeskModel", "hasOtherSize", "(I)Z"⟩, 81)]
theorem lw_r7 : ∀ q ∈ lw_privs_7, lw_okq q := List.forall_mem_cons.mpr ⟨lw_p96, List.forall_mem_cons.mpr ⟨lw_p97, List.forall_mem_cons.mpr ⟨lw_p98, fun _ h => absurd h List.not_mem_nil⟩⟩⟩
def lw_privs : List (MethodName × Nat) := lw_privs_1 ++ (lw_privs_2 ++ (lw_privs_3 ++ (lw_privs_4 ++ (lw_privs_5 ++ (lw_privs_6 ++ (lw_privs_7))))))
def lw_tbl : List Cond := k2_sels lw_privs ++ tables_1
theorem lw_privs_ok : ∀ q ∈ lw_privs, lw_okq q := by
  show ∀ q ∈ lw_privs_1 ++ (lw_privs_2 ++ (lw_privs_3 ++ (lw_privs_4 ++ (lw_privs_5 ++ (lw_privs_6 ++ (lw_privs_7)))))), lw_okq q
  exact List.forall_mem_append.mpr ⟨lw_r1, List.forall_mem_append.mpr ⟨lw_r2, List.forall_mem_append.mpr ⟨lw_r3, List.forall_mem_append.mpr ⟨lw_r4, List.forall_mem_append.mpr ⟨lw_r5, List.forall_mem_append.mpr ⟨lw_r6, lw_r7⟩⟩⟩⟩⟩⟩
def RX0 : String := "ReturnDesk$Asking"
def TX0 : u_T := fun k => match k with
  | 0 => ("ReturnDesk$Asking", "sale", "LReturnDesk$Sale;", true)
  | 1 => ("ReturnDesk$Asking", "proof", "I", true)
  | 2 => ("ReturnDesk$Asking", "day", "I", true)
  | 3 => ("ReturnDesk$Asking", "leastDays", "I", true)
  | 4 => ("ReturnDesk$Asking", "mostDays", "I", true)
  | 5 => ("ReturnDesk$Asking", "leastFault", "I", true)
  | 6 => ("ReturnDesk$Asking", "mostFault", "I", true)
  | 7 => ("ReturnDesk$Asking", "leastWorn", "I", true)
  | 8 => ("ReturnDesk$Asking", "mostWorn", "I", true)
  | 9 => ("ReturnDesk$Asking", "leastOpened", "I", true)
  | 10 => ("ReturnDesk$Asking", "mostOpened", "I", true)
  | 11 => ("ReturnDesk$Asking", "swapped", "Z", true)
  | 12 => ("ReturnDesk$Asking", "light", "Z", true)
  | 13 => ("ReturnDesk$Asking", "state", "I", false)
  | 14 => ("ReturnDesk$Asking", "paid", "I", false)
  | _ => ("ReturnDesk$Asking", "note", "I", false)
def tyX0 : Nat → FieldType := fun k => match k with
  | 0 => .object "ReturnDesk$Sale"
  | 1 => .int
  | 2 => .int
  | 3 => .int
  | 4 => .int
  | 5 => .int
  | 6 => .int
  | 7 => .int
  | 8 => .int
  | 9 => .int
  | 10 => .int
  | 11 => .boolean
  | 12 => .boolean
  | 13 => .int
  | 14 => .int
  | _ => .int
theorem nmX0 : ∀ a, a < 16 → ∀ b, b < 16 → a ≠ b → (TX0 a).2.1 ≠ (TX0 b).2.1 := by decide +kernel
theorem tyX0_ok : ∀ k, k < 16 → parseFieldDescriptor (TX0 k).2.2.1 = some (tyX0 k) := by decide +kernel
def RX1 : String := "ReturnDesk$Judgement"
def TX1 : u_T := fun k => match k with
  | 0 => ("ReturnDesk$Judgement", "price", "I", false)
  | 1 => ("ReturnDesk$Judgement", "heardAny", "Z", false)
  | 2 => ("ReturnDesk$Judgement", "best", "I", false)
  | 3 => ("ReturnDesk$Judgement", "bestWorth", "I", false)
  | 4 => ("ReturnDesk$Judgement", "bestSide", "I", false)
  | 5 => ("ReturnDesk$Judgement", "worst", "I", false)
  | _ => ("ReturnDesk$Judgement", "worstWorth", "I", false)
def tyX1 : Nat → FieldType := fun k => match k with
  | 0 => .int
  | 1 => .boolean
  | 2 => .int
  | 3 => .int
  | 4 => .int
  | 5 => .int
  | _ => .int
theorem nmX1 : ∀ a, a < 7 → ∀ b, b < 7 → a ≠ b → (TX1 a).2.1 ≠ (TX1 b).2.1 := by decide +kernel
theorem tyX1_ok : ∀ k, k < 7 → parseFieldDescriptor (TX1 k).2.2.1 = some (tyX1 k) := by decide +kernel
def RX2 : String := "ReturnDesk$Lot"
def TX2 : u_T := fun k => match k with
  | 0 => ("ReturnDesk$Lot", "number", "I", true)
  | 1 => ("ReturnDesk$Lot", "model", "LReturnDesk$Model;", true)
  | _ => ("ReturnDesk$Lot", "left", "I", false)
def tyX2 : Nat → FieldType := fun k => match k with
  | 0 => .int
  | 1 => .object "ReturnDesk$Model"
  | _ => .int
theorem nmX2 : ∀ a, a < 3 → ∀ b, b < 3 → a ≠ b → (TX2 a).2.1 ≠ (TX2 b).2.1 := by decide +kernel
theorem tyX2_ok : ∀ k, k < 3 → parseFieldDescriptor (TX2 k).2.2.1 = some (tyX2 k) := by decide +kernel
def RX3 : String := "ReturnDesk$Machine"
def TX3 : u_T := fun k => match k with
  | 0 => ("ReturnDesk$Machine", "named", "[I", true)
  | 1 => ("ReturnDesk$Machine", "stack", "[I", true)
  | _ => ("ReturnDesk$Machine", "height", "I", false)
def tyX3 : Nat → FieldType := fun k => match k with
  | 0 => .array .int
  | 1 => .array .int
  | _ => .int
theorem nmX3 : ∀ a, a < 3 → ∀ b, b < 3 → a ≠ b → (TX3 a).2.1 ≠ (TX3 b).2.1 := by decide +kernel
theorem tyX3_ok : ∀ k, k < 3 → parseFieldDescriptor (TX3 k).2.2.1 = some (tyX3 k) := by decide +kernel
def RX4 : String := "ReturnDesk$Model"
def TX4 : u_T := fun k => match k with
  | 0 => ("ReturnDesk$Model", "number", "I", true)
  | 1 => ("ReturnDesk$Model", "kind", "I", true)
  | 2 => ("ReturnDesk$Model", "weight", "I", true)
  | 3 => ("ReturnDesk$Model", "mend", "I", true)
  | 4 => ("ReturnDesk$Model", "priceDays", "[I", true)
  | 5 => ("ReturnDesk$Model", "prices", "[I", true)
  | 6 => ("ReturnDesk$Model", "priceCount", "I", false)
  | 7 => ("ReturnDesk$Model", "sortedNew", "I", false)
  | 8 => ("ReturnDesk$Model", "usedCount", "I", false)
  | 9 => ("ReturnDesk$Model", "scrapped", "I", false)
  | 10 => ("ReturnDesk$Model", "mended", "I", false)
  | 11 => ("ReturnDesk$Model", "firstUsed", "LReturnDesk$Sale;", false)
  | _ => ("ReturnDesk$Model", "lastUsed", "LReturnDesk$Sale;", false)
def tyX4 : Nat → FieldType := fun k => match k with
  | 0 => .int
  | 1 => .int
  | 2 => .int
  | 3 => .int
  | 4 => .array .int
  | 5 => .array .int
  | 6 => .int
  | 7 => .int
  | 8 => .int
  | 9 => .int
  | 10 => .int
  | 11 => .object "ReturnDesk$Sale"
  | _ => .object "ReturnDesk$Sale"
theorem nmX4 : ∀ a, a < 13 → ∀ b, b < 13 → a ≠ b → (TX4 a).2.1 ≠ (TX4 b).2.1 := by decide +kernel
theorem tyX4_ok : ∀ k, k < 13 → parseFieldDescriptor (TX4 k).2.2.1 = some (tyX4 k) := by decide +kernel
def RX5 : String := "ReturnDesk$Purse"
def TX5 : u_T := fun k => match k with
  | 0 => ("ReturnDesk$Purse", "onNotes", "[I", true)
  | 1 => ("ReturnDesk$Purse", "noteCount", "I", false)
  | 2 => ("ReturnDesk$Purse", "inTill", "I", false)
  | 3 => ("ReturnDesk$Purse", "paid", "I", false)
  | _ => ("ReturnDesk$Purse", "spentMending", "I", false)
def tyX5 : Nat → FieldType := fun k => match k with
  | 0 => .array .int
  | 1 => .int
  | 2 => .int
  | 3 => .int
  | _ => .int
theorem nmX5 : ∀ a, a < 5 → ∀ b, b < 5 → a ≠ b → (TX5 a).2.1 ≠ (TX5 b).2.1 := by decide +kernel
theorem tyX5_ok : ∀ k, k < 5 → parseFieldDescriptor (TX5 k).2.2.1 = some (tyX5 k) := by decide +kernel
def RX6 : String := "ReturnDesk$Reader"
def TX6 : u_T := fun k => match k with
  | 0 => ("ReturnDesk$Reader", "tape", "LReturnDesk$Tape;", true)
  | 1 => ("ReturnDesk$Reader", "code", "[I", true)
  | 2 => ("ReturnDesk$Reader", "codeLength", "I", false)
  | 3 => ("ReturnDesk$Reader", "at", "I", false)
  | _ => ("ReturnDesk$Reader", "token", "I", false)
def tyX6 : Nat → FieldType := fun k => match k with
  | 0 => .object "ReturnDesk$Tape"
  | 1 => .array .int
  | 2 => .int
  | 3 => .int
  | _ => .int
theorem nmX6 : ∀ a, a < 5 → ∀ b, b < 5 → a ≠ b → (TX6 a).2.1 ≠ (TX6 b).2.1 := by decide +kernel
theorem tyX6_ok : ∀ k, k < 5 → parseFieldDescriptor (TX6 k).2.2.1 = some (tyX6 k) := by decide +kernel
def RX7 : String := "ReturnDesk$Sale"
def TX7 : u_T := fun k => match k with
  | 0 => ("ReturnDesk$Sale", "receipt", "I", true)
  | 1 => ("ReturnDesk$Sale", "model", "LReturnDesk$Model;", true)
  | 2 => ("ReturnDesk$Sale", "lot", "LReturnDesk$Lot;", true)
  | 3 => ("ReturnDesk$Sale", "number", "I", true)
  | 4 => ("ReturnDesk$Sale", "size", "I", true)
  | 5 => ("ReturnDesk$Sale", "order", "I", true)
  | 6 => ("ReturnDesk$Sale", "card", "I", true)
  | 7 => ("ReturnDesk$Sale", "buyer", "I", true)
  | 8 => ("ReturnDesk$Sale", "hour", "I", true)
  | 9 => ("ReturnDesk$Sale", "price", "I", true)
  | 10 => ("ReturnDesk$Sale", "gift", "I", false)
  | 11 => ("ReturnDesk$Sale", "state", "I", false)
  | 12 => ("ReturnDesk$Sale", "backDay", "I", false)
  | 13 => ("ReturnDesk$Sale", "badDay", "I", false)
  | 14 => ("ReturnDesk$Sale", "toldSize", "I", false)
  | 15 => ("ReturnDesk$Sale", "carrier", "I", false)
  | 16 => ("ReturnDesk$Sale", "damage", "I", false)
  | 17 => ("ReturnDesk$Sale", "inHeap", "Z", false)
  | 18 => ("ReturnDesk$Sale", "reason", "LReturnDesk$Asking;", false)
  | _ => ("ReturnDesk$Sale", "nextUsed", "LReturnDesk$Sale;", false)
def tyX7 : Nat → FieldType := fun k => match k with
  | 0 => .int
  | 1 => .object "ReturnDesk$Model"
  | 2 => .object "ReturnDesk$Lot"
  | 3 => .int
  | 4 => .int
  | 5 => .int
  | 6 => .int
  | 7 => .int
  | 8 => .int
  | 9 => .int
  | 10 => .int
  | 11 => .int
  | 12 => .int
  | 13 => .int
  | 14 => .int
  | 15 => .int
  | 16 => .int
  | 17 => .boolean
  | 18 => .object "ReturnDesk$Asking"
  | _ => .object "ReturnDesk$Sale"
theorem nmX7 : ∀ a, a < 20 → ∀ b, b < 20 → a ≠ b → (TX7 a).2.1 ≠ (TX7 b).2.1 := by decide +kernel
theorem tyX7_ok : ∀ k, k < 20 → parseFieldDescriptor (TX7 k).2.2.1 = some (tyX7 k) := by decide +kernel
def RX8 : String := "ReturnDesk$Tape"
def TX8 : u_T := fun k => match k with
  | 0 => ("ReturnDesk$Tape", "bytes", "[I", true)
  | 1 => ("ReturnDesk$Tape", "length", "I", false)
  | 2 => ("ReturnDesk$Tape", "kinds", "[I", true)
  | 3 => ("ReturnDesk$Tape", "places", "[I", true)
  | 4 => ("ReturnDesk$Tape", "cells", "[I", true)
  | _ => ("ReturnDesk$Tape", "tokenCount", "I", false)
def tyX8 : Nat → FieldType := fun k => match k with
  | 0 => .array .int
  | 1 => .int
  | 2 => .array .int
  | 3 => .array .int
  | 4 => .array .int
  | _ => .int
theorem nmX8 : ∀ a, a < 6 → ∀ b, b < 6 → a ≠ b → (TX8 a).2.1 ≠ (TX8 b).2.1 := by decide +kernel
theorem tyX8_ok : ∀ k, k < 6 → parseFieldDescriptor (TX8 k).2.2.1 = some (tyX8 k) := by decide +kernel
def RX9 : String := "ReturnDesk$Text"
def TX9 : u_T := fun k => match k with
  | 0 => ("ReturnDesk$Text", "number", "I", true)
  | 1 => ("ReturnDesk$Text", "side", "I", true)
  | 2 => ("ReturnDesk$Text", "from", "I", true)
  | 3 => ("ReturnDesk$Text", "made", "I", true)
  | 4 => ("ReturnDesk$Text", "code", "[I", true)
  | _ => ("ReturnDesk$Text", "named", "I", true)
def tyX9 : Nat → FieldType := fun k => match k with
  | 0 => .int
  | 1 => .int
  | 2 => .int
  | 3 => .int
  | 4 => .array .int
  | _ => .int
theorem nmX9 : ∀ a, a < 6 → ∀ b, b < 6 → a ≠ b → (TX9 a).2.1 ≠ (TX9 b).2.1 := by decide +kernel
theorem tyX9_ok : ∀ k, k < 6 → parseFieldDescriptor (TX9 k).2.2.1 = some (tyX9 k) := by decide +kernel
def RX10 : String := "ReturnDesk"
def TX10 : u_T := fun k => match k with
  | 0 => ("ReturnDesk", "models", "[LReturnDesk$Model;", true)
  | 1 => ("ReturnDesk", "lots", "[LReturnDesk$Lot;", true)
  | 2 => ("ReturnDesk", "sales", "[LReturnDesk$Sale;", true)
  | 3 => ("ReturnDesk", "askings", "[LReturnDesk$Asking;", true)
  | 4 => ("ReturnDesk", "texts", "[LReturnDesk$Text;", true)
  | 5 => ("ReturnDesk", "purse", "LReturnDesk$Purse;", true)
  | 6 => ("ReturnDesk", "reader", "LReturnDesk$Reader;", true)
  | 7 => ("ReturnDesk", "tape", "LReturnDesk$Tape;", true)
  | 8 => ("ReturnDesk", "machine", "LReturnDesk$Machine;", true)
  | 9 => ("ReturnDesk", "judgement", "LReturnDesk$Judgement;", true)
  | 10 => ("ReturnDesk", "honesty", "[I", true)
  | 11 => ("ReturnDesk", "limitCode", "[I", false)
  | 12 => ("ReturnDesk", "modelCount", "I", false)
  | 13 => ("ReturnDesk", "lotCount", "I", false)
  | 14 => ("ReturnDesk", "saleCount", "I", false)
  | 15 => ("ReturnDesk", "askingCount", "I", false)
  | 16 => ("ReturnDesk", "textCount", "I", false)
  | _ => ("ReturnDesk", "hour", "I", false)
def tyX10 : Nat → FieldType := fun k => match k with
  | 0 => .array (.object "ReturnDesk$Model")
  | 1 => .array (.object "ReturnDesk$Lot")
  | 2 => .array (.object "ReturnDesk$Sale")
  | 3 => .array (.object "ReturnDesk$Asking")
  | 4 => .array (.object "ReturnDesk$Text")
  | 5 => .object "ReturnDesk$Purse"
  | 6 => .object "ReturnDesk$Reader"
  | 7 => .object "ReturnDesk$Tape"
  | 8 => .object "ReturnDesk$Machine"
  | 9 => .object "ReturnDesk$Judgement"
  | 10 => .array .int
  | 11 => .array .int
  | 12 => .int
  | 13 => .int
  | 14 => .int
  | 15 => .int
  | 16 => .int
  | _ => .int
theorem nmX10 : ∀ a, a < 18 → ∀ b, b < 18 → a ≠ b → (TX10 a).2.1 ≠ (TX10 b).2.1 := by decide +kernel
theorem tyX10_ok : ∀ k, k < 18 → parseFieldDescriptor (TX10 k).2.2.1 = some (tyX10 k) := by decide +kernel
def RX11 : String := "ReturnDeskModel"
def TX11 : u_T := fun k => match k with
  | 0 => ("ReturnDeskModel", "code", "I", false)
  | 1 => ("ReturnDeskModel", "hour", "I", false)
  | 2 => ("ReturnDeskModel", "till", "I", false)
  | 3 => ("ReturnDeskModel", "models", "I", false)
  | 4 => ("ReturnDeskModel", "kind", "[I", true)
  | 5 => ("ReturnDeskModel", "weight", "[I", true)
  | 6 => ("ReturnDeskModel", "mend", "[I", true)
  | 7 => ("ReturnDeskModel", "prices", "[I", true)
  | 8 => ("ReturnDeskModel", "priceDay", "[I", true)
  | 9 => ("ReturnDeskModel", "priceIs", "[I", true)
  | 10 => ("ReturnDeskModel", "loose", "[I", true)
  | 11 => ("ReturnDeskModel", "scrapped", "[I", true)
  | 12 => ("ReturnDeskModel", "mendedOf", "[I", true)
  | 13 => ("ReturnDeskModel", "usedSold", "[I", true)
  | 14 => ("ReturnDeskModel", "used", "I", false)
  | 15 => ("ReturnDeskModel", "usedModel", "[I", true)
  | 16 => ("ReturnDeskModel", "usedWorn", "[I", true)
  | 17 => ("ReturnDeskModel", "usedThere", "[Z", true)
  | 18 => ("ReturnDeskModel", "lots", "I", false)
  | 19 => ("ReturnDeskModel", "lotModel", "[I", true)
  | 20 => ("ReturnDeskModel", "maker", "[I", true)
  | 21 => ("ReturnDeskModel", "pieces", "[I", true)
  | 22 => ("ReturnDeskModel", "sales", "I", false)
  | 23 => ("ReturnDeskModel", "state", "[I", true)
  | 24 => ("ReturnDeskModel", "saleLot", "[I", true)
  | 25 => ("ReturnDeskModel", "size", "[I", true)
  | 26 => ("ReturnDeskModel", "number", "[I", true)
  | 27 => ("ReturnDeskModel", "card", "[I", true)
  | 28 => ("ReturnDeskModel", "buyer", "[I", true)
  | 29 => ("ReturnDeskModel", "order", "[I", true)
  | 30 => ("ReturnDeskModel", "saleHour", "[I", true)
  | 31 => ("ReturnDeskModel", "salePrice", "[I", true)
  | 32 => ("ReturnDeskModel", "isGift", "[Z", true)
  | 33 => ("ReturnDeskModel", "backOn", "[I", true)
  | 34 => ("ReturnDeskModel", "badOn", "[I", true)
  | 35 => ("ReturnDeskModel", "inHeap", "[Z", true)
  | 36 => ("ReturnDeskModel", "takenBy", "[I", true)
  | 37 => ("ReturnDeskModel", "sizeTold", "[I", true)
  | 38 => ("ReturnDeskModel", "carrierOf", "[I", true)
  | 39 => ("ReturnDeskModel", "damageOf", "[I", true)
  | 40 => ("ReturnDeskModel", "tape", "[B", true)
  | 41 => ("ReturnDeskModel", "taped", "I", false)
  | 42 => ("ReturnDeskModel", "texts", "I", false)
  | 43 => ("ReturnDeskModel", "textSide", "[I", true)
  | 44 => ("ReturnDeskModel", "textMade", "[I", true)
  | 45 => ("ReturnDeskModel", "textFrom", "[I", true)
  | 46 => ("ReturnDeskModel", "textSteps", "[I", true)
  | 47 => ("ReturnDeskModel", "step", "[I", true)
  | 48 => ("ReturnDeskModel", "with", "[I", true)
  | 49 => ("ReturnDeskModel", "hasLimit", "Z", false)
  | 50 => ("ReturnDeskModel", "from", "I", false)
  | 51 => ("ReturnDeskModel", "to", "I", false)
  | 52 => ("ReturnDeskModel", "token", "I", false)
  | 53 => ("ReturnDeskModel", "value", "I", false)
  | 54 => ("ReturnDeskModel", "fault", "I", false)
  | 55 => ("ReturnDeskModel", "open", "I", false)
  | 56 => ("ReturnDeskModel", "at", "I", false)
  | 57 => ("ReturnDeskModel", "laid", "I", false)
  | 58 => ("ReturnDeskModel", "facts", "[I", true)
  | 59 => ("ReturnDeskModel", "pile", "[I", true)
  | 60 => ("ReturnDeskModel", "askings", "I", false)
  | 61 => ("ReturnDeskModel", "askSale", "[I", true)
  | 62 => ("ReturnDeskModel", "askProof", "[I", true)
  | 63 => ("ReturnDeskModel", "askDay", "[I", true)
  | 64 => ("ReturnDeskModel", "dayLow", "[I", true)
  | 65 => ("ReturnDeskModel", "dayHigh", "[I", true)
  | 66 => ("ReturnDeskModel", "askFacts", "[I", true)
  | 67 => ("ReturnDeskModel", "isSwapped", "[Z", true)
  | 68 => ("ReturnDeskModel", "isLight", "[Z", true)
  | 69 => ("ReturnDeskModel", "askState", "[I", true)
  | 70 => ("ReturnDeskModel", "paid", "[I", true)
  | 71 => ("ReturnDeskModel", "askNote", "[I", true)
  | 72 => ("ReturnDeskModel", "paidOut", "I", false)
  | 73 => ("ReturnDeskModel", "spentOnMending", "I", false)
  | 74 => ("ReturnDeskModel", "notes", "I", false)
  | 75 => ("ReturnDeskModel", "notesLeft", "[I", true)
  | 76 => ("ReturnDeskModel", "bestOut", "I", false)
  | 77 => ("ReturnDeskModel", "worstOut", "I", false)
  | 78 => ("ReturnDeskModel", "bestSide", "I", false)
  | 79 => ("ReturnDeskModel", "ways", "[J", true)
  | _ => ("ReturnDeskModel", "honesty", "[I", true)
def tyX11 : Nat → FieldType := fun k => match k with
  | 0 => .int
  | 1 => .int
  | 2 => .int
  | 3 => .int
  | 4 => .array .int
  | 5 => .array .int
  | 6 => .array .int
  | 7 => .array .int
  | 8 => .array .int
  | 9 => .array .int
  | 10 => .array .int
  | 11 => .array .int
  | 12 => .array .int
  | 13 => .array .int
  | 14 => .int
  | 15 => .array .int
  | 16 => .array .int
  | 17 => .array .boolean
  | 18 => .int
  | 19 => .array .int
  | 20 => .array .int
  | 21 => .array .int
  | 22 => .int
  | 23 => .array .int
  | 24 => .array .int
  | 25 => .array .int
  | 26 => .array .int
  | 27 => .array .int
  | 28 => .array .int
  | 29 => .array .int
  | 30 => .array .int
  | 31 => .array .int
  | 32 => .array .boolean
  | 33 => .array .int
  | 34 => .array .int
  | 35 => .array .boolean
  | 36 => .array .int
  | 37 => .array .int
  | 38 => .array .int
  | 39 => .array .int
  | 40 => .array .byte
  | 41 => .int
  | 42 => .int
  | 43 => .array .int
  | 44 => .array .int
  | 45 => .array .int
  | 46 => .array .int
  | 47 => .array .int
  | 48 => .array .int
  | 49 => .boolean
  | 50 => .int
  | 51 => .int
  | 52 => .int
  | 53 => .int
  | 54 => .int
  | 55 => .int
  | 56 => .int
  | 57 => .int
  | 58 => .array .int
  | 59 => .array .int
  | 60 => .int
  | 61 => .array .int
  | 62 => .array .int
  | 63 => .array .int
  | 64 => .array .int
  | 65 => .array .int
  | 66 => .array .int
  | 67 => .array .boolean
  | 68 => .array .boolean
  | 69 => .array .int
  | 70 => .array .int
  | 71 => .array .int
  | 72 => .int
  | 73 => .int
  | 74 => .int
  | 75 => .array .int
  | 76 => .int
  | 77 => .int
  | 78 => .int
  | 79 => .array .long
  | _ => .array .int
theorem nmX11 : ∀ a, a < 81 → ∀ b, b < 81 → a ≠ b → (TX11 a).2.1 ≠ (TX11 b).2.1 := by decide +kernel
theorem tyX11_ok : ∀ k, k < 81 → parseFieldDescriptor (TX11 k).2.2.1 = some (tyX11 k) := by decide +kernel
abbrev vwCl : List vw_C := [(RX0, TX0, 16), (RX1, TX1, 7), (RX2, TX2, 3), (RX3, TX3, 3), (RX4, TX4, 13), (RX5, TX5, 5), (RX6, TX6, 5), (RX7, TX7, 20), (RX8, TX8, 6), (RX9, TX9, 6), (RX10, TX10, 18), (RX11, TX11, 81)]
abbrev MTH : Type := MethodName × ByteArray × Nat × Option FieldType
def mX0_init : MTH := (⟨"ReturnDesk$Asking", "<init>", "(LReturnDesk$Sale;IIIIII)V"⟩, prog_2_method_1_code, 8, none)
def mX1_init : MTH := (⟨"ReturnDesk$Judgement", "<init>", "()V"⟩, prog_3_method_1_code, 1, none)
def mX1_start : MTH := (⟨"ReturnDesk$Judgement", "start", "(I)V"⟩, prog_3_method_2_code, 2, none)
def mX1_hear : MTH := (⟨"ReturnDesk$Judgement", "hear", "(II)V"⟩, prog_3_method_3_code, 8, none)
def mX1_worthOf : MTH := (⟨"ReturnDesk$Judgement", "worthOf", "(I)I"⟩, prog_3_method_4_code, 4, (some .int))
def mX2_init : MTH := (⟨"ReturnDesk$Lot", "<init>", "(ILReturnDesk$Model;I)V"⟩, prog_4_method_1_code, 4, none)
def mX3_init : MTH := (⟨"ReturnDesk$Machine", "<init>", "()V"⟩, prog_5_method_1_code, 1, none)
def mX3_tell : MTH := (⟨"ReturnDesk$Machine", "tell", "(II)V"⟩, prog_5_method_2_code, 3, none)
def mX3_run : MTH := (⟨"ReturnDesk$Machine", "run", "([I)I"⟩, prog_5_method_3_code, 5, (some .int))
def mX3_valueOf : MTH := (⟨"ReturnDesk$Machine", "valueOf", "([I)I"⟩, prog_5_method_4_code, 2, (some .int))
def mX3_given : MTH := (⟨"ReturnDesk$Machine", "given", "(I)I"⟩, prog_5_method_5_code, 2, (some .int))
def mX3_work : MTH := (⟨"ReturnDesk$Machine", "work", "(I)V"⟩, prog_5_method_6_code, 3, none)
def mX3_combined : MTH := (⟨"ReturnDesk$Machine", "combined", "(III)I"⟩, prog_5_method_7_code, 3, (some .int))
def mX3_valueNamed : MTH := (⟨"ReturnDesk$Machine", "valueNamed", "(I)I"⟩, prog_5_method_8_code, 2, (some .int))
def mX3_push : MTH := (⟨"ReturnDesk$Machine", "push", "(I)V"⟩, prog_5_method_9_code, 2, none)
def mX3_pop : MTH := (⟨"ReturnDesk$Machine", "pop", "()I"⟩, prog_5_method_10_code, 1, (some .int))
def mX4_init : MTH := (⟨"ReturnDesk$Model", "<init>", "(IIII)V"⟩, prog_6_method_1_code, 5, none)
def mX4_tellPrice : MTH := (⟨"ReturnDesk$Model", "tellPrice", "(II)Z"⟩, prog_6_method_2_code, 3, (some .boolean))
def mX4_priceFor : MTH := (⟨"ReturnDesk$Model", "priceFor", "(I)I"⟩, prog_6_method_3_code, 5, (some .int))
def mX4_scrapWorth : MTH := (⟨"ReturnDesk$Model", "scrapWorth", "()I"⟩, prog_6_method_4_code, 1, (some .int))
def mX4_receive : MTH := (⟨"ReturnDesk$Model", "receive", "(LReturnDesk$Sale;I)V"⟩, prog_6_method_5_code, 3, none)
def mX4_putUsed : MTH := (⟨"ReturnDesk$Model", "putUsed", "(LReturnDesk$Sale;)V"⟩, prog_6_method_6_code, 2, none)
def mX4_takeUsed : MTH := (⟨"ReturnDesk$Model", "takeUsed", "()LReturnDesk$Sale;"⟩, prog_6_method_7_code, 2, (some (.object "ReturnDesk$Sale")))
def mX5_init : MTH := (⟨"ReturnDesk$Purse", "<init>", "()V"⟩, prog_7_method_1_code, 1, none)
def mX5_hasNote : MTH := (⟨"ReturnDesk$Purse", "hasNote", "(I)Z"⟩, prog_7_method_2_code, 2, (some .boolean))
def mX5_payByNote : MTH := (⟨"ReturnDesk$Purse", "payByNote", "(II)I"⟩, prog_7_method_3_code, 4, (some .int))
def mX5_makeNote : MTH := (⟨"ReturnDesk$Purse", "makeNote", "(I)I"⟩, prog_7_method_4_code, 2, (some .int))
def mX5_pay : MTH := (⟨"ReturnDesk$Purse", "pay", "(I)Z"⟩, prog_7_method_5_code, 2, (some .boolean))
def mX5_spendOnMending : MTH := (⟨"ReturnDesk$Purse", "spendOnMending", "(I)Z"⟩, prog_7_method_6_code, 2, (some .boolean))
def mX5_onAllNotes : MTH := (⟨"ReturnDesk$Purse", "onAllNotes", "()I"⟩, prog_7_method_7_code, 3, (some .int))
def mX6_init : MTH := (⟨"ReturnDesk$Reader", "<init>", "()V"⟩, prog_8_method_1_code, 1, none)
def mX6_readText : MTH := (⟨"ReturnDesk$Reader", "readText", "()Z"⟩, prog_8_method_2_code, 3, (some .boolean))
def mX6_readLimit : MTH := (⟨"ReturnDesk$Reader", "readLimit", "()Z"⟩, prog_8_method_3_code, 1, (some .boolean))
def mX6_fault : MTH := (⟨"ReturnDesk$Reader", "fault", "()I"⟩, prog_8_method_4_code, 1, (some .int))
def mX6_written : MTH := (⟨"ReturnDesk$Reader", "written", "()[I"⟩, prog_8_method_5_code, 2, (some (.array .int)))
def mX6_start : MTH := (⟨"ReturnDesk$Reader", "start", "(Ljava/lang/String;)V"⟩, prog_8_method_6_code, 2, none)
def mX6_step : MTH := (⟨"ReturnDesk$Reader", "step", "()V"⟩, prog_8_method_7_code, 1, none)
def mX6_write : MTH := (⟨"ReturnDesk$Reader", "write", "(I)V"⟩, prog_8_method_8_code, 2, none)
def mX6_readRule : MTH := (⟨"ReturnDesk$Reader", "readRule", "()Z"⟩, prog_8_method_9_code, 2, (some .boolean))
def mX6_readOut : MTH := (⟨"ReturnDesk$Reader", "readOut", "()Z"⟩, prog_8_method_10_code, 2, (some .boolean))
def mX6_readAny : MTH := (⟨"ReturnDesk$Reader", "readAny", "(I)Z"⟩, prog_8_method_11_code, 4, (some .boolean))
def mX6_readAll : MTH := (⟨"ReturnDesk$Reader", "readAll", "(I)Z"⟩, prog_8_method_12_code, 4, (some .boolean))
def mX6_readTest : MTH := (⟨"ReturnDesk$Reader", "readTest", "(I)Z"⟩, prog_8_method_13_code, 4, (some .boolean))
def mX6_readNot : MTH := (⟨"ReturnDesk$Reader", "readNot", "(I)Z"⟩, prog_8_method_14_code, 3, (some .boolean))
def mX6_readSum : MTH := (⟨"ReturnDesk$Reader", "readSum", "(I)Z"⟩, prog_8_method_15_code, 5, (some .boolean))
def mX6_readProduct : MTH := (⟨"ReturnDesk$Reader", "readProduct", "(I)Z"⟩, prog_8_method_16_code, 5, (some .boolean))
def mX6_readOperand : MTH := (⟨"ReturnDesk$Reader", "readOperand", "(I)Z"⟩, prog_8_method_17_code, 2, (some .boolean))
def mX7_init : MTH := (⟨"ReturnDesk$Sale", "<init>", "(ILReturnDesk$Lot;IIIII)V"⟩, prog_9_method_1_code, 8, none)
def mX7_madeOn : MTH := (⟨"ReturnDesk$Sale", "madeOn", "()I"⟩, prog_9_method_2_code, 1, (some .int))
def mX7_isTogetherWith : MTH := (⟨"ReturnDesk$Sale", "isTogetherWith", "(LReturnDesk$Sale;)Z"⟩, prog_9_method_3_code, 2, (some .boolean))
def mX7_comeBack : MTH := (⟨"ReturnDesk$Sale", "comeBack", "(LReturnDesk$Asking;I)V"⟩, prog_9_method_4_code, 3, none)
def mX7_worn : MTH := (⟨"ReturnDesk$Sale", "worn", "()I"⟩, prog_9_method_5_code, 1, (some .int))
def mX7_isFaulty : MTH := (⟨"ReturnDesk$Sale", "isFaulty", "()Z"⟩, prog_9_method_6_code, 1, (some .boolean))
def mX7_isLikeNew : MTH := (⟨"ReturnDesk$Sale", "isLikeNew", "()Z"⟩, prog_9_method_7_code, 1, (some .boolean))
def mX8_init : MTH := (⟨"ReturnDesk$Tape", "<init>", "()V"⟩, prog_10_method_1_code, 1, none)
def mX8_append : MTH := (⟨"ReturnDesk$Tape", "append", "(I)V"⟩, prog_10_method_2_code, 3, none)
def mX8_split : MTH := (⟨"ReturnDesk$Tape", "split", "(Ljava/lang/String;)V"⟩, prog_10_method_3_code, 6, none)
def mX8_byteAt : MTH := (⟨"ReturnDesk$Tape", "byteAt", "(I)I"⟩, prog_10_method_4_code, 2, (some .int))
def mX8_endOfWord : MTH := (⟨"ReturnDesk$Tape", "endOfWord", "(I)I"⟩, prog_10_method_5_code, 3, (some .int))
def mX8_endOfNumber : MTH := (⟨"ReturnDesk$Tape", "endOfNumber", "(I)I"⟩, prog_10_method_6_code, 3, (some .int))
def mX8_addWord : MTH := (⟨"ReturnDesk$Tape", "addWord", "(IILjava/lang/String;)V"⟩, prog_10_method_7_code, 6, none)
def mX8_addNumber : MTH := (⟨"ReturnDesk$Tape", "addNumber", "(II)V"⟩, prog_10_method_8_code, 5, none)
def mX8_add : MTH := (⟨"ReturnDesk$Tape", "add", "(III)V"⟩, prog_10_method_9_code, 4, none)
def mX8_placeInList : MTH := (⟨"ReturnDesk$Tape", "placeInList", "(Ljava/lang/String;II)I"⟩, prog_10_method_10_code, 8, (some .int))
def mX8_isLetter : MTH := (⟨"ReturnDesk$Tape", "isLetter", "(I)Z"⟩, prog_10_method_11_code, 1, (some .boolean))
def mX8_isDigit : MTH := (⟨"ReturnDesk$Tape", "isDigit", "(I)Z"⟩, prog_10_method_12_code, 1, (some .boolean))
def mX9_init : MTH := (⟨"ReturnDesk$Text", "<init>", "(IIII[I)V"⟩, prog_11_method_1_code, 8, none)
def mX10_init : MTH := (⟨"ReturnDesk", "<init>", "()V"⟩, prog_1_method_1_code, 2, none)
def mX10_model : MTH := (⟨"ReturnDesk", "model", "(III)I"⟩, prog_1_method_2_code, 4, (some .int))
def mX10_price : MTH := (⟨"ReturnDesk", "price", "(III)I"⟩, prog_1_method_3_code, 5, (some .int))
def mX10_priceOn : MTH := (⟨"ReturnDesk", "priceOn", "(II)I"⟩, prog_1_method_4_code, 4, (some .int))
def mX10_lot : MTH := (⟨"ReturnDesk", "lot", "(III)I"⟩, prog_1_method_5_code, 5, (some .int))
def mX10_hours : MTH := (⟨"ReturnDesk", "hours", "(I)I"⟩, prog_1_method_6_code, 2, (some .int))
def mX10_till : MTH := (⟨"ReturnDesk", "till", "(I)I"⟩, prog_1_method_7_code, 2, (some .int))
def mX10_sell : MTH := (⟨"ReturnDesk", "sell", "(IIIII)I"⟩, prog_1_method_8_code, 8, (some .int))
def mX10_gift : MTH := (⟨"ReturnDesk", "gift", "(II)I"⟩, prog_1_method_9_code, 5, (some .int))
def mX10_ofSale : MTH := (⟨"ReturnDesk", "ofSale", "(II)I"⟩, prog_1_method_10_code, 4, (some .int))
def mX10_join : MTH := (⟨"ReturnDesk", "join", "(IIII)I"⟩, prog_1_method_11_code, 10, (some .int))
def mX10_keep : MTH := (⟨"ReturnDesk", "keep", "(I)I"⟩, prog_1_method_12_code, 3, (some .int))
def mX10_feed : MTH := (⟨"ReturnDesk", "feed", "(IIIII)I"⟩, prog_1_method_13_code, 6, (some .int))
def mX10_end : MTH := (⟨"ReturnDesk", "end", "(I)I"⟩, prog_1_method_14_code, 2, (some .int))
def mX10_text : MTH := (⟨"ReturnDesk", "text", "(II)I"⟩, prog_1_method_15_code, 4, (some .int))
def mX10_inForce : MTH := (⟨"ReturnDesk", "inForce", "(III)I"⟩, prog_1_method_16_code, 6, (some .int))
def mX10_says : MTH := (⟨"ReturnDesk", "says", "(IIII)I"⟩, prog_1_method_17_code, 8, (some .int))
def mX10_ask : MTH := (⟨"ReturnDesk", "ask", "(IIIIII)I"⟩, prog_1_method_18_code, 8, (some .int))
def mX10_judged : MTH := (⟨"ReturnDesk", "judged", "(III)I"⟩, prog_1_method_19_code, 5, (some .int))
def mX10_ofAsking : MTH := (⟨"ReturnDesk", "ofAsking", "(II)I"⟩, prog_1_method_20_code, 4, (some .int))
def mX10_take : MTH := (⟨"ReturnDesk", "take", "(I)I"⟩, prog_1_method_21_code, 5, (some .int))
def mX10_leave : MTH := (⟨"ReturnDesk", "leave", "(I)I"⟩, prog_1_method_22_code, 3, (some .int))
def mX10_note : MTH := (⟨"ReturnDesk", "note", "(I)I"⟩, prog_1_method_23_code, 2, (some .int))
def mX10_stock : MTH := (⟨"ReturnDesk", "stock", "(II)I"⟩, prog_1_method_24_code, 4, (some .int))
def mX10_worth : MTH := (⟨"ReturnDesk", "worth", "(II)I"⟩, prog_1_method_25_code, 4, (some .int))
def mX10_sort : MTH := (⟨"ReturnDesk", "sort", "(I)I"⟩, prog_1_method_26_code, 4, (some .int))
def mX10_sellUsed : MTH := (⟨"ReturnDesk", "sellUsed", "(I)I"⟩, prog_1_method_27_code, 5, (some .int))
def mX10_ofLot : MTH := (⟨"ReturnDesk", "ofLot", "(III)I"⟩, prog_1_method_28_code, 8, (some .int))
def mX10_beyond : MTH := (⟨"ReturnDesk", "beyond", "(III)I"⟩, prog_1_method_29_code, 5, (some .int))
def mX10_since : MTH := (⟨"ReturnDesk", "since", "(II)I"⟩, prog_1_method_30_code, 7, (some .int))
def mX10_honest : MTH := (⟨"ReturnDesk", "honest", "(II)I"⟩, prog_1_method_31_code, 4, (some .int))
def mX10_limit : MTH := (⟨"ReturnDesk", "limit", "()I"⟩, prog_1_method_32_code, 2, (some .int))
def mX10_tried : MTH := (⟨"ReturnDesk", "tried", "(I)I"⟩, prog_1_method_33_code, 4, (some .int))
def mX10_hits : MTH := (⟨"ReturnDesk", "hits", "(I)I"⟩, prog_1_method_34_code, 2, (some .int))
def mX10_size : MTH := (⟨"ReturnDesk", "size", "(II)I"⟩, prog_1_method_35_code, 5, (some .int))
def mX10_shift : MTH := (⟨"ReturnDesk", "shift", "(I)I"⟩, prog_1_method_36_code, 6, (some .int))
def mX10_brought : MTH := (⟨"ReturnDesk", "brought", "(II)I"⟩, prog_1_method_37_code, 4, (some .int))
def mX10_damage : MTH := (⟨"ReturnDesk", "damage", "(I)I"⟩, prog_1_method_38_code, 3, (some .int))
def mX10_carrier : MTH := (⟨"ReturnDesk", "carrier", "(II)I"⟩, prog_1_method_39_code, 6, (some .int))
def mX10_count : MTH := (⟨"ReturnDesk", "count", "(I)I"⟩, prog_1_method_40_code, 2, (some .int))
def mX10_within : MTH := (⟨"ReturnDesk", "within", "(III)Z"⟩, prog_1_method_41_code, 3, (some .boolean))
def mX10_isDay : MTH := (⟨"ReturnDesk", "isDay", "(I)Z"⟩, prog_1_method_42_code, 1, (some .boolean))
def mX10_isSpan : MTH := (⟨"ReturnDesk", "isSpan", "(III)Z"⟩, prog_1_method_43_code, 3, (some .boolean))
def mX10_isBuyer : MTH := (⟨"ReturnDesk", "isBuyer", "(I)Z"⟩, prog_1_method_44_code, 1, (some .boolean))
def mX10_isCarrier : MTH := (⟨"ReturnDesk", "isCarrier", "(I)Z"⟩, prog_1_method_45_code, 1, (some .boolean))
def mX10_asBit : MTH := (⟨"ReturnDesk", "asBit", "(Z)I"⟩, prog_1_method_46_code, 1, (some .int))
def mX10_digit : MTH := (⟨"ReturnDesk", "digit", "(II)I"⟩, prog_1_method_47_code, 2, (some .int))
def mX10_areDays : MTH := (⟨"ReturnDesk", "areDays", "(I)Z"⟩, prog_1_method_48_code, 3, (some .boolean))
def mX10_areFacts : MTH := (⟨"ReturnDesk", "areFacts", "(I)Z"⟩, prog_1_method_49_code, 1, (some .boolean))
def mX10_today : MTH := (⟨"ReturnDesk", "today", "()I"⟩, prog_1_method_50_code, 1, (some .int))
def mX10_modelAt : MTH := (⟨"ReturnDesk", "modelAt", "(I)LReturnDesk$Model;"⟩, prog_1_method_51_code, 2, (some (.object "ReturnDesk$Model")))
def mX10_lotAt : MTH := (⟨"ReturnDesk", "lotAt", "(I)LReturnDesk$Lot;"⟩, prog_1_method_52_code, 2, (some (.object "ReturnDesk$Lot")))
def mX10_saleAt : MTH := (⟨"ReturnDesk", "saleAt", "(I)LReturnDesk$Sale;"⟩, prog_1_method_53_code, 2, (some (.object "ReturnDesk$Sale")))
def mX10_askingAt : MTH := (⟨"ReturnDesk", "askingAt", "(I)LReturnDesk$Asking;"⟩, prog_1_method_54_code, 2, (some (.object "ReturnDesk$Asking")))
def mX10_threesOf : MTH := (⟨"ReturnDesk", "threesOf", "(LReturnDesk$Sale;)I"⟩, prog_1_method_55_code, 4, (some .int))
def mX10_hasOtherSize : MTH := (⟨"ReturnDesk", "hasOtherSize", "(LReturnDesk$Sale;)Z"⟩, prog_1_method_56_code, 3, (some .boolean))
def mX10_boughtBy : MTH := (⟨"ReturnDesk", "boughtBy", "(I)I"⟩, prog_1_method_57_code, 4, (some .int))
def mX10_spentBy : MTH := (⟨"ReturnDesk", "spentBy", "(I)I"⟩, prog_1_method_58_code, 4, (some .int))
def mX10_backOfBuyer : MTH := (⟨"ReturnDesk", "backOfBuyer", "(III)I"⟩, prog_1_method_59_code, 7, (some .int))
def mX10_timesOf : MTH := (⟨"ReturnDesk", "timesOf", "(LReturnDesk$Sale;I)I"⟩, prog_1_method_60_code, 3, (some .int))
def mX10_leftInLots : MTH := (⟨"ReturnDesk", "leftInLots", "(LReturnDesk$Model;)I"⟩, prog_1_method_61_code, 4, (some .int))
def mX10_salesOf : MTH := (⟨"ReturnDesk", "salesOf", "(LReturnDesk$Model;ZZ)I"⟩, prog_1_method_62_code, 7, (some .int))
def mX10_textFor : MTH := (⟨"ReturnDesk", "textFor", "(ILReturnDesk$Sale;I)LReturnDesk$Text;"⟩, prog_1_method_63_code, 6, (some (.object "ReturnDesk$Text")))
def mX10_tellSale : MTH := (⟨"ReturnDesk", "tellSale", "(LReturnDesk$Sale;II)V"⟩, prog_1_method_64_code, 4, none)
def mX10_tellFacts : MTH := (⟨"ReturnDesk", "tellFacts", "(IIII)V"⟩, prog_1_method_65_code, 5, none)
def mX10_names : MTH := (⟨"ReturnDesk", "names", "(LReturnDesk$Text;I)Z"⟩, prog_1_method_66_code, 2, (some .boolean))
def mX10_outOf : MTH := (⟨"ReturnDesk", "outOf", "(LReturnDesk$Text;)I"⟩, prog_1_method_67_code, 2, (some .int))
def mX10_judge : MTH := (⟨"ReturnDesk", "judge", "(LReturnDesk$Asking;I)V"⟩, prog_1_method_68_code, 13, none)
def mX10_carryOut : MTH := (⟨"ReturnDesk", "carryOut", "(LReturnDesk$Asking;II)I"⟩, prog_1_method_69_code, 6, (some .int))
def mX10_giveCoins : MTH := (⟨"ReturnDesk", "giveCoins", "(LReturnDesk$Asking;I)I"⟩, prog_1_method_70_code, 3, (some .int))
def mX10_giveNote : MTH := (⟨"ReturnDesk", "giveNote", "(LReturnDesk$Asking;I)I"⟩, prog_1_method_71_code, 4, (some .int))
def mX10_giveNewPiece : MTH := (⟨"ReturnDesk", "giveNewPiece", "(LReturnDesk$Asking;)I"⟩, prog_1_method_72_code, 2, (some .int))
def mX10_takeNewPiece : MTH := (⟨"ReturnDesk", "takeNewPiece", "(LReturnDesk$Model;)Z"⟩, prog_1_method_73_code, 3, (some .boolean))
def mX10_mendForBuyer : MTH := (⟨"ReturnDesk", "mendForBuyer", "(LReturnDesk$Sale;)I"⟩, prog_1_method_74_code, 2, (some .int))
def mX10_usedWorth : MTH := (⟨"ReturnDesk", "usedWorth", "(LReturnDesk$Sale;)I"⟩, prog_1_method_75_code, 2, (some .int))
def mX10_worthNow : MTH := (⟨"ReturnDesk", "worthNow", "(LReturnDesk$Sale;I)I"⟩, prog_1_method_76_code, 3, (some .int))
def mX10_bestWay : MTH := (⟨"ReturnDesk", "bestWay", "(LReturnDesk$Sale;)I"⟩, prog_1_method_77_code, 4, (some .int))
def mX10_beyondChance : MTH := (⟨"ReturnDesk", "beyondChance", "(LReturnDesk$Lot;II)I"⟩, prog_1_method_78_code, 12, (some .int))
def mX10_dealsWith : MTH := (⟨"ReturnDesk", "dealsWith", "(IIII)J"⟩, prog_1_method_79_code, 7, (some .long))
def mX10_leastNotBelow : MTH := (⟨"ReturnDesk", "leastNotBelow", "(JI)J"⟩, prog_1_method_80_code, 3, (some .long))
def mX10_choose : MTH := (⟨"ReturnDesk", "choose", "(II)J"⟩, prog_1_method_81_code, 5, (some .long))
def mX10_nextChange : MTH := (⟨"ReturnDesk", "nextChange", "(LReturnDesk$Model;I)I"⟩, prog_1_method_82_code, 6, (some .int))
def mX10_isAmong : MTH := (⟨"ReturnDesk", "isAmong", "(II)Z"⟩, prog_1_method_83_code, 4, (some .boolean))
def mX10_isHit : MTH := (⟨"ReturnDesk", "isHit", "(I)Z"⟩, prog_1_method_84_code, 4, (some .boolean))
def mX11_init : MTH := (⟨"ReturnDeskModel", "<init>", "()V"⟩, prog_13_method_1_code, 1, none)
def mX11_in : MTH := (⟨"ReturnDeskModel", "in", "(III)Z"⟩, prog_13_method_3_code, 3, (some .boolean))
def mX11_isDay : MTH := (⟨"ReturnDeskModel", "isDay", "(I)Z"⟩, prog_13_method_4_code, 1, (some .boolean))
def mX11_today : MTH := (⟨"ReturnDeskModel", "today", "()I"⟩, prog_13_method_5_code, 1, (some .int))
def mX11_isModel : MTH := (⟨"ReturnDeskModel", "isModel", "(I)Z"⟩, prog_13_method_6_code, 2, (some .boolean))
def mX11_isLot : MTH := (⟨"ReturnDeskModel", "isLot", "(I)Z"⟩, prog_13_method_7_code, 2, (some .boolean))
def mX11_model : MTH := (⟨"ReturnDeskModel", "model", "(III)I"⟩, prog_13_method_8_code, 4, (some .int))
def mX11_price : MTH := (⟨"ReturnDeskModel", "price", "(III)I"⟩, prog_13_method_9_code, 4, (some .int))
def mX11_priceAt : MTH := (⟨"ReturnDeskModel", "priceAt", "(II)I"⟩, prog_13_method_10_code, 5, (some .int))
def mX11_priceOn : MTH := (⟨"ReturnDeskModel", "priceOn", "(II)I"⟩, prog_13_method_11_code, 3, (some .int))
def mX11_lot : MTH := (⟨"ReturnDeskModel", "lot", "(III)I"⟩, prog_13_method_12_code, 4, (some .int))
def mX11_hours : MTH := (⟨"ReturnDeskModel", "hours", "(I)I"⟩, prog_13_method_13_code, 2, (some .int))
def mX11_till : MTH := (⟨"ReturnDeskModel", "till", "(I)I"⟩, prog_13_method_14_code, 2, (some .int))
def mX11_isSale : MTH := (⟨"ReturnDeskModel", "isSale", "(I)Z"⟩, prog_13_method_15_code, 2, (some .boolean))
def mX11_modelOf : MTH := (⟨"ReturnDeskModel", "modelOf", "(I)I"⟩, prog_13_method_16_code, 2, (some .int))
def mX11_dayOf : MTH := (⟨"ReturnDeskModel", "dayOf", "(I)I"⟩, prog_13_method_17_code, 2, (some .int))
def mX11_sell : MTH := (⟨"ReturnDeskModel", "sell", "(IIIII)I"⟩, prog_13_method_18_code, 9, (some .int))
def mX11_gift : MTH := (⟨"ReturnDeskModel", "gift", "(II)I"⟩, prog_13_method_19_code, 4, (some .int))
def mX11_threes : MTH := (⟨"ReturnDeskModel", "threes", "(I)I"⟩, prog_13_method_20_code, 4, (some .int))
def mX11_ofSale : MTH := (⟨"ReturnDeskModel", "ofSale", "(II)I"⟩, prog_13_method_21_code, 3, (some .int))
def mX11_join : MTH := (⟨"ReturnDeskModel", "join", "(IIII)I"⟩, prog_13_method_22_code, 8, (some .int))
def mX11_keep : MTH := (⟨"ReturnDeskModel", "keep", "(I)I"⟩, prog_13_method_23_code, 2, (some .int))
def mX11_feed : MTH := (⟨"ReturnDeskModel", "feed", "(IIIII)I"⟩, prog_13_method_24_code, 6, (some .int))
def mX11_feedOne : MTH := (⟨"ReturnDeskModel", "feedOne", "(I)V"⟩, prog_13_method_25_code, 3, none)
def mX11_end : MTH := (⟨"ReturnDeskModel", "end", "(I)I"⟩, prog_13_method_26_code, 2, (some .int))
def mX11_isLetter : MTH := (⟨"ReturnDeskModel", "isLetter", "(I)Z"⟩, prog_13_method_27_code, 1, (some .boolean))
def mX11_isDigit : MTH := (⟨"ReturnDeskModel", "isDigit", "(I)Z"⟩, prog_13_method_28_code, 1, (some .boolean))
def mX11_next : MTH := (⟨"ReturnDeskModel", "next", "()V"⟩, prog_13_method_29_code, 1, none)
def mX11_isWord : MTH := (⟨"ReturnDeskModel", "isWord", "(J)Z"⟩, prog_13_method_30_code, 6, (some .boolean))
def mX11_wrong : MTH := (⟨"ReturnDeskModel", "wrong", "()V"⟩, prog_13_method_31_code, 1, none)
def mX11_lay : MTH := (⟨"ReturnDeskModel", "lay", "(II)V"⟩, prog_13_method_32_code, 3, none)
def mX11_opens : MTH := (⟨"ReturnDeskModel", "opens", "()Z"⟩, prog_13_method_33_code, 1, (some .boolean))
def mX11_nameOf : MTH := (⟨"ReturnDeskModel", "nameOf", "(I)I"⟩, prog_13_method_34_code, 5, (some .int))
def mX11_operand : MTH := (⟨"ReturnDeskModel", "operand", "(I)V"⟩, prog_13_method_35_code, 2, none)
def mX11_product : MTH := (⟨"ReturnDeskModel", "product", "(I)V"⟩, prog_13_method_36_code, 3, none)
def mX11_sum : MTH := (⟨"ReturnDeskModel", "sum", "(I)V"⟩, prog_13_method_37_code, 3, none)
def mX11_base : MTH := (⟨"ReturnDeskModel", "base", "(I)V"⟩, prog_13_method_38_code, 3, none)
def mX11_all : MTH := (⟨"ReturnDeskModel", "all", "(I)V"⟩, prog_13_method_39_code, 2, none)
def mX11_question : MTH := (⟨"ReturnDeskModel", "question", "(I)V"⟩, prog_13_method_40_code, 2, none)
def mX11_outOf : MTH := (⟨"ReturnDeskModel", "outOf", "()I"⟩, prog_13_method_41_code, 1, (some .int))
def mX11_rule : MTH := (⟨"ReturnDeskModel", "rule", "()V"⟩, prog_13_method_42_code, 2, none)
def mX11_begin : MTH := (⟨"ReturnDeskModel", "begin", "(I)V"⟩, prog_13_method_43_code, 2, none)
def mX11_text : MTH := (⟨"ReturnDeskModel", "text", "(II)I"⟩, prog_13_method_44_code, 3, (some .int))
def mX11_forceOn : MTH := (⟨"ReturnDeskModel", "forceOn", "(III)I"⟩, prog_13_method_45_code, 5, (some .int))
def mX11_inForce : MTH := (⟨"ReturnDeskModel", "inForce", "(III)I"⟩, prog_13_method_46_code, 4, (some .int))
def mX11_both : MTH := (⟨"ReturnDeskModel", "both", "(III)I"⟩, prog_13_method_47_code, 3, (some .int))
def mX11_works : MTH := (⟨"ReturnDeskModel", "works", "(I)I"⟩, prog_13_method_48_code, 7, (some .int))
def mX11_times : MTH := (⟨"ReturnDeskModel", "times", "(II)I"⟩, prog_13_method_49_code, 5, (some .int))
def mX11_factsOf : MTH := (⟨"ReturnDeskModel", "factsOf", "(III)V"⟩, prog_13_method_50_code, 4, none)
def mX11_sideSays : MTH := (⟨"ReturnDeskModel", "sideSays", "(III)I"⟩, prog_13_method_51_code, 5, (some .int))
def mX11_says : MTH := (⟨"ReturnDeskModel", "says", "(IIII)I"⟩, prog_13_method_52_code, 5, (some .int))
def mX11_worthOf : MTH := (⟨"ReturnDeskModel", "worthOf", "(II)I"⟩, prog_13_method_53_code, 4, (some .int))
def mX11_digit : MTH := (⟨"ReturnDeskModel", "digit", "(II)I"⟩, prog_13_method_54_code, 4, (some .int))
def mX11_areFacts : MTH := (⟨"ReturnDeskModel", "areFacts", "(I)Z"⟩, prog_13_method_55_code, 1, (some .boolean))
def mX11_ask : MTH := (⟨"ReturnDeskModel", "ask", "(IIIIII)I"⟩, prog_13_method_56_code, 10, (some .int))
def mX11_find : MTH := (⟨"ReturnDeskModel", "find", "(II)V"⟩, prog_13_method_57_code, 13, none)
def mX11_isAsking : MTH := (⟨"ReturnDeskModel", "isAsking", "(I)Z"⟩, prog_13_method_58_code, 2, (some .boolean))
def mX11_judged : MTH := (⟨"ReturnDeskModel", "judged", "(III)I"⟩, prog_13_method_59_code, 4, (some .int))
def mX11_ofAsking : MTH := (⟨"ReturnDeskModel", "ofAsking", "(II)I"⟩, prog_13_method_60_code, 3, (some .int))
def mX11_newOf : MTH := (⟨"ReturnDeskModel", "newOf", "(I)I"⟩, prog_13_method_61_code, 4, (some .int))
def mX11_giveNew : MTH := (⟨"ReturnDeskModel", "giveNew", "(I)V"⟩, prog_13_method_62_code, 3, none)
def mX11_take : MTH := (⟨"ReturnDeskModel", "take", "(I)I"⟩, prog_13_method_63_code, 8, (some .int))
def mX11_leave : MTH := (⟨"ReturnDeskModel", "leave", "(I)I"⟩, prog_13_method_64_code, 2, (some .int))
def mX11_note : MTH := (⟨"ReturnDeskModel", "note", "(I)I"⟩, prog_13_method_65_code, 2, (some .int))
def mX11_usedOf : MTH := (⟨"ReturnDeskModel", "usedOf", "(I)I"⟩, prog_13_method_66_code, 4, (some .int))
def mX11_stock : MTH := (⟨"ReturnDeskModel", "stock", "(II)I"⟩, prog_13_method_67_code, 5, (some .int))
def mX11_wornOf : MTH := (⟨"ReturnDeskModel", "wornOf", "(I)I"⟩, prog_13_method_68_code, 2, (some .int))
def mX11_asUsed : MTH := (⟨"ReturnDeskModel", "asUsed", "(II)I"⟩, prog_13_method_69_code, 3, (some .int))
def mX11_worthBy : MTH := (⟨"ReturnDeskModel", "worthBy", "(II)I"⟩, prog_13_method_70_code, 7, (some .int))
def mX11_worth : MTH := (⟨"ReturnDeskModel", "worth", "(II)I"⟩, prog_13_method_71_code, 3, (some .int))
def mX11_sort : MTH := (⟨"ReturnDeskModel", "sort", "(I)I"⟩, prog_13_method_72_code, 4, (some .int))
def mX11_sellUsed : MTH := (⟨"ReturnDeskModel", "sellUsed", "(I)I"⟩, prog_13_method_73_code, 4, (some .int))
def mX11_ofLot : MTH := (⟨"ReturnDeskModel", "ofLot", "(III)I"⟩, prog_13_method_74_code, 6, (some .int))
def mX11_choose : MTH := (⟨"ReturnDeskModel", "choose", "(II)J"⟩, prog_13_method_75_code, 5, (some .long))
def mX11_soldBy : MTH := (⟨"ReturnDeskModel", "soldBy", "(IIZ)I"⟩, prog_13_method_76_code, 6, (some .int))
def mX11_isBeyond : MTH := (⟨"ReturnDeskModel", "isBeyond", "(III)I"⟩, prog_13_method_77_code, 14, (some .int))
def mX11_beyond : MTH := (⟨"ReturnDeskModel", "beyond", "(III)I"⟩, prog_13_method_78_code, 4, (some .int))
def mX11_since : MTH := (⟨"ReturnDeskModel", "since", "(II)I"⟩, prog_13_method_79_code, 5, (some .int))
def mX11_isBuyer : MTH := (⟨"ReturnDeskModel", "isBuyer", "(I)Z"⟩, prog_13_method_80_code, 1, (some .boolean))
def mX11_honest : MTH := (⟨"ReturnDeskModel", "honest", "(II)I"⟩, prog_13_method_81_code, 4, (some .int))
def mX11_limit : MTH := (⟨"ReturnDeskModel", "limit", "()I"⟩, prog_13_method_82_code, 2, (some .int))
def mX11_isHit : MTH := (⟨"ReturnDeskModel", "isHit", "(I)Z"⟩, prog_13_method_83_code, 3, (some .boolean))
def mX11_hits : MTH := (⟨"ReturnDeskModel", "hits", "(I)I"⟩, prog_13_method_84_code, 2, (some .int))
def mX11_hasBought : MTH := (⟨"ReturnDeskModel", "hasBought", "(I)Z"⟩, prog_13_method_85_code, 3, (some .boolean))
def mX11_tried : MTH := (⟨"ReturnDeskModel", "tried", "(I)I"⟩, prog_13_method_86_code, 5, (some .int))
def mX11_size : MTH := (⟨"ReturnDeskModel", "size", "(II)I"⟩, prog_13_method_87_code, 4, (some .int))
def mX11_hasOtherSize : MTH := (⟨"ReturnDeskModel", "hasOtherSize", "(I)Z"⟩, prog_13_method_88_code, 3, (some .boolean))
def mX11_shift : MTH := (⟨"ReturnDeskModel", "shift", "(I)I"⟩, prog_13_method_89_code, 4, (some .int))
def mX11_brought : MTH := (⟨"ReturnDeskModel", "brought", "(II)I"⟩, prog_13_method_90_code, 3, (some .int))
def mX11_damage : MTH := (⟨"ReturnDeskModel", "damage", "(I)I"⟩, prog_13_method_91_code, 2, (some .int))
def mX11_carrier : MTH := (⟨"ReturnDeskModel", "carrier", "(II)I"⟩, prog_13_method_92_code, 5, (some .int))
def mX11_count : MTH := (⟨"ReturnDeskModel", "count", "(I)I"⟩, prog_13_method_93_code, 4, (some .int))
def mJ11_isValidCodePoint_9a6ad : MTH := (⟨"java/lang/Character", "isValidCodePoint", "(I)Z"⟩, prog_14_method_11_code, 2, (some .boolean))
def mJ11_highSurrogate_5068e : MTH := (⟨"java/lang/Character", "highSurrogate", "(I)C"⟩, prog_14_method_28_code, 1, (some .char))
def mJ11_lowSurrogate_5068e : MTH := (⟨"java/lang/Character", "lowSurrogate", "(I)C"⟩, prog_14_method_29_code, 1, (some .char))
def mJ9_abs_0f7a4 : MTH := (⟨"java/lang/Math", "abs", "(I)I"⟩, prog_15_method_59_code, 1, (some .int))
def mJ9_max_7cf53 : MTH := (⟨"java/lang/Math", "max", "(II)I"⟩, prog_15_method_65_code, 2, (some .int))
def mJ9_min_7cf53 : MTH := (⟨"java/lang/Math", "min", "(II)I"⟩, prog_15_method_69_code, 2, (some .int))
def mJ0_length_8abf5 : MTH := (⟨"java/lang/String", "length", "()I"⟩, prog_16_method_54_code, 1, (some .int))
def mJ0_charAt_5068e : MTH := (⟨"java/lang/String", "charAt", "(I)C"⟩, prog_16_method_56_code, 2, (some .char))
def mJ0_indexOf_0f7a4 : MTH := (⟨"java/lang/String", "indexOf", "(I)I"⟩, prog_16_method_79_code, 2, (some .int))
def mJ0_indexOf_7cf53 : MTH := (⟨"java/lang/String", "indexOf", "(II)I"⟩, prog_16_method_80_code, 3, (some .int))
def mJ0_coder_7d493 : MTH := (⟨"java/lang/String", "coder", "()B"⟩, prog_16_method_152_code, 1, (some .byte))
def mJ0_isLatin1_aae02 : MTH := (⟨"java/lang/String", "isLatin1", "()Z"⟩, prog_16_method_154_code, 1, (some .boolean))
def mJ0_checkIndex_df160 : MTH := (⟨"java/lang/String", "checkIndex", "(II)V"⟩, prog_16_method_155_code, 2, none)
def mJ0_checkBoundsBeginEnd_23922 : MTH := (⟨"java/lang/String", "checkBoundsBeginEnd", "(III)V"⟩, prog_16_method_158_code, 3, none)
def mJ1_charAt_3b067 : MTH := (⟨"java/lang/StringLatin1", "charAt", "([BI)C"⟩, prog_17_method_2_code, 2, (some .char))
def mJ1_canEncode_9a6ad : MTH := (⟨"java/lang/StringLatin1", "canEncode", "(I)Z"⟩, prog_17_method_4_code, 1, (some .boolean))
def mJ1_indexOf_4cfef : MTH := (⟨"java/lang/StringLatin1", "indexOf", "([BIII)I"⟩, prog_17_method_22_code, 4, (some .int))
def mJ1_indexOfChar_4cfef : MTH := (⟨"java/lang/StringLatin1", "indexOfChar", "([BIII)I"⟩, prog_17_method_23_code, 6, (some .int))
def mJ2_getChar_3b067 : MTH := (⟨"java/lang/StringUTF16", "getChar", "([BI)C"⟩, prog_18_method_5_code, 2, (some .char))
def mJ2_length_9d52b : MTH := (⟨"java/lang/StringUTF16", "length", "([B)I"⟩, prog_18_method_6_code, 1, (some .int))
def mJ2_indexOf_4cfef : MTH := (⟨"java/lang/StringUTF16", "indexOf", "([BIII)I"⟩, prog_18_method_40_code, 4, (some .int))
def mJ2_indexOfChar_4cfef : MTH := (⟨"java/lang/StringUTF16", "indexOfChar", "([BIII)I"⟩, prog_18_method_47_code, 4, (some .int))
def mJ2_indexOfCharUnsafe_4cfef : MTH := (⟨"java/lang/StringUTF16", "indexOfCharUnsafe", "([BIII)I"⟩, prog_18_method_48_code, 5, (some .int))
def mJ2_indexOfSupplementary_4cfef : MTH := (⟨"java/lang/StringUTF16", "indexOfSupplementary", "([BIII)I"⟩, prog_18_method_49_code, 7, (some .int))
def mJ2_charAt_3b067 : MTH := (⟨"java/lang/StringUTF16", "charAt", "([BI)C"⟩, prog_18_method_83_code, 2, (some .char))
def mJ2_checkIndex_2214a : MTH := (⟨"java/lang/StringUTF16", "checkIndex", "(I[B)V"⟩, prog_18_method_91_code, 2, none)
def mJ2_checkBoundsBeginEnd_d044e : MTH := (⟨"java/lang/StringUTF16", "checkBoundsBeginEnd", "(II[B)V"⟩, prog_18_method_93_code, 3, none)
def mJ3_checkIndex_8e157 : MTH := (⟨"jdk/internal/util/Preconditions", "checkIndex", "(IILjava/util/function/BiFunction;)I"⟩, prog_20_method_11_code, 3, (some .int))
def mJ3_checkFromToIndex_8c36e : MTH := (⟨"jdk/internal/util/Preconditions", "checkFromToIndex", "(IIILjava/util/function/BiFunction;)I"⟩, prog_20_method_12_code, 4, (some .int))
def mL_law : MTH := (⟨"ReturnDeskLaw", "law", "([I)Z"⟩, code, 4, some .boolean)
