section
-- ===== PART A: goes FIRST, ahead of the names: the tables' words, and 'selects' of the private methods out of them =====
/-- a private method of a class that the tables say can be made, by its rows of tables_1 -/
def lw_okq (q : MethodName × Nat) : Prop := (q.1.cls ≠ "java/lang/invoke/MethodHandle" ∧ q.1.cls ≠ "java/lang/invoke/VarHandle") ∧ Cond.instantiable q.1.cls q.2 ∈ tables_1 ∧ Cond.privateMethod q.1 ∈ tables_1 ∧ Cond.instanceMethod q.1 ∈ tables_1
theorem lw_p0 : lw_okq (⟨"EdgeOfCard$Text", "step", "()V"⟩, 9) := ⟨⟨by decide +kernel, by decide +kernel⟩, List.mem_of_getElem? (i := 19) (by decide +kernel), List.mem_of_getElem? (i := 212) (by decide +kernel), List.mem_of_getElem? (i := 213) (by decide +kernel)⟩
theorem lw_p1 : lw_okq (⟨"EdgeOfCard$Text", "readLetters", "()V"⟩, 9) := ⟨⟨by decide +kernel, by decide +kernel⟩, List.mem_of_getElem? (i := 19) (by decide +kernel), List.mem_of_getElem? (i := 217) (by decide +kernel), List.mem_of_getElem? (i := 218) (by decide +kernel)⟩
theorem lw_p2 : lw_okq (⟨"EdgeOfCard$Text", "readDigits", "()V"⟩, 9) := ⟨⟨by decide +kernel, by decide +kernel⟩, List.mem_of_getElem? (i := 19) (by decide +kernel), List.mem_of_getElem? (i := 221) (by decide +kernel), List.mem_of_getElem? (i := 222) (by decide +kernel)⟩
theorem lw_p3 : lw_okq (⟨"EdgeOfCard$Text", "mayBegin", "(LEdgeOfCard$Told;)Z"⟩, 9) := ⟨⟨by decide +kernel, by decide +kernel⟩, List.mem_of_getElem? (i := 19) (by decide +kernel), List.mem_of_getElem? (i := 228) (by decide +kernel), List.mem_of_getElem? (i := 229) (by decide +kernel)⟩
theorem lw_p4 : lw_okq (⟨"EdgeOfCard$Text", "readNumbers", "(ILEdgeOfCard$Told;)Z"⟩, 9) := ⟨⟨by decide +kernel, by decide +kernel⟩, List.mem_of_getElem? (i := 19) (by decide +kernel), List.mem_of_getElem? (i := 232) (by decide +kernel), List.mem_of_getElem? (i := 233) (by decide +kernel)⟩
theorem lw_p5 : lw_okq (⟨"EdgeOfCard$Text", "mayBe", "(IILEdgeOfCard$Told;)Z"⟩, 9) := ⟨⟨by decide +kernel, by decide +kernel⟩, List.mem_of_getElem? (i := 19) (by decide +kernel), List.mem_of_getElem? (i := 236) (by decide +kernel), List.mem_of_getElem? (i := 237) (by decide +kernel)⟩
theorem lw_p6 : lw_okq (⟨"EdgeOfCard$Text", "tell", "(ILEdgeOfCard$Told;)V"⟩, 9) := ⟨⟨by decide +kernel, by decide +kernel⟩, List.mem_of_getElem? (i := 19) (by decide +kernel), List.mem_of_getElem? (i := 245) (by decide +kernel), List.mem_of_getElem? (i := 246) (by decide +kernel)⟩
theorem lw_p7 : lw_okq (⟨"EdgeOfCard$Hand", "blank", "()I"⟩, 8) := ⟨⟨by decide +kernel, by decide +kernel⟩, List.mem_of_getElem? (i := 111) (by decide +kernel), List.mem_of_getElem? (i := 312) (by decide +kernel), List.mem_of_getElem? (i := 313) (by decide +kernel)⟩
theorem lw_p8 : lw_okq (⟨"EdgeOfCard$Hand", "remember", "()V"⟩, 8) := ⟨⟨by decide +kernel, by decide +kernel⟩, List.mem_of_getElem? (i := 111) (by decide +kernel), List.mem_of_getElem? (i := 316) (by decide +kernel), List.mem_of_getElem? (i := 317) (by decide +kernel)⟩
theorem lw_p9 : lw_okq (⟨"EdgeOfCard", "makingSense", "()I"⟩, 12) := ⟨⟨by decide +kernel, by decide +kernel⟩, List.mem_of_getElem? (i := 11) (by decide +kernel), List.mem_of_getElem? (i := 376) (by decide +kernel), List.mem_of_getElem? (i := 377) (by decide +kernel)⟩
theorem lw_p10 : lw_okq (⟨"EdgeOfCard", "isSize", "(I)Z"⟩, 12) := ⟨⟨by decide +kernel, by decide +kernel⟩, List.mem_of_getElem? (i := 11) (by decide +kernel), List.mem_of_getElem? (i := 394) (by decide +kernel), List.mem_of_getElem? (i := 395) (by decide +kernel)⟩
theorem lw_p11 : lw_okq (⟨"EdgeOfCard$Filling", "begin", "(I)V"⟩, 5) := ⟨⟨by decide +kernel, by decide +kernel⟩, List.mem_of_getElem? (i := 87) (by decide +kernel), List.mem_of_getElem? (i := 406) (by decide +kernel), List.mem_of_getElem? (i := 407) (by decide +kernel)⟩
theorem lw_p12 : lw_okq (⟨"EdgeOfCard$Filling", "put", "(II)Z"⟩, 5) := ⟨⟨by decide +kernel, by decide +kernel⟩, List.mem_of_getElem? (i := 87) (by decide +kernel), List.mem_of_getElem? (i := 416) (by decide +kernel), List.mem_of_getElem? (i := 417) (by decide +kernel)⟩
theorem lw_p13 : lw_okq (⟨"EdgeOfCard", "bestSet", "(II)I"⟩, 12) := ⟨⟨by decide +kernel, by decide +kernel⟩, List.mem_of_getElem? (i := 11) (by decide +kernel), List.mem_of_getElem? (i := 433) (by decide +kernel), List.mem_of_getElem? (i := 434) (by decide +kernel)⟩
theorem lw_p14 : lw_okq (⟨"EdgeOfCard", "isAsSeen", "()Z"⟩, 12) := ⟨⟨by decide +kernel, by decide +kernel⟩, List.mem_of_getElem? (i := 11) (by decide +kernel), List.mem_of_getElem? (i := 481) (by decide +kernel), List.mem_of_getElem? (i := 482) (by decide +kernel)⟩
theorem lw_p15 : lw_okq (⟨"EdgeOfCard", "asPiece", "(I)I"⟩, 12) := ⟨⟨by decide +kernel, by decide +kernel⟩, List.mem_of_getElem? (i := 11) (by decide +kernel), List.mem_of_getElem? (i := 499) (by decide +kernel), List.mem_of_getElem? (i := 500) (by decide +kernel)⟩
def lw_privs_1 : List (MethodName × Nat) := [(⟨"EdgeOfCard$Text", "step", "()V"⟩, 9), (⟨"EdgeOfCard$Text", "readLetters", "()V"⟩, 9), (⟨"EdgeOfCard$Text", "readDigits", "()V"⟩, 9), (⟨"EdgeOfCard$Text", "mayBegin", "(LEdgeOfCard$Told;)Z"⟩, 9), (⟨"EdgeOfCard$Text", "readNumbers", "(ILEdgeOfCard$Told;)Z"⟩, 9), (⟨"EdgeOfCard$Text", "mayBe", "(IILEdgeOfCard$Told;)Z"⟩, 9), (⟨"EdgeOfCard$Text", "tell", "(ILEdgeOfCard$Told;)V"⟩, 9), (⟨"EdgeOfCard$Hand", "blank", "()I"⟩, 8), (⟨"EdgeOfCard$Hand", "remember", "()V"⟩, 8), (⟨"EdgeOfCard", "makingSense", "()I"⟩, 12), (⟨"EdgeOfCard", "isSize", "(I)Z"⟩, 12), (⟨"EdgeOfCard$Filling", "begin", "(I)V"⟩, 5), (⟨"EdgeOfCard$Filling", "put", "(II)Z"⟩, 5), (⟨"EdgeOfCard", "bestSet", "(II)I"⟩, 12), (⟨"EdgeOfCard", "isAsSeen", "()Z"⟩, 12), (⟨"EdgeOfCard", "asPiece", "(I)I"⟩, 12)]
theorem lw_r1 : ∀ q ∈ lw_privs_1, lw_okq q := List.forall_mem_cons.mpr ⟨lw_p0, List.forall_mem_cons.mpr ⟨lw_p1, List.forall_mem_cons.mpr ⟨lw_p2, List.forall_mem_cons.mpr ⟨lw_p3, List.forall_mem_cons.mpr ⟨lw_p4, List.forall_mem_cons.mpr ⟨lw_p5, List.forall_mem_cons.mpr ⟨lw_p6, List.forall_mem_cons.mpr ⟨lw_p7, List.forall_mem_cons.mpr ⟨lw_p8, List.forall_mem_cons.mpr ⟨lw_p9, List.forall_mem_cons.mpr ⟨lw_p10, List.forall_mem_cons.mpr ⟨lw_p11, List.forall_mem_cons.mpr ⟨lw_p12, List.forall_mem_cons.mpr ⟨lw_p13, List.forall_mem_cons.mpr ⟨lw_p14, List.forall_mem_cons.mpr ⟨lw_p15, fun _ h => absurd h List.not_mem_nil⟩⟩⟩⟩⟩⟩⟩⟩⟩⟩⟩⟩⟩⟩⟩⟩
theorem lw_p16 : lw_okq (⟨"EdgeOfCard", "asShort", "(I)I"⟩, 12) := ⟨⟨by decide +kernel, by decide +kernel⟩, List.mem_of_getElem? (i := 11) (by decide +kernel), List.mem_of_getElem? (i := 503) (by decide +kernel), List.mem_of_getElem? (i := 504) (by decide +kernel)⟩
theorem lw_p17 : lw_okq (⟨"EdgeOfCard", "asLong", "(I)I"⟩, 12) := ⟨⟨by decide +kernel, by decide +kernel⟩, List.mem_of_getElem? (i := 11) (by decide +kernel), List.mem_of_getElem? (i := 508) (by decide +kernel), List.mem_of_getElem? (i := 509) (by decide +kernel)⟩
theorem lw_p18 : lw_okq (⟨"EdgeOfCard", "asSign", "(I)I"⟩, 12) := ⟨⟨by decide +kernel, by decide +kernel⟩, List.mem_of_getElem? (i := 11) (by decide +kernel), List.mem_of_getElem? (i := 513) (by decide +kernel), List.mem_of_getElem? (i := 514) (by decide +kernel)⟩
theorem lw_p19 : lw_okq (⟨"EdgeOfCard", "asMargin", "(I)I"⟩, 12) := ⟨⟨by decide +kernel, by decide +kernel⟩, List.mem_of_getElem? (i := 11) (by decide +kernel), List.mem_of_getElem? (i := 518) (by decide +kernel), List.mem_of_getElem? (i := 519) (by decide +kernel)⟩
theorem lw_p20 : lw_okq (⟨"EdgeOfCard", "asKiss", "(I)I"⟩, 12) := ⟨⟨by decide +kernel, by decide +kernel⟩, List.mem_of_getElem? (i := 11) (by decide +kernel), List.mem_of_getElem? (i := 523) (by decide +kernel), List.mem_of_getElem? (i := 524) (by decide +kernel)⟩
theorem lw_p21 : lw_okq (⟨"EdgeOfCard", "imageOf", "(I)LEdgeOfCard$Hand;"⟩, 12) := ⟨⟨by decide +kernel, by decide +kernel⟩, List.mem_of_getElem? (i := 11) (by decide +kernel), List.mem_of_getElem? (i := 532) (by decide +kernel), List.mem_of_getElem? (i := 533) (by decide +kernel)⟩
theorem lw_p22 : lw_okq (⟨"EdgeOfCardModel", "next", "()V"⟩, 27) := ⟨⟨by decide +kernel, by decide +kernel⟩, List.mem_of_getElem? (i := 552) (by decide +kernel), List.mem_of_getElem? (i := 657) (by decide +kernel), List.mem_of_getElem? (i := 658) (by decide +kernel)⟩
theorem lw_p23 : lw_okq (⟨"EdgeOfCardModel", "here", "()I"⟩, 27) := ⟨⟨by decide +kernel, by decide +kernel⟩, List.mem_of_getElem? (i := 552) (by decide +kernel), List.mem_of_getElem? (i := 661) (by decide +kernel), List.mem_of_getElem? (i := 662) (by decide +kernel)⟩
theorem lw_p24 : lw_okq (⟨"EdgeOfCardModel", "mayBe", "(I)Z"⟩, 27) := ⟨⟨by decide +kernel, by decide +kernel⟩, List.mem_of_getElem? (i := 552) (by decide +kernel), List.mem_of_getElem? (i := 665) (by decide +kernel), List.mem_of_getElem? (i := 666) (by decide +kernel)⟩
theorem lw_p25 : lw_okq (⟨"EdgeOfCardModel", "due", "(Z)I"⟩, 27) := ⟨⟨by decide +kernel, by decide +kernel⟩, List.mem_of_getElem? (i := 552) (by decide +kernel), List.mem_of_getElem? (i := 669) (by decide +kernel), List.mem_of_getElem? (i := 670) (by decide +kernel)⟩
theorem lw_p26 : lw_okq (⟨"EdgeOfCardModel", "readRow", "(I)V"⟩, 27) := ⟨⟨by decide +kernel, by decide +kernel⟩, List.mem_of_getElem? (i := 552) (by decide +kernel), List.mem_of_getElem? (i := 673) (by decide +kernel), List.mem_of_getElem? (i := 674) (by decide +kernel)⟩
theorem lw_p27 : lw_okq (⟨"EdgeOfCardModel", "number", "(II)I"⟩, 27) := ⟨⟨by decide +kernel, by decide +kernel⟩, List.mem_of_getElem? (i := 552) (by decide +kernel), List.mem_of_getElem? (i := 677) (by decide +kernel), List.mem_of_getElem? (i := 678) (by decide +kernel)⟩
theorem lw_p28 : lw_okq (⟨"EdgeOfCardModel", "isLine", "(I)Z"⟩, 27) := ⟨⟨by decide +kernel, by decide +kernel⟩, List.mem_of_getElem? (i := 552) (by decide +kernel), List.mem_of_getElem? (i := 685) (by decide +kernel), List.mem_of_getElem? (i := 686) (by decide +kernel)⟩
theorem lw_p29 : lw_okq (⟨"EdgeOfCardModel", "isPiece", "(I)Z"⟩, 27) := ⟨⟨by decide +kernel, by decide +kernel⟩, List.mem_of_getElem? (i := 552) (by decide +kernel), List.mem_of_getElem? (i := 693) (by decide +kernel), List.mem_of_getElem? (i := 694) (by decide +kernel)⟩
theorem lw_p30 : lw_okq (⟨"EdgeOfCardModel", "of", "(II)I"⟩, 27) := ⟨⟨by decide +kernel, by decide +kernel⟩, List.mem_of_getElem? (i := 552) (by decide +kernel), List.mem_of_getElem? (i := 697) (by decide +kernel), List.mem_of_getElem? (i := 698) (by decide +kernel)⟩
theorem lw_p31 : lw_okq (⟨"EdgeOfCardModel", "isNext", "()Z"⟩, 27) := ⟨⟨by decide +kernel, by decide +kernel⟩, List.mem_of_getElem? (i := 552) (by decide +kernel), List.mem_of_getElem? (i := 705) (by decide +kernel), List.mem_of_getElem? (i := 706) (by decide +kernel)⟩
def lw_privs_2 : List (MethodName × Nat) := [(⟨"EdgeOfCard", "asShort", "(I)I"⟩, 12), (⟨"EdgeOfCard", "asLong", "(I)I"⟩, 12), (⟨"EdgeOfCard", "asSign", "(I)I"⟩, 12), (⟨"EdgeOfCard", "asMargin", "(I)I"⟩, 12), (⟨"EdgeOfCard", "asKiss", "(I)I"⟩, 12), (⟨"EdgeOfCard", "imageOf", "(I)LEdgeOfCard$Hand;"⟩, 12), (⟨"EdgeOfCardModel", "next", "()V"⟩, 27), (⟨"EdgeOfCardModel", "here", "()I"⟩, 27), (⟨"EdgeOfCardModel", "mayBe", "(I)Z"⟩, 27), (⟨"EdgeOfCardModel", "due", "(Z)I"⟩, 27), (⟨"EdgeOfCardModel", "readRow", "(I)V"⟩, 27), (⟨"EdgeOfCardModel", "number", "(II)I"⟩, 27), (⟨"EdgeOfCardModel", "isLine", "(I)Z"⟩, 27), (⟨"EdgeOfCardModel", "isPiece", "(I)Z"⟩, 27), (⟨"EdgeOfCardModel", "of", "(II)I"⟩, 27), (⟨"EdgeOfCardModel", "isNext", "()Z"⟩, 27)]
theorem lw_r2 : ∀ q ∈ lw_privs_2, lw_okq q := List.forall_mem_cons.mpr ⟨lw_p16, List.forall_mem_cons.mpr ⟨lw_p17, List.forall_mem_cons.mpr ⟨lw_p18, List.forall_mem_cons.mpr ⟨lw_p19, List.forall_mem_cons.mpr ⟨lw_p20, List.forall_mem_cons.mpr ⟨lw_p21, List.forall_mem_cons.mpr ⟨lw_p22, List.forall_mem_cons.mpr ⟨lw_p23, List.forall_mem_cons.mpr ⟨lw_p24, List.forall_mem_cons.mpr ⟨lw_p25, List.forall_mem_cons.mpr ⟨lw_p26, List.forall_mem_cons.mpr ⟨lw_p27, List.forall_mem_cons.mpr ⟨lw_p28, List.forall_mem_cons.mpr ⟨lw_p29, List.forall_mem_cons.mpr ⟨lw_p30, List.forall_mem_cons.mpr ⟨lw_p31, fun _ h => absurd h List.not_mem_nil⟩⟩⟩⟩⟩⟩⟩⟩⟩⟩⟩⟩⟩⟩⟩⟩
theorem lw_p32 : lw_okq (⟨"EdgeOfCardModel", "put", "(I)I"⟩, 27) := ⟨⟨by decide +kernel, by decide +kernel⟩, List.mem_of_getElem? (i := 552) (by decide +kernel), List.mem_of_getElem? (i := 709) (by decide +kernel), List.mem_of_getElem? (i := 710) (by decide +kernel)⟩
theorem lw_p33 : lw_okq (⟨"EdgeOfCardModel", "blank", "()I"⟩, 27) := ⟨⟨by decide +kernel, by decide +kernel⟩, List.mem_of_getElem? (i := 552) (by decide +kernel), List.mem_of_getElem? (i := 713) (by decide +kernel), List.mem_of_getElem? (i := 714) (by decide +kernel)⟩
theorem lw_p34 : lw_okq (⟨"EdgeOfCardModel", "know", "()V"⟩, 27) := ⟨⟨by decide +kernel, by decide +kernel⟩, List.mem_of_getElem? (i := 552) (by decide +kernel), List.mem_of_getElem? (i := 717) (by decide +kernel), List.mem_of_getElem? (i := 718) (by decide +kernel)⟩
theorem lw_p35 : lw_okq (⟨"EdgeOfCardModel", "sense", "()I"⟩, 27) := ⟨⟨by decide +kernel, by decide +kernel⟩, List.mem_of_getElem? (i := 552) (by decide +kernel), List.mem_of_getElem? (i := 752) (by decide +kernel), List.mem_of_getElem? (i := 753) (by decide +kernel)⟩
theorem lw_p36 : lw_okq (⟨"EdgeOfCardModel", "isClear", "(II)Z"⟩, 27) := ⟨⟨by decide +kernel, by decide +kernel⟩, List.mem_of_getElem? (i := 552) (by decide +kernel), List.mem_of_getElem? (i := 756) (by decide +kernel), List.mem_of_getElem? (i := 757) (by decide +kernel)⟩
theorem lw_p37 : lw_okq (⟨"EdgeOfCardModel", "sumOf", "(II)I"⟩, 27) := ⟨⟨by decide +kernel, by decide +kernel⟩, List.mem_of_getElem? (i := 552) (by decide +kernel), List.mem_of_getElem? (i := 760) (by decide +kernel), List.mem_of_getElem? (i := 761) (by decide +kernel)⟩
theorem lw_p38 : lw_okq (⟨"EdgeOfCardModel", "isSize", "(I)Z"⟩, 27) := ⟨⟨by decide +kernel, by decide +kernel⟩, List.mem_of_getElem? (i := 552) (by decide +kernel), List.mem_of_getElem? (i := 768) (by decide +kernel), List.mem_of_getElem? (i := 769) (by decide +kernel)⟩
theorem lw_p39 : lw_okq (⟨"EdgeOfCardModel", "all", "()I"⟩, 27) := ⟨⟨by decide +kernel, by decide +kernel⟩, List.mem_of_getElem? (i := 552) (by decide +kernel), List.mem_of_getElem? (i := 772) (by decide +kernel), List.mem_of_getElem? (i := 773) (by decide +kernel)⟩
theorem lw_p40 : lw_okq (⟨"EdgeOfCardModel", "allSizes", "(I)V"⟩, 27) := ⟨⟨by decide +kernel, by decide +kernel⟩, List.mem_of_getElem? (i := 552) (by decide +kernel), List.mem_of_getElem? (i := 776) (by decide +kernel), List.mem_of_getElem? (i := 777) (by decide +kernel)⟩
theorem lw_p41 : lw_okq (⟨"EdgeOfCardModel", "fillBy", "(I)Z"⟩, 27) := ⟨⟨by decide +kernel, by decide +kernel⟩, List.mem_of_getElem? (i := 552) (by decide +kernel), List.mem_of_getElem? (i := 780) (by decide +kernel), List.mem_of_getElem? (i := 781) (by decide +kernel)⟩
theorem lw_p42 : lw_okq (⟨"EdgeOfCardModel", "wideOf", "(I)I"⟩, 27) := ⟨⟨by decide +kernel, by decide +kernel⟩, List.mem_of_getElem? (i := 552) (by decide +kernel), List.mem_of_getElem? (i := 784) (by decide +kernel), List.mem_of_getElem? (i := 785) (by decide +kernel)⟩
theorem lw_p43 : lw_okq (⟨"EdgeOfCardModel", "goesOn", "(II)Z"⟩, 27) := ⟨⟨by decide +kernel, by decide +kernel⟩, List.mem_of_getElem? (i := 552) (by decide +kernel), List.mem_of_getElem? (i := 792) (by decide +kernel), List.mem_of_getElem? (i := 793) (by decide +kernel)⟩
theorem lw_p44 : lw_okq (⟨"EdgeOfCardModel", "costOf", "(I)I"⟩, 27) := ⟨⟨by decide +kernel, by decide +kernel⟩, List.mem_of_getElem? (i := 552) (by decide +kernel), List.mem_of_getElem? (i := 800) (by decide +kernel), List.mem_of_getElem? (i := 801) (by decide +kernel)⟩
theorem lw_p45 : lw_okq (⟨"EdgeOfCardModel", "bestSet", "(II)I"⟩, 27) := ⟨⟨by decide +kernel, by decide +kernel⟩, List.mem_of_getElem? (i := 552) (by decide +kernel), List.mem_of_getElem? (i := 808) (by decide +kernel), List.mem_of_getElem? (i := 809) (by decide +kernel)⟩
theorem lw_p46 : lw_okq (⟨"EdgeOfCardModel", "hasNeeds", "(I)Z"⟩, 27) := ⟨⟨by decide +kernel, by decide +kernel⟩, List.mem_of_getElem? (i := 552) (by decide +kernel), List.mem_of_getElem? (i := 812) (by decide +kernel), List.mem_of_getElem? (i := 813) (by decide +kernel)⟩
theorem lw_p47 : lw_okq (⟨"EdgeOfCardModel", "copy", "(II)V"⟩, 27) := ⟨⟨by decide +kernel, by decide +kernel⟩, List.mem_of_getElem? (i := 552) (by decide +kernel), List.mem_of_getElem? (i := 860) (by decide +kernel), List.mem_of_getElem? (i := 861) (by decide +kernel)⟩
def lw_privs_3 : List (MethodName × Nat) := [(⟨"EdgeOfCardModel", "put", "(I)I"⟩, 27), (⟨"EdgeOfCardModel", "blank", "()I"⟩, 27), (⟨"EdgeOfCardModel", "know", "()V"⟩, 27), (⟨"EdgeOfCardModel", "sense", "()I"⟩, 27), (⟨"EdgeOfCardModel", "isClear", "(II)Z"⟩, 27), (⟨"EdgeOfCardModel", "sumOf", "(II)I"⟩, 27), (⟨"EdgeOfCardModel", "isSize", "(I)Z"⟩, 27), (⟨"EdgeOfCardModel", "all", "()I"⟩, 27), (⟨"EdgeOfCardModel", "allSizes", "(I)V"⟩, 27), (⟨"EdgeOfCardModel", "fillBy", "(I)Z"⟩, 27), (⟨"EdgeOfCardModel", "wideOf", "(I)I"⟩, 27), (⟨"EdgeOfCardModel", "goesOn", "(II)Z"⟩, 27), (⟨"EdgeOfCardModel", "costOf", "(I)I"⟩, 27), (⟨"EdgeOfCardModel", "bestSet", "(II)I"⟩, 27), (⟨"EdgeOfCardModel", "hasNeeds", "(I)Z"⟩, 27), (⟨"EdgeOfCardModel", "copy", "(II)V"⟩, 27)]
theorem lw_r3 : ∀ q ∈ lw_privs_3, lw_okq q := List.forall_mem_cons.mpr ⟨lw_p32, List.forall_mem_cons.mpr ⟨lw_p33, List.forall_mem_cons.mpr ⟨lw_p34, List.forall_mem_cons.mpr ⟨lw_p35, List.forall_mem_cons.mpr ⟨lw_p36, List.forall_mem_cons.mpr ⟨lw_p37, List.forall_mem_cons.mpr ⟨lw_p38, List.forall_mem_cons.mpr ⟨lw_p39, List.forall_mem_cons.mpr ⟨lw_p40, List.forall_mem_cons.mpr ⟨lw_p41, List.forall_mem_cons.mpr ⟨lw_p42, List.forall_mem_cons.mpr ⟨lw_p43, List.forall_mem_cons.mpr ⟨lw_p44, List.forall_mem_cons.mpr ⟨lw_p45, List.forall_mem_cons.mpr ⟨lw_p46, List.forall_mem_cons.mpr ⟨lw_p47, fun _ h => absurd h List.not_mem_nil⟩⟩⟩⟩⟩⟩⟩⟩⟩⟩⟩⟩⟩⟩⟩⟩
def lw_privs : List (MethodName × Nat) := lw_privs_1 ++ (lw_privs_2 ++ (lw_privs_3))
def lw_tbl : List Cond := k2_sels lw_privs ++ tables_1
theorem lw_privs_ok : ∀ q ∈ lw_privs, lw_okq q := by
  show ∀ q ∈ lw_privs_1 ++ (lw_privs_2 ++ (lw_privs_3)), lw_okq q
  exact List.forall_mem_append.mpr ⟨lw_r1, List.forall_mem_append.mpr ⟨lw_r2, lw_r3⟩⟩
end
section
def RX0 : String := "EdgeOfCard$Filling"
def TX0 : u_T := fun k => match k with
  | 0 => ("EdgeOfCard$Filling", "told", "LEdgeOfCard$Told;", true)
  | 1 => ("EdgeOfCard$Filling", "lineOf", "[I", true)
  | 2 => ("EdgeOfCard$Filling", "onLine", "I", false)
  | 3 => ("EdgeOfCard$Filling", "left", "I", false)
  | _ => ("EdgeOfCard$Filling", "lineIsEmpty", "Z", false)
def tyX0 : Nat → FieldType := fun k => match k with
  | 0 => .object "EdgeOfCard$Told"
  | 1 => .array .int
  | 2 => .int
  | 3 => .int
  | _ => .boolean
theorem nmX0 : ∀ a, a < 5 → ∀ b, b < 5 → a ≠ b → (TX0 a).2.1 ≠ (TX0 b).2.1 := by decide +kernel
theorem tyX0_ok : ∀ k, k < 5 → parseFieldDescriptor (TX0 k).2.2.1 = some (tyX0 k) := by decide +kernel
abbrev cX0_init : ByteArray := prog_2_method_1_code
def yX0_init : MethodName := ⟨RX0, "<init>", "(LEdgeOfCard$Told;)V"⟩
abbrev cX0_begin : ByteArray := prog_2_method_2_code
def yX0_begin : MethodName := ⟨RX0, "begin", "(I)V"⟩
abbrev cX0_put : ByteArray := prog_2_method_3_code
def yX0_put : MethodName := ⟨RX0, "put", "(II)Z"⟩
abbrev cX0_goesOn : ByteArray := prog_2_method_4_code
def yX0_goesOn : MethodName := ⟨RX0, "goesOn", "(III)Z"⟩
abbrev cX0_lineOfPiece : ByteArray := prog_2_method_5_code
def yX0_lineOfPiece : MethodName := ⟨RX0, "lineOfPiece", "(I)I"⟩
abbrev cX0_howFar : ByteArray := prog_2_method_6_code
def yX0_howFar : MethodName := ⟨RX0, "howFar", "(II)I"⟩
def RX1 : String := "EdgeOfCard$Hand"
def TX1 : u_T := fun k => match k with
  | 0 => ("EdgeOfCard$Hand", "told", "LEdgeOfCard$Told;", true)
  | 1 => ("EdgeOfCard$Hand", "next", "I", false)
  | 2 => ("EdgeOfCard$Hand", "onLine", "I", false)
  | 3 => ("EdgeOfCard$Hand", "left", "I", false)
  | 4 => ("EdgeOfCard$Hand", "size", "I", false)
  | 5 => ("EdgeOfCard$Hand", "omitted", "I", false)
  | 6 => ("EdgeOfCard$Hand", "past", "[I", true)
  | _ => ("EdgeOfCard$Hand", "known", "I", false)
def tyX1 : Nat → FieldType := fun k => match k with
  | 0 => .object "EdgeOfCard$Told"
  | 1 => .int
  | 2 => .int
  | 3 => .int
  | 4 => .int
  | 5 => .int
  | 6 => .array .int
  | _ => .int
theorem nmX1 : ∀ a, a < 8 → ∀ b, b < 8 → a ≠ b → (TX1 a).2.1 ≠ (TX1 b).2.1 := by decide +kernel
theorem tyX1_ok : ∀ k, k < 8 → parseFieldDescriptor (TX1 k).2.2.1 = some (tyX1 k) := by decide +kernel
abbrev cX1_init : ByteArray := prog_3_method_1_code
def yX1_init : MethodName := ⟨RX1, "<init>", "(LEdgeOfCard$Told;)V"⟩
abbrev cX1_begin : ByteArray := prog_3_method_2_code
def yX1_begin : MethodName := ⟨RX1, "begin", "()V"⟩
abbrev cX1_become : ByteArray := prog_3_method_3_code
def yX1_become : MethodName := ⟨RX1, "become", "(LEdgeOfCard$Hand;)V"⟩
abbrev cX1_hasNext : ByteArray := prog_3_method_4_code
def yX1_hasNext : MethodName := ⟨RX1, "hasNext", "()Z"⟩
abbrev cX1_canWrite : ByteArray := prog_3_method_5_code
def yX1_canWrite : MethodName := ⟨RX1, "canWrite", "()Z"⟩
abbrev cX1_put : ByteArray := prog_3_method_6_code
def yX1_put : MethodName := ⟨RX1, "put", "(I)I"⟩
abbrev cX1_putBroken : ByteArray := prog_3_method_7_code
def yX1_putBroken : MethodName := ⟨RX1, "putBroken", "(II)I"⟩
abbrev cX1_blank : ByteArray := prog_3_method_8_code
def yX1_blank : MethodName := ⟨RX1, "blank", "()I"⟩
abbrev cX1_leaveOut : ByteArray := prog_3_method_9_code
def yX1_leaveOut : MethodName := ⟨RX1, "leaveOut", "()I"⟩
abbrev cX1_shrink : ByteArray := prog_3_method_10_code
def yX1_shrink : MethodName := ⟨RX1, "shrink", "(I)I"⟩
abbrev cX1_turn : ByteArray := prog_3_method_11_code
def yX1_turn : MethodName := ⟨RX1, "turn", "()I"⟩
abbrev cX1_remember : ByteArray := prog_3_method_12_code
def yX1_remember : MethodName := ⟨RX1, "remember", "()V"⟩
abbrev cX1_takeBack : ByteArray := prog_3_method_13_code
def yX1_takeBack : MethodName := ⟨RX1, "takeBack", "()I"⟩
def RX2 : String := "EdgeOfCard$Text"
def TX2 : u_T := fun k => match k with
  | 0 => ("EdgeOfCard$Text", "bytes", "[I", true)
  | 1 => ("EdgeOfCard$Text", "numbers", "[I", true)
  | 2 => ("EdgeOfCard$Text", "length", "I", false)
  | 3 => ("EdgeOfCard$Text", "items", "I", false)
  | 4 => ("EdgeOfCard$Text", "leastTold", "Z", false)
  | 5 => ("EdgeOfCard$Text", "place", "I", false)
  | 6 => ("EdgeOfCard$Text", "behind", "I", false)
  | 7 => ("EdgeOfCard$Text", "token", "I", false)
  | _ => ("EdgeOfCard$Text", "value", "I", false)
def tyX2 : Nat → FieldType := fun k => match k with
  | 0 => .array .int
  | 1 => .array .int
  | 2 => .int
  | 3 => .int
  | 4 => .boolean
  | 5 => .int
  | 6 => .int
  | 7 => .int
  | _ => .int
theorem nmX2 : ∀ a, a < 9 → ∀ b, b < 9 → a ≠ b → (TX2 a).2.1 ≠ (TX2 b).2.1 := by decide +kernel
theorem tyX2_ok : ∀ k, k < 9 → parseFieldDescriptor (TX2 k).2.2.1 = some (tyX2 k) := by decide +kernel
abbrev cX2_init : ByteArray := prog_4_method_1_code
def yX2_init : MethodName := ⟨RX2, "<init>", "()V"⟩
abbrev cX2_add : ByteArray := prog_4_method_2_code
def yX2_add : MethodName := ⟨RX2, "add", "(I)Z"⟩
abbrev cX2_tellTo : ByteArray := prog_4_method_3_code
def yX2_tellTo : MethodName := ⟨RX2, "tellTo", "(LEdgeOfCard$Told;)I"⟩
abbrev cX2_mayBegin : ByteArray := prog_4_method_4_code
def yX2_mayBegin : MethodName := ⟨RX2, "mayBegin", "(LEdgeOfCard$Told;)Z"⟩
abbrev cX2_readNumbers : ByteArray := prog_4_method_5_code
def yX2_readNumbers : MethodName := ⟨RX2, "readNumbers", "(ILEdgeOfCard$Told;)Z"⟩
abbrev cX2_mayBe : ByteArray := prog_4_method_6_code
def yX2_mayBe : MethodName := ⟨RX2, "mayBe", "(IILEdgeOfCard$Told;)Z"⟩
abbrev cX2_tell : ByteArray := prog_4_method_7_code
def yX2_tell : MethodName := ⟨RX2, "tell", "(ILEdgeOfCard$Told;)V"⟩
abbrev cX2_step : ByteArray := prog_4_method_8_code
def yX2_step : MethodName := ⟨RX2, "step", "()V"⟩
abbrev cX2_readLetters : ByteArray := prog_4_method_9_code
def yX2_readLetters : MethodName := ⟨RX2, "readLetters", "()V"⟩
abbrev cX2_readDigits : ByteArray := prog_4_method_10_code
def yX2_readDigits : MethodName := ⟨RX2, "readDigits", "()V"⟩
def RX3 : String := "EdgeOfCard$Told"
def TX3 : u_T := fun k => match k with
  | 0 => ("EdgeOfCard$Told", "wide", "[I", true)
  | 1 => ("EdgeOfCard$Told", "words", "[I", true)
  | 2 => ("EdgeOfCard$Told", "lines", "I", false)
  | 3 => ("EdgeOfCard$Told", "pieces", "I", false)
  | _ => ("EdgeOfCard$Told", "least", "I", false)
def tyX3 : Nat → FieldType := fun k => match k with
  | 0 => .array .int
  | 1 => .array .int
  | 2 => .int
  | 3 => .int
  | _ => .int
theorem nmX3 : ∀ a, a < 5 → ∀ b, b < 5 → a ≠ b → (TX3 a).2.1 ≠ (TX3 b).2.1 := by decide +kernel
theorem tyX3_ok : ∀ k, k < 5 → parseFieldDescriptor (TX3 k).2.2.1 = some (tyX3 k) := by decide +kernel
abbrev cX3_init : ByteArray := prog_5_method_1_code
def yX3_init : MethodName := ⟨RX3, "<init>", "()V"⟩
abbrev cX3_erase : ByteArray := prog_5_method_2_code
def yX3_erase : MethodName := ⟨RX3, "erase", "()V"⟩
abbrev cX3_become : ByteArray := prog_5_method_3_code
def yX3_become : MethodName := ⟨RX3, "become", "(LEdgeOfCard$Told;)V"⟩
abbrev cX3_addLine : ByteArray := prog_5_method_4_code
def yX3_addLine : MethodName := ⟨RX3, "addLine", "(I)V"⟩
abbrev cX3_addPiece : ByteArray := prog_5_method_5_code
def yX3_addPiece : MethodName := ⟨RX3, "addPiece", "([I)V"⟩
abbrev cX3_hasLine : ByteArray := prog_5_method_6_code
def yX3_hasLine : MethodName := ⟨RX3, "hasLine", "(I)Z"⟩
abbrev cX3_hasPiece : ByteArray := prog_5_method_7_code
def yX3_hasPiece : MethodName := ⟨RX3, "hasPiece", "(I)Z"⟩
abbrev cX3_wideOf : ByteArray := prog_5_method_8_code
def yX3_wideOf : MethodName := ⟨RX3, "wideOf", "(I)I"⟩
abbrev cX3_of : ByteArray := prog_5_method_9_code
def yX3_of : MethodName := ⟨RX3, "of", "(II)I"⟩
abbrev cX3_needsAny : ByteArray := prog_5_method_10_code
def yX3_needsAny : MethodName := ⟨RX3, "needsAny", "(I)Z"⟩
abbrev cX3_all : ByteArray := prog_5_method_11_code
def yX3_all : MethodName := ⟨RX3, "all", "()I"⟩
abbrev cX3_sum : ByteArray := prog_5_method_12_code
def yX3_sum : MethodName := ⟨RX3, "sum", "(II)I"⟩
abbrev cX3_hasItsNeeds : ByteArray := prog_5_method_13_code
def yX3_hasItsNeeds : MethodName := ⟨RX3, "hasItsNeeds", "(I)Z"⟩
def RX4 : String := "EdgeOfCard"
def TX4 : u_T := fun k => match k with
  | 0 => ("EdgeOfCard", "text", "LEdgeOfCard$Text;", true)
  | 1 => ("EdgeOfCard", "told", "LEdgeOfCard$Told;", true)
  | 2 => ("EdgeOfCard", "draft", "LEdgeOfCard$Told;", true)
  | 3 => ("EdgeOfCard", "filling", "LEdgeOfCard$Filling;", true)
  | 4 => ("EdgeOfCard", "hand", "LEdgeOfCard$Hand;", true)
  | 5 => ("EdgeOfCard", "firstImage", "LEdgeOfCard$Hand;", true)
  | 6 => ("EdgeOfCard", "secondImage", "LEdgeOfCard$Hand;", true)
  | 7 => ("EdgeOfCard", "imagesKept", "I", false)
  | 8 => ("EdgeOfCard", "seenPieces", "[I", true)
  | 9 => ("EdgeOfCard", "seenLines", "[I", true)
  | 10 => ("EdgeOfCard", "seen", "I", false)
  | _ => ("EdgeOfCard", "traced", "J", false)
def tyX4 : Nat → FieldType := fun k => match k with
  | 0 => .object "EdgeOfCard$Text"
  | 1 => .object "EdgeOfCard$Told"
  | 2 => .object "EdgeOfCard$Told"
  | 3 => .object "EdgeOfCard$Filling"
  | 4 => .object "EdgeOfCard$Hand"
  | 5 => .object "EdgeOfCard$Hand"
  | 6 => .object "EdgeOfCard$Hand"
  | 7 => .int
  | 8 => .array .int
  | 9 => .array .int
  | 10 => .int
  | _ => .long
theorem nmX4 : ∀ a, a < 12 → ∀ b, b < 12 → a ≠ b → (TX4 a).2.1 ≠ (TX4 b).2.1 := by decide +kernel
theorem tyX4_ok : ∀ k, k < 12 → parseFieldDescriptor (TX4 k).2.2.1 = some (tyX4 k) := by decide +kernel
abbrev cX4_init : ByteArray := prog_1_method_1_code
def yX4_init : MethodName := ⟨RX4, "<init>", "()V"⟩
abbrev cX4_type : ByteArray := prog_1_method_2_code
def yX4_type : MethodName := ⟨RX4, "type", "(I)I"⟩
abbrev cX4_clear : ByteArray := prog_1_method_3_code
def yX4_clear : MethodName := ⟨RX4, "clear", "()I"⟩
abbrev cX4_card : ByteArray := prog_1_method_4_code
def yX4_card : MethodName := ⟨RX4, "card", "()I"⟩
abbrev cX4_line : ByteArray := prog_1_method_5_code
def yX4_line : MethodName := ⟨RX4, "line", "(I)I"⟩
abbrev cX4_word : ByteArray := prog_1_method_6_code
def yX4_word : MethodName := ⟨RX4, "word", "(II)I"⟩
abbrev cX4_writes : ByteArray := prog_1_method_7_code
def yX4_writes : MethodName := ⟨RX4, "writes", "()I"⟩
abbrev cX4_signs : ByteArray := prog_1_method_8_code
def yX4_signs : MethodName := ⟨RX4, "signs", "()I"⟩
abbrev cX4_breaks : ByteArray := prog_1_method_9_code
def yX4_breaks : MethodName := ⟨RX4, "breaks", "()I"⟩
abbrev cX4_omits : ByteArray := prog_1_method_10_code
def yX4_omits : MethodName := ⟨RX4, "omits", "()I"⟩
abbrev cX4_smaller : ByteArray := prog_1_method_11_code
def yX4_smaller : MethodName := ⟨RX4, "smaller", "(I)I"⟩
abbrev cX4_turnsOver : ByteArray := prog_1_method_12_code
def yX4_turnsOver : MethodName := ⟨RX4, "turnsOver", "()I"⟩
abbrev cX4_undo : ByteArray := prog_1_method_13_code
def yX4_undo : MethodName := ⟨RX4, "undo", "()I"⟩
abbrev cX4_now : ByteArray := prog_1_method_14_code
def yX4_now : MethodName := ⟨RX4, "now", "(I)I"⟩
abbrev cX4_makingSense : ByteArray := prog_1_method_15_code
def yX4_makingSense : MethodName := ⟨RX4, "makingSense", "()I"⟩
abbrev cX4_fill : ByteArray := prog_1_method_16_code
def yX4_fill : MethodName := ⟨RX4, "fill", "(III)I"⟩
abbrev cX4_greatest : ByteArray := prog_1_method_17_code
def yX4_greatest : MethodName := ⟨RX4, "greatest", "()I"⟩
abbrev cX4_even : ByteArray := prog_1_method_18_code
def yX4_even : MethodName := ⟨RX4, "even", "(I)I"⟩
abbrev cX4_kept : ByteArray := prog_1_method_19_code
def yX4_kept : MethodName := ⟨RX4, "kept", "(II)I"⟩
abbrev cX4_telegram : ByteArray := prog_1_method_20_code
def yX4_telegram : MethodName := ⟨RX4, "telegram", "(II)I"⟩
abbrev cX4_bestSet : ByteArray := prog_1_method_21_code
def yX4_bestSet : MethodName := ⟨RX4, "bestSet", "(II)I"⟩
abbrev cX4_begun : ByteArray := prog_1_method_22_code
def yX4_begun : MethodName := ⟨RX4, "begun", "(II)I"⟩
abbrev cX4_odds : ByteArray := prog_1_method_23_code
def yX4_odds : MethodName := ⟨RX4, "odds", "(III)J"⟩
abbrev cX4_leastTerm : ByteArray := prog_1_method_24_code
def yX4_leastTerm : MethodName := ⟨RX4, "leastTerm", "(JII)J"⟩
abbrev cX4_power : ByteArray := prog_1_method_25_code
def yX4_power : MethodName := ⟨RX4, "power", "(II)J"⟩
abbrev cX4_saw : ByteArray := prog_1_method_26_code
def yX4_saw : MethodName := ⟨RX4, "saw", "(II)I"⟩
abbrev cX4_forget : ByteArray := prog_1_method_27_code
def yX4_forget : MethodName := ⟨RX4, "forget", "()I"⟩
abbrev cX4_sizes : ByteArray := prog_1_method_28_code
def yX4_sizes : MethodName := ⟨RX4, "sizes", "()I"⟩
abbrev cX4_isAsSeen : ByteArray := prog_1_method_29_code
def yX4_isAsSeen : MethodName := ⟨RX4, "isAsSeen", "()Z"⟩
abbrev cX4_two : ByteArray := prog_1_method_30_code
def yX4_two : MethodName := ⟨RX4, "two", "(I)I"⟩
abbrev cX4_mark : ByteArray := prog_1_method_31_code
def yX4_mark : MethodName := ⟨RX4, "mark", "(II)I"⟩
abbrev cX4_asPiece : ByteArray := prog_1_method_32_code
def yX4_asPiece : MethodName := ⟨RX4, "asPiece", "(I)I"⟩
abbrev cX4_asShort : ByteArray := prog_1_method_33_code
def yX4_asShort : MethodName := ⟨RX4, "asShort", "(I)I"⟩
abbrev cX4_asLong : ByteArray := prog_1_method_34_code
def yX4_asLong : MethodName := ⟨RX4, "asLong", "(I)I"⟩
abbrev cX4_asSign : ByteArray := prog_1_method_35_code
def yX4_asSign : MethodName := ⟨RX4, "asSign", "(I)I"⟩
abbrev cX4_asMargin : ByteArray := prog_1_method_36_code
def yX4_asMargin : MethodName := ⟨RX4, "asMargin", "(I)I"⟩
abbrev cX4_asKiss : ByteArray := prog_1_method_37_code
def yX4_asKiss : MethodName := ⟨RX4, "asKiss", "(I)I"⟩
abbrev cX4_keep : ByteArray := prog_1_method_38_code
def yX4_keep : MethodName := ⟨RX4, "keep", "(I)I"⟩
abbrev cX4_back : ByteArray := prog_1_method_39_code
def yX4_back : MethodName := ⟨RX4, "back", "(I)I"⟩
abbrev cX4_imageOf : ByteArray := prog_1_method_40_code
def yX4_imageOf : MethodName := ⟨RX4, "imageOf", "(I)LEdgeOfCard$Hand;"⟩
abbrev cX4_count : ByteArray := prog_1_method_41_code
def yX4_count : MethodName := ⟨RX4, "count", "(I)I"⟩
abbrev cX4_trace : ByteArray := prog_1_method_42_code
def yX4_trace : MethodName := ⟨RX4, "trace", "()J"⟩
abbrev cX4_isSize : ByteArray := prog_1_method_43_code
def yX4_isSize : MethodName := ⟨RX4, "isSize", "(I)Z"⟩
abbrev cX4_within : ByteArray := prog_1_method_44_code
def yX4_within : MethodName := ⟨RX4, "within", "(III)Z"⟩
abbrev cX4_bit : ByteArray := prog_1_method_45_code
def yX4_bit : MethodName := ⟨RX4, "bit", "(II)I"⟩
def RX5 : String := "EdgeOfCardModel"
def TX5 : u_T := fun k => match k with
  | 0 => ("EdgeOfCardModel", "trace", "J", false)
  | 1 => ("EdgeOfCardModel", "text", "[B", true)
  | 2 => ("EdgeOfCardModel", "typed", "I", false)
  | 3 => ("EdgeOfCardModel", "lines", "[I", true)
  | 4 => ("EdgeOfCardModel", "wide", "[I", true)
  | 5 => ("EdgeOfCardModel", "pieces", "[I", true)
  | 6 => ("EdgeOfCardModel", "told", "[I", true)
  | 7 => ("EdgeOfCardModel", "least", "[I", true)
  | 8 => ("EdgeOfCardModel", "at", "I", false)
  | 9 => ("EdgeOfCardModel", "start", "I", false)
  | 10 => ("EdgeOfCardModel", "sort", "I", false)
  | 11 => ("EdgeOfCardModel", "value", "I", false)
  | 12 => ("EdgeOfCardModel", "fault", "I", false)
  | 13 => ("EdgeOfCardModel", "hasLeast", "Z", false)
  | 14 => ("EdgeOfCardModel", "now", "[I", true)
  | 15 => ("EdgeOfCardModel", "isKept", "[Z", true)
  | 16 => ("EdgeOfCardModel", "sizeOf", "[I", true)
  | 17 => ("EdgeOfCardModel", "lost", "I", false)
  | 18 => ("EdgeOfCardModel", "longer", "I", false)
  | 19 => ("EdgeOfCardModel", "lineOf", "[I", true)
  | 20 => ("EdgeOfCardModel", "wentOn", "I", false)
  | 21 => ("EdgeOfCardModel", "lastLine", "I", false)
  | 22 => ("EdgeOfCardModel", "spare", "I", false)
  | 23 => ("EdgeOfCardModel", "bestSizes", "[I", true)
  | 24 => ("EdgeOfCardModel", "seenWord", "[I", true)
  | 25 => ("EdgeOfCardModel", "seenLine", "[I", true)
  | _ => ("EdgeOfCardModel", "seen", "I", false)
def tyX5 : Nat → FieldType := fun k => match k with
  | 0 => .long
  | 1 => .array .byte
  | 2 => .int
  | 3 => .array .int
  | 4 => .array .int
  | 5 => .array .int
  | 6 => .array .int
  | 7 => .array .int
  | 8 => .int
  | 9 => .int
  | 10 => .int
  | 11 => .int
  | 12 => .int
  | 13 => .boolean
  | 14 => .array .int
  | 15 => .array .boolean
  | 16 => .array .int
  | 17 => .int
  | 18 => .int
  | 19 => .array .int
  | 20 => .int
  | 21 => .int
  | 22 => .int
  | 23 => .array .int
  | 24 => .array .int
  | 25 => .array .int
  | _ => .int
theorem nmX5 : ∀ a, a < 27 → ∀ b, b < 27 → a ≠ b → (TX5 a).2.1 ≠ (TX5 b).2.1 := by decide +kernel
theorem tyX5_ok : ∀ k, k < 27 → parseFieldDescriptor (TX5 k).2.2.1 = some (tyX5 k) := by decide +kernel
abbrev cX5_init : ByteArray := prog_7_method_1_code
def yX5_init : MethodName := ⟨RX5, "<init>", "()V"⟩
abbrev cX5_in : ByteArray := prog_7_method_3_code
def yX5_in : MethodName := ⟨RX5, "in", "(III)Z"⟩
abbrev cX5_type : ByteArray := prog_7_method_4_code
def yX5_type : MethodName := ⟨RX5, "type", "(I)I"⟩
abbrev cX5_clear : ByteArray := prog_7_method_5_code
def yX5_clear : MethodName := ⟨RX5, "clear", "()I"⟩
abbrev cX5_here : ByteArray := prog_7_method_6_code
def yX5_here : MethodName := ⟨RX5, "here", "()I"⟩
abbrev cX5_next : ByteArray := prog_7_method_7_code
def yX5_next : MethodName := ⟨RX5, "next", "()V"⟩
abbrev cX5_due : ByteArray := prog_7_method_8_code
def yX5_due : MethodName := ⟨RX5, "due", "(Z)I"⟩
abbrev cX5_number : ByteArray := prog_7_method_9_code
def yX5_number : MethodName := ⟨RX5, "number", "(II)I"⟩
abbrev cX5_mayBe : ByteArray := prog_7_method_10_code
def yX5_mayBe : MethodName := ⟨RX5, "mayBe", "(I)Z"⟩
abbrev cX5_readRow : ByteArray := prog_7_method_11_code
def yX5_readRow : MethodName := ⟨RX5, "readRow", "(I)V"⟩
abbrev cX5_card : ByteArray := prog_7_method_12_code
def yX5_card : MethodName := ⟨RX5, "card", "()I"⟩
abbrev cX5_of : ByteArray := prog_7_method_13_code
def yX5_of : MethodName := ⟨RX5, "of", "(II)I"⟩
abbrev cX5_isLine : ByteArray := prog_7_method_14_code
def yX5_isLine : MethodName := ⟨RX5, "isLine", "(I)Z"⟩
abbrev cX5_isPiece : ByteArray := prog_7_method_15_code
def yX5_isPiece : MethodName := ⟨RX5, "isPiece", "(I)Z"⟩
abbrev cX5_isSize : ByteArray := prog_7_method_16_code
def yX5_isSize : MethodName := ⟨RX5, "isSize", "(I)Z"⟩
abbrev cX5_line : ByteArray := prog_7_method_17_code
def yX5_line : MethodName := ⟨RX5, "line", "(I)I"⟩
abbrev cX5_word : ByteArray := prog_7_method_18_code
def yX5_word : MethodName := ⟨RX5, "word", "(II)I"⟩
abbrev cX5_know : ByteArray := prog_7_method_19_code
def yX5_know : MethodName := ⟨RX5, "know", "()V"⟩
abbrev cX5_isNext : ByteArray := prog_7_method_20_code
def yX5_isNext : MethodName := ⟨RX5, "isNext", "()Z"⟩
abbrev cX5_blank : ByteArray := prog_7_method_21_code
def yX5_blank : MethodName := ⟨RX5, "blank", "()I"⟩
abbrev cX5_put : ByteArray := prog_7_method_22_code
def yX5_put : MethodName := ⟨RX5, "put", "(I)I"⟩
abbrev cX5_writes : ByteArray := prog_7_method_23_code
def yX5_writes : MethodName := ⟨RX5, "writes", "()I"⟩
abbrev cX5_signs : ByteArray := prog_7_method_24_code
def yX5_signs : MethodName := ⟨RX5, "signs", "()I"⟩
abbrev cX5_breaks : ByteArray := prog_7_method_25_code
def yX5_breaks : MethodName := ⟨RX5, "breaks", "()I"⟩
abbrev cX5_manyOf : ByteArray := prog_7_method_26_code
def yX5_manyOf : MethodName := ⟨RX5, "manyOf", "(I)I"⟩
abbrev cX5_omits : ByteArray := prog_7_method_27_code
def yX5_omits : MethodName := ⟨RX5, "omits", "()I"⟩
abbrev cX5_smaller : ByteArray := prog_7_method_28_code
def yX5_smaller : MethodName := ⟨RX5, "smaller", "(I)I"⟩
abbrev cX5_turnsOver : ByteArray := prog_7_method_29_code
def yX5_turnsOver : MethodName := ⟨RX5, "turnsOver", "()I"⟩
abbrev cX5_undo : ByteArray := prog_7_method_30_code
def yX5_undo : MethodName := ⟨RX5, "undo", "()I"⟩
abbrev cX5_isClear : ByteArray := prog_7_method_31_code
def yX5_isClear : MethodName := ⟨RX5, "isClear", "(II)Z"⟩
abbrev cX5_sense : ByteArray := prog_7_method_32_code
def yX5_sense : MethodName := ⟨RX5, "sense", "()I"⟩
abbrev cX5_sumOf : ByteArray := prog_7_method_33_code
def yX5_sumOf : MethodName := ⟨RX5, "sumOf", "(II)I"⟩
abbrev cX5_now : ByteArray := prog_7_method_34_code
def yX5_now : MethodName := ⟨RX5, "now", "(I)I"⟩
abbrev cX5_allSizes : ByteArray := prog_7_method_35_code
def yX5_allSizes : MethodName := ⟨RX5, "allSizes", "(I)V"⟩
abbrev cX5_wideOf : ByteArray := prog_7_method_36_code
def yX5_wideOf : MethodName := ⟨RX5, "wideOf", "(I)I"⟩
abbrev cX5_fillBy : ByteArray := prog_7_method_37_code
def yX5_fillBy : MethodName := ⟨RX5, "fillBy", "(I)Z"⟩
abbrev cX5_all : ByteArray := prog_7_method_38_code
def yX5_all : MethodName := ⟨RX5, "all", "()I"⟩
abbrev cX5_fill : ByteArray := prog_7_method_39_code
def yX5_fill : MethodName := ⟨RX5, "fill", "(III)I"⟩
abbrev cX5_goesOn : ByteArray := prog_7_method_40_code
def yX5_goesOn : MethodName := ⟨RX5, "goesOn", "(II)Z"⟩
abbrev cX5_greatest : ByteArray := prog_7_method_41_code
def yX5_greatest : MethodName := ⟨RX5, "greatest", "()I"⟩
abbrev cX5_costOf : ByteArray := prog_7_method_42_code
def yX5_costOf : MethodName := ⟨RX5, "costOf", "(I)I"⟩
abbrev cX5_even : ByteArray := prog_7_method_43_code
def yX5_even : MethodName := ⟨RX5, "even", "(I)I"⟩
abbrev cX5_hasNeeds : ByteArray := prog_7_method_44_code
def yX5_hasNeeds : MethodName := ⟨RX5, "hasNeeds", "(I)Z"⟩
abbrev cX5_bestSet : ByteArray := prog_7_method_45_code
def yX5_bestSet : MethodName := ⟨RX5, "bestSet", "(II)I"⟩
abbrev cX5_kept : ByteArray := prog_7_method_46_code
def yX5_kept : MethodName := ⟨RX5, "kept", "(II)I"⟩
abbrev cX5_telegram : ByteArray := prog_7_method_47_code
def yX5_telegram : MethodName := ⟨RX5, "telegram", "(II)I"⟩
abbrev cX5_begun : ByteArray := prog_7_method_48_code
def yX5_begun : MethodName := ⟨RX5, "begun", "(II)I"⟩
abbrev cX5_odds : ByteArray := prog_7_method_49_code
def yX5_odds : MethodName := ⟨RX5, "odds", "(III)J"⟩
abbrev cX5_saw : ByteArray := prog_7_method_50_code
def yX5_saw : MethodName := ⟨RX5, "saw", "(II)I"⟩
abbrev cX5_forget : ByteArray := prog_7_method_51_code
def yX5_forget : MethodName := ⟨RX5, "forget", "()I"⟩
abbrev cX5_sizes : ByteArray := prog_7_method_52_code
def yX5_sizes : MethodName := ⟨RX5, "sizes", "()I"⟩
abbrev cX5_two : ByteArray := prog_7_method_53_code
def yX5_two : MethodName := ⟨RX5, "two", "(I)I"⟩
abbrev cX5_mark : ByteArray := prog_7_method_54_code
def yX5_mark : MethodName := ⟨RX5, "mark", "(II)I"⟩
abbrev cX5_copy : ByteArray := prog_7_method_55_code
def yX5_copy : MethodName := ⟨RX5, "copy", "(II)V"⟩
abbrev cX5_keep : ByteArray := prog_7_method_56_code
def yX5_keep : MethodName := ⟨RX5, "keep", "(I)I"⟩
abbrev cX5_back : ByteArray := prog_7_method_57_code
def yX5_back : MethodName := ⟨RX5, "back", "(I)I"⟩
abbrev cX5_count : ByteArray := prog_7_method_58_code
def yX5_count : MethodName := ⟨RX5, "count", "(I)I"⟩
abbrev cX5_trace : ByteArray := prog_7_method_59_code
def yX5_trace : MethodName := ⟨RX5, "trace", "()J"⟩
def RJ6 : String := "java/lang/Integer"
abbrev cJ6_bitCount_0f7a4 : ByteArray := prog_8_method_49_code
def yJ6_bitCount_0f7a4 : MethodName := ⟨RJ6, "bitCount", "(I)I"⟩
def RJ9 : String := "java/lang/Math"
abbrev cJ9_max_7cf53 : ByteArray := prog_9_method_65_code
def yJ9_max_7cf53 : MethodName := ⟨RJ9, "max", "(II)I"⟩
abbrev cJ9_min_7cf53 : ByteArray := prog_9_method_69_code
def yJ9_min_7cf53 : MethodName := ⟨RJ9, "min", "(II)I"⟩
def RJ10 : String := "java/lang/System"
def RL : String := "EdgeOfCardLaw"
abbrev cL_law : ByteArray := code
abbrev vwCl : List vw_C := [(RX0, TX0, 5), (RX1, TX1, 8), (RX2, TX2, 9), (RX3, TX3, 5), (RX4, TX4, 12), (RX5, TX5, 27)]
def wsG : List Cond := lw_tbl.filter goodWord
theorem wG {w : Cond} (i : Nat) (h : lw_tbl[i]? = some w) (g : goodWord w = true) : w ∈ wsG := List.mem_filter.mpr ⟨List.mem_of_getElem? h, g⟩
theorem wsG_good : ∀ w ∈ wsG, goodWord w = true := fun _ h => (List.mem_filter.mp h).2
theorem wsG_tbl : ∀ w ∈ wsG, w ∈ lw_tbl := fun _ h => (List.mem_filter.mp h).1
theorem wf_0 : Cond.selects "EdgeOfCard$Text" ⟨"EdgeOfCard$Text", "step", "()V"⟩ ⟨"EdgeOfCard$Text", "step", "()V"⟩ ∈ wsG := wG 0 (by decide +kernel) (by decide +kernel)
theorem wf_1 : Cond.selects "EdgeOfCard$Text" ⟨"EdgeOfCard$Text", "readLetters", "()V"⟩ ⟨"EdgeOfCard$Text", "readLetters", "()V"⟩ ∈ wsG := wG 1 (by decide +kernel) (by decide +kernel)
theorem wf_2 : Cond.selects "EdgeOfCard$Text" ⟨"EdgeOfCard$Text", "readDigits", "()V"⟩ ⟨"EdgeOfCard$Text", "readDigits", "()V"⟩ ∈ wsG := wG 2 (by decide +kernel) (by decide +kernel)
theorem wf_3 : Cond.selects "EdgeOfCard$Text" ⟨"EdgeOfCard$Text", "mayBegin", "(LEdgeOfCard$Told;)Z"⟩ ⟨"EdgeOfCard$Text", "mayBegin", "(LEdgeOfCard$Told;)Z"⟩ ∈ wsG := wG 3 (by decide +kernel) (by decide +kernel)
theorem wf_4 : Cond.selects "EdgeOfCard$Text" ⟨"EdgeOfCard$Text", "readNumbers", "(ILEdgeOfCard$Told;)Z"⟩ ⟨"EdgeOfCard$Text", "readNumbers", "(ILEdgeOfCard$Told;)Z"⟩ ∈ wsG := wG 4 (by decide +kernel) (by decide +kernel)
theorem wf_5 : Cond.selects "EdgeOfCard$Text" ⟨"EdgeOfCard$Text", "mayBe", "(IILEdgeOfCard$Told;)Z"⟩ ⟨"EdgeOfCard$Text", "mayBe", "(IILEdgeOfCard$Told;)Z"⟩ ∈ wsG := wG 5 (by decide +kernel) (by decide +kernel)
theorem wf_6 : Cond.selects "EdgeOfCard$Text" ⟨"EdgeOfCard$Text", "tell", "(ILEdgeOfCard$Told;)V"⟩ ⟨"EdgeOfCard$Text", "tell", "(ILEdgeOfCard$Told;)V"⟩ ∈ wsG := wG 6 (by decide +kernel) (by decide +kernel)
theorem wf_7 : Cond.selects "EdgeOfCard$Hand" ⟨"EdgeOfCard$Hand", "blank", "()I"⟩ ⟨"EdgeOfCard$Hand", "blank", "()I"⟩ ∈ wsG := wG 7 (by decide +kernel) (by decide +kernel)
theorem wf_8 : Cond.selects "EdgeOfCard$Hand" ⟨"EdgeOfCard$Hand", "remember", "()V"⟩ ⟨"EdgeOfCard$Hand", "remember", "()V"⟩ ∈ wsG := wG 8 (by decide +kernel) (by decide +kernel)
theorem wf_9 : Cond.selects "EdgeOfCard" ⟨"EdgeOfCard", "makingSense", "()I"⟩ ⟨"EdgeOfCard", "makingSense", "()I"⟩ ∈ wsG := wG 9 (by decide +kernel) (by decide +kernel)
theorem wf_10 : Cond.selects "EdgeOfCard" ⟨"EdgeOfCard", "isSize", "(I)Z"⟩ ⟨"EdgeOfCard", "isSize", "(I)Z"⟩ ∈ wsG := wG 10 (by decide +kernel) (by decide +kernel)
theorem wf_11 : Cond.selects "EdgeOfCard$Filling" ⟨"EdgeOfCard$Filling", "begin", "(I)V"⟩ ⟨"EdgeOfCard$Filling", "begin", "(I)V"⟩ ∈ wsG := wG 11 (by decide +kernel) (by decide +kernel)
theorem wf_12 : Cond.selects "EdgeOfCard$Filling" ⟨"EdgeOfCard$Filling", "put", "(II)Z"⟩ ⟨"EdgeOfCard$Filling", "put", "(II)Z"⟩ ∈ wsG := wG 12 (by decide +kernel) (by decide +kernel)
theorem wf_13 : Cond.selects "EdgeOfCard" ⟨"EdgeOfCard", "bestSet", "(II)I"⟩ ⟨"EdgeOfCard", "bestSet", "(II)I"⟩ ∈ wsG := wG 13 (by decide +kernel) (by decide +kernel)
theorem wf_14 : Cond.selects "EdgeOfCard" ⟨"EdgeOfCard", "isAsSeen", "()Z"⟩ ⟨"EdgeOfCard", "isAsSeen", "()Z"⟩ ∈ wsG := wG 14 (by decide +kernel) (by decide +kernel)
theorem wf_15 : Cond.selects "EdgeOfCard" ⟨"EdgeOfCard", "asPiece", "(I)I"⟩ ⟨"EdgeOfCard", "asPiece", "(I)I"⟩ ∈ wsG := wG 15 (by decide +kernel) (by decide +kernel)
theorem wf_16 : Cond.selects "EdgeOfCard" ⟨"EdgeOfCard", "asShort", "(I)I"⟩ ⟨"EdgeOfCard", "asShort", "(I)I"⟩ ∈ wsG := wG 16 (by decide +kernel) (by decide +kernel)
theorem wf_17 : Cond.selects "EdgeOfCard" ⟨"EdgeOfCard", "asLong", "(I)I"⟩ ⟨"EdgeOfCard", "asLong", "(I)I"⟩ ∈ wsG := wG 17 (by decide +kernel) (by decide +kernel)
theorem wf_18 : Cond.selects "EdgeOfCard" ⟨"EdgeOfCard", "asSign", "(I)I"⟩ ⟨"EdgeOfCard", "asSign", "(I)I"⟩ ∈ wsG := wG 18 (by decide +kernel) (by decide +kernel)
theorem wf_19 : Cond.selects "EdgeOfCard" ⟨"EdgeOfCard", "asMargin", "(I)I"⟩ ⟨"EdgeOfCard", "asMargin", "(I)I"⟩ ∈ wsG := wG 19 (by decide +kernel) (by decide +kernel)
theorem wf_20 : Cond.selects "EdgeOfCard" ⟨"EdgeOfCard", "asKiss", "(I)I"⟩ ⟨"EdgeOfCard", "asKiss", "(I)I"⟩ ∈ wsG := wG 20 (by decide +kernel) (by decide +kernel)
theorem wf_21 : Cond.selects "EdgeOfCard" ⟨"EdgeOfCard", "imageOf", "(I)LEdgeOfCard$Hand;"⟩ ⟨"EdgeOfCard", "imageOf", "(I)LEdgeOfCard$Hand;"⟩ ∈ wsG := wG 21 (by decide +kernel) (by decide +kernel)
theorem wf_22 : Cond.selects "EdgeOfCardModel" ⟨"EdgeOfCardModel", "next", "()V"⟩ ⟨"EdgeOfCardModel", "next", "()V"⟩ ∈ wsG := wG 22 (by decide +kernel) (by decide +kernel)
theorem wf_23 : Cond.selects "EdgeOfCardModel" ⟨"EdgeOfCardModel", "here", "()I"⟩ ⟨"EdgeOfCardModel", "here", "()I"⟩ ∈ wsG := wG 23 (by decide +kernel) (by decide +kernel)
theorem wf_24 : Cond.selects "EdgeOfCardModel" ⟨"EdgeOfCardModel", "mayBe", "(I)Z"⟩ ⟨"EdgeOfCardModel", "mayBe", "(I)Z"⟩ ∈ wsG := wG 24 (by decide +kernel) (by decide +kernel)
theorem wf_25 : Cond.selects "EdgeOfCardModel" ⟨"EdgeOfCardModel", "due", "(Z)I"⟩ ⟨"EdgeOfCardModel", "due", "(Z)I"⟩ ∈ wsG := wG 25 (by decide +kernel) (by decide +kernel)
theorem wf_26 : Cond.selects "EdgeOfCardModel" ⟨"EdgeOfCardModel", "readRow", "(I)V"⟩ ⟨"EdgeOfCardModel", "readRow", "(I)V"⟩ ∈ wsG := wG 26 (by decide +kernel) (by decide +kernel)
theorem wf_27 : Cond.selects "EdgeOfCardModel" ⟨"EdgeOfCardModel", "number", "(II)I"⟩ ⟨"EdgeOfCardModel", "number", "(II)I"⟩ ∈ wsG := wG 27 (by decide +kernel) (by decide +kernel)
theorem wf_28 : Cond.selects "EdgeOfCardModel" ⟨"EdgeOfCardModel", "isLine", "(I)Z"⟩ ⟨"EdgeOfCardModel", "isLine", "(I)Z"⟩ ∈ wsG := wG 28 (by decide +kernel) (by decide +kernel)
theorem wf_29 : Cond.selects "EdgeOfCardModel" ⟨"EdgeOfCardModel", "isPiece", "(I)Z"⟩ ⟨"EdgeOfCardModel", "isPiece", "(I)Z"⟩ ∈ wsG := wG 29 (by decide +kernel) (by decide +kernel)
theorem wf_30 : Cond.selects "EdgeOfCardModel" ⟨"EdgeOfCardModel", "of", "(II)I"⟩ ⟨"EdgeOfCardModel", "of", "(II)I"⟩ ∈ wsG := wG 30 (by decide +kernel) (by decide +kernel)
theorem wf_31 : Cond.selects "EdgeOfCardModel" ⟨"EdgeOfCardModel", "isNext", "()Z"⟩ ⟨"EdgeOfCardModel", "isNext", "()Z"⟩ ∈ wsG := wG 31 (by decide +kernel) (by decide +kernel)
theorem wf_32 : Cond.selects "EdgeOfCardModel" ⟨"EdgeOfCardModel", "put", "(I)I"⟩ ⟨"EdgeOfCardModel", "put", "(I)I"⟩ ∈ wsG := wG 32 (by decide +kernel) (by decide +kernel)
theorem wf_33 : Cond.selects "EdgeOfCardModel" ⟨"EdgeOfCardModel", "blank", "()I"⟩ ⟨"EdgeOfCardModel", "blank", "()I"⟩ ∈ wsG := wG 33 (by decide +kernel) (by decide +kernel)
theorem wf_34 : Cond.selects "EdgeOfCardModel" ⟨"EdgeOfCardModel", "know", "()V"⟩ ⟨"EdgeOfCardModel", "know", "()V"⟩ ∈ wsG := wG 34 (by decide +kernel) (by decide +kernel)
theorem wf_35 : Cond.selects "EdgeOfCardModel" ⟨"EdgeOfCardModel", "sense", "()I"⟩ ⟨"EdgeOfCardModel", "sense", "()I"⟩ ∈ wsG := wG 35 (by decide +kernel) (by decide +kernel)
theorem wf_36 : Cond.selects "EdgeOfCardModel" ⟨"EdgeOfCardModel", "isClear", "(II)Z"⟩ ⟨"EdgeOfCardModel", "isClear", "(II)Z"⟩ ∈ wsG := wG 36 (by decide +kernel) (by decide +kernel)
theorem wf_37 : Cond.selects "EdgeOfCardModel" ⟨"EdgeOfCardModel", "sumOf", "(II)I"⟩ ⟨"EdgeOfCardModel", "sumOf", "(II)I"⟩ ∈ wsG := wG 37 (by decide +kernel) (by decide +kernel)
theorem wf_38 : Cond.selects "EdgeOfCardModel" ⟨"EdgeOfCardModel", "isSize", "(I)Z"⟩ ⟨"EdgeOfCardModel", "isSize", "(I)Z"⟩ ∈ wsG := wG 38 (by decide +kernel) (by decide +kernel)
theorem wf_39 : Cond.selects "EdgeOfCardModel" ⟨"EdgeOfCardModel", "all", "()I"⟩ ⟨"EdgeOfCardModel", "all", "()I"⟩ ∈ wsG := wG 39 (by decide +kernel) (by decide +kernel)
theorem wf_40 : Cond.selects "EdgeOfCardModel" ⟨"EdgeOfCardModel", "allSizes", "(I)V"⟩ ⟨"EdgeOfCardModel", "allSizes", "(I)V"⟩ ∈ wsG := wG 40 (by decide +kernel) (by decide +kernel)
theorem wf_41 : Cond.selects "EdgeOfCardModel" ⟨"EdgeOfCardModel", "fillBy", "(I)Z"⟩ ⟨"EdgeOfCardModel", "fillBy", "(I)Z"⟩ ∈ wsG := wG 41 (by decide +kernel) (by decide +kernel)
theorem wf_42 : Cond.selects "EdgeOfCardModel" ⟨"EdgeOfCardModel", "wideOf", "(I)I"⟩ ⟨"EdgeOfCardModel", "wideOf", "(I)I"⟩ ∈ wsG := wG 42 (by decide +kernel) (by decide +kernel)
theorem wf_43 : Cond.selects "EdgeOfCardModel" ⟨"EdgeOfCardModel", "goesOn", "(II)Z"⟩ ⟨"EdgeOfCardModel", "goesOn", "(II)Z"⟩ ∈ wsG := wG 43 (by decide +kernel) (by decide +kernel)
theorem wf_44 : Cond.selects "EdgeOfCardModel" ⟨"EdgeOfCardModel", "costOf", "(I)I"⟩ ⟨"EdgeOfCardModel", "costOf", "(I)I"⟩ ∈ wsG := wG 44 (by decide +kernel) (by decide +kernel)
theorem wf_45 : Cond.selects "EdgeOfCardModel" ⟨"EdgeOfCardModel", "bestSet", "(II)I"⟩ ⟨"EdgeOfCardModel", "bestSet", "(II)I"⟩ ∈ wsG := wG 45 (by decide +kernel) (by decide +kernel)
theorem wf_46 : Cond.selects "EdgeOfCardModel" ⟨"EdgeOfCardModel", "hasNeeds", "(I)Z"⟩ ⟨"EdgeOfCardModel", "hasNeeds", "(I)Z"⟩ ∈ wsG := wG 46 (by decide +kernel) (by decide +kernel)
theorem wf_47 : Cond.selects "EdgeOfCardModel" ⟨"EdgeOfCardModel", "copy", "(II)V"⟩ ⟨"EdgeOfCardModel", "copy", "(II)V"⟩ ∈ wsG := wG 47 (by decide +kernel) (by decide +kernel)
theorem wf_48 : Cond.initialized "EdgeOfCardLaw" ∈ wsG := wG 48 (by decide +kernel) (by decide +kernel)
theorem wf_49 : Cond.initialized "EdgeOfCard" ∈ wsG := wG 49 (by decide +kernel) (by decide +kernel)
theorem wf_50 : Cond.initialized "EdgeOfCard$Text" ∈ wsG := wG 50 (by decide +kernel) (by decide +kernel)
theorem wf_51 : Cond.initialized "EdgeOfCard$Told" ∈ wsG := wG 51 (by decide +kernel) (by decide +kernel)
theorem wf_52 : Cond.initialized "EdgeOfCard$Filling" ∈ wsG := wG 52 (by decide +kernel) (by decide +kernel)
theorem wf_53 : Cond.initialized "EdgeOfCard$Hand" ∈ wsG := wG 53 (by decide +kernel) (by decide +kernel)
theorem wf_54 : Cond.initialized "EdgeOfCardModel" ∈ wsG := wG 54 (by decide +kernel) (by decide +kernel)
theorem wf_55 : Cond.initialized "java/lang/Math" ∈ wsG := wG 55 (by decide +kernel) (by decide +kernel)
theorem wf_56 : Cond.initialized "java/lang/System" ∈ wsG := wG 56 (by decide +kernel) (by decide +kernel)
theorem wf_57 : Cond.initialized "java/lang/Integer" ∈ wsG := wG 57 (by decide +kernel) (by decide +kernel)
theorem wf_58 : Cond.classLink "EdgeOfCardLaw" 7 "EdgeOfCard" ∈ wsG := wG 58 (by decide +kernel) (by decide +kernel)
theorem wf_59 : Cond.instantiable "EdgeOfCard" 12 ∈ wsG := wG 59 (by decide +kernel) (by decide +kernel)
theorem wf_60 : Cond.methodLink "EdgeOfCardLaw" 9 ⟨"EdgeOfCard", "<init>", "()V"⟩ ∈ wsG := wG 60 (by decide +kernel) (by decide +kernel)
theorem wf_61 : Cond.instanceMethod ⟨"EdgeOfCard", "<init>", "()V"⟩ ∈ wsG := wG 61 (by decide +kernel) (by decide +kernel)
theorem wf_62 : Cond.code ⟨"EdgeOfCard", "<init>", "()V"⟩ prog_1_method_1_code 1 (Option.none : Option Jvm.ClassFile.FieldType) ∈ wsG := wG 62 (by decide +kernel) (by decide +kernel)
theorem wf_63 : Cond.methodLink "EdgeOfCard" 1 ⟨"java/lang/Object", "<init>", "()V"⟩ ∈ wsG := wG 63 (by decide +kernel) (by decide +kernel)
theorem wf_64 : Cond.instanceMethod ⟨"java/lang/Object", "<init>", "()V"⟩ ∈ wsG := wG 64 (by decide +kernel) (by decide +kernel)
theorem wf_65 : Cond.code ⟨"java/lang/Object", "<init>", "()V"⟩ object_method_1_code 1 (Option.none : Option Jvm.ClassFile.FieldType) ∈ wsG := wG 65 (by decide +kernel) (by decide +kernel)
theorem wf_66 : Cond.classLink "EdgeOfCard" 7 "EdgeOfCard$Text" ∈ wsG := wG 66 (by decide +kernel) (by decide +kernel)
theorem wf_67 : Cond.instantiable "EdgeOfCard$Text" 9 ∈ wsG := wG 67 (by decide +kernel) (by decide +kernel)
theorem wf_69 : Cond.instanceMethod ⟨"EdgeOfCard$Text", "<init>", "()V"⟩ ∈ wsG := wG 69 (by decide +kernel) (by decide +kernel)
theorem wf_70 : Cond.code ⟨"EdgeOfCard$Text", "<init>", "()V"⟩ prog_4_method_1_code 1 (Option.none : Option Jvm.ClassFile.FieldType) ∈ wsG := wG 70 (by decide +kernel) (by decide +kernel)
theorem wf_71 : Cond.methodLink "EdgeOfCard$Text" 3 ⟨"java/lang/Object", "<init>", "()V"⟩ ∈ wsG := wG 71 (by decide +kernel) (by decide +kernel)
theorem wf_72 : Cond.fieldLink "EdgeOfCard$Text" 9 "EdgeOfCard$Text" "bytes" "[I" ∈ wsG := wG 72 (by decide +kernel) (by decide +kernel)
theorem wf_73 : Cond.fieldLink "EdgeOfCard$Text" 15 "EdgeOfCard$Text" "numbers" "[I" ∈ wsG := wG 73 (by decide +kernel) (by decide +kernel)
theorem wf_74 : Cond.fieldLink "EdgeOfCard$Text" 18 "EdgeOfCard$Text" "length" "I" ∈ wsG := wG 74 (by decide +kernel) (by decide +kernel)
theorem wf_76 : Cond.fieldLink "EdgeOfCard$Text" 34 "EdgeOfCard$Text" "items" "I" ∈ wsG := wG 76 (by decide +kernel) (by decide +kernel)
theorem wf_78 : Cond.fieldLink "EdgeOfCard$Text" 30 "EdgeOfCard$Text" "leastTold" "Z" ∈ wsG := wG 78 (by decide +kernel) (by decide +kernel)
theorem wf_79 : Cond.fieldLink "EdgeOfCard$Text" 54 "EdgeOfCard$Text" "place" "I" ∈ wsG := wG 79 (by decide +kernel) (by decide +kernel)
theorem wf_80 : Cond.fieldLink "EdgeOfCard$Text" 27 "EdgeOfCard$Text" "behind" "I" ∈ wsG := wG 80 (by decide +kernel) (by decide +kernel)
theorem wf_81 : Cond.fieldLink "EdgeOfCard$Text" 40 "EdgeOfCard$Text" "token" "I" ∈ wsG := wG 81 (by decide +kernel) (by decide +kernel)
theorem wf_82 : Cond.fieldLink "EdgeOfCard$Text" 43 "EdgeOfCard$Text" "value" "I" ∈ wsG := wG 82 (by decide +kernel) (by decide +kernel)
theorem wf_102 : Cond.arrayClass .int ∈ wsG := wG 102 (by decide +kernel) (by decide +kernel)
theorem wf_103 : Cond.classLink "EdgeOfCard" 16 "EdgeOfCard$Told" ∈ wsG := wG 103 (by decide +kernel) (by decide +kernel)
theorem wf_104 : Cond.instantiable "EdgeOfCard$Told" 5 ∈ wsG := wG 104 (by decide +kernel) (by decide +kernel)
theorem wf_106 : Cond.instanceMethod ⟨"EdgeOfCard$Told", "<init>", "()V"⟩ ∈ wsG := wG 106 (by decide +kernel) (by decide +kernel)
theorem wf_107 : Cond.code ⟨"EdgeOfCard$Told", "<init>", "()V"⟩ prog_5_method_1_code 1 (Option.none : Option Jvm.ClassFile.FieldType) ∈ wsG := wG 107 (by decide +kernel) (by decide +kernel)
theorem wf_108 : Cond.methodLink "EdgeOfCard$Told" 3 ⟨"java/lang/Object", "<init>", "()V"⟩ ∈ wsG := wG 108 (by decide +kernel) (by decide +kernel)
theorem wf_109 : Cond.fieldLink "EdgeOfCard$Told" 9 "EdgeOfCard$Told" "wide" "[I" ∈ wsG := wG 109 (by decide +kernel) (by decide +kernel)
theorem wf_110 : Cond.fieldLink "EdgeOfCard$Told" 15 "EdgeOfCard$Told" "words" "[I" ∈ wsG := wG 110 (by decide +kernel) (by decide +kernel)
theorem wf_111 : Cond.fieldLink "EdgeOfCard$Told" 22 "EdgeOfCard$Told" "lines" "I" ∈ wsG := wG 111 (by decide +kernel) (by decide +kernel)
theorem wf_116 : Cond.fieldLink "EdgeOfCard$Told" 25 "EdgeOfCard$Told" "pieces" "I" ∈ wsG := wG 116 (by decide +kernel) (by decide +kernel)
theorem wf_120 : Cond.fieldLink "EdgeOfCard$Told" 18 "EdgeOfCard$Told" "least" "I" ∈ wsG := wG 120 (by decide +kernel) (by decide +kernel)
theorem wf_134 : Cond.classLink "EdgeOfCard" 26 "EdgeOfCard$Filling" ∈ wsG := wG 134 (by decide +kernel) (by decide +kernel)
theorem wf_135 : Cond.instantiable "EdgeOfCard$Filling" 5 ∈ wsG := wG 135 (by decide +kernel) (by decide +kernel)
theorem wf_136 : Cond.methodLink "EdgeOfCard" 28 ⟨"EdgeOfCard$Filling", "<init>", "(LEdgeOfCard$Told;)V"⟩ ∈ wsG := wG 136 (by decide +kernel) (by decide +kernel)
theorem wf_137 : Cond.instanceMethod ⟨"EdgeOfCard$Filling", "<init>", "(LEdgeOfCard$Told;)V"⟩ ∈ wsG := wG 137 (by decide +kernel) (by decide +kernel)
theorem wf_138 : Cond.code ⟨"EdgeOfCard$Filling", "<init>", "(LEdgeOfCard$Told;)V"⟩ prog_2_method_1_code 2 (Option.none : Option Jvm.ClassFile.FieldType) ∈ wsG := wG 138 (by decide +kernel) (by decide +kernel)
theorem wf_139 : Cond.methodLink "EdgeOfCard$Filling" 3 ⟨"java/lang/Object", "<init>", "()V"⟩ ∈ wsG := wG 139 (by decide +kernel) (by decide +kernel)
theorem wf_140 : Cond.fieldLink "EdgeOfCard$Filling" 15 "EdgeOfCard$Filling" "told" "LEdgeOfCard$Told;" ∈ wsG := wG 140 (by decide +kernel) (by decide +kernel)
theorem wf_141 : Cond.fieldLink "EdgeOfCard$Filling" 9 "EdgeOfCard$Filling" "lineOf" "[I" ∈ wsG := wG 141 (by decide +kernel) (by decide +kernel)
theorem wf_142 : Cond.fieldLink "EdgeOfCard$Filling" 19 "EdgeOfCard$Filling" "onLine" "I" ∈ wsG := wG 142 (by decide +kernel) (by decide +kernel)
theorem wf_144 : Cond.fieldLink "EdgeOfCard$Filling" 35 "EdgeOfCard$Filling" "left" "I" ∈ wsG := wG 144 (by decide +kernel) (by decide +kernel)
theorem wf_146 : Cond.fieldLink "EdgeOfCard$Filling" 38 "EdgeOfCard$Filling" "lineIsEmpty" "Z" ∈ wsG := wG 146 (by decide +kernel) (by decide +kernel)
theorem wf_158 : Cond.classLink "EdgeOfCard" 35 "EdgeOfCard$Hand" ∈ wsG := wG 158 (by decide +kernel) (by decide +kernel)
theorem wf_159 : Cond.instantiable "EdgeOfCard$Hand" 8 ∈ wsG := wG 159 (by decide +kernel) (by decide +kernel)
theorem wf_160 : Cond.methodLink "EdgeOfCard" 37 ⟨"EdgeOfCard$Hand", "<init>", "(LEdgeOfCard$Told;)V"⟩ ∈ wsG := wG 160 (by decide +kernel) (by decide +kernel)
theorem wf_161 : Cond.instanceMethod ⟨"EdgeOfCard$Hand", "<init>", "(LEdgeOfCard$Told;)V"⟩ ∈ wsG := wG 161 (by decide +kernel) (by decide +kernel)
theorem wf_162 : Cond.code ⟨"EdgeOfCard$Hand", "<init>", "(LEdgeOfCard$Told;)V"⟩ prog_3_method_1_code 2 (Option.none : Option Jvm.ClassFile.FieldType) ∈ wsG := wG 162 (by decide +kernel) (by decide +kernel)
theorem wf_163 : Cond.methodLink "EdgeOfCard$Hand" 3 ⟨"java/lang/Object", "<init>", "()V"⟩ ∈ wsG := wG 163 (by decide +kernel) (by decide +kernel)
theorem wf_164 : Cond.fieldLink "EdgeOfCard$Hand" 19 "EdgeOfCard$Hand" "told" "LEdgeOfCard$Told;" ∈ wsG := wG 164 (by decide +kernel) (by decide +kernel)
theorem wf_165 : Cond.fieldLink "EdgeOfCard$Hand" 23 "EdgeOfCard$Hand" "next" "I" ∈ wsG := wG 165 (by decide +kernel) (by decide +kernel)
theorem wf_167 : Cond.fieldLink "EdgeOfCard$Hand" 26 "EdgeOfCard$Hand" "onLine" "I" ∈ wsG := wG 167 (by decide +kernel) (by decide +kernel)
theorem wf_169 : Cond.fieldLink "EdgeOfCard$Hand" 35 "EdgeOfCard$Hand" "left" "I" ∈ wsG := wG 169 (by decide +kernel) (by decide +kernel)
theorem wf_171 : Cond.fieldLink "EdgeOfCard$Hand" 9 "EdgeOfCard$Hand" "size" "I" ∈ wsG := wG 171 (by decide +kernel) (by decide +kernel)
theorem wf_173 : Cond.fieldLink "EdgeOfCard$Hand" 38 "EdgeOfCard$Hand" "omitted" "I" ∈ wsG := wG 173 (by decide +kernel) (by decide +kernel)
theorem wf_175 : Cond.fieldLink "EdgeOfCard$Hand" 15 "EdgeOfCard$Hand" "past" "[I" ∈ wsG := wG 175 (by decide +kernel) (by decide +kernel)
theorem wf_176 : Cond.fieldLink "EdgeOfCard$Hand" 41 "EdgeOfCard$Hand" "known" "I" ∈ wsG := wG 176 (by decide +kernel) (by decide +kernel)
theorem wf_195 : Cond.fieldLink "EdgeOfCard" 10 "EdgeOfCard" "text" "LEdgeOfCard$Text;" ∈ wsG := wG 195 (by decide +kernel) (by decide +kernel)
theorem wf_196 : Cond.fieldLink "EdgeOfCard" 19 "EdgeOfCard" "told" "LEdgeOfCard$Told;" ∈ wsG := wG 196 (by decide +kernel) (by decide +kernel)
theorem wf_197 : Cond.fieldLink "EdgeOfCard" 23 "EdgeOfCard" "draft" "LEdgeOfCard$Told;" ∈ wsG := wG 197 (by decide +kernel) (by decide +kernel)
theorem wf_198 : Cond.fieldLink "EdgeOfCard" 31 "EdgeOfCard" "filling" "LEdgeOfCard$Filling;" ∈ wsG := wG 198 (by decide +kernel) (by decide +kernel)
theorem wf_199 : Cond.fieldLink "EdgeOfCard" 38 "EdgeOfCard" "hand" "LEdgeOfCard$Hand;" ∈ wsG := wG 199 (by decide +kernel) (by decide +kernel)
theorem wf_200 : Cond.fieldLink "EdgeOfCard" 42 "EdgeOfCard" "firstImage" "LEdgeOfCard$Hand;" ∈ wsG := wG 200 (by decide +kernel) (by decide +kernel)
theorem wf_201 : Cond.fieldLink "EdgeOfCard" 45 "EdgeOfCard" "secondImage" "LEdgeOfCard$Hand;" ∈ wsG := wG 201 (by decide +kernel) (by decide +kernel)
theorem wf_202 : Cond.fieldLink "EdgeOfCard" 77 "EdgeOfCard" "imagesKept" "I" ∈ wsG := wG 202 (by decide +kernel) (by decide +kernel)
theorem wf_203 : Cond.fieldLink "EdgeOfCard" 48 "EdgeOfCard" "seenPieces" "[I" ∈ wsG := wG 203 (by decide +kernel) (by decide +kernel)
theorem wf_204 : Cond.fieldLink "EdgeOfCard" 52 "EdgeOfCard" "seenLines" "[I" ∈ wsG := wG 204 (by decide +kernel) (by decide +kernel)
theorem wf_205 : Cond.fieldLink "EdgeOfCard" 80 "EdgeOfCard" "seen" "I" ∈ wsG := wG 205 (by decide +kernel) (by decide +kernel)
theorem wf_206 : Cond.fieldLink "EdgeOfCard" 234 "EdgeOfCard" "traced" "J" ∈ wsG := wG 206 (by decide +kernel) (by decide +kernel)
theorem wf_232 : Cond.methodLink "EdgeOfCardLaw" 13 ⟨"EdgeOfCard", "type", "(I)I"⟩ ∈ wsG := wG 232 (by decide +kernel) (by decide +kernel)
theorem wf_233 : Cond.instanceMethod ⟨"EdgeOfCard", "type", "(I)I"⟩ ∈ wsG := wG 233 (by decide +kernel) (by decide +kernel)
theorem wf_234 : Cond.selects "EdgeOfCard" ⟨"EdgeOfCard", "type", "(I)I"⟩ ⟨"EdgeOfCard", "type", "(I)I"⟩ ∈ wsG := wG 234 (by decide +kernel) (by decide +kernel)
theorem wf_235 : Cond.code ⟨"EdgeOfCard", "type", "(I)I"⟩ prog_1_method_2_code 2 (Option.some Jvm.ClassFile.FieldType.int) ∈ wsG := wG 235 (by decide +kernel) (by decide +kernel)
theorem wf_236 : Cond.methodLink "EdgeOfCard" 55 ⟨"EdgeOfCard", "within", "(III)Z"⟩ ∈ wsG := wG 236 (by decide +kernel) (by decide +kernel)
theorem wf_237 : Cond.static ⟨"EdgeOfCard", "within", "(III)Z"⟩ ∈ wsG := wG 237 (by decide +kernel) (by decide +kernel)
theorem wf_238 : Cond.code ⟨"EdgeOfCard", "within", "(III)Z"⟩ prog_1_method_44_code 3 (Option.some Jvm.ClassFile.FieldType.boolean) ∈ wsG := wG 238 (by decide +kernel) (by decide +kernel)
theorem wf_239 : Cond.methodLink "EdgeOfCard" 59 ⟨"EdgeOfCard$Text", "add", "(I)Z"⟩ ∈ wsG := wG 239 (by decide +kernel) (by decide +kernel)
theorem wf_240 : Cond.instanceMethod ⟨"EdgeOfCard$Text", "add", "(I)Z"⟩ ∈ wsG := wG 240 (by decide +kernel) (by decide +kernel)
theorem wf_241 : Cond.selects "EdgeOfCard$Text" ⟨"EdgeOfCard$Text", "add", "(I)Z"⟩ ⟨"EdgeOfCard$Text", "add", "(I)Z"⟩ ∈ wsG := wG 241 (by decide +kernel) (by decide +kernel)
theorem wf_242 : Cond.code ⟨"EdgeOfCard$Text", "add", "(I)Z"⟩ prog_4_method_2_code 2 (Option.some Jvm.ClassFile.FieldType.boolean) ∈ wsG := wG 242 (by decide +kernel) (by decide +kernel)
theorem wf_243 : Cond.methodLink "EdgeOfCardLaw" 18 ⟨"EdgeOfCard", "clear", "()I"⟩ ∈ wsG := wG 243 (by decide +kernel) (by decide +kernel)
theorem wf_244 : Cond.instanceMethod ⟨"EdgeOfCard", "clear", "()I"⟩ ∈ wsG := wG 244 (by decide +kernel) (by decide +kernel)
theorem wf_245 : Cond.selects "EdgeOfCard" ⟨"EdgeOfCard", "clear", "()I"⟩ ⟨"EdgeOfCard", "clear", "()I"⟩ ∈ wsG := wG 245 (by decide +kernel) (by decide +kernel)
theorem wf_246 : Cond.code ⟨"EdgeOfCard", "clear", "()I"⟩ prog_1_method_3_code 2 (Option.some Jvm.ClassFile.FieldType.int) ∈ wsG := wG 246 (by decide +kernel) (by decide +kernel)
theorem wf_247 : Cond.methodLink "EdgeOfCardLaw" 23 ⟨"EdgeOfCard", "card", "()I"⟩ ∈ wsG := wG 247 (by decide +kernel) (by decide +kernel)
theorem wf_248 : Cond.instanceMethod ⟨"EdgeOfCard", "card", "()I"⟩ ∈ wsG := wG 248 (by decide +kernel) (by decide +kernel)
theorem wf_249 : Cond.selects "EdgeOfCard" ⟨"EdgeOfCard", "card", "()I"⟩ ⟨"EdgeOfCard", "card", "()I"⟩ ∈ wsG := wG 249 (by decide +kernel) (by decide +kernel)
theorem wf_250 : Cond.code ⟨"EdgeOfCard", "card", "()I"⟩ prog_1_method_4_code 2 (Option.some Jvm.ClassFile.FieldType.int) ∈ wsG := wG 250 (by decide +kernel) (by decide +kernel)
theorem wf_251 : Cond.methodLink "EdgeOfCard" 67 ⟨"EdgeOfCard$Text", "tellTo", "(LEdgeOfCard$Told;)I"⟩ ∈ wsG := wG 251 (by decide +kernel) (by decide +kernel)
theorem wf_252 : Cond.instanceMethod ⟨"EdgeOfCard$Text", "tellTo", "(LEdgeOfCard$Told;)I"⟩ ∈ wsG := wG 252 (by decide +kernel) (by decide +kernel)
theorem wf_253 : Cond.selects "EdgeOfCard$Text" ⟨"EdgeOfCard$Text", "tellTo", "(LEdgeOfCard$Told;)I"⟩ ⟨"EdgeOfCard$Text", "tellTo", "(LEdgeOfCard$Told;)I"⟩ ∈ wsG := wG 253 (by decide +kernel) (by decide +kernel)
theorem wf_254 : Cond.code ⟨"EdgeOfCard$Text", "tellTo", "(LEdgeOfCard$Told;)I"⟩ prog_4_method_3_code 3 (Option.some Jvm.ClassFile.FieldType.int) ∈ wsG := wG 254 (by decide +kernel) (by decide +kernel)
theorem wf_255 : Cond.methodLink "EdgeOfCard$Text" 22 ⟨"EdgeOfCard$Told", "erase", "()V"⟩ ∈ wsG := wG 255 (by decide +kernel) (by decide +kernel)
theorem wf_256 : Cond.instanceMethod ⟨"EdgeOfCard$Told", "erase", "()V"⟩ ∈ wsG := wG 256 (by decide +kernel) (by decide +kernel)
theorem wf_257 : Cond.selects "EdgeOfCard$Told" ⟨"EdgeOfCard$Told", "erase", "()V"⟩ ⟨"EdgeOfCard$Told", "erase", "()V"⟩ ∈ wsG := wG 257 (by decide +kernel) (by decide +kernel)
theorem wf_258 : Cond.code ⟨"EdgeOfCard$Told", "erase", "()V"⟩ prog_5_method_2_code 1 (Option.none : Option Jvm.ClassFile.FieldType) ∈ wsG := wG 258 (by decide +kernel) (by decide +kernel)
theorem wf_259 : Cond.methodLink "EdgeOfCard$Text" 37 ⟨"EdgeOfCard$Text", "step", "()V"⟩ ∈ wsG := wG 259 (by decide +kernel) (by decide +kernel)
theorem wf_261 : Cond.instanceMethod ⟨"EdgeOfCard$Text", "step", "()V"⟩ ∈ wsG := wG 261 (by decide +kernel) (by decide +kernel)
theorem wf_262 : Cond.code ⟨"EdgeOfCard$Text", "step", "()V"⟩ prog_4_method_8_code 1 (Option.none : Option Jvm.ClassFile.FieldType) ∈ wsG := wG 262 (by decide +kernel) (by decide +kernel)
theorem wf_264 : Cond.methodLink "EdgeOfCard$Text" 90 ⟨"EdgeOfCard$Text", "readLetters", "()V"⟩ ∈ wsG := wG 264 (by decide +kernel) (by decide +kernel)
theorem wf_266 : Cond.instanceMethod ⟨"EdgeOfCard$Text", "readLetters", "()V"⟩ ∈ wsG := wG 266 (by decide +kernel) (by decide +kernel)
theorem wf_267 : Cond.code ⟨"EdgeOfCard$Text", "readLetters", "()V"⟩ prog_4_method_9_code 1 (Option.none : Option Jvm.ClassFile.FieldType) ∈ wsG := wG 267 (by decide +kernel) (by decide +kernel)
theorem wf_268 : Cond.methodLink "EdgeOfCard$Text" 93 ⟨"EdgeOfCard$Text", "readDigits", "()V"⟩ ∈ wsG := wG 268 (by decide +kernel) (by decide +kernel)
theorem wf_270 : Cond.instanceMethod ⟨"EdgeOfCard$Text", "readDigits", "()V"⟩ ∈ wsG := wG 270 (by decide +kernel) (by decide +kernel)
theorem wf_271 : Cond.code ⟨"EdgeOfCard$Text", "readDigits", "()V"⟩ prog_4_method_10_code 2 (Option.none : Option Jvm.ClassFile.FieldType) ∈ wsG := wG 271 (by decide +kernel) (by decide +kernel)
theorem wf_272 : Cond.methodLink "EdgeOfCard$Text" 96 ⟨"java/lang/Math", "min", "(II)I"⟩ ∈ wsG := wG 272 (by decide +kernel) (by decide +kernel)
theorem wf_273 : Cond.static ⟨"java/lang/Math", "min", "(II)I"⟩ ∈ wsG := wG 273 (by decide +kernel) (by decide +kernel)
theorem wf_274 : Cond.code ⟨"java/lang/Math", "min", "(II)I"⟩ prog_9_method_69_code 2 (Option.some Jvm.ClassFile.FieldType.int) ∈ wsG := wG 274 (by decide +kernel) (by decide +kernel)
theorem wf_275 : Cond.methodLink "EdgeOfCard$Text" 46 ⟨"EdgeOfCard$Text", "mayBegin", "(LEdgeOfCard$Told;)Z"⟩ ∈ wsG := wG 275 (by decide +kernel) (by decide +kernel)
theorem wf_277 : Cond.instanceMethod ⟨"EdgeOfCard$Text", "mayBegin", "(LEdgeOfCard$Told;)Z"⟩ ∈ wsG := wG 277 (by decide +kernel) (by decide +kernel)
theorem wf_278 : Cond.code ⟨"EdgeOfCard$Text", "mayBegin", "(LEdgeOfCard$Told;)Z"⟩ prog_4_method_4_code 2 (Option.some Jvm.ClassFile.FieldType.boolean) ∈ wsG := wG 278 (by decide +kernel) (by decide +kernel)
theorem wf_279 : Cond.methodLink "EdgeOfCard$Text" 50 ⟨"EdgeOfCard$Text", "readNumbers", "(ILEdgeOfCard$Told;)Z"⟩ ∈ wsG := wG 279 (by decide +kernel) (by decide +kernel)
theorem wf_281 : Cond.instanceMethod ⟨"EdgeOfCard$Text", "readNumbers", "(ILEdgeOfCard$Told;)Z"⟩ ∈ wsG := wG 281 (by decide +kernel) (by decide +kernel)
theorem wf_282 : Cond.code ⟨"EdgeOfCard$Text", "readNumbers", "(ILEdgeOfCard$Told;)Z"⟩ prog_4_method_5_code 5 (Option.some Jvm.ClassFile.FieldType.boolean) ∈ wsG := wG 282 (by decide +kernel) (by decide +kernel)
theorem wf_283 : Cond.methodLink "EdgeOfCard$Text" 67 ⟨"EdgeOfCard$Text", "mayBe", "(IILEdgeOfCard$Told;)Z"⟩ ∈ wsG := wG 283 (by decide +kernel) (by decide +kernel)
theorem wf_285 : Cond.instanceMethod ⟨"EdgeOfCard$Text", "mayBe", "(IILEdgeOfCard$Told;)Z"⟩ ∈ wsG := wG 285 (by decide +kernel) (by decide +kernel)
theorem wf_286 : Cond.code ⟨"EdgeOfCard$Text", "mayBe", "(IILEdgeOfCard$Told;)Z"⟩ prog_4_method_6_code 4 (Option.some Jvm.ClassFile.FieldType.boolean) ∈ wsG := wG 286 (by decide +kernel) (by decide +kernel)
theorem wf_287 : Cond.methodLink "EdgeOfCard$Text" 75 ⟨"EdgeOfCard$Told", "hasPiece", "(I)Z"⟩ ∈ wsG := wG 287 (by decide +kernel) (by decide +kernel)
theorem wf_288 : Cond.instanceMethod ⟨"EdgeOfCard$Told", "hasPiece", "(I)Z"⟩ ∈ wsG := wG 288 (by decide +kernel) (by decide +kernel)
theorem wf_289 : Cond.selects "EdgeOfCard$Told" ⟨"EdgeOfCard$Told", "hasPiece", "(I)Z"⟩ ⟨"EdgeOfCard$Told", "hasPiece", "(I)Z"⟩ ∈ wsG := wG 289 (by decide +kernel) (by decide +kernel)
theorem wf_290 : Cond.code ⟨"EdgeOfCard$Told", "hasPiece", "(I)Z"⟩ prog_5_method_7_code 2 (Option.some Jvm.ClassFile.FieldType.boolean) ∈ wsG := wG 290 (by decide +kernel) (by decide +kernel)
theorem wf_292 : Cond.methodLink "EdgeOfCard$Text" 57 ⟨"EdgeOfCard$Text", "tell", "(ILEdgeOfCard$Told;)V"⟩ ∈ wsG := wG 292 (by decide +kernel) (by decide +kernel)
theorem wf_294 : Cond.instanceMethod ⟨"EdgeOfCard$Text", "tell", "(ILEdgeOfCard$Told;)V"⟩ ∈ wsG := wG 294 (by decide +kernel) (by decide +kernel)
theorem wf_295 : Cond.code ⟨"EdgeOfCard$Text", "tell", "(ILEdgeOfCard$Told;)V"⟩ prog_4_method_7_code 3 (Option.none : Option Jvm.ClassFile.FieldType) ∈ wsG := wG 295 (by decide +kernel) (by decide +kernel)
theorem wf_296 : Cond.methodLink "EdgeOfCard$Text" 79 ⟨"EdgeOfCard$Told", "addLine", "(I)V"⟩ ∈ wsG := wG 296 (by decide +kernel) (by decide +kernel)
theorem wf_297 : Cond.instanceMethod ⟨"EdgeOfCard$Told", "addLine", "(I)V"⟩ ∈ wsG := wG 297 (by decide +kernel) (by decide +kernel)
theorem wf_298 : Cond.selects "EdgeOfCard$Told" ⟨"EdgeOfCard$Told", "addLine", "(I)V"⟩ ⟨"EdgeOfCard$Told", "addLine", "(I)V"⟩ ∈ wsG := wG 298 (by decide +kernel) (by decide +kernel)
theorem wf_299 : Cond.code ⟨"EdgeOfCard$Told", "addLine", "(I)V"⟩ prog_5_method_4_code 2 (Option.none : Option Jvm.ClassFile.FieldType) ∈ wsG := wG 299 (by decide +kernel) (by decide +kernel)
theorem wf_300 : Cond.methodLink "EdgeOfCard$Text" 83 ⟨"EdgeOfCard$Told", "addPiece", "([I)V"⟩ ∈ wsG := wG 300 (by decide +kernel) (by decide +kernel)
theorem wf_301 : Cond.instanceMethod ⟨"EdgeOfCard$Told", "addPiece", "([I)V"⟩ ∈ wsG := wG 301 (by decide +kernel) (by decide +kernel)
theorem wf_302 : Cond.selects "EdgeOfCard$Told" ⟨"EdgeOfCard$Told", "addPiece", "([I)V"⟩ ⟨"EdgeOfCard$Told", "addPiece", "([I)V"⟩ ∈ wsG := wG 302 (by decide +kernel) (by decide +kernel)
theorem wf_303 : Cond.code ⟨"EdgeOfCard$Told", "addPiece", "([I)V"⟩ prog_5_method_5_code 2 (Option.none : Option Jvm.ClassFile.FieldType) ∈ wsG := wG 303 (by decide +kernel) (by decide +kernel)
theorem wf_304 : Cond.methodLink "EdgeOfCard$Told" 28 ⟨"java/lang/System", "arraycopy", "(Ljava/lang/Object;ILjava/lang/Object;II)V"⟩ ∈ wsG := wG 304 (by decide +kernel) (by decide +kernel)
theorem wf_305 : Cond.static ⟨"java/lang/System", "arraycopy", "(Ljava/lang/Object;ILjava/lang/Object;II)V"⟩ ∈ wsG := wG 305 (by decide +kernel) (by decide +kernel)
theorem wf_306 : Cond.native ⟨"java/lang/System", "arraycopy", "(Ljava/lang/Object;ILjava/lang/Object;II)V"⟩ ∈ wsG := wG 306 (by decide +kernel) (by decide +kernel)
theorem wf_307 : Cond.methodLink "EdgeOfCard" 71 ⟨"EdgeOfCard$Told", "become", "(LEdgeOfCard$Told;)V"⟩ ∈ wsG := wG 307 (by decide +kernel) (by decide +kernel)
theorem wf_308 : Cond.instanceMethod ⟨"EdgeOfCard$Told", "become", "(LEdgeOfCard$Told;)V"⟩ ∈ wsG := wG 308 (by decide +kernel) (by decide +kernel)
theorem wf_309 : Cond.selects "EdgeOfCard$Told" ⟨"EdgeOfCard$Told", "become", "(LEdgeOfCard$Told;)V"⟩ ⟨"EdgeOfCard$Told", "become", "(LEdgeOfCard$Told;)V"⟩ ∈ wsG := wG 309 (by decide +kernel) (by decide +kernel)
theorem wf_310 : Cond.code ⟨"EdgeOfCard$Told", "become", "(LEdgeOfCard$Told;)V"⟩ prog_5_method_3_code 2 (Option.none : Option Jvm.ClassFile.FieldType) ∈ wsG := wG 310 (by decide +kernel) (by decide +kernel)
theorem wf_311 : Cond.methodLink "EdgeOfCard" 74 ⟨"EdgeOfCard$Hand", "begin", "()V"⟩ ∈ wsG := wG 311 (by decide +kernel) (by decide +kernel)
theorem wf_312 : Cond.instanceMethod ⟨"EdgeOfCard$Hand", "begin", "()V"⟩ ∈ wsG := wG 312 (by decide +kernel) (by decide +kernel)
theorem wf_313 : Cond.selects "EdgeOfCard$Hand" ⟨"EdgeOfCard$Hand", "begin", "()V"⟩ ⟨"EdgeOfCard$Hand", "begin", "()V"⟩ ∈ wsG := wG 313 (by decide +kernel) (by decide +kernel)
theorem wf_314 : Cond.code ⟨"EdgeOfCard$Hand", "begin", "()V"⟩ prog_3_method_2_code 1 (Option.none : Option Jvm.ClassFile.FieldType) ∈ wsG := wG 314 (by decide +kernel) (by decide +kernel)
theorem wf_315 : Cond.methodLink "EdgeOfCard$Hand" 29 ⟨"EdgeOfCard$Told", "wideOf", "(I)I"⟩ ∈ wsG := wG 315 (by decide +kernel) (by decide +kernel)
theorem wf_316 : Cond.instanceMethod ⟨"EdgeOfCard$Told", "wideOf", "(I)I"⟩ ∈ wsG := wG 316 (by decide +kernel) (by decide +kernel)
theorem wf_317 : Cond.selects "EdgeOfCard$Told" ⟨"EdgeOfCard$Told", "wideOf", "(I)I"⟩ ⟨"EdgeOfCard$Told", "wideOf", "(I)I"⟩ ∈ wsG := wG 317 (by decide +kernel) (by decide +kernel)
theorem wf_318 : Cond.code ⟨"EdgeOfCard$Told", "wideOf", "(I)I"⟩ prog_5_method_8_code 2 (Option.some Jvm.ClassFile.FieldType.int) ∈ wsG := wG 318 (by decide +kernel) (by decide +kernel)
theorem wf_319 : Cond.methodLink "EdgeOfCard$Told" 38 ⟨"EdgeOfCard$Told", "hasLine", "(I)Z"⟩ ∈ wsG := wG 319 (by decide +kernel) (by decide +kernel)
theorem wf_320 : Cond.instanceMethod ⟨"EdgeOfCard$Told", "hasLine", "(I)Z"⟩ ∈ wsG := wG 320 (by decide +kernel) (by decide +kernel)
theorem wf_321 : Cond.selects "EdgeOfCard$Told" ⟨"EdgeOfCard$Told", "hasLine", "(I)Z"⟩ ⟨"EdgeOfCard$Told", "hasLine", "(I)Z"⟩ ∈ wsG := wG 321 (by decide +kernel) (by decide +kernel)
theorem wf_322 : Cond.code ⟨"EdgeOfCard$Told", "hasLine", "(I)Z"⟩ prog_5_method_6_code 2 (Option.some Jvm.ClassFile.FieldType.boolean) ∈ wsG := wG 322 (by decide +kernel) (by decide +kernel)
theorem wf_323 : Cond.methodLink "EdgeOfCardLaw" 27 ⟨"EdgeOfCard", "line", "(I)I"⟩ ∈ wsG := wG 323 (by decide +kernel) (by decide +kernel)
theorem wf_324 : Cond.instanceMethod ⟨"EdgeOfCard", "line", "(I)I"⟩ ∈ wsG := wG 324 (by decide +kernel) (by decide +kernel)
theorem wf_325 : Cond.selects "EdgeOfCard" ⟨"EdgeOfCard", "line", "(I)I"⟩ ⟨"EdgeOfCard", "line", "(I)I"⟩ ∈ wsG := wG 325 (by decide +kernel) (by decide +kernel)
theorem wf_326 : Cond.code ⟨"EdgeOfCard", "line", "(I)I"⟩ prog_1_method_5_code 2 (Option.some Jvm.ClassFile.FieldType.int) ∈ wsG := wG 326 (by decide +kernel) (by decide +kernel)
theorem wf_327 : Cond.methodLink "EdgeOfCard" 86 ⟨"EdgeOfCard$Told", "hasLine", "(I)Z"⟩ ∈ wsG := wG 327 (by decide +kernel) (by decide +kernel)
theorem wf_328 : Cond.methodLink "EdgeOfCard" 89 ⟨"EdgeOfCard$Told", "wideOf", "(I)I"⟩ ∈ wsG := wG 328 (by decide +kernel) (by decide +kernel)
theorem wf_329 : Cond.methodLink "EdgeOfCardLaw" 31 ⟨"EdgeOfCard", "word", "(II)I"⟩ ∈ wsG := wG 329 (by decide +kernel) (by decide +kernel)
theorem wf_330 : Cond.instanceMethod ⟨"EdgeOfCard", "word", "(II)I"⟩ ∈ wsG := wG 330 (by decide +kernel) (by decide +kernel)
theorem wf_331 : Cond.selects "EdgeOfCard" ⟨"EdgeOfCard", "word", "(II)I"⟩ ⟨"EdgeOfCard", "word", "(II)I"⟩ ∈ wsG := wG 331 (by decide +kernel) (by decide +kernel)
theorem wf_332 : Cond.code ⟨"EdgeOfCard", "word", "(II)I"⟩ prog_1_method_6_code 3 (Option.some Jvm.ClassFile.FieldType.int) ∈ wsG := wG 332 (by decide +kernel) (by decide +kernel)
theorem wf_333 : Cond.methodLink "EdgeOfCard" 93 ⟨"EdgeOfCard$Told", "hasPiece", "(I)Z"⟩ ∈ wsG := wG 333 (by decide +kernel) (by decide +kernel)
theorem wf_334 : Cond.methodLink "EdgeOfCard" 96 ⟨"EdgeOfCard$Told", "of", "(II)I"⟩ ∈ wsG := wG 334 (by decide +kernel) (by decide +kernel)
theorem wf_335 : Cond.instanceMethod ⟨"EdgeOfCard$Told", "of", "(II)I"⟩ ∈ wsG := wG 335 (by decide +kernel) (by decide +kernel)
theorem wf_336 : Cond.selects "EdgeOfCard$Told" ⟨"EdgeOfCard$Told", "of", "(II)I"⟩ ⟨"EdgeOfCard$Told", "of", "(II)I"⟩ ∈ wsG := wG 336 (by decide +kernel) (by decide +kernel)
theorem wf_337 : Cond.code ⟨"EdgeOfCard$Told", "of", "(II)I"⟩ prog_5_method_9_code 3 (Option.some Jvm.ClassFile.FieldType.int) ∈ wsG := wG 337 (by decide +kernel) (by decide +kernel)
theorem wf_338 : Cond.methodLink "EdgeOfCard$Told" 42 ⟨"EdgeOfCard$Told", "hasPiece", "(I)Z"⟩ ∈ wsG := wG 338 (by decide +kernel) (by decide +kernel)
theorem wf_339 : Cond.methodLink "EdgeOfCard" 103 ⟨"EdgeOfCard", "bit", "(II)I"⟩ ∈ wsG := wG 339 (by decide +kernel) (by decide +kernel)
theorem wf_340 : Cond.static ⟨"EdgeOfCard", "bit", "(II)I"⟩ ∈ wsG := wG 340 (by decide +kernel) (by decide +kernel)
theorem wf_341 : Cond.code ⟨"EdgeOfCard", "bit", "(II)I"⟩ prog_1_method_45_code 2 (Option.some Jvm.ClassFile.FieldType.int) ∈ wsG := wG 341 (by decide +kernel) (by decide +kernel)
theorem wf_342 : Cond.methodLink "EdgeOfCardLaw" 36 ⟨"EdgeOfCard", "writes", "()I"⟩ ∈ wsG := wG 342 (by decide +kernel) (by decide +kernel)
theorem wf_343 : Cond.instanceMethod ⟨"EdgeOfCard", "writes", "()I"⟩ ∈ wsG := wG 343 (by decide +kernel) (by decide +kernel)
theorem wf_344 : Cond.selects "EdgeOfCard" ⟨"EdgeOfCard", "writes", "()I"⟩ ⟨"EdgeOfCard", "writes", "()I"⟩ ∈ wsG := wG 344 (by decide +kernel) (by decide +kernel)
theorem wf_345 : Cond.code ⟨"EdgeOfCard", "writes", "()I"⟩ prog_1_method_7_code 1 (Option.some Jvm.ClassFile.FieldType.int) ∈ wsG := wG 345 (by decide +kernel) (by decide +kernel)
theorem wf_346 : Cond.methodLink "EdgeOfCard" 106 ⟨"EdgeOfCard$Hand", "canWrite", "()Z"⟩ ∈ wsG := wG 346 (by decide +kernel) (by decide +kernel)
theorem wf_347 : Cond.instanceMethod ⟨"EdgeOfCard$Hand", "canWrite", "()Z"⟩ ∈ wsG := wG 347 (by decide +kernel) (by decide +kernel)
theorem wf_348 : Cond.selects "EdgeOfCard$Hand" ⟨"EdgeOfCard$Hand", "canWrite", "()Z"⟩ ⟨"EdgeOfCard$Hand", "canWrite", "()Z"⟩ ∈ wsG := wG 348 (by decide +kernel) (by decide +kernel)
theorem wf_349 : Cond.code ⟨"EdgeOfCard$Hand", "canWrite", "()Z"⟩ prog_3_method_5_code 1 (Option.some Jvm.ClassFile.FieldType.boolean) ∈ wsG := wG 349 (by decide +kernel) (by decide +kernel)
theorem wf_350 : Cond.methodLink "EdgeOfCard$Hand" 54 ⟨"EdgeOfCard$Hand", "hasNext", "()Z"⟩ ∈ wsG := wG 350 (by decide +kernel) (by decide +kernel)
theorem wf_351 : Cond.instanceMethod ⟨"EdgeOfCard$Hand", "hasNext", "()Z"⟩ ∈ wsG := wG 351 (by decide +kernel) (by decide +kernel)
theorem wf_352 : Cond.selects "EdgeOfCard$Hand" ⟨"EdgeOfCard$Hand", "hasNext", "()Z"⟩ ⟨"EdgeOfCard$Hand", "hasNext", "()Z"⟩ ∈ wsG := wG 352 (by decide +kernel) (by decide +kernel)
theorem wf_353 : Cond.code ⟨"EdgeOfCard$Hand", "hasNext", "()Z"⟩ prog_3_method_4_code 1 (Option.some Jvm.ClassFile.FieldType.boolean) ∈ wsG := wG 353 (by decide +kernel) (by decide +kernel)
theorem wf_354 : Cond.methodLink "EdgeOfCard$Hand" 50 ⟨"EdgeOfCard$Told", "hasPiece", "(I)Z"⟩ ∈ wsG := wG 354 (by decide +kernel) (by decide +kernel)
theorem wf_355 : Cond.methodLink "EdgeOfCard" 113 ⟨"EdgeOfCard$Hand", "put", "(I)I"⟩ ∈ wsG := wG 355 (by decide +kernel) (by decide +kernel)
theorem wf_356 : Cond.instanceMethod ⟨"EdgeOfCard$Hand", "put", "(I)I"⟩ ∈ wsG := wG 356 (by decide +kernel) (by decide +kernel)
theorem wf_357 : Cond.selects "EdgeOfCard$Hand" ⟨"EdgeOfCard$Hand", "put", "(I)I"⟩ ⟨"EdgeOfCard$Hand", "put", "(I)I"⟩ ∈ wsG := wG 357 (by decide +kernel) (by decide +kernel)
theorem wf_358 : Cond.code ⟨"EdgeOfCard$Hand", "put", "(I)I"⟩ prog_3_method_6_code 3 (Option.some Jvm.ClassFile.FieldType.int) ∈ wsG := wG 358 (by decide +kernel) (by decide +kernel)
theorem wf_359 : Cond.methodLink "EdgeOfCard$Hand" 61 ⟨"EdgeOfCard$Hand", "blank", "()I"⟩ ∈ wsG := wG 359 (by decide +kernel) (by decide +kernel)
theorem wf_361 : Cond.instanceMethod ⟨"EdgeOfCard$Hand", "blank", "()I"⟩ ∈ wsG := wG 361 (by decide +kernel) (by decide +kernel)
theorem wf_362 : Cond.code ⟨"EdgeOfCard$Hand", "blank", "()I"⟩ prog_3_method_8_code 1 (Option.some Jvm.ClassFile.FieldType.int) ∈ wsG := wG 362 (by decide +kernel) (by decide +kernel)
theorem wf_363 : Cond.methodLink "EdgeOfCard$Hand" 65 ⟨"EdgeOfCard$Hand", "remember", "()V"⟩ ∈ wsG := wG 363 (by decide +kernel) (by decide +kernel)
theorem wf_365 : Cond.instanceMethod ⟨"EdgeOfCard$Hand", "remember", "()V"⟩ ∈ wsG := wG 365 (by decide +kernel) (by decide +kernel)
theorem wf_366 : Cond.code ⟨"EdgeOfCard$Hand", "remember", "()V"⟩ prog_3_method_12_code 2 (Option.none : Option Jvm.ClassFile.FieldType) ∈ wsG := wG 366 (by decide +kernel) (by decide +kernel)
theorem wf_367 : Cond.methodLink "EdgeOfCard$Hand" 44 ⟨"java/lang/System", "arraycopy", "(Ljava/lang/Object;ILjava/lang/Object;II)V"⟩ ∈ wsG := wG 367 (by decide +kernel) (by decide +kernel)
theorem wf_368 : Cond.methodLink "EdgeOfCardLaw" 40 ⟨"EdgeOfCard", "signs", "()I"⟩ ∈ wsG := wG 368 (by decide +kernel) (by decide +kernel)
theorem wf_369 : Cond.instanceMethod ⟨"EdgeOfCard", "signs", "()I"⟩ ∈ wsG := wG 369 (by decide +kernel) (by decide +kernel)
theorem wf_370 : Cond.selects "EdgeOfCard" ⟨"EdgeOfCard", "signs", "()I"⟩ ⟨"EdgeOfCard", "signs", "()I"⟩ ∈ wsG := wG 370 (by decide +kernel) (by decide +kernel)
theorem wf_371 : Cond.code ⟨"EdgeOfCard", "signs", "()I"⟩ prog_1_method_8_code 1 (Option.some Jvm.ClassFile.FieldType.int) ∈ wsG := wG 371 (by decide +kernel) (by decide +kernel)
theorem wf_372 : Cond.methodLink "EdgeOfCardLaw" 44 ⟨"EdgeOfCard", "breaks", "()I"⟩ ∈ wsG := wG 372 (by decide +kernel) (by decide +kernel)
theorem wf_373 : Cond.instanceMethod ⟨"EdgeOfCard", "breaks", "()I"⟩ ∈ wsG := wG 373 (by decide +kernel) (by decide +kernel)
theorem wf_374 : Cond.selects "EdgeOfCard" ⟨"EdgeOfCard", "breaks", "()I"⟩ ⟨"EdgeOfCard", "breaks", "()I"⟩ ∈ wsG := wG 374 (by decide +kernel) (by decide +kernel)
theorem wf_375 : Cond.code ⟨"EdgeOfCard", "breaks", "()I"⟩ prog_1_method_9_code 2 (Option.some Jvm.ClassFile.FieldType.int) ∈ wsG := wG 375 (by decide +kernel) (by decide +kernel)
theorem wf_376 : Cond.methodLink "EdgeOfCard" 116 ⟨"EdgeOfCard$Hand", "putBroken", "(II)I"⟩ ∈ wsG := wG 376 (by decide +kernel) (by decide +kernel)
theorem wf_377 : Cond.instanceMethod ⟨"EdgeOfCard$Hand", "putBroken", "(II)I"⟩ ∈ wsG := wG 377 (by decide +kernel) (by decide +kernel)
theorem wf_378 : Cond.selects "EdgeOfCard$Hand" ⟨"EdgeOfCard$Hand", "putBroken", "(II)I"⟩ ⟨"EdgeOfCard$Hand", "putBroken", "(II)I"⟩ ∈ wsG := wG 378 (by decide +kernel) (by decide +kernel)
theorem wf_379 : Cond.code ⟨"EdgeOfCard$Hand", "putBroken", "(II)I"⟩ prog_3_method_7_code 6 (Option.some Jvm.ClassFile.FieldType.int) ∈ wsG := wG 379 (by decide +kernel) (by decide +kernel)
theorem wf_380 : Cond.methodLink "EdgeOfCardLaw" 48 ⟨"EdgeOfCard", "omits", "()I"⟩ ∈ wsG := wG 380 (by decide +kernel) (by decide +kernel)
theorem wf_381 : Cond.instanceMethod ⟨"EdgeOfCard", "omits", "()I"⟩ ∈ wsG := wG 381 (by decide +kernel) (by decide +kernel)
theorem wf_382 : Cond.selects "EdgeOfCard" ⟨"EdgeOfCard", "omits", "()I"⟩ ⟨"EdgeOfCard", "omits", "()I"⟩ ∈ wsG := wG 382 (by decide +kernel) (by decide +kernel)
theorem wf_383 : Cond.code ⟨"EdgeOfCard", "omits", "()I"⟩ prog_1_method_10_code 1 (Option.some Jvm.ClassFile.FieldType.int) ∈ wsG := wG 383 (by decide +kernel) (by decide +kernel)
theorem wf_384 : Cond.methodLink "EdgeOfCard" 119 ⟨"EdgeOfCard$Hand", "hasNext", "()Z"⟩ ∈ wsG := wG 384 (by decide +kernel) (by decide +kernel)
theorem wf_385 : Cond.methodLink "EdgeOfCard" 122 ⟨"EdgeOfCard$Hand", "leaveOut", "()I"⟩ ∈ wsG := wG 385 (by decide +kernel) (by decide +kernel)
theorem wf_386 : Cond.instanceMethod ⟨"EdgeOfCard$Hand", "leaveOut", "()I"⟩ ∈ wsG := wG 386 (by decide +kernel) (by decide +kernel)
theorem wf_387 : Cond.selects "EdgeOfCard$Hand" ⟨"EdgeOfCard$Hand", "leaveOut", "()I"⟩ ⟨"EdgeOfCard$Hand", "leaveOut", "()I"⟩ ∈ wsG := wG 387 (by decide +kernel) (by decide +kernel)
theorem wf_388 : Cond.code ⟨"EdgeOfCard$Hand", "leaveOut", "()I"⟩ prog_3_method_9_code 1 (Option.some Jvm.ClassFile.FieldType.int) ∈ wsG := wG 388 (by decide +kernel) (by decide +kernel)
theorem wf_389 : Cond.methodLink "EdgeOfCard$Hand" 68 ⟨"java/lang/Integer", "bitCount", "(I)I"⟩ ∈ wsG := wG 389 (by decide +kernel) (by decide +kernel)
theorem wf_390 : Cond.static ⟨"java/lang/Integer", "bitCount", "(I)I"⟩ ∈ wsG := wG 390 (by decide +kernel) (by decide +kernel)
theorem wf_391 : Cond.code ⟨"java/lang/Integer", "bitCount", "(I)I"⟩ prog_8_method_49_code 1 (Option.some Jvm.ClassFile.FieldType.int) ∈ wsG := wG 391 (by decide +kernel) (by decide +kernel)
theorem wf_392 : Cond.constant "java/lang/Integer" 265 (1431655765) ∈ wsG := wG 392 (by decide +kernel) (by decide +kernel)
theorem wf_393 : Cond.constant "java/lang/Integer" 266 (858993459) ∈ wsG := wG 393 (by decide +kernel) (by decide +kernel)
theorem wf_394 : Cond.constant "java/lang/Integer" 267 (252645135) ∈ wsG := wG 394 (by decide +kernel) (by decide +kernel)
theorem wf_395 : Cond.methodLink "EdgeOfCardLaw" 52 ⟨"EdgeOfCard", "smaller", "(I)I"⟩ ∈ wsG := wG 395 (by decide +kernel) (by decide +kernel)
theorem wf_396 : Cond.instanceMethod ⟨"EdgeOfCard", "smaller", "(I)I"⟩ ∈ wsG := wG 396 (by decide +kernel) (by decide +kernel)
theorem wf_397 : Cond.selects "EdgeOfCard" ⟨"EdgeOfCard", "smaller", "(I)I"⟩ ⟨"EdgeOfCard", "smaller", "(I)I"⟩ ∈ wsG := wG 397 (by decide +kernel) (by decide +kernel)
theorem wf_398 : Cond.code ⟨"EdgeOfCard", "smaller", "(I)I"⟩ prog_1_method_11_code 2 (Option.some Jvm.ClassFile.FieldType.int) ∈ wsG := wG 398 (by decide +kernel) (by decide +kernel)
theorem wf_399 : Cond.methodLink "EdgeOfCard" 132 ⟨"EdgeOfCard$Hand", "shrink", "(I)I"⟩ ∈ wsG := wG 399 (by decide +kernel) (by decide +kernel)
theorem wf_400 : Cond.instanceMethod ⟨"EdgeOfCard$Hand", "shrink", "(I)I"⟩ ∈ wsG := wG 400 (by decide +kernel) (by decide +kernel)
theorem wf_401 : Cond.selects "EdgeOfCard$Hand" ⟨"EdgeOfCard$Hand", "shrink", "(I)I"⟩ ⟨"EdgeOfCard$Hand", "shrink", "(I)I"⟩ ∈ wsG := wG 401 (by decide +kernel) (by decide +kernel)
theorem wf_402 : Cond.code ⟨"EdgeOfCard$Hand", "shrink", "(I)I"⟩ prog_3_method_10_code 3 (Option.some Jvm.ClassFile.FieldType.int) ∈ wsG := wG 402 (by decide +kernel) (by decide +kernel)
theorem wf_403 : Cond.methodLink "EdgeOfCardLaw" 56 ⟨"EdgeOfCard", "turnsOver", "()I"⟩ ∈ wsG := wG 403 (by decide +kernel) (by decide +kernel)
theorem wf_404 : Cond.instanceMethod ⟨"EdgeOfCard", "turnsOver", "()I"⟩ ∈ wsG := wG 404 (by decide +kernel) (by decide +kernel)
theorem wf_405 : Cond.selects "EdgeOfCard" ⟨"EdgeOfCard", "turnsOver", "()I"⟩ ⟨"EdgeOfCard", "turnsOver", "()I"⟩ ∈ wsG := wG 405 (by decide +kernel) (by decide +kernel)
theorem wf_406 : Cond.code ⟨"EdgeOfCard", "turnsOver", "()I"⟩ prog_1_method_12_code 1 (Option.some Jvm.ClassFile.FieldType.int) ∈ wsG := wG 406 (by decide +kernel) (by decide +kernel)
theorem wf_407 : Cond.methodLink "EdgeOfCard" 138 ⟨"EdgeOfCard$Hand", "turn", "()I"⟩ ∈ wsG := wG 407 (by decide +kernel) (by decide +kernel)
theorem wf_408 : Cond.instanceMethod ⟨"EdgeOfCard$Hand", "turn", "()I"⟩ ∈ wsG := wG 408 (by decide +kernel) (by decide +kernel)
theorem wf_409 : Cond.selects "EdgeOfCard$Hand" ⟨"EdgeOfCard$Hand", "turn", "()I"⟩ ⟨"EdgeOfCard$Hand", "turn", "()I"⟩ ∈ wsG := wG 409 (by decide +kernel) (by decide +kernel)
theorem wf_410 : Cond.code ⟨"EdgeOfCard$Hand", "turn", "()I"⟩ prog_3_method_11_code 1 (Option.some Jvm.ClassFile.FieldType.int) ∈ wsG := wG 410 (by decide +kernel) (by decide +kernel)
theorem wf_411 : Cond.methodLink "EdgeOfCardLaw" 60 ⟨"EdgeOfCard", "undo", "()I"⟩ ∈ wsG := wG 411 (by decide +kernel) (by decide +kernel)
theorem wf_412 : Cond.instanceMethod ⟨"EdgeOfCard", "undo", "()I"⟩ ∈ wsG := wG 412 (by decide +kernel) (by decide +kernel)
theorem wf_413 : Cond.selects "EdgeOfCard" ⟨"EdgeOfCard", "undo", "()I"⟩ ⟨"EdgeOfCard", "undo", "()I"⟩ ∈ wsG := wG 413 (by decide +kernel) (by decide +kernel)
theorem wf_414 : Cond.code ⟨"EdgeOfCard", "undo", "()I"⟩ prog_1_method_13_code 1 (Option.some Jvm.ClassFile.FieldType.int) ∈ wsG := wG 414 (by decide +kernel) (by decide +kernel)
theorem wf_415 : Cond.methodLink "EdgeOfCard" 144 ⟨"EdgeOfCard$Hand", "takeBack", "()I"⟩ ∈ wsG := wG 415 (by decide +kernel) (by decide +kernel)
theorem wf_416 : Cond.instanceMethod ⟨"EdgeOfCard$Hand", "takeBack", "()I"⟩ ∈ wsG := wG 416 (by decide +kernel) (by decide +kernel)
theorem wf_417 : Cond.selects "EdgeOfCard$Hand" ⟨"EdgeOfCard$Hand", "takeBack", "()I"⟩ ⟨"EdgeOfCard$Hand", "takeBack", "()I"⟩ ∈ wsG := wG 417 (by decide +kernel) (by decide +kernel)
theorem wf_418 : Cond.code ⟨"EdgeOfCard$Hand", "takeBack", "()I"⟩ prog_3_method_13_code 2 (Option.some Jvm.ClassFile.FieldType.int) ∈ wsG := wG 418 (by decide +kernel) (by decide +kernel)
theorem wf_419 : Cond.methodLink "EdgeOfCardLaw" 64 ⟨"EdgeOfCard", "now", "(I)I"⟩ ∈ wsG := wG 419 (by decide +kernel) (by decide +kernel)
theorem wf_420 : Cond.instanceMethod ⟨"EdgeOfCard", "now", "(I)I"⟩ ∈ wsG := wG 420 (by decide +kernel) (by decide +kernel)
theorem wf_421 : Cond.selects "EdgeOfCard" ⟨"EdgeOfCard", "now", "(I)I"⟩ ⟨"EdgeOfCard", "now", "(I)I"⟩ ∈ wsG := wG 421 (by decide +kernel) (by decide +kernel)
theorem wf_422 : Cond.code ⟨"EdgeOfCard", "now", "(I)I"⟩ prog_1_method_14_code 2 (Option.some Jvm.ClassFile.FieldType.int) ∈ wsG := wG 422 (by decide +kernel) (by decide +kernel)
theorem wf_423 : Cond.methodLink "EdgeOfCard" 150 ⟨"EdgeOfCard", "makingSense", "()I"⟩ ∈ wsG := wG 423 (by decide +kernel) (by decide +kernel)
theorem wf_425 : Cond.instanceMethod ⟨"EdgeOfCard", "makingSense", "()I"⟩ ∈ wsG := wG 425 (by decide +kernel) (by decide +kernel)
theorem wf_426 : Cond.code ⟨"EdgeOfCard", "makingSense", "()I"⟩ prog_1_method_15_code 4 (Option.some Jvm.ClassFile.FieldType.int) ∈ wsG := wG 426 (by decide +kernel) (by decide +kernel)
theorem wf_427 : Cond.methodLink "EdgeOfCard" 156 ⟨"EdgeOfCard$Told", "needsAny", "(I)Z"⟩ ∈ wsG := wG 427 (by decide +kernel) (by decide +kernel)
theorem wf_428 : Cond.instanceMethod ⟨"EdgeOfCard$Told", "needsAny", "(I)Z"⟩ ∈ wsG := wG 428 (by decide +kernel) (by decide +kernel)
theorem wf_429 : Cond.selects "EdgeOfCard$Told" ⟨"EdgeOfCard$Told", "needsAny", "(I)Z"⟩ ⟨"EdgeOfCard$Told", "needsAny", "(I)Z"⟩ ∈ wsG := wG 429 (by decide +kernel) (by decide +kernel)
theorem wf_430 : Cond.code ⟨"EdgeOfCard$Told", "needsAny", "(I)Z"⟩ prog_5_method_10_code 2 (Option.some Jvm.ClassFile.FieldType.boolean) ∈ wsG := wG 430 (by decide +kernel) (by decide +kernel)
theorem wf_431 : Cond.methodLink "EdgeOfCard$Told" 45 ⟨"EdgeOfCard$Told", "of", "(II)I"⟩ ∈ wsG := wG 431 (by decide +kernel) (by decide +kernel)
theorem wf_432 : Cond.methodLink "EdgeOfCard" 153 ⟨"EdgeOfCard$Told", "sum", "(II)I"⟩ ∈ wsG := wG 432 (by decide +kernel) (by decide +kernel)
theorem wf_433 : Cond.instanceMethod ⟨"EdgeOfCard$Told", "sum", "(II)I"⟩ ∈ wsG := wG 433 (by decide +kernel) (by decide +kernel)
theorem wf_434 : Cond.selects "EdgeOfCard$Told" ⟨"EdgeOfCard$Told", "sum", "(II)I"⟩ ⟨"EdgeOfCard$Told", "sum", "(II)I"⟩ ∈ wsG := wG 434 (by decide +kernel) (by decide +kernel)
theorem wf_435 : Cond.code ⟨"EdgeOfCard$Told", "sum", "(II)I"⟩ prog_5_method_12_code 5 (Option.some Jvm.ClassFile.FieldType.int) ∈ wsG := wG 435 (by decide +kernel) (by decide +kernel)
theorem wf_437 : Cond.methodLink "EdgeOfCardLaw" 68 ⟨"EdgeOfCard", "fill", "(III)I"⟩ ∈ wsG := wG 437 (by decide +kernel) (by decide +kernel)
theorem wf_438 : Cond.instanceMethod ⟨"EdgeOfCard", "fill", "(III)I"⟩ ∈ wsG := wG 438 (by decide +kernel) (by decide +kernel)
theorem wf_439 : Cond.selects "EdgeOfCard" ⟨"EdgeOfCard", "fill", "(III)I"⟩ ⟨"EdgeOfCard", "fill", "(III)I"⟩ ∈ wsG := wG 439 (by decide +kernel) (by decide +kernel)
theorem wf_440 : Cond.code ⟨"EdgeOfCard", "fill", "(III)I"⟩ prog_1_method_16_code 4 (Option.some Jvm.ClassFile.FieldType.int) ∈ wsG := wG 440 (by decide +kernel) (by decide +kernel)
theorem wf_441 : Cond.methodLink "EdgeOfCard" 159 ⟨"EdgeOfCard", "isSize", "(I)Z"⟩ ∈ wsG := wG 441 (by decide +kernel) (by decide +kernel)
theorem wf_443 : Cond.instanceMethod ⟨"EdgeOfCard", "isSize", "(I)Z"⟩ ∈ wsG := wG 443 (by decide +kernel) (by decide +kernel)
theorem wf_444 : Cond.code ⟨"EdgeOfCard", "isSize", "(I)Z"⟩ prog_1_method_43_code 2 (Option.some Jvm.ClassFile.FieldType.boolean) ∈ wsG := wG 444 (by decide +kernel) (by decide +kernel)
theorem wf_445 : Cond.methodLink "EdgeOfCard" 162 ⟨"EdgeOfCard$Told", "all", "()I"⟩ ∈ wsG := wG 445 (by decide +kernel) (by decide +kernel)
theorem wf_446 : Cond.instanceMethod ⟨"EdgeOfCard$Told", "all", "()I"⟩ ∈ wsG := wG 446 (by decide +kernel) (by decide +kernel)
theorem wf_447 : Cond.selects "EdgeOfCard$Told" ⟨"EdgeOfCard$Told", "all", "()I"⟩ ⟨"EdgeOfCard$Told", "all", "()I"⟩ ∈ wsG := wG 447 (by decide +kernel) (by decide +kernel)
theorem wf_448 : Cond.code ⟨"EdgeOfCard$Told", "all", "()I"⟩ prog_5_method_11_code 1 (Option.some Jvm.ClassFile.FieldType.int) ∈ wsG := wG 448 (by decide +kernel) (by decide +kernel)
theorem wf_449 : Cond.methodLink "EdgeOfCard" 165 ⟨"EdgeOfCard$Filling", "goesOn", "(III)Z"⟩ ∈ wsG := wG 449 (by decide +kernel) (by decide +kernel)
theorem wf_450 : Cond.instanceMethod ⟨"EdgeOfCard$Filling", "goesOn", "(III)Z"⟩ ∈ wsG := wG 450 (by decide +kernel) (by decide +kernel)
theorem wf_451 : Cond.selects "EdgeOfCard$Filling" ⟨"EdgeOfCard$Filling", "goesOn", "(III)Z"⟩ ⟨"EdgeOfCard$Filling", "goesOn", "(III)Z"⟩ ∈ wsG := wG 451 (by decide +kernel) (by decide +kernel)
theorem wf_452 : Cond.code ⟨"EdgeOfCard$Filling", "goesOn", "(III)Z"⟩ prog_2_method_4_code 6 (Option.some Jvm.ClassFile.FieldType.boolean) ∈ wsG := wG 452 (by decide +kernel) (by decide +kernel)
theorem wf_453 : Cond.methodLink "EdgeOfCard$Filling" 45 ⟨"EdgeOfCard$Filling", "begin", "(I)V"⟩ ∈ wsG := wG 453 (by decide +kernel) (by decide +kernel)
theorem wf_455 : Cond.instanceMethod ⟨"EdgeOfCard$Filling", "begin", "(I)V"⟩ ∈ wsG := wG 455 (by decide +kernel) (by decide +kernel)
theorem wf_456 : Cond.code ⟨"EdgeOfCard$Filling", "begin", "(I)V"⟩ prog_2_method_2_code 2 (Option.none : Option Jvm.ClassFile.FieldType) ∈ wsG := wG 456 (by decide +kernel) (by decide +kernel)
theorem wf_457 : Cond.methodLink "EdgeOfCard$Filling" 23 ⟨"EdgeOfCard$Told", "wideOf", "(I)I"⟩ ∈ wsG := wG 457 (by decide +kernel) (by decide +kernel)
theorem wf_458 : Cond.methodLink "EdgeOfCard$Filling" 29 ⟨"java/lang/Math", "max", "(II)I"⟩ ∈ wsG := wG 458 (by decide +kernel) (by decide +kernel)
theorem wf_459 : Cond.static ⟨"java/lang/Math", "max", "(II)I"⟩ ∈ wsG := wG 459 (by decide +kernel) (by decide +kernel)
theorem wf_460 : Cond.code ⟨"java/lang/Math", "max", "(II)I"⟩ prog_9_method_65_code 2 (Option.some Jvm.ClassFile.FieldType.int) ∈ wsG := wG 460 (by decide +kernel) (by decide +kernel)
theorem wf_462 : Cond.methodLink "EdgeOfCard$Filling" 55 ⟨"EdgeOfCard$Told", "of", "(II)I"⟩ ∈ wsG := wG 462 (by decide +kernel) (by decide +kernel)
theorem wf_463 : Cond.methodLink "EdgeOfCard$Filling" 58 ⟨"EdgeOfCard$Filling", "put", "(II)Z"⟩ ∈ wsG := wG 463 (by decide +kernel) (by decide +kernel)
theorem wf_465 : Cond.instanceMethod ⟨"EdgeOfCard$Filling", "put", "(II)Z"⟩ ∈ wsG := wG 465 (by decide +kernel) (by decide +kernel)
theorem wf_466 : Cond.code ⟨"EdgeOfCard$Filling", "put", "(II)Z"⟩ prog_2_method_3_code 5 (Option.some Jvm.ClassFile.FieldType.boolean) ∈ wsG := wG 466 (by decide +kernel) (by decide +kernel)
theorem wf_467 : Cond.methodLink "EdgeOfCardLaw" 73 ⟨"EdgeOfCard", "greatest", "()I"⟩ ∈ wsG := wG 467 (by decide +kernel) (by decide +kernel)
theorem wf_468 : Cond.instanceMethod ⟨"EdgeOfCard", "greatest", "()I"⟩ ∈ wsG := wG 468 (by decide +kernel) (by decide +kernel)
theorem wf_469 : Cond.selects "EdgeOfCard" ⟨"EdgeOfCard", "greatest", "()I"⟩ ⟨"EdgeOfCard", "greatest", "()I"⟩ ∈ wsG := wG 469 (by decide +kernel) (by decide +kernel)
theorem wf_470 : Cond.code ⟨"EdgeOfCard", "greatest", "()I"⟩ prog_1_method_17_code 2 (Option.some Jvm.ClassFile.FieldType.int) ∈ wsG := wG 470 (by decide +kernel) (by decide +kernel)
theorem wf_471 : Cond.methodLink "EdgeOfCardLaw" 77 ⟨"EdgeOfCard", "even", "(I)I"⟩ ∈ wsG := wG 471 (by decide +kernel) (by decide +kernel)
theorem wf_472 : Cond.instanceMethod ⟨"EdgeOfCard", "even", "(I)I"⟩ ∈ wsG := wG 472 (by decide +kernel) (by decide +kernel)
theorem wf_473 : Cond.selects "EdgeOfCard" ⟨"EdgeOfCard", "even", "(I)I"⟩ ⟨"EdgeOfCard", "even", "(I)I"⟩ ∈ wsG := wG 473 (by decide +kernel) (by decide +kernel)
theorem wf_474 : Cond.code ⟨"EdgeOfCard", "even", "(I)I"⟩ prog_1_method_18_code 3 (Option.some Jvm.ClassFile.FieldType.int) ∈ wsG := wG 474 (by decide +kernel) (by decide +kernel)
theorem wf_475 : Cond.methodLink "EdgeOfCard" 170 ⟨"EdgeOfCard", "greatest", "()I"⟩ ∈ wsG := wG 475 (by decide +kernel) (by decide +kernel)
theorem wf_476 : Cond.methodLink "EdgeOfCardLaw" 81 ⟨"EdgeOfCard", "kept", "(II)I"⟩ ∈ wsG := wG 476 (by decide +kernel) (by decide +kernel)
theorem wf_477 : Cond.instanceMethod ⟨"EdgeOfCard", "kept", "(II)I"⟩ ∈ wsG := wG 477 (by decide +kernel) (by decide +kernel)
theorem wf_478 : Cond.selects "EdgeOfCard" ⟨"EdgeOfCard", "kept", "(II)I"⟩ ⟨"EdgeOfCard", "kept", "(II)I"⟩ ∈ wsG := wG 478 (by decide +kernel) (by decide +kernel)
theorem wf_479 : Cond.code ⟨"EdgeOfCard", "kept", "(II)I"⟩ prog_1_method_19_code 4 (Option.some Jvm.ClassFile.FieldType.int) ∈ wsG := wG 479 (by decide +kernel) (by decide +kernel)
theorem wf_480 : Cond.methodLink "EdgeOfCard" 173 ⟨"EdgeOfCard", "bestSet", "(II)I"⟩ ∈ wsG := wG 480 (by decide +kernel) (by decide +kernel)
theorem wf_482 : Cond.instanceMethod ⟨"EdgeOfCard", "bestSet", "(II)I"⟩ ∈ wsG := wG 482 (by decide +kernel) (by decide +kernel)
theorem wf_483 : Cond.code ⟨"EdgeOfCard", "bestSet", "(II)I"⟩ prog_1_method_21_code 10 (Option.some Jvm.ClassFile.FieldType.int) ∈ wsG := wG 483 (by decide +kernel) (by decide +kernel)
theorem wf_484 : Cond.methodLink "EdgeOfCard" 176 ⟨"java/lang/Integer", "bitCount", "(I)I"⟩ ∈ wsG := wG 484 (by decide +kernel) (by decide +kernel)
theorem wf_485 : Cond.methodLink "EdgeOfCard" 181 ⟨"EdgeOfCard$Told", "hasItsNeeds", "(I)Z"⟩ ∈ wsG := wG 485 (by decide +kernel) (by decide +kernel)
theorem wf_486 : Cond.instanceMethod ⟨"EdgeOfCard$Told", "hasItsNeeds", "(I)Z"⟩ ∈ wsG := wG 486 (by decide +kernel) (by decide +kernel)
theorem wf_487 : Cond.selects "EdgeOfCard$Told" ⟨"EdgeOfCard$Told", "hasItsNeeds", "(I)Z"⟩ ⟨"EdgeOfCard$Told", "hasItsNeeds", "(I)Z"⟩ ∈ wsG := wG 487 (by decide +kernel) (by decide +kernel)
theorem wf_488 : Cond.code ⟨"EdgeOfCard$Told", "hasItsNeeds", "(I)Z"⟩ prog_5_method_13_code 3 (Option.some Jvm.ClassFile.FieldType.boolean) ∈ wsG := wG 488 (by decide +kernel) (by decide +kernel)
theorem wf_489 : Cond.methodLink "EdgeOfCard$Told" 52 ⟨"EdgeOfCard$Told", "needsAny", "(I)Z"⟩ ∈ wsG := wG 489 (by decide +kernel) (by decide +kernel)
theorem wf_490 : Cond.methodLink "EdgeOfCardLaw" 85 ⟨"EdgeOfCard", "telegram", "(II)I"⟩ ∈ wsG := wG 490 (by decide +kernel) (by decide +kernel)
theorem wf_491 : Cond.instanceMethod ⟨"EdgeOfCard", "telegram", "(II)I"⟩ ∈ wsG := wG 491 (by decide +kernel) (by decide +kernel)
theorem wf_492 : Cond.selects "EdgeOfCard" ⟨"EdgeOfCard", "telegram", "(II)I"⟩ ⟨"EdgeOfCard", "telegram", "(II)I"⟩ ∈ wsG := wG 492 (by decide +kernel) (by decide +kernel)
theorem wf_493 : Cond.code ⟨"EdgeOfCard", "telegram", "(II)I"⟩ prog_1_method_20_code 4 (Option.some Jvm.ClassFile.FieldType.int) ∈ wsG := wG 493 (by decide +kernel) (by decide +kernel)
theorem wf_494 : Cond.methodLink "EdgeOfCardLaw" 89 ⟨"EdgeOfCard", "begun", "(II)I"⟩ ∈ wsG := wG 494 (by decide +kernel) (by decide +kernel)
theorem wf_495 : Cond.instanceMethod ⟨"EdgeOfCard", "begun", "(II)I"⟩ ∈ wsG := wG 495 (by decide +kernel) (by decide +kernel)
theorem wf_496 : Cond.selects "EdgeOfCard" ⟨"EdgeOfCard", "begun", "(II)I"⟩ ⟨"EdgeOfCard", "begun", "(II)I"⟩ ∈ wsG := wG 496 (by decide +kernel) (by decide +kernel)
theorem wf_497 : Cond.code ⟨"EdgeOfCard", "begun", "(II)I"⟩ prog_1_method_22_code 3 (Option.some Jvm.ClassFile.FieldType.int) ∈ wsG := wG 497 (by decide +kernel) (by decide +kernel)
theorem wf_498 : Cond.methodLink "EdgeOfCard" 184 ⟨"EdgeOfCard$Filling", "howFar", "(II)I"⟩ ∈ wsG := wG 498 (by decide +kernel) (by decide +kernel)
theorem wf_499 : Cond.instanceMethod ⟨"EdgeOfCard$Filling", "howFar", "(II)I"⟩ ∈ wsG := wG 499 (by decide +kernel) (by decide +kernel)
theorem wf_500 : Cond.selects "EdgeOfCard$Filling" ⟨"EdgeOfCard$Filling", "howFar", "(II)I"⟩ ⟨"EdgeOfCard$Filling", "howFar", "(II)I"⟩ ∈ wsG := wG 500 (by decide +kernel) (by decide +kernel)
theorem wf_501 : Cond.code ⟨"EdgeOfCard$Filling", "howFar", "(II)I"⟩ prog_2_method_6_code 4 (Option.some Jvm.ClassFile.FieldType.int) ∈ wsG := wG 501 (by decide +kernel) (by decide +kernel)
theorem wf_502 : Cond.methodLink "EdgeOfCardLaw" 93 ⟨"EdgeOfCard", "odds", "(III)J"⟩ ∈ wsG := wG 502 (by decide +kernel) (by decide +kernel)
theorem wf_503 : Cond.instanceMethod ⟨"EdgeOfCard", "odds", "(III)J"⟩ ∈ wsG := wG 503 (by decide +kernel) (by decide +kernel)
theorem wf_504 : Cond.selects "EdgeOfCard" ⟨"EdgeOfCard", "odds", "(III)J"⟩ ⟨"EdgeOfCard", "odds", "(III)J"⟩ ∈ wsG := wG 504 (by decide +kernel) (by decide +kernel)
theorem wf_505 : Cond.code ⟨"EdgeOfCard", "odds", "(III)J"⟩ prog_1_method_23_code 9 (Option.some Jvm.ClassFile.FieldType.long) ∈ wsG := wG 505 (by decide +kernel) (by decide +kernel)
theorem wf_506 : Cond.constantLong "EdgeOfCard" 187 (-1) ∈ wsG := wG 506 (by decide +kernel) (by decide +kernel)
theorem wf_507 : Cond.methodLink "EdgeOfCard" 192 ⟨"java/lang/Math", "min", "(II)I"⟩ ∈ wsG := wG 507 (by decide +kernel) (by decide +kernel)
theorem wf_508 : Cond.methodLink "EdgeOfCard" 197 ⟨"EdgeOfCard", "power", "(II)J"⟩ ∈ wsG := wG 508 (by decide +kernel) (by decide +kernel)
theorem wf_509 : Cond.static ⟨"EdgeOfCard", "power", "(II)J"⟩ ∈ wsG := wG 509 (by decide +kernel) (by decide +kernel)
theorem wf_510 : Cond.code ⟨"EdgeOfCard", "power", "(II)J"⟩ prog_1_method_25_code 5 (Option.some Jvm.ClassFile.FieldType.long) ∈ wsG := wG 510 (by decide +kernel) (by decide +kernel)
theorem wf_511 : Cond.methodLink "EdgeOfCard" 201 ⟨"EdgeOfCard", "leastTerm", "(JII)J"⟩ ∈ wsG := wG 511 (by decide +kernel) (by decide +kernel)
theorem wf_512 : Cond.static ⟨"EdgeOfCard", "leastTerm", "(JII)J"⟩ ∈ wsG := wG 512 (by decide +kernel) (by decide +kernel)
theorem wf_513 : Cond.code ⟨"EdgeOfCard", "leastTerm", "(JII)J"⟩ prog_1_method_24_code 7 (Option.some Jvm.ClassFile.FieldType.long) ∈ wsG := wG 513 (by decide +kernel) (by decide +kernel)
theorem wf_514 : Cond.constantLong "EdgeOfCard" 205 (2) ∈ wsG := wG 514 (by decide +kernel) (by decide +kernel)
theorem wf_515 : Cond.constantLong "EdgeOfCard" 207 (5) ∈ wsG := wG 515 (by decide +kernel) (by decide +kernel)
theorem wf_516 : Cond.methodLink "EdgeOfCardLaw" 98 ⟨"EdgeOfCard", "saw", "(II)I"⟩ ∈ wsG := wG 516 (by decide +kernel) (by decide +kernel)
theorem wf_517 : Cond.instanceMethod ⟨"EdgeOfCard", "saw", "(II)I"⟩ ∈ wsG := wG 517 (by decide +kernel) (by decide +kernel)
theorem wf_518 : Cond.selects "EdgeOfCard" ⟨"EdgeOfCard", "saw", "(II)I"⟩ ⟨"EdgeOfCard", "saw", "(II)I"⟩ ∈ wsG := wG 518 (by decide +kernel) (by decide +kernel)
theorem wf_519 : Cond.code ⟨"EdgeOfCard", "saw", "(II)I"⟩ prog_1_method_26_code 3 (Option.some Jvm.ClassFile.FieldType.int) ∈ wsG := wG 519 (by decide +kernel) (by decide +kernel)
theorem wf_520 : Cond.methodLink "EdgeOfCardLaw" 102 ⟨"EdgeOfCard", "forget", "()I"⟩ ∈ wsG := wG 520 (by decide +kernel) (by decide +kernel)
theorem wf_521 : Cond.instanceMethod ⟨"EdgeOfCard", "forget", "()I"⟩ ∈ wsG := wG 521 (by decide +kernel) (by decide +kernel)
theorem wf_522 : Cond.selects "EdgeOfCard" ⟨"EdgeOfCard", "forget", "()I"⟩ ⟨"EdgeOfCard", "forget", "()I"⟩ ∈ wsG := wG 522 (by decide +kernel) (by decide +kernel)
theorem wf_523 : Cond.code ⟨"EdgeOfCard", "forget", "()I"⟩ prog_1_method_27_code 2 (Option.some Jvm.ClassFile.FieldType.int) ∈ wsG := wG 523 (by decide +kernel) (by decide +kernel)
theorem wf_524 : Cond.methodLink "EdgeOfCardLaw" 106 ⟨"EdgeOfCard", "sizes", "()I"⟩ ∈ wsG := wG 524 (by decide +kernel) (by decide +kernel)
theorem wf_525 : Cond.instanceMethod ⟨"EdgeOfCard", "sizes", "()I"⟩ ∈ wsG := wG 525 (by decide +kernel) (by decide +kernel)
theorem wf_526 : Cond.selects "EdgeOfCard" ⟨"EdgeOfCard", "sizes", "()I"⟩ ⟨"EdgeOfCard", "sizes", "()I"⟩ ∈ wsG := wG 526 (by decide +kernel) (by decide +kernel)
theorem wf_527 : Cond.code ⟨"EdgeOfCard", "sizes", "()I"⟩ prog_1_method_28_code 3 (Option.some Jvm.ClassFile.FieldType.int) ∈ wsG := wG 527 (by decide +kernel) (by decide +kernel)
theorem wf_528 : Cond.methodLink "EdgeOfCard" 209 ⟨"EdgeOfCard", "isAsSeen", "()Z"⟩ ∈ wsG := wG 528 (by decide +kernel) (by decide +kernel)
theorem wf_530 : Cond.instanceMethod ⟨"EdgeOfCard", "isAsSeen", "()Z"⟩ ∈ wsG := wG 530 (by decide +kernel) (by decide +kernel)
theorem wf_531 : Cond.code ⟨"EdgeOfCard", "isAsSeen", "()Z"⟩ prog_1_method_29_code 2 (Option.some Jvm.ClassFile.FieldType.boolean) ∈ wsG := wG 531 (by decide +kernel) (by decide +kernel)
theorem wf_532 : Cond.methodLink "EdgeOfCard" 212 ⟨"EdgeOfCard$Filling", "lineOfPiece", "(I)I"⟩ ∈ wsG := wG 532 (by decide +kernel) (by decide +kernel)
theorem wf_533 : Cond.instanceMethod ⟨"EdgeOfCard$Filling", "lineOfPiece", "(I)I"⟩ ∈ wsG := wG 533 (by decide +kernel) (by decide +kernel)
theorem wf_534 : Cond.selects "EdgeOfCard$Filling" ⟨"EdgeOfCard$Filling", "lineOfPiece", "(I)I"⟩ ⟨"EdgeOfCard$Filling", "lineOfPiece", "(I)I"⟩ ∈ wsG := wG 534 (by decide +kernel) (by decide +kernel)
theorem wf_535 : Cond.code ⟨"EdgeOfCard$Filling", "lineOfPiece", "(I)I"⟩ prog_2_method_5_code 2 (Option.some Jvm.ClassFile.FieldType.int) ∈ wsG := wG 535 (by decide +kernel) (by decide +kernel)
theorem wf_536 : Cond.methodLink "EdgeOfCard$Filling" 62 ⟨"EdgeOfCard$Told", "hasPiece", "(I)Z"⟩ ∈ wsG := wG 536 (by decide +kernel) (by decide +kernel)
theorem wf_537 : Cond.methodLink "EdgeOfCardLaw" 110 ⟨"EdgeOfCard", "two", "(I)I"⟩ ∈ wsG := wG 537 (by decide +kernel) (by decide +kernel)
theorem wf_538 : Cond.instanceMethod ⟨"EdgeOfCard", "two", "(I)I"⟩ ∈ wsG := wG 538 (by decide +kernel) (by decide +kernel)
theorem wf_539 : Cond.selects "EdgeOfCard" ⟨"EdgeOfCard", "two", "(I)I"⟩ ⟨"EdgeOfCard", "two", "(I)I"⟩ ∈ wsG := wG 539 (by decide +kernel) (by decide +kernel)
theorem wf_540 : Cond.code ⟨"EdgeOfCard", "two", "(I)I"⟩ prog_1_method_30_code 5 (Option.some Jvm.ClassFile.FieldType.int) ∈ wsG := wG 540 (by decide +kernel) (by decide +kernel)
theorem wf_541 : Cond.methodLink "EdgeOfCardLaw" 114 ⟨"EdgeOfCard", "mark", "(II)I"⟩ ∈ wsG := wG 541 (by decide +kernel) (by decide +kernel)
theorem wf_542 : Cond.instanceMethod ⟨"EdgeOfCard", "mark", "(II)I"⟩ ∈ wsG := wG 542 (by decide +kernel) (by decide +kernel)
theorem wf_543 : Cond.selects "EdgeOfCard" ⟨"EdgeOfCard", "mark", "(II)I"⟩ ⟨"EdgeOfCard", "mark", "(II)I"⟩ ∈ wsG := wG 543 (by decide +kernel) (by decide +kernel)
theorem wf_544 : Cond.code ⟨"EdgeOfCard", "mark", "(II)I"⟩ prog_1_method_31_code 3 (Option.some Jvm.ClassFile.FieldType.int) ∈ wsG := wG 544 (by decide +kernel) (by decide +kernel)
theorem wf_545 : Cond.constant "EdgeOfCard" 215 (-1000000) ∈ wsG := wG 545 (by decide +kernel) (by decide +kernel)
theorem wf_546 : Cond.methodLink "EdgeOfCard" 216 ⟨"EdgeOfCard", "asPiece", "(I)I"⟩ ∈ wsG := wG 546 (by decide +kernel) (by decide +kernel)
theorem wf_548 : Cond.instanceMethod ⟨"EdgeOfCard", "asPiece", "(I)I"⟩ ∈ wsG := wG 548 (by decide +kernel) (by decide +kernel)
theorem wf_549 : Cond.code ⟨"EdgeOfCard", "asPiece", "(I)I"⟩ prog_1_method_32_code 2 (Option.some Jvm.ClassFile.FieldType.int) ∈ wsG := wG 549 (by decide +kernel) (by decide +kernel)
theorem wf_550 : Cond.methodLink "EdgeOfCard" 219 ⟨"EdgeOfCard", "asShort", "(I)I"⟩ ∈ wsG := wG 550 (by decide +kernel) (by decide +kernel)
theorem wf_552 : Cond.instanceMethod ⟨"EdgeOfCard", "asShort", "(I)I"⟩ ∈ wsG := wG 552 (by decide +kernel) (by decide +kernel)
theorem wf_553 : Cond.code ⟨"EdgeOfCard", "asShort", "(I)I"⟩ prog_1_method_33_code 2 (Option.some Jvm.ClassFile.FieldType.int) ∈ wsG := wG 553 (by decide +kernel) (by decide +kernel)
theorem wf_554 : Cond.constantLong "EdgeOfCard" 238 (10) ∈ wsG := wG 554 (by decide +kernel) (by decide +kernel)
theorem wf_555 : Cond.methodLink "EdgeOfCard" 222 ⟨"EdgeOfCard", "asLong", "(I)I"⟩ ∈ wsG := wG 555 (by decide +kernel) (by decide +kernel)
theorem wf_557 : Cond.instanceMethod ⟨"EdgeOfCard", "asLong", "(I)I"⟩ ∈ wsG := wG 557 (by decide +kernel) (by decide +kernel)
theorem wf_558 : Cond.code ⟨"EdgeOfCard", "asLong", "(I)I"⟩ prog_1_method_34_code 2 (Option.some Jvm.ClassFile.FieldType.int) ∈ wsG := wG 558 (by decide +kernel) (by decide +kernel)
theorem wf_559 : Cond.constantLong "EdgeOfCard" 240 (100) ∈ wsG := wG 559 (by decide +kernel) (by decide +kernel)
theorem wf_560 : Cond.methodLink "EdgeOfCard" 225 ⟨"EdgeOfCard", "asSign", "(I)I"⟩ ∈ wsG := wG 560 (by decide +kernel) (by decide +kernel)
theorem wf_562 : Cond.instanceMethod ⟨"EdgeOfCard", "asSign", "(I)I"⟩ ∈ wsG := wG 562 (by decide +kernel) (by decide +kernel)
theorem wf_563 : Cond.code ⟨"EdgeOfCard", "asSign", "(I)I"⟩ prog_1_method_35_code 2 (Option.some Jvm.ClassFile.FieldType.int) ∈ wsG := wG 563 (by decide +kernel) (by decide +kernel)
theorem wf_564 : Cond.constantLong "EdgeOfCard" 242 (1000) ∈ wsG := wG 564 (by decide +kernel) (by decide +kernel)
theorem wf_565 : Cond.methodLink "EdgeOfCard" 228 ⟨"EdgeOfCard", "asMargin", "(I)I"⟩ ∈ wsG := wG 565 (by decide +kernel) (by decide +kernel)
theorem wf_567 : Cond.instanceMethod ⟨"EdgeOfCard", "asMargin", "(I)I"⟩ ∈ wsG := wG 567 (by decide +kernel) (by decide +kernel)
theorem wf_568 : Cond.code ⟨"EdgeOfCard", "asMargin", "(I)I"⟩ prog_1_method_36_code 2 (Option.some Jvm.ClassFile.FieldType.int) ∈ wsG := wG 568 (by decide +kernel) (by decide +kernel)
theorem wf_569 : Cond.constantLong "EdgeOfCard" 244 (10000) ∈ wsG := wG 569 (by decide +kernel) (by decide +kernel)
theorem wf_570 : Cond.methodLink "EdgeOfCard" 231 ⟨"EdgeOfCard", "asKiss", "(I)I"⟩ ∈ wsG := wG 570 (by decide +kernel) (by decide +kernel)
theorem wf_572 : Cond.instanceMethod ⟨"EdgeOfCard", "asKiss", "(I)I"⟩ ∈ wsG := wG 572 (by decide +kernel) (by decide +kernel)
theorem wf_573 : Cond.code ⟨"EdgeOfCard", "asKiss", "(I)I"⟩ prog_1_method_37_code 2 (Option.some Jvm.ClassFile.FieldType.int) ∈ wsG := wG 573 (by decide +kernel) (by decide +kernel)
theorem wf_574 : Cond.constantLong "EdgeOfCard" 246 (100000) ∈ wsG := wG 574 (by decide +kernel) (by decide +kernel)
theorem wf_575 : Cond.methodLink "EdgeOfCardLaw" 118 ⟨"EdgeOfCard", "keep", "(I)I"⟩ ∈ wsG := wG 575 (by decide +kernel) (by decide +kernel)
theorem wf_576 : Cond.instanceMethod ⟨"EdgeOfCard", "keep", "(I)I"⟩ ∈ wsG := wG 576 (by decide +kernel) (by decide +kernel)
theorem wf_577 : Cond.selects "EdgeOfCard" ⟨"EdgeOfCard", "keep", "(I)I"⟩ ⟨"EdgeOfCard", "keep", "(I)I"⟩ ∈ wsG := wG 577 (by decide +kernel) (by decide +kernel)
theorem wf_578 : Cond.code ⟨"EdgeOfCard", "keep", "(I)I"⟩ prog_1_method_38_code 2 (Option.some Jvm.ClassFile.FieldType.int) ∈ wsG := wG 578 (by decide +kernel) (by decide +kernel)
theorem wf_579 : Cond.methodLink "EdgeOfCard" 248 ⟨"EdgeOfCard", "imageOf", "(I)LEdgeOfCard$Hand;"⟩ ∈ wsG := wG 579 (by decide +kernel) (by decide +kernel)
theorem wf_581 : Cond.instanceMethod ⟨"EdgeOfCard", "imageOf", "(I)LEdgeOfCard$Hand;"⟩ ∈ wsG := wG 581 (by decide +kernel) (by decide +kernel)
theorem wf_582 : Cond.code ⟨"EdgeOfCard", "imageOf", "(I)LEdgeOfCard$Hand;"⟩ prog_1_method_40_code 2 (Option.some (Jvm.ClassFile.FieldType.object "EdgeOfCard$Hand")) ∈ wsG := wG 582 (by decide +kernel) (by decide +kernel)
theorem wf_583 : Cond.methodLink "EdgeOfCard" 252 ⟨"EdgeOfCard$Hand", "become", "(LEdgeOfCard$Hand;)V"⟩ ∈ wsG := wG 583 (by decide +kernel) (by decide +kernel)
theorem wf_584 : Cond.instanceMethod ⟨"EdgeOfCard$Hand", "become", "(LEdgeOfCard$Hand;)V"⟩ ∈ wsG := wG 584 (by decide +kernel) (by decide +kernel)
theorem wf_585 : Cond.selects "EdgeOfCard$Hand" ⟨"EdgeOfCard$Hand", "become", "(LEdgeOfCard$Hand;)V"⟩ ⟨"EdgeOfCard$Hand", "become", "(LEdgeOfCard$Hand;)V"⟩ ∈ wsG := wG 585 (by decide +kernel) (by decide +kernel)
theorem wf_586 : Cond.code ⟨"EdgeOfCard$Hand", "become", "(LEdgeOfCard$Hand;)V"⟩ prog_3_method_3_code 2 (Option.none : Option Jvm.ClassFile.FieldType) ∈ wsG := wG 586 (by decide +kernel) (by decide +kernel)
theorem wf_587 : Cond.methodLink "EdgeOfCardLaw" 122 ⟨"EdgeOfCard", "back", "(I)I"⟩ ∈ wsG := wG 587 (by decide +kernel) (by decide +kernel)
theorem wf_588 : Cond.instanceMethod ⟨"EdgeOfCard", "back", "(I)I"⟩ ∈ wsG := wG 588 (by decide +kernel) (by decide +kernel)
theorem wf_589 : Cond.selects "EdgeOfCard" ⟨"EdgeOfCard", "back", "(I)I"⟩ ⟨"EdgeOfCard", "back", "(I)I"⟩ ∈ wsG := wG 589 (by decide +kernel) (by decide +kernel)
theorem wf_590 : Cond.code ⟨"EdgeOfCard", "back", "(I)I"⟩ prog_1_method_39_code 2 (Option.some Jvm.ClassFile.FieldType.int) ∈ wsG := wG 590 (by decide +kernel) (by decide +kernel)
theorem wf_591 : Cond.methodLink "EdgeOfCardLaw" 126 ⟨"EdgeOfCard", "count", "(I)I"⟩ ∈ wsG := wG 591 (by decide +kernel) (by decide +kernel)
theorem wf_592 : Cond.instanceMethod ⟨"EdgeOfCard", "count", "(I)I"⟩ ∈ wsG := wG 592 (by decide +kernel) (by decide +kernel)
theorem wf_593 : Cond.selects "EdgeOfCard" ⟨"EdgeOfCard", "count", "(I)I"⟩ ⟨"EdgeOfCard", "count", "(I)I"⟩ ∈ wsG := wG 593 (by decide +kernel) (by decide +kernel)
theorem wf_594 : Cond.code ⟨"EdgeOfCard", "count", "(I)I"⟩ prog_1_method_41_code 2 (Option.some Jvm.ClassFile.FieldType.int) ∈ wsG := wG 594 (by decide +kernel) (by decide +kernel)
theorem wf_595 : Cond.methodLink "EdgeOfCardLaw" 130 ⟨"EdgeOfCard", "trace", "()J"⟩ ∈ wsG := wG 595 (by decide +kernel) (by decide +kernel)
theorem wf_596 : Cond.instanceMethod ⟨"EdgeOfCard", "trace", "()J"⟩ ∈ wsG := wG 596 (by decide +kernel) (by decide +kernel)
theorem wf_597 : Cond.selects "EdgeOfCard" ⟨"EdgeOfCard", "trace", "()J"⟩ ⟨"EdgeOfCard", "trace", "()J"⟩ ∈ wsG := wG 597 (by decide +kernel) (by decide +kernel)
theorem wf_598 : Cond.code ⟨"EdgeOfCard", "trace", "()J"⟩ prog_1_method_42_code 1 (Option.some Jvm.ClassFile.FieldType.long) ∈ wsG := wG 598 (by decide +kernel) (by decide +kernel)
theorem wf_599 : Cond.classLink "EdgeOfCardLaw" 10 "EdgeOfCardModel" ∈ wsG := wG 599 (by decide +kernel) (by decide +kernel)
theorem wf_600 : Cond.instantiable "EdgeOfCardModel" 27 ∈ wsG := wG 600 (by decide +kernel) (by decide +kernel)
theorem wf_601 : Cond.methodLink "EdgeOfCardLaw" 12 ⟨"EdgeOfCardModel", "<init>", "()V"⟩ ∈ wsG := wG 601 (by decide +kernel) (by decide +kernel)
theorem wf_602 : Cond.instanceMethod ⟨"EdgeOfCardModel", "<init>", "()V"⟩ ∈ wsG := wG 602 (by decide +kernel) (by decide +kernel)
theorem wf_603 : Cond.code ⟨"EdgeOfCardModel", "<init>", "()V"⟩ prog_7_method_1_code 1 (Option.none : Option Jvm.ClassFile.FieldType) ∈ wsG := wG 603 (by decide +kernel) (by decide +kernel)
theorem wf_604 : Cond.methodLink "EdgeOfCardModel" 1 ⟨"java/lang/Object", "<init>", "()V"⟩ ∈ wsG := wG 604 (by decide +kernel) (by decide +kernel)
theorem wf_605 : Cond.fieldLink "EdgeOfCardModel" 187 "EdgeOfCardModel" "trace" "J" ∈ wsG := wG 605 (by decide +kernel) (by decide +kernel)
theorem wf_606 : Cond.fieldLink "EdgeOfCardModel" 7 "EdgeOfCardModel" "text" "[B" ∈ wsG := wG 606 (by decide +kernel) (by decide +kernel)
theorem wf_607 : Cond.fieldLink "EdgeOfCardModel" 55 "EdgeOfCardModel" "typed" "I" ∈ wsG := wG 607 (by decide +kernel) (by decide +kernel)
theorem wf_608 : Cond.fieldLink "EdgeOfCardModel" 13 "EdgeOfCardModel" "lines" "[I" ∈ wsG := wG 608 (by decide +kernel) (by decide +kernel)
theorem wf_609 : Cond.fieldLink "EdgeOfCardModel" 17 "EdgeOfCardModel" "wide" "[I" ∈ wsG := wG 609 (by decide +kernel) (by decide +kernel)
theorem wf_610 : Cond.fieldLink "EdgeOfCardModel" 20 "EdgeOfCardModel" "pieces" "[I" ∈ wsG := wG 610 (by decide +kernel) (by decide +kernel)
theorem wf_611 : Cond.fieldLink "EdgeOfCardModel" 23 "EdgeOfCardModel" "told" "[I" ∈ wsG := wG 611 (by decide +kernel) (by decide +kernel)
theorem wf_612 : Cond.fieldLink "EdgeOfCardModel" 26 "EdgeOfCardModel" "least" "[I" ∈ wsG := wG 612 (by decide +kernel) (by decide +kernel)
theorem wf_613 : Cond.fieldLink "EdgeOfCardModel" 59 "EdgeOfCardModel" "at" "I" ∈ wsG := wG 613 (by decide +kernel) (by decide +kernel)
theorem wf_614 : Cond.fieldLink "EdgeOfCardModel" 66 "EdgeOfCardModel" "start" "I" ∈ wsG := wG 614 (by decide +kernel) (by decide +kernel)
theorem wf_615 : Cond.fieldLink "EdgeOfCardModel" 72 "EdgeOfCardModel" "sort" "I" ∈ wsG := wG 615 (by decide +kernel) (by decide +kernel)
theorem wf_616 : Cond.fieldLink "EdgeOfCardModel" 69 "EdgeOfCardModel" "value" "I" ∈ wsG := wG 616 (by decide +kernel) (by decide +kernel)
theorem wf_617 : Cond.fieldLink "EdgeOfCardModel" 75 "EdgeOfCardModel" "fault" "I" ∈ wsG := wG 617 (by decide +kernel) (by decide +kernel)
theorem wf_618 : Cond.fieldLink "EdgeOfCardModel" 85 "EdgeOfCardModel" "hasLeast" "Z" ∈ wsG := wG 618 (by decide +kernel) (by decide +kernel)
theorem wf_619 : Cond.fieldLink "EdgeOfCardModel" 29 "EdgeOfCardModel" "now" "[I" ∈ wsG := wG 619 (by decide +kernel) (by decide +kernel)
theorem wf_620 : Cond.fieldLink "EdgeOfCardModel" 32 "EdgeOfCardModel" "isKept" "[Z" ∈ wsG := wG 620 (by decide +kernel) (by decide +kernel)
theorem wf_621 : Cond.fieldLink "EdgeOfCardModel" 36 "EdgeOfCardModel" "sizeOf" "[I" ∈ wsG := wG 621 (by decide +kernel) (by decide +kernel)
theorem wf_622 : Cond.fieldLink "EdgeOfCardModel" 140 "EdgeOfCardModel" "lost" "I" ∈ wsG := wG 622 (by decide +kernel) (by decide +kernel)
theorem wf_623 : Cond.fieldLink "EdgeOfCardModel" 143 "EdgeOfCardModel" "longer" "I" ∈ wsG := wG 623 (by decide +kernel) (by decide +kernel)
theorem wf_624 : Cond.fieldLink "EdgeOfCardModel" 39 "EdgeOfCardModel" "lineOf" "[I" ∈ wsG := wG 624 (by decide +kernel) (by decide +kernel)
theorem wf_625 : Cond.fieldLink "EdgeOfCardModel" 146 "EdgeOfCardModel" "wentOn" "I" ∈ wsG := wG 625 (by decide +kernel) (by decide +kernel)
theorem wf_626 : Cond.fieldLink "EdgeOfCardModel" 149 "EdgeOfCardModel" "lastLine" "I" ∈ wsG := wG 626 (by decide +kernel) (by decide +kernel)
theorem wf_627 : Cond.fieldLink "EdgeOfCardModel" 152 "EdgeOfCardModel" "spare" "I" ∈ wsG := wG 627 (by decide +kernel) (by decide +kernel)
theorem wf_628 : Cond.fieldLink "EdgeOfCardModel" 42 "EdgeOfCardModel" "bestSizes" "[I" ∈ wsG := wG 628 (by decide +kernel) (by decide +kernel)
theorem wf_629 : Cond.fieldLink "EdgeOfCardModel" 45 "EdgeOfCardModel" "seenWord" "[I" ∈ wsG := wG 629 (by decide +kernel) (by decide +kernel)
theorem wf_630 : Cond.fieldLink "EdgeOfCardModel" 48 "EdgeOfCardModel" "seenLine" "[I" ∈ wsG := wG 630 (by decide +kernel) (by decide +kernel)
theorem wf_631 : Cond.fieldLink "EdgeOfCardModel" 101 "EdgeOfCardModel" "seen" "I" ∈ wsG := wG 631 (by decide +kernel) (by decide +kernel)
theorem wf_687 : Cond.arrayClass .byte ∈ wsG := wG 687 (by decide +kernel) (by decide +kernel)
theorem wf_688 : Cond.arrayClass .boolean ∈ wsG := wG 688 (by decide +kernel) (by decide +kernel)
theorem wf_689 : Cond.methodLink "EdgeOfCardLaw" 17 ⟨"EdgeOfCardModel", "type", "(I)I"⟩ ∈ wsG := wG 689 (by decide +kernel) (by decide +kernel)
theorem wf_690 : Cond.instanceMethod ⟨"EdgeOfCardModel", "type", "(I)I"⟩ ∈ wsG := wG 690 (by decide +kernel) (by decide +kernel)
theorem wf_691 : Cond.selects "EdgeOfCardModel" ⟨"EdgeOfCardModel", "type", "(I)I"⟩ ⟨"EdgeOfCardModel", "type", "(I)I"⟩ ∈ wsG := wG 691 (by decide +kernel) (by decide +kernel)
theorem wf_692 : Cond.code ⟨"EdgeOfCardModel", "type", "(I)I"⟩ prog_7_method_4_code 2 (Option.some Jvm.ClassFile.FieldType.int) ∈ wsG := wG 692 (by decide +kernel) (by decide +kernel)
theorem wf_693 : Cond.methodLink "EdgeOfCardModel" 51 ⟨"EdgeOfCardModel", "in", "(III)Z"⟩ ∈ wsG := wG 693 (by decide +kernel) (by decide +kernel)
theorem wf_694 : Cond.static ⟨"EdgeOfCardModel", "in", "(III)Z"⟩ ∈ wsG := wG 694 (by decide +kernel) (by decide +kernel)
theorem wf_695 : Cond.code ⟨"EdgeOfCardModel", "in", "(III)Z"⟩ prog_7_method_3_code 3 (Option.some Jvm.ClassFile.FieldType.boolean) ∈ wsG := wG 695 (by decide +kernel) (by decide +kernel)
theorem wf_696 : Cond.methodLink "EdgeOfCardLaw" 22 ⟨"EdgeOfCardModel", "clear", "()I"⟩ ∈ wsG := wG 696 (by decide +kernel) (by decide +kernel)
theorem wf_697 : Cond.instanceMethod ⟨"EdgeOfCardModel", "clear", "()I"⟩ ∈ wsG := wG 697 (by decide +kernel) (by decide +kernel)
theorem wf_698 : Cond.selects "EdgeOfCardModel" ⟨"EdgeOfCardModel", "clear", "()I"⟩ ⟨"EdgeOfCardModel", "clear", "()I"⟩ ∈ wsG := wG 698 (by decide +kernel) (by decide +kernel)
theorem wf_699 : Cond.code ⟨"EdgeOfCardModel", "clear", "()I"⟩ prog_7_method_5_code 2 (Option.some Jvm.ClassFile.FieldType.int) ∈ wsG := wG 699 (by decide +kernel) (by decide +kernel)
theorem wf_700 : Cond.methodLink "EdgeOfCardLaw" 26 ⟨"EdgeOfCardModel", "card", "()I"⟩ ∈ wsG := wG 700 (by decide +kernel) (by decide +kernel)
theorem wf_701 : Cond.instanceMethod ⟨"EdgeOfCardModel", "card", "()I"⟩ ∈ wsG := wG 701 (by decide +kernel) (by decide +kernel)
theorem wf_702 : Cond.selects "EdgeOfCardModel" ⟨"EdgeOfCardModel", "card", "()I"⟩ ⟨"EdgeOfCardModel", "card", "()I"⟩ ∈ wsG := wG 702 (by decide +kernel) (by decide +kernel)
theorem wf_703 : Cond.code ⟨"EdgeOfCardModel", "card", "()I"⟩ prog_7_method_12_code 3 (Option.some Jvm.ClassFile.FieldType.int) ∈ wsG := wG 703 (by decide +kernel) (by decide +kernel)
theorem wf_704 : Cond.methodLink "EdgeOfCardModel" 78 ⟨"EdgeOfCardModel", "next", "()V"⟩ ∈ wsG := wG 704 (by decide +kernel) (by decide +kernel)
theorem wf_706 : Cond.instanceMethod ⟨"EdgeOfCardModel", "next", "()V"⟩ ∈ wsG := wG 706 (by decide +kernel) (by decide +kernel)
theorem wf_707 : Cond.code ⟨"EdgeOfCardModel", "next", "()V"⟩ prog_7_method_7_code 2 (Option.none : Option Jvm.ClassFile.FieldType) ∈ wsG := wG 707 (by decide +kernel) (by decide +kernel)
theorem wf_708 : Cond.methodLink "EdgeOfCardModel" 62 ⟨"EdgeOfCardModel", "here", "()I"⟩ ∈ wsG := wG 708 (by decide +kernel) (by decide +kernel)
theorem wf_710 : Cond.instanceMethod ⟨"EdgeOfCardModel", "here", "()I"⟩ ∈ wsG := wG 710 (by decide +kernel) (by decide +kernel)
theorem wf_711 : Cond.code ⟨"EdgeOfCardModel", "here", "()I"⟩ prog_7_method_6_code 1 (Option.some Jvm.ClassFile.FieldType.int) ∈ wsG := wG 711 (by decide +kernel) (by decide +kernel)
theorem wf_712 : Cond.methodLink "EdgeOfCardModel" 93 ⟨"EdgeOfCardModel", "mayBe", "(I)Z"⟩ ∈ wsG := wG 712 (by decide +kernel) (by decide +kernel)
theorem wf_714 : Cond.instanceMethod ⟨"EdgeOfCardModel", "mayBe", "(I)Z"⟩ ∈ wsG := wG 714 (by decide +kernel) (by decide +kernel)
theorem wf_715 : Cond.code ⟨"EdgeOfCardModel", "mayBe", "(I)Z"⟩ prog_7_method_10_code 2 (Option.some Jvm.ClassFile.FieldType.boolean) ∈ wsG := wG 715 (by decide +kernel) (by decide +kernel)
theorem wf_716 : Cond.methodLink "EdgeOfCardModel" 81 ⟨"EdgeOfCardModel", "due", "(Z)I"⟩ ∈ wsG := wG 716 (by decide +kernel) (by decide +kernel)
theorem wf_718 : Cond.instanceMethod ⟨"EdgeOfCardModel", "due", "(Z)I"⟩ ∈ wsG := wG 718 (by decide +kernel) (by decide +kernel)
theorem wf_719 : Cond.code ⟨"EdgeOfCardModel", "due", "(Z)I"⟩ prog_7_method_8_code 3 (Option.some Jvm.ClassFile.FieldType.int) ∈ wsG := wG 719 (by decide +kernel) (by decide +kernel)
theorem wf_720 : Cond.methodLink "EdgeOfCardModel" 97 ⟨"EdgeOfCardModel", "readRow", "(I)V"⟩ ∈ wsG := wG 720 (by decide +kernel) (by decide +kernel)
theorem wf_722 : Cond.instanceMethod ⟨"EdgeOfCardModel", "readRow", "(I)V"⟩ ∈ wsG := wG 722 (by decide +kernel) (by decide +kernel)
theorem wf_723 : Cond.code ⟨"EdgeOfCardModel", "readRow", "(I)V"⟩ prog_7_method_11_code 4 (Option.none : Option Jvm.ClassFile.FieldType) ∈ wsG := wG 723 (by decide +kernel) (by decide +kernel)
theorem wf_724 : Cond.methodLink "EdgeOfCardModel" 89 ⟨"EdgeOfCardModel", "number", "(II)I"⟩ ∈ wsG := wG 724 (by decide +kernel) (by decide +kernel)
theorem wf_726 : Cond.instanceMethod ⟨"EdgeOfCardModel", "number", "(II)I"⟩ ∈ wsG := wG 726 (by decide +kernel) (by decide +kernel)
theorem wf_727 : Cond.code ⟨"EdgeOfCardModel", "number", "(II)I"⟩ prog_7_method_9_code 3 (Option.some Jvm.ClassFile.FieldType.int) ∈ wsG := wG 727 (by decide +kernel) (by decide +kernel)
theorem wf_728 : Cond.methodLink "EdgeOfCardLaw" 30 ⟨"EdgeOfCardModel", "line", "(I)I"⟩ ∈ wsG := wG 728 (by decide +kernel) (by decide +kernel)
theorem wf_729 : Cond.instanceMethod ⟨"EdgeOfCardModel", "line", "(I)I"⟩ ∈ wsG := wG 729 (by decide +kernel) (by decide +kernel)
theorem wf_730 : Cond.selects "EdgeOfCardModel" ⟨"EdgeOfCardModel", "line", "(I)I"⟩ ⟨"EdgeOfCardModel", "line", "(I)I"⟩ ∈ wsG := wG 730 (by decide +kernel) (by decide +kernel)
theorem wf_731 : Cond.code ⟨"EdgeOfCardModel", "line", "(I)I"⟩ prog_7_method_17_code 2 (Option.some Jvm.ClassFile.FieldType.int) ∈ wsG := wG 731 (by decide +kernel) (by decide +kernel)
theorem wf_732 : Cond.methodLink "EdgeOfCardModel" 104 ⟨"EdgeOfCardModel", "isLine", "(I)Z"⟩ ∈ wsG := wG 732 (by decide +kernel) (by decide +kernel)
theorem wf_734 : Cond.instanceMethod ⟨"EdgeOfCardModel", "isLine", "(I)Z"⟩ ∈ wsG := wG 734 (by decide +kernel) (by decide +kernel)
theorem wf_735 : Cond.code ⟨"EdgeOfCardModel", "isLine", "(I)Z"⟩ prog_7_method_14_code 2 (Option.some Jvm.ClassFile.FieldType.boolean) ∈ wsG := wG 735 (by decide +kernel) (by decide +kernel)
theorem wf_736 : Cond.methodLink "EdgeOfCardLaw" 35 ⟨"EdgeOfCardModel", "word", "(II)I"⟩ ∈ wsG := wG 736 (by decide +kernel) (by decide +kernel)
theorem wf_737 : Cond.instanceMethod ⟨"EdgeOfCardModel", "word", "(II)I"⟩ ∈ wsG := wG 737 (by decide +kernel) (by decide +kernel)
theorem wf_738 : Cond.selects "EdgeOfCardModel" ⟨"EdgeOfCardModel", "word", "(II)I"⟩ ⟨"EdgeOfCardModel", "word", "(II)I"⟩ ∈ wsG := wG 738 (by decide +kernel) (by decide +kernel)
theorem wf_739 : Cond.code ⟨"EdgeOfCardModel", "word", "(II)I"⟩ prog_7_method_18_code 3 (Option.some Jvm.ClassFile.FieldType.int) ∈ wsG := wG 739 (by decide +kernel) (by decide +kernel)
theorem wf_740 : Cond.methodLink "EdgeOfCardModel" 107 ⟨"EdgeOfCardModel", "isPiece", "(I)Z"⟩ ∈ wsG := wG 740 (by decide +kernel) (by decide +kernel)
theorem wf_742 : Cond.instanceMethod ⟨"EdgeOfCardModel", "isPiece", "(I)Z"⟩ ∈ wsG := wG 742 (by decide +kernel) (by decide +kernel)
theorem wf_743 : Cond.code ⟨"EdgeOfCardModel", "isPiece", "(I)Z"⟩ prog_7_method_15_code 2 (Option.some Jvm.ClassFile.FieldType.boolean) ∈ wsG := wG 743 (by decide +kernel) (by decide +kernel)
theorem wf_744 : Cond.methodLink "EdgeOfCardModel" 110 ⟨"EdgeOfCardModel", "of", "(II)I"⟩ ∈ wsG := wG 744 (by decide +kernel) (by decide +kernel)
theorem wf_746 : Cond.instanceMethod ⟨"EdgeOfCardModel", "of", "(II)I"⟩ ∈ wsG := wG 746 (by decide +kernel) (by decide +kernel)
theorem wf_747 : Cond.code ⟨"EdgeOfCardModel", "of", "(II)I"⟩ prog_7_method_13_code 3 (Option.some Jvm.ClassFile.FieldType.int) ∈ wsG := wG 747 (by decide +kernel) (by decide +kernel)
theorem wf_748 : Cond.methodLink "EdgeOfCardLaw" 39 ⟨"EdgeOfCardModel", "writes", "()I"⟩ ∈ wsG := wG 748 (by decide +kernel) (by decide +kernel)
theorem wf_749 : Cond.instanceMethod ⟨"EdgeOfCardModel", "writes", "()I"⟩ ∈ wsG := wG 749 (by decide +kernel) (by decide +kernel)
theorem wf_750 : Cond.selects "EdgeOfCardModel" ⟨"EdgeOfCardModel", "writes", "()I"⟩ ⟨"EdgeOfCardModel", "writes", "()I"⟩ ∈ wsG := wG 750 (by decide +kernel) (by decide +kernel)
theorem wf_751 : Cond.code ⟨"EdgeOfCardModel", "writes", "()I"⟩ prog_7_method_23_code 1 (Option.some Jvm.ClassFile.FieldType.int) ∈ wsG := wG 751 (by decide +kernel) (by decide +kernel)
theorem wf_752 : Cond.methodLink "EdgeOfCardModel" 119 ⟨"EdgeOfCardModel", "isNext", "()Z"⟩ ∈ wsG := wG 752 (by decide +kernel) (by decide +kernel)
theorem wf_754 : Cond.instanceMethod ⟨"EdgeOfCardModel", "isNext", "()Z"⟩ ∈ wsG := wG 754 (by decide +kernel) (by decide +kernel)
theorem wf_755 : Cond.code ⟨"EdgeOfCardModel", "isNext", "()Z"⟩ prog_7_method_20_code 1 (Option.some Jvm.ClassFile.FieldType.boolean) ∈ wsG := wG 755 (by decide +kernel) (by decide +kernel)
theorem wf_756 : Cond.methodLink "EdgeOfCardModel" 123 ⟨"EdgeOfCardModel", "put", "(I)I"⟩ ∈ wsG := wG 756 (by decide +kernel) (by decide +kernel)
theorem wf_758 : Cond.instanceMethod ⟨"EdgeOfCardModel", "put", "(I)I"⟩ ∈ wsG := wG 758 (by decide +kernel) (by decide +kernel)
theorem wf_759 : Cond.code ⟨"EdgeOfCardModel", "put", "(I)I"⟩ prog_7_method_22_code 3 (Option.some Jvm.ClassFile.FieldType.int) ∈ wsG := wG 759 (by decide +kernel) (by decide +kernel)
theorem wf_760 : Cond.methodLink "EdgeOfCardModel" 113 ⟨"EdgeOfCardModel", "blank", "()I"⟩ ∈ wsG := wG 760 (by decide +kernel) (by decide +kernel)
theorem wf_762 : Cond.instanceMethod ⟨"EdgeOfCardModel", "blank", "()I"⟩ ∈ wsG := wG 762 (by decide +kernel) (by decide +kernel)
theorem wf_763 : Cond.code ⟨"EdgeOfCardModel", "blank", "()I"⟩ prog_7_method_21_code 1 (Option.some Jvm.ClassFile.FieldType.int) ∈ wsG := wG 763 (by decide +kernel) (by decide +kernel)
theorem wf_764 : Cond.methodLink "EdgeOfCardModel" 116 ⟨"EdgeOfCardModel", "know", "()V"⟩ ∈ wsG := wG 764 (by decide +kernel) (by decide +kernel)
theorem wf_766 : Cond.instanceMethod ⟨"EdgeOfCardModel", "know", "()V"⟩ ∈ wsG := wG 766 (by decide +kernel) (by decide +kernel)
theorem wf_767 : Cond.code ⟨"EdgeOfCardModel", "know", "()V"⟩ prog_7_method_19_code 2 (Option.none : Option Jvm.ClassFile.FieldType) ∈ wsG := wG 767 (by decide +kernel) (by decide +kernel)
theorem wf_768 : Cond.methodLink "EdgeOfCardLaw" 43 ⟨"EdgeOfCardModel", "signs", "()I"⟩ ∈ wsG := wG 768 (by decide +kernel) (by decide +kernel)
theorem wf_769 : Cond.instanceMethod ⟨"EdgeOfCardModel", "signs", "()I"⟩ ∈ wsG := wG 769 (by decide +kernel) (by decide +kernel)
theorem wf_770 : Cond.selects "EdgeOfCardModel" ⟨"EdgeOfCardModel", "signs", "()I"⟩ ⟨"EdgeOfCardModel", "signs", "()I"⟩ ∈ wsG := wG 770 (by decide +kernel) (by decide +kernel)
theorem wf_771 : Cond.code ⟨"EdgeOfCardModel", "signs", "()I"⟩ prog_7_method_24_code 1 (Option.some Jvm.ClassFile.FieldType.int) ∈ wsG := wG 771 (by decide +kernel) (by decide +kernel)
theorem wf_772 : Cond.methodLink "EdgeOfCardLaw" 47 ⟨"EdgeOfCardModel", "breaks", "()I"⟩ ∈ wsG := wG 772 (by decide +kernel) (by decide +kernel)
theorem wf_773 : Cond.instanceMethod ⟨"EdgeOfCardModel", "breaks", "()I"⟩ ∈ wsG := wG 773 (by decide +kernel) (by decide +kernel)
theorem wf_774 : Cond.selects "EdgeOfCardModel" ⟨"EdgeOfCardModel", "breaks", "()I"⟩ ⟨"EdgeOfCardModel", "breaks", "()I"⟩ ∈ wsG := wG 774 (by decide +kernel) (by decide +kernel)
theorem wf_775 : Cond.code ⟨"EdgeOfCardModel", "breaks", "()I"⟩ prog_7_method_25_code 4 (Option.some Jvm.ClassFile.FieldType.int) ∈ wsG := wG 775 (by decide +kernel) (by decide +kernel)
theorem wf_776 : Cond.methodLink "EdgeOfCardLaw" 51 ⟨"EdgeOfCardModel", "omits", "()I"⟩ ∈ wsG := wG 776 (by decide +kernel) (by decide +kernel)
theorem wf_777 : Cond.instanceMethod ⟨"EdgeOfCardModel", "omits", "()I"⟩ ∈ wsG := wG 777 (by decide +kernel) (by decide +kernel)
theorem wf_778 : Cond.selects "EdgeOfCardModel" ⟨"EdgeOfCardModel", "omits", "()I"⟩ ⟨"EdgeOfCardModel", "omits", "()I"⟩ ∈ wsG := wG 778 (by decide +kernel) (by decide +kernel)
theorem wf_779 : Cond.code ⟨"EdgeOfCardModel", "omits", "()I"⟩ prog_7_method_27_code 1 (Option.some Jvm.ClassFile.FieldType.int) ∈ wsG := wG 779 (by decide +kernel) (by decide +kernel)
theorem wf_780 : Cond.methodLink "EdgeOfCardModel" 127 ⟨"EdgeOfCardModel", "manyOf", "(I)I"⟩ ∈ wsG := wG 780 (by decide +kernel) (by decide +kernel)
theorem wf_781 : Cond.static ⟨"EdgeOfCardModel", "manyOf", "(I)I"⟩ ∈ wsG := wG 781 (by decide +kernel) (by decide +kernel)
theorem wf_782 : Cond.code ⟨"EdgeOfCardModel", "manyOf", "(I)I"⟩ prog_7_method_26_code 3 (Option.some Jvm.ClassFile.FieldType.int) ∈ wsG := wG 782 (by decide +kernel) (by decide +kernel)
theorem wf_783 : Cond.methodLink "EdgeOfCardLaw" 55 ⟨"EdgeOfCardModel", "smaller", "(I)I"⟩ ∈ wsG := wG 783 (by decide +kernel) (by decide +kernel)
theorem wf_784 : Cond.instanceMethod ⟨"EdgeOfCardModel", "smaller", "(I)I"⟩ ∈ wsG := wG 784 (by decide +kernel) (by decide +kernel)
theorem wf_785 : Cond.selects "EdgeOfCardModel" ⟨"EdgeOfCardModel", "smaller", "(I)I"⟩ ⟨"EdgeOfCardModel", "smaller", "(I)I"⟩ ∈ wsG := wG 785 (by decide +kernel) (by decide +kernel)
theorem wf_786 : Cond.code ⟨"EdgeOfCardModel", "smaller", "(I)I"⟩ prog_7_method_28_code 3 (Option.some Jvm.ClassFile.FieldType.int) ∈ wsG := wG 786 (by decide +kernel) (by decide +kernel)
theorem wf_787 : Cond.methodLink "EdgeOfCardLaw" 59 ⟨"EdgeOfCardModel", "turnsOver", "()I"⟩ ∈ wsG := wG 787 (by decide +kernel) (by decide +kernel)
theorem wf_788 : Cond.instanceMethod ⟨"EdgeOfCardModel", "turnsOver", "()I"⟩ ∈ wsG := wG 788 (by decide +kernel) (by decide +kernel)
theorem wf_789 : Cond.selects "EdgeOfCardModel" ⟨"EdgeOfCardModel", "turnsOver", "()I"⟩ ⟨"EdgeOfCardModel", "turnsOver", "()I"⟩ ∈ wsG := wG 789 (by decide +kernel) (by decide +kernel)
theorem wf_790 : Cond.code ⟨"EdgeOfCardModel", "turnsOver", "()I"⟩ prog_7_method_29_code 1 (Option.some Jvm.ClassFile.FieldType.int) ∈ wsG := wG 790 (by decide +kernel) (by decide +kernel)
theorem wf_791 : Cond.methodLink "EdgeOfCardLaw" 63 ⟨"EdgeOfCardModel", "undo", "()I"⟩ ∈ wsG := wG 791 (by decide +kernel) (by decide +kernel)
theorem wf_792 : Cond.instanceMethod ⟨"EdgeOfCardModel", "undo", "()I"⟩ ∈ wsG := wG 792 (by decide +kernel) (by decide +kernel)
theorem wf_793 : Cond.selects "EdgeOfCardModel" ⟨"EdgeOfCardModel", "undo", "()I"⟩ ⟨"EdgeOfCardModel", "undo", "()I"⟩ ∈ wsG := wG 793 (by decide +kernel) (by decide +kernel)
theorem wf_794 : Cond.code ⟨"EdgeOfCardModel", "undo", "()I"⟩ prog_7_method_30_code 2 (Option.some Jvm.ClassFile.FieldType.int) ∈ wsG := wG 794 (by decide +kernel) (by decide +kernel)
theorem wf_795 : Cond.methodLink "EdgeOfCardLaw" 67 ⟨"EdgeOfCardModel", "now", "(I)I"⟩ ∈ wsG := wG 795 (by decide +kernel) (by decide +kernel)
theorem wf_796 : Cond.instanceMethod ⟨"EdgeOfCardModel", "now", "(I)I"⟩ ∈ wsG := wG 796 (by decide +kernel) (by decide +kernel)
theorem wf_797 : Cond.selects "EdgeOfCardModel" ⟨"EdgeOfCardModel", "now", "(I)I"⟩ ⟨"EdgeOfCardModel", "now", "(I)I"⟩ ∈ wsG := wG 797 (by decide +kernel) (by decide +kernel)
theorem wf_798 : Cond.code ⟨"EdgeOfCardModel", "now", "(I)I"⟩ prog_7_method_34_code 2 (Option.some Jvm.ClassFile.FieldType.int) ∈ wsG := wG 798 (by decide +kernel) (by decide +kernel)
theorem wf_799 : Cond.methodLink "EdgeOfCardModel" 134 ⟨"EdgeOfCardModel", "sense", "()I"⟩ ∈ wsG := wG 799 (by decide +kernel) (by decide +kernel)
theorem wf_801 : Cond.instanceMethod ⟨"EdgeOfCardModel", "sense", "()I"⟩ ∈ wsG := wG 801 (by decide +kernel) (by decide +kernel)
theorem wf_802 : Cond.code ⟨"EdgeOfCardModel", "sense", "()I"⟩ prog_7_method_32_code 3 (Option.some Jvm.ClassFile.FieldType.int) ∈ wsG := wG 802 (by decide +kernel) (by decide +kernel)
theorem wf_803 : Cond.methodLink "EdgeOfCardModel" 130 ⟨"EdgeOfCardModel", "isClear", "(II)Z"⟩ ∈ wsG := wG 803 (by decide +kernel) (by decide +kernel)
theorem wf_805 : Cond.instanceMethod ⟨"EdgeOfCardModel", "isClear", "(II)Z"⟩ ∈ wsG := wG 805 (by decide +kernel) (by decide +kernel)
theorem wf_806 : Cond.code ⟨"EdgeOfCardModel", "isClear", "(II)Z"⟩ prog_7_method_31_code 5 (Option.some Jvm.ClassFile.FieldType.boolean) ∈ wsG := wG 806 (by decide +kernel) (by decide +kernel)
theorem wf_807 : Cond.methodLink "EdgeOfCardModel" 137 ⟨"EdgeOfCardModel", "sumOf", "(II)I"⟩ ∈ wsG := wG 807 (by decide +kernel) (by decide +kernel)
theorem wf_809 : Cond.instanceMethod ⟨"EdgeOfCardModel", "sumOf", "(II)I"⟩ ∈ wsG := wG 809 (by decide +kernel) (by decide +kernel)
theorem wf_810 : Cond.code ⟨"EdgeOfCardModel", "sumOf", "(II)I"⟩ prog_7_method_33_code 5 (Option.some Jvm.ClassFile.FieldType.int) ∈ wsG := wG 810 (by decide +kernel) (by decide +kernel)
theorem wf_811 : Cond.methodLink "EdgeOfCardLaw" 72 ⟨"EdgeOfCardModel", "fill", "(III)I"⟩ ∈ wsG := wG 811 (by decide +kernel) (by decide +kernel)
theorem wf_812 : Cond.instanceMethod ⟨"EdgeOfCardModel", "fill", "(III)I"⟩ ∈ wsG := wG 812 (by decide +kernel) (by decide +kernel)
theorem wf_813 : Cond.selects "EdgeOfCardModel" ⟨"EdgeOfCardModel", "fill", "(III)I"⟩ ⟨"EdgeOfCardModel", "fill", "(III)I"⟩ ∈ wsG := wG 813 (by decide +kernel) (by decide +kernel)
theorem wf_814 : Cond.code ⟨"EdgeOfCardModel", "fill", "(III)I"⟩ prog_7_method_39_code 4 (Option.some Jvm.ClassFile.FieldType.int) ∈ wsG := wG 814 (by decide +kernel) (by decide +kernel)
theorem wf_815 : Cond.methodLink "EdgeOfCardModel" 158 ⟨"EdgeOfCardModel", "isSize", "(I)Z"⟩ ∈ wsG := wG 815 (by decide +kernel) (by decide +kernel)
theorem wf_817 : Cond.instanceMethod ⟨"EdgeOfCardModel", "isSize", "(I)Z"⟩ ∈ wsG := wG 817 (by decide +kernel) (by decide +kernel)
theorem wf_818 : Cond.code ⟨"EdgeOfCardModel", "isSize", "(I)Z"⟩ prog_7_method_16_code 2 (Option.some Jvm.ClassFile.FieldType.boolean) ∈ wsG := wG 818 (by decide +kernel) (by decide +kernel)
theorem wf_819 : Cond.methodLink "EdgeOfCardModel" 161 ⟨"EdgeOfCardModel", "all", "()I"⟩ ∈ wsG := wG 819 (by decide +kernel) (by decide +kernel)
theorem wf_821 : Cond.instanceMethod ⟨"EdgeOfCardModel", "all", "()I"⟩ ∈ wsG := wG 821 (by decide +kernel) (by decide +kernel)
theorem wf_822 : Cond.code ⟨"EdgeOfCardModel", "all", "()I"⟩ prog_7_method_38_code 1 (Option.some Jvm.ClassFile.FieldType.int) ∈ wsG := wG 822 (by decide +kernel) (by decide +kernel)
theorem wf_823 : Cond.methodLink "EdgeOfCardModel" 164 ⟨"EdgeOfCardModel", "allSizes", "(I)V"⟩ ∈ wsG := wG 823 (by decide +kernel) (by decide +kernel)
theorem wf_825 : Cond.instanceMethod ⟨"EdgeOfCardModel", "allSizes", "(I)V"⟩ ∈ wsG := wG 825 (by decide +kernel) (by decide +kernel)
theorem wf_826 : Cond.code ⟨"EdgeOfCardModel", "allSizes", "(I)V"⟩ prog_7_method_35_code 3 (Option.none : Option Jvm.ClassFile.FieldType) ∈ wsG := wG 826 (by decide +kernel) (by decide +kernel)
theorem wf_827 : Cond.methodLink "EdgeOfCardModel" 167 ⟨"EdgeOfCardModel", "fillBy", "(I)Z"⟩ ∈ wsG := wG 827 (by decide +kernel) (by decide +kernel)
theorem wf_829 : Cond.instanceMethod ⟨"EdgeOfCardModel", "fillBy", "(I)Z"⟩ ∈ wsG := wG 829 (by decide +kernel) (by decide +kernel)
theorem wf_830 : Cond.code ⟨"EdgeOfCardModel", "fillBy", "(I)Z"⟩ prog_7_method_37_code 7 (Option.some Jvm.ClassFile.FieldType.boolean) ∈ wsG := wG 830 (by decide +kernel) (by decide +kernel)
theorem wf_831 : Cond.methodLink "EdgeOfCardModel" 155 ⟨"EdgeOfCardModel", "wideOf", "(I)I"⟩ ∈ wsG := wG 831 (by decide +kernel) (by decide +kernel)
theorem wf_833 : Cond.instanceMethod ⟨"EdgeOfCardModel", "wideOf", "(I)I"⟩ ∈ wsG := wG 833 (by decide +kernel) (by decide +kernel)
theorem wf_834 : Cond.code ⟨"EdgeOfCardModel", "wideOf", "(I)I"⟩ prog_7_method_36_code 3 (Option.some Jvm.ClassFile.FieldType.int) ∈ wsG := wG 834 (by decide +kernel) (by decide +kernel)
theorem wf_835 : Cond.methodLink "EdgeOfCardLaw" 76 ⟨"EdgeOfCardModel", "greatest", "()I"⟩ ∈ wsG := wG 835 (by decide +kernel) (by decide +kernel)
theorem wf_836 : Cond.instanceMethod ⟨"EdgeOfCardModel", "greatest", "()I"⟩ ∈ wsG := wG 836 (by decide +kernel) (by decide +kernel)
theorem wf_837 : Cond.selects "EdgeOfCardModel" ⟨"EdgeOfCardModel", "greatest", "()I"⟩ ⟨"EdgeOfCardModel", "greatest", "()I"⟩ ∈ wsG := wG 837 (by decide +kernel) (by decide +kernel)
theorem wf_838 : Cond.code ⟨"EdgeOfCardModel", "greatest", "()I"⟩ prog_7_method_41_code 2 (Option.some Jvm.ClassFile.FieldType.int) ∈ wsG := wG 838 (by decide +kernel) (by decide +kernel)
theorem wf_839 : Cond.methodLink "EdgeOfCardModel" 170 ⟨"EdgeOfCardModel", "goesOn", "(II)Z"⟩ ∈ wsG := wG 839 (by decide +kernel) (by decide +kernel)
theorem wf_841 : Cond.instanceMethod ⟨"EdgeOfCardModel", "goesOn", "(II)Z"⟩ ∈ wsG := wG 841 (by decide +kernel) (by decide +kernel)
theorem wf_842 : Cond.code ⟨"EdgeOfCardModel", "goesOn", "(II)Z"⟩ prog_7_method_40_code 3 (Option.some Jvm.ClassFile.FieldType.boolean) ∈ wsG := wG 842 (by decide +kernel) (by decide +kernel)
theorem wf_843 : Cond.methodLink "EdgeOfCardLaw" 80 ⟨"EdgeOfCardModel", "even", "(I)I"⟩ ∈ wsG := wG 843 (by decide +kernel) (by decide +kernel)
theorem wf_844 : Cond.instanceMethod ⟨"EdgeOfCardModel", "even", "(I)I"⟩ ∈ wsG := wG 844 (by decide +kernel) (by decide +kernel)
theorem wf_845 : Cond.selects "EdgeOfCardModel" ⟨"EdgeOfCardModel", "even", "(I)I"⟩ ⟨"EdgeOfCardModel", "even", "(I)I"⟩ ∈ wsG := wG 845 (by decide +kernel) (by decide +kernel)
theorem wf_846 : Cond.code ⟨"EdgeOfCardModel", "even", "(I)I"⟩ prog_7_method_43_code 7 (Option.some Jvm.ClassFile.FieldType.int) ∈ wsG := wG 846 (by decide +kernel) (by decide +kernel)
theorem wf_847 : Cond.methodLink "EdgeOfCardModel" 173 ⟨"EdgeOfCardModel", "costOf", "(I)I"⟩ ∈ wsG := wG 847 (by decide +kernel) (by decide +kernel)
theorem wf_849 : Cond.instanceMethod ⟨"EdgeOfCardModel", "costOf", "(I)I"⟩ ∈ wsG := wG 849 (by decide +kernel) (by decide +kernel)
theorem wf_850 : Cond.code ⟨"EdgeOfCardModel", "costOf", "(I)I"⟩ prog_7_method_42_code 6 (Option.some Jvm.ClassFile.FieldType.int) ∈ wsG := wG 850 (by decide +kernel) (by decide +kernel)
theorem wf_851 : Cond.methodLink "EdgeOfCardLaw" 84 ⟨"EdgeOfCardModel", "kept", "(II)I"⟩ ∈ wsG := wG 851 (by decide +kernel) (by decide +kernel)
theorem wf_852 : Cond.instanceMethod ⟨"EdgeOfCardModel", "kept", "(II)I"⟩ ∈ wsG := wG 852 (by decide +kernel) (by decide +kernel)
theorem wf_853 : Cond.selects "EdgeOfCardModel" ⟨"EdgeOfCardModel", "kept", "(II)I"⟩ ⟨"EdgeOfCardModel", "kept", "(II)I"⟩ ∈ wsG := wG 853 (by decide +kernel) (by decide +kernel)
theorem wf_854 : Cond.code ⟨"EdgeOfCardModel", "kept", "(II)I"⟩ prog_7_method_46_code 4 (Option.some Jvm.ClassFile.FieldType.int) ∈ wsG := wG 854 (by decide +kernel) (by decide +kernel)
theorem wf_855 : Cond.methodLink "EdgeOfCardModel" 179 ⟨"EdgeOfCardModel", "bestSet", "(II)I"⟩ ∈ wsG := wG 855 (by decide +kernel) (by decide +kernel)
theorem wf_857 : Cond.instanceMethod ⟨"EdgeOfCardModel", "bestSet", "(II)I"⟩ ∈ wsG := wG 857 (by decide +kernel) (by decide +kernel)
theorem wf_858 : Cond.code ⟨"EdgeOfCardModel", "bestSet", "(II)I"⟩ prog_7_method_45_code 7 (Option.some Jvm.ClassFile.FieldType.int) ∈ wsG := wG 858 (by decide +kernel) (by decide +kernel)
theorem wf_859 : Cond.methodLink "EdgeOfCardModel" 176 ⟨"EdgeOfCardModel", "hasNeeds", "(I)Z"⟩ ∈ wsG := wG 859 (by decide +kernel) (by decide +kernel)
theorem wf_861 : Cond.instanceMethod ⟨"EdgeOfCardModel", "hasNeeds", "(I)Z"⟩ ∈ wsG := wG 861 (by decide +kernel) (by decide +kernel)
theorem wf_862 : Cond.code ⟨"EdgeOfCardModel", "hasNeeds", "(I)Z"⟩ prog_7_method_44_code 5 (Option.some Jvm.ClassFile.FieldType.boolean) ∈ wsG := wG 862 (by decide +kernel) (by decide +kernel)
theorem wf_863 : Cond.methodLink "EdgeOfCardLaw" 88 ⟨"EdgeOfCardModel", "telegram", "(II)I"⟩ ∈ wsG := wG 863 (by decide +kernel) (by decide +kernel)
theorem wf_864 : Cond.instanceMethod ⟨"EdgeOfCardModel", "telegram", "(II)I"⟩ ∈ wsG := wG 864 (by decide +kernel) (by decide +kernel)
theorem wf_865 : Cond.selects "EdgeOfCardModel" ⟨"EdgeOfCardModel", "telegram", "(II)I"⟩ ⟨"EdgeOfCardModel", "telegram", "(II)I"⟩ ∈ wsG := wG 865 (by decide +kernel) (by decide +kernel)
theorem wf_866 : Cond.code ⟨"EdgeOfCardModel", "telegram", "(II)I"⟩ prog_7_method_47_code 4 (Option.some Jvm.ClassFile.FieldType.int) ∈ wsG := wG 866 (by decide +kernel) (by decide +kernel)
theorem wf_867 : Cond.methodLink "EdgeOfCardLaw" 92 ⟨"EdgeOfCardModel", "begun", "(II)I"⟩ ∈ wsG := wG 867 (by decide +kernel) (by decide +kernel)
theorem wf_868 : Cond.instanceMethod ⟨"EdgeOfCardModel", "begun", "(II)I"⟩ ∈ wsG := wG 868 (by decide +kernel) (by decide +kernel)
theorem wf_869 : Cond.selects "EdgeOfCardModel" ⟨"EdgeOfCardModel", "begun", "(II)I"⟩ ⟨"EdgeOfCardModel", "begun", "(II)I"⟩ ∈ wsG := wG 869 (by decide +kernel) (by decide +kernel)
theorem wf_870 : Cond.code ⟨"EdgeOfCardModel", "begun", "(II)I"⟩ prog_7_method_48_code 3 (Option.some Jvm.ClassFile.FieldType.int) ∈ wsG := wG 870 (by decide +kernel) (by decide +kernel)
theorem wf_871 : Cond.methodLink "EdgeOfCardLaw" 97 ⟨"EdgeOfCardModel", "odds", "(III)J"⟩ ∈ wsG := wG 871 (by decide +kernel) (by decide +kernel)
theorem wf_872 : Cond.instanceMethod ⟨"EdgeOfCardModel", "odds", "(III)J"⟩ ∈ wsG := wG 872 (by decide +kernel) (by decide +kernel)
theorem wf_873 : Cond.selects "EdgeOfCardModel" ⟨"EdgeOfCardModel", "odds", "(III)J"⟩ ⟨"EdgeOfCardModel", "odds", "(III)J"⟩ ∈ wsG := wG 873 (by decide +kernel) (by decide +kernel)
theorem wf_874 : Cond.code ⟨"EdgeOfCardModel", "odds", "(III)J"⟩ prog_7_method_49_code 15 (Option.some Jvm.ClassFile.FieldType.long) ∈ wsG := wG 874 (by decide +kernel) (by decide +kernel)
theorem wf_875 : Cond.constantLong "EdgeOfCardModel" 182 (-1) ∈ wsG := wG 875 (by decide +kernel) (by decide +kernel)
theorem wf_876 : Cond.constantLong "EdgeOfCardModel" 184 (10) ∈ wsG := wG 876 (by decide +kernel) (by decide +kernel)
theorem wf_877 : Cond.methodLink "EdgeOfCardLaw" 101 ⟨"EdgeOfCardModel", "saw", "(II)I"⟩ ∈ wsG := wG 877 (by decide +kernel) (by decide +kernel)
theorem wf_878 : Cond.instanceMethod ⟨"EdgeOfCardModel", "saw", "(II)I"⟩ ∈ wsG := wG 878 (by decide +kernel) (by decide +kernel)
theorem wf_879 : Cond.selects "EdgeOfCardModel" ⟨"EdgeOfCardModel", "saw", "(II)I"⟩ ⟨"EdgeOfCardModel", "saw", "(II)I"⟩ ∈ wsG := wG 879 (by decide +kernel) (by decide +kernel)
theorem wf_880 : Cond.code ⟨"EdgeOfCardModel", "saw", "(II)I"⟩ prog_7_method_50_code 3 (Option.some Jvm.ClassFile.FieldType.int) ∈ wsG := wG 880 (by decide +kernel) (by decide +kernel)
theorem wf_881 : Cond.methodLink "EdgeOfCardLaw" 105 ⟨"EdgeOfCardModel", "forget", "()I"⟩ ∈ wsG := wG 881 (by decide +kernel) (by decide +kernel)
theorem wf_882 : Cond.instanceMethod ⟨"EdgeOfCardModel", "forget", "()I"⟩ ∈ wsG := wG 882 (by decide +kernel) (by decide +kernel)
theorem wf_883 : Cond.selects "EdgeOfCardModel" ⟨"EdgeOfCardModel", "forget", "()I"⟩ ⟨"EdgeOfCardModel", "forget", "()I"⟩ ∈ wsG := wG 883 (by decide +kernel) (by decide +kernel)
theorem wf_884 : Cond.code ⟨"EdgeOfCardModel", "forget", "()I"⟩ prog_7_method_51_code 2 (Option.some Jvm.ClassFile.FieldType.int) ∈ wsG := wG 884 (by decide +kernel) (by decide +kernel)
theorem wf_885 : Cond.methodLink "EdgeOfCardLaw" 109 ⟨"EdgeOfCardModel", "sizes", "()I"⟩ ∈ wsG := wG 885 (by decide +kernel) (by decide +kernel)
theorem wf_886 : Cond.instanceMethod ⟨"EdgeOfCardModel", "sizes", "()I"⟩ ∈ wsG := wG 886 (by decide +kernel) (by decide +kernel)
theorem wf_887 : Cond.selects "EdgeOfCardModel" ⟨"EdgeOfCardModel", "sizes", "()I"⟩ ⟨"EdgeOfCardModel", "sizes", "()I"⟩ ∈ wsG := wG 887 (by decide +kernel) (by decide +kernel)
theorem wf_888 : Cond.code ⟨"EdgeOfCardModel", "sizes", "()I"⟩ prog_7_method_52_code 5 (Option.some Jvm.ClassFile.FieldType.int) ∈ wsG := wG 888 (by decide +kernel) (by decide +kernel)
theorem wf_889 : Cond.methodLink "EdgeOfCardLaw" 113 ⟨"EdgeOfCardModel", "two", "(I)I"⟩ ∈ wsG := wG 889 (by decide +kernel) (by decide +kernel)
theorem wf_890 : Cond.instanceMethod ⟨"EdgeOfCardModel", "two", "(I)I"⟩ ∈ wsG := wG 890 (by decide +kernel) (by decide +kernel)
theorem wf_891 : Cond.selects "EdgeOfCardModel" ⟨"EdgeOfCardModel", "two", "(I)I"⟩ ⟨"EdgeOfCardModel", "two", "(I)I"⟩ ∈ wsG := wG 891 (by decide +kernel) (by decide +kernel)
theorem wf_892 : Cond.code ⟨"EdgeOfCardModel", "two", "(I)I"⟩ prog_7_method_53_code 5 (Option.some Jvm.ClassFile.FieldType.int) ∈ wsG := wG 892 (by decide +kernel) (by decide +kernel)
theorem wf_893 : Cond.methodLink "EdgeOfCardLaw" 117 ⟨"EdgeOfCardModel", "mark", "(II)I"⟩ ∈ wsG := wG 893 (by decide +kernel) (by decide +kernel)
theorem wf_894 : Cond.instanceMethod ⟨"EdgeOfCardModel", "mark", "(II)I"⟩ ∈ wsG := wG 894 (by decide +kernel) (by decide +kernel)
theorem wf_895 : Cond.selects "EdgeOfCardModel" ⟨"EdgeOfCardModel", "mark", "(II)I"⟩ ⟨"EdgeOfCardModel", "mark", "(II)I"⟩ ∈ wsG := wG 895 (by decide +kernel) (by decide +kernel)
theorem wf_896 : Cond.code ⟨"EdgeOfCardModel", "mark", "(II)I"⟩ prog_7_method_54_code 4 (Option.some Jvm.ClassFile.FieldType.int) ∈ wsG := wG 896 (by decide +kernel) (by decide +kernel)
theorem wf_897 : Cond.constant "EdgeOfCardModel" 186 (-1000000) ∈ wsG := wG 897 (by decide +kernel) (by decide +kernel)
theorem wf_898 : Cond.constantLong "EdgeOfCardModel" 191 (11) ∈ wsG := wG 898 (by decide +kernel) (by decide +kernel)
theorem wf_899 : Cond.constantLong "EdgeOfCardModel" 193 (101) ∈ wsG := wG 899 (by decide +kernel) (by decide +kernel)
theorem wf_900 : Cond.constantLong "EdgeOfCardModel" 195 (1011) ∈ wsG := wG 900 (by decide +kernel) (by decide +kernel)
theorem wf_901 : Cond.constantLong "EdgeOfCardModel" 197 (10101) ∈ wsG := wG 901 (by decide +kernel) (by decide +kernel)
theorem wf_902 : Cond.constantLong "EdgeOfCardModel" 199 (100001) ∈ wsG := wG 902 (by decide +kernel) (by decide +kernel)
theorem wf_903 : Cond.methodLink "EdgeOfCardLaw" 121 ⟨"EdgeOfCardModel", "keep", "(I)I"⟩ ∈ wsG := wG 903 (by decide +kernel) (by decide +kernel)
theorem wf_904 : Cond.instanceMethod ⟨"EdgeOfCardModel", "keep", "(I)I"⟩ ∈ wsG := wG 904 (by decide +kernel) (by decide +kernel)
theorem wf_905 : Cond.selects "EdgeOfCardModel" ⟨"EdgeOfCardModel", "keep", "(I)I"⟩ ⟨"EdgeOfCardModel", "keep", "(I)I"⟩ ∈ wsG := wG 905 (by decide +kernel) (by decide +kernel)
theorem wf_906 : Cond.code ⟨"EdgeOfCardModel", "keep", "(I)I"⟩ prog_7_method_56_code 2 (Option.some Jvm.ClassFile.FieldType.int) ∈ wsG := wG 906 (by decide +kernel) (by decide +kernel)
theorem wf_907 : Cond.methodLink "EdgeOfCardModel" 201 ⟨"EdgeOfCardModel", "copy", "(II)V"⟩ ∈ wsG := wG 907 (by decide +kernel) (by decide +kernel)
theorem wf_909 : Cond.instanceMethod ⟨"EdgeOfCardModel", "copy", "(II)V"⟩ ∈ wsG := wG 909 (by decide +kernel) (by decide +kernel)
theorem wf_910 : Cond.code ⟨"EdgeOfCardModel", "copy", "(II)V"⟩ prog_7_method_55_code 4 (Option.none : Option Jvm.ClassFile.FieldType) ∈ wsG := wG 910 (by decide +kernel) (by decide +kernel)
theorem wf_911 : Cond.methodLink "EdgeOfCardLaw" 125 ⟨"EdgeOfCardModel", "back", "(I)I"⟩ ∈ wsG := wG 911 (by decide +kernel) (by decide +kernel)
theorem wf_912 : Cond.instanceMethod ⟨"EdgeOfCardModel", "back", "(I)I"⟩ ∈ wsG := wG 912 (by decide +kernel) (by decide +kernel)
theorem wf_913 : Cond.selects "EdgeOfCardModel" ⟨"EdgeOfCardModel", "back", "(I)I"⟩ ⟨"EdgeOfCardModel", "back", "(I)I"⟩ ∈ wsG := wG 913 (by decide +kernel) (by decide +kernel)
theorem wf_914 : Cond.code ⟨"EdgeOfCardModel", "back", "(I)I"⟩ prog_7_method_57_code 2 (Option.some Jvm.ClassFile.FieldType.int) ∈ wsG := wG 914 (by decide +kernel) (by decide +kernel)
theorem wf_915 : Cond.methodLink "EdgeOfCardLaw" 129 ⟨"EdgeOfCardModel", "count", "(I)I"⟩ ∈ wsG := wG 915 (by decide +kernel) (by decide +kernel)
theorem wf_916 : Cond.instanceMethod ⟨"EdgeOfCardModel", "count", "(I)I"⟩ ∈ wsG := wG 916 (by decide +kernel) (by decide +kernel)
theorem wf_917 : Cond.selects "EdgeOfCardModel" ⟨"EdgeOfCardModel", "count", "(I)I"⟩ ⟨"EdgeOfCardModel", "count", "(I)I"⟩ ∈ wsG := wG 917 (by decide +kernel) (by decide +kernel)
theorem wf_918 : Cond.code ⟨"EdgeOfCardModel", "count", "(I)I"⟩ prog_7_method_58_code 2 (Option.some Jvm.ClassFile.FieldType.int) ∈ wsG := wG 918 (by decide +kernel) (by decide +kernel)
theorem wf_919 : Cond.methodLink "EdgeOfCardLaw" 134 ⟨"EdgeOfCardModel", "trace", "()J"⟩ ∈ wsG := wG 919 (by decide +kernel) (by decide +kernel)
theorem wf_920 : Cond.instanceMethod ⟨"EdgeOfCardModel", "trace", "()J"⟩ ∈ wsG := wG 920 (by decide +kernel) (by decide +kernel)
theorem wf_921 : Cond.selects "EdgeOfCardModel" ⟨"EdgeOfCardModel", "trace", "()J"⟩ ⟨"EdgeOfCardModel", "trace", "()J"⟩ ∈ wsG := wG 921 (by decide +kernel) (by decide +kernel)
theorem wf_922 : Cond.code ⟨"EdgeOfCardModel", "trace", "()J"⟩ prog_7_method_59_code 1 (Option.some Jvm.ClassFile.FieldType.long) ∈ wsG := wG 922 (by decide +kernel) (by decide +kernel)
/-- the words on private members of nest mates -/
def nestW : List Cond := [Cond.methodLinkNest "EdgeOfCard" 9 ⟨"EdgeOfCard$Text", "<init>", "()V"⟩ "EdgeOfCard", Cond.fieldLinkNest "EdgeOfCard" 63 "EdgeOfCard$Text" "length" "I" "EdgeOfCard", Cond.fieldLinkNest "EdgeOfCard" 83 "EdgeOfCard$Text" "items" "I" "EdgeOfCard", Cond.methodLinkNest "EdgeOfCard" 18 ⟨"EdgeOfCard$Told", "<init>", "()V"⟩ "EdgeOfCard", Cond.fieldLinkNest "EdgeOfCard$Filling" 42 "EdgeOfCard$Told" "lines" "I" "EdgeOfCard", Cond.fieldLinkNest "EdgeOfCard$Text" 61 "EdgeOfCard$Told" "lines" "I" "EdgeOfCard", Cond.fieldLinkNest "EdgeOfCard$Hand" 58 "EdgeOfCard$Told" "lines" "I" "EdgeOfCard", Cond.fieldLinkNest "EdgeOfCard" 255 "EdgeOfCard$Told" "lines" "I" "EdgeOfCard", Cond.fieldLinkNest "EdgeOfCard$Filling" 49 "EdgeOfCard$Told" "pieces" "I" "EdgeOfCard", Cond.fieldLinkNest "EdgeOfCard$Text" 64 "EdgeOfCard$Told" "pieces" "I" "EdgeOfCard", Cond.fieldLinkNest "EdgeOfCard" 189 "EdgeOfCard$Told" "pieces" "I" "EdgeOfCard", Cond.fieldLinkNest "EdgeOfCard$Text" 87 "EdgeOfCard$Told" "least" "I" "EdgeOfCard", Cond.fieldLinkNest "EdgeOfCard" 129 "EdgeOfCard$Told" "least" "I" "EdgeOfCard", Cond.fieldLinkNest "EdgeOfCard" 168 "EdgeOfCard$Filling" "onLine" "I" "EdgeOfCard", Cond.fieldLinkNest "EdgeOfCard" 169 "EdgeOfCard$Filling" "left" "I" "EdgeOfCard", Cond.fieldLinkNest "EdgeOfCard" 110 "EdgeOfCard$Hand" "next" "I" "EdgeOfCard", Cond.fieldLinkNest "EdgeOfCard" 135 "EdgeOfCard$Hand" "onLine" "I" "EdgeOfCard", Cond.fieldLinkNest "EdgeOfCard" 147 "EdgeOfCard$Hand" "left" "I" "EdgeOfCard", Cond.fieldLinkNest "EdgeOfCard" 126 "EdgeOfCard$Hand" "size" "I" "EdgeOfCard", Cond.fieldLinkNest "EdgeOfCard" 100 "EdgeOfCard$Hand" "omitted" "I" "EdgeOfCard", Cond.fieldLinkNest "EdgeOfCard" 141 "EdgeOfCard$Hand" "known" "I" "EdgeOfCard", Cond.methodLinkNest "EdgeOfCard$Text" 71 ⟨"EdgeOfCard", "within", "(III)Z"⟩ "EdgeOfCard", Cond.methodLinkNest "EdgeOfCard$Told" 34 ⟨"EdgeOfCard", "within", "(III)Z"⟩ "EdgeOfCard", Cond.methodLinkNest "EdgeOfCard$Told" 49 ⟨"EdgeOfCard", "bit", "(II)I"⟩ "EdgeOfCard", Cond.methodLinkNest "EdgeOfCard$Filling" 52 ⟨"EdgeOfCard", "bit", "(II)I"⟩ "EdgeOfCard"]
theorem nw_0 : Cond.methodLinkNest "EdgeOfCard" 9 ⟨"EdgeOfCard$Text", "<init>", "()V"⟩ "EdgeOfCard" ∈ nestW := List.mem_of_getElem? (i := 0) (by decide +kernel)
theorem nw_1 : Cond.fieldLinkNest "EdgeOfCard" 63 "EdgeOfCard$Text" "length" "I" "EdgeOfCard" ∈ nestW := List.mem_of_getElem? (i := 1) (by decide +kernel)
theorem nw_2 : Cond.fieldLinkNest "EdgeOfCard" 83 "EdgeOfCard$Text" "items" "I" "EdgeOfCard" ∈ nestW := List.mem_of_getElem? (i := 2) (by decide +kernel)
theorem nw_3 : Cond.methodLinkNest "EdgeOfCard" 18 ⟨"EdgeOfCard$Told", "<init>", "()V"⟩ "EdgeOfCard" ∈ nestW := List.mem_of_getElem? (i := 3) (by decide +kernel)
theorem nw_4 : Cond.fieldLinkNest "EdgeOfCard$Filling" 42 "EdgeOfCard$Told" "lines" "I" "EdgeOfCard" ∈ nestW := List.mem_of_getElem? (i := 4) (by decide +kernel)
theorem nw_5 : Cond.fieldLinkNest "EdgeOfCard$Text" 61 "EdgeOfCard$Told" "lines" "I" "EdgeOfCard" ∈ nestW := List.mem_of_getElem? (i := 5) (by decide +kernel)
theorem nw_6 : Cond.fieldLinkNest "EdgeOfCard$Hand" 58 "EdgeOfCard$Told" "lines" "I" "EdgeOfCard" ∈ nestW := List.mem_of_getElem? (i := 6) (by decide +kernel)
theorem nw_7 : Cond.fieldLinkNest "EdgeOfCard" 255 "EdgeOfCard$Told" "lines" "I" "EdgeOfCard" ∈ nestW := List.mem_of_getElem? (i := 7) (by decide +kernel)
theorem nw_8 : Cond.fieldLinkNest "EdgeOfCard$Filling" 49 "EdgeOfCard$Told" "pieces" "I" "EdgeOfCard" ∈ nestW := List.mem_of_getElem? (i := 8) (by decide +kernel)
theorem nw_9 : Cond.fieldLinkNest "EdgeOfCard$Text" 64 "EdgeOfCard$Told" "pieces" "I" "EdgeOfCard" ∈ nestW := List.mem_of_getElem? (i := 9) (by decide +kernel)
theorem nw_10 : Cond.fieldLinkNest "EdgeOfCard" 189 "EdgeOfCard$Told" "pieces" "I" "EdgeOfCard" ∈ nestW := List.mem_of_getElem? (i := 10) (by decide +kernel)
theorem nw_11 : Cond.fieldLinkNest "EdgeOfCard$Text" 87 "EdgeOfCard$Told" "least" "I" "EdgeOfCard" ∈ nestW := List.mem_of_getElem? (i := 11) (by decide +kernel)
theorem nw_12 : Cond.fieldLinkNest "EdgeOfCard" 129 "EdgeOfCard$Told" "least" "I" "EdgeOfCard" ∈ nestW := List.mem_of_getElem? (i := 12) (by decide +kernel)
theorem nw_13 : Cond.fieldLinkNest "EdgeOfCard" 168 "EdgeOfCard$Filling" "onLine" "I" "EdgeOfCard" ∈ nestW := List.mem_of_getElem? (i := 13) (by decide +kernel)
theorem nw_14 : Cond.fieldLinkNest "EdgeOfCard" 169 "EdgeOfCard$Filling" "left" "I" "EdgeOfCard" ∈ nestW := List.mem_of_getElem? (i := 14) (by decide +kernel)
theorem nw_15 : Cond.fieldLinkNest "EdgeOfCard" 110 "EdgeOfCard$Hand" "next" "I" "EdgeOfCard" ∈ nestW := List.mem_of_getElem? (i := 15) (by decide +kernel)
theorem nw_16 : Cond.fieldLinkNest "EdgeOfCard" 135 "EdgeOfCard$Hand" "onLine" "I" "EdgeOfCard" ∈ nestW := List.mem_of_getElem? (i := 16) (by decide +kernel)
theorem nw_17 : Cond.fieldLinkNest "EdgeOfCard" 147 "EdgeOfCard$Hand" "left" "I" "EdgeOfCard" ∈ nestW := List.mem_of_getElem? (i := 17) (by decide +kernel)
theorem nw_18 : Cond.fieldLinkNest "EdgeOfCard" 126 "EdgeOfCard$Hand" "size" "I" "EdgeOfCard" ∈ nestW := List.mem_of_getElem? (i := 18) (by decide +kernel)
theorem nw_19 : Cond.fieldLinkNest "EdgeOfCard" 100 "EdgeOfCard$Hand" "omitted" "I" "EdgeOfCard" ∈ nestW := List.mem_of_getElem? (i := 19) (by decide +kernel)
theorem nw_20 : Cond.fieldLinkNest "EdgeOfCard" 141 "EdgeOfCard$Hand" "known" "I" "EdgeOfCard" ∈ nestW := List.mem_of_getElem? (i := 20) (by decide +kernel)
theorem nw_21 : Cond.methodLinkNest "EdgeOfCard$Text" 71 ⟨"EdgeOfCard", "within", "(III)Z"⟩ "EdgeOfCard" ∈ nestW := List.mem_of_getElem? (i := 21) (by decide +kernel)
theorem nw_22 : Cond.methodLinkNest "EdgeOfCard$Told" 34 ⟨"EdgeOfCard", "within", "(III)Z"⟩ "EdgeOfCard" ∈ nestW := List.mem_of_getElem? (i := 22) (by decide +kernel)
theorem nw_23 : Cond.methodLinkNest "EdgeOfCard$Told" 49 ⟨"EdgeOfCard", "bit", "(II)I"⟩ "EdgeOfCard" ∈ nestW := List.mem_of_getElem? (i := 23) (by decide +kernel)
theorem nw_24 : Cond.methodLinkNest "EdgeOfCard$Filling" 52 ⟨"EdgeOfCard", "bit", "(II)I"⟩ "EdgeOfCard" ∈ nestW := List.mem_of_getElem? (i := 24) (by decide +kernel)
theorem nestW_tbl : ∀ w ∈ nestW, w ∈ lw_tbl := by
  have h : nestW = ([68, 75, 77, 105, 112, 113, 114, 115, 117, 118, 119, 121, 122, 143, 145, 166, 168, 170, 172, 174, 177, 263, 291, 436, 461] : List Nat).filterMap (fun i => lw_tbl[i]?) := by decide +kernel
  intro w hw
  rw [h] at hw
  obtain ⟨i, -, hi⟩ := List.mem_filterMap.mp hw
  exact List.mem_of_getElem? hi
theorem inX0 : ∀ w ∈ u_ws RX0 TX0 5, w ∈ wsG := by
  have h : u_ws RX0 TX0 5 = ([147, 149, 151, 153, 155] : List Nat).filterMap (fun i => lw_tbl[i]?) := by decide +kernel
  have g : (u_ws RX0 TX0 5).all goodWord = true := by decide +kernel
  intro w hw
  have g1 := List.all_eq_true.mp g w hw
  rw [h] at hw
  obtain ⟨i, -, hi⟩ := List.mem_filterMap.mp hw
  exact wG i hi g1
theorem inX1 : ∀ w ∈ u_ws RX1 TX1 8, w ∈ wsG := by
  have h : u_ws RX1 TX1 8 = ([178, 180, 182, 184, 186, 188, 190, 192] : List Nat).filterMap (fun i => lw_tbl[i]?) := by decide +kernel
  have g : (u_ws RX1 TX1 8).all goodWord = true := by decide +kernel
  intro w hw
  have g1 := List.all_eq_true.mp g w hw
  rw [h] at hw
  obtain ⟨i, -, hi⟩ := List.mem_filterMap.mp hw
  exact wG i hi g1
theorem inX2 : ∀ w ∈ u_ws RX2 TX2 9, w ∈ wsG := by
  have h : u_ws RX2 TX2 9 = ([83, 85, 87, 89, 91, 93, 95, 97, 99] : List Nat).filterMap (fun i => lw_tbl[i]?) := by decide +kernel
  have g : (u_ws RX2 TX2 9).all goodWord = true := by decide +kernel
  intro w hw
  have g1 := List.all_eq_true.mp g w hw
  rw [h] at hw
  obtain ⟨i, -, hi⟩ := List.mem_filterMap.mp hw
  exact wG i hi g1
theorem inX3 : ∀ w ∈ u_ws RX3 TX3 5, w ∈ wsG := by
  have h : u_ws RX3 TX3 5 = ([123, 125, 127, 129, 131] : List Nat).filterMap (fun i => lw_tbl[i]?) := by decide +kernel
  have g : (u_ws RX3 TX3 5).all goodWord = true := by decide +kernel
  intro w hw
  have g1 := List.all_eq_true.mp g w hw
  rw [h] at hw
  obtain ⟨i, -, hi⟩ := List.mem_filterMap.mp hw
  exact wG i hi g1
theorem inX4 : ∀ w ∈ u_ws RX4 TX4 12, w ∈ wsG := by
  have h : u_ws RX4 TX4 12 = ([207, 209, 211, 213, 215, 217, 219, 221, 223, 225, 227, 229] : List Nat).filterMap (fun i => lw_tbl[i]?) := by decide +kernel
  have g : (u_ws RX4 TX4 12).all goodWord = true := by decide +kernel
  intro w hw
  have g1 := List.all_eq_true.mp g w hw
  rw [h] at hw
  obtain ⟨i, -, hi⟩ := List.mem_filterMap.mp hw
  exact wG i hi g1
theorem inX5 : ∀ w ∈ u_ws RX5 TX5 27, w ∈ wsG := by
  have h : u_ws RX5 TX5 27 = ([632, 634, 636, 638, 640, 642, 644, 646, 648, 650, 652, 654, 656, 658, 660, 662, 664, 666, 668, 670, 672, 674, 676, 678, 680, 682, 684] : List Nat).filterMap (fun i => lw_tbl[i]?) := by decide +kernel
  have g : (u_ws RX5 TX5 27).all goodWord = true := by decide +kernel
  intro w hw
  have g1 := List.all_eq_true.mp g w hw
  rw [h] at hw
  obtain ⟨i, -, hi⟩ := List.mem_filterMap.mp hw
  exact wG i hi g1
end
section
/-! The heap of the 34 cells that the law makes, by numbers of our own (0 .. 33): what a cell's places hold. -/
abbrev Hp : Type := (Nat → Nat → Int32) × (Nat → Nat → Int64)
def sI (h : Hp) (o k : Nat) (v : Int32) : Hp := (fun a j => bif (a == o && j == k) then v else h.1 a j, h.2)
def sL (h : Hp) (o k : Nat) (v : Int64) : Hp := (h.1, fun a j => bif (a == o && j == k) then v else h.2 a j)
def sC (h : Hp) (a sp b dp n : Nat) : Hp := (fun o j => bif (o == b && decide (dp ≤ j ∧ j < dp + n)) then h.1 a (sp + (j - dp)) else h.1 o j, h.2)
/-- a load and a store at a place that isn't known -/
def ld (h : Hp) (a n : Nat) (i : Int32) : Option Int32 := if i < 0 ∨ n ≤ i.toNatClampNeg then none else some (h.1 a i.toNatClampNeg)
def st (h : Hp) (a n : Nat) (i v : Int32) : Option Hp := if i < 0 ∨ n ≤ i.toNatClampNeg then none else some (sI h a i.toNatClampNeg v)
def cpc (h : Hp) (a na : Nat) (sp : Int32) (b nb : Nat) (dp n : Int32) : Option Hp := if sp < 0 ∨ dp < 0 ∨ n < 0 ∨ na < sp.toNatClampNeg + n.toNatClampNeg ∨ nb < dp.toNatClampNeg + n.toNatClampNeg then none else some (sC h a sp.toNatClampNeg b dp.toNatClampNeg n.toNatClampNeg)
def zb (x : Int32) (h : Hp) : Option (Int32 × Hp) := if x = 0 ∨ x = 1 then some (x, h) else none
def fu : Nat := 1000000
theorem o_bind {α β : Type} {x : Option α} {f : α → Option β} {y : β} (h : x.bind f = some y) : ∃ a, x = some a ∧ f a = some y := by
  cases x with
  | none => cases h
  | some a => exact ⟨a, rfl, h⟩
theorem o_ld {β : Type} {h : Hp} {a n : Nat} {i : Int32} {f : Int32 → Option β} {y : β} (e : (ld h a n i).bind f = some y) : ¬ (i < 0 ∨ n ≤ i.toNatClampNeg) ∧ f (h.1 a i.toNatClampNeg) = some y := by
  unfold ld at e
  by_cases c : i < 0 ∨ n ≤ i.toNatClampNeg
  · rw [if_pos c] at e; cases e
  · rw [if_neg c] at e; exact ⟨c, e⟩
theorem o_st {β : Type} {h : Hp} {a n : Nat} {i v : Int32} {f : Hp → Option β} {y : β} (e : (st h a n i v).bind f = some y) : ¬ (i < 0 ∨ n ≤ i.toNatClampNeg) ∧ f (sI h a i.toNatClampNeg v) = some y := by
  unfold st at e
  by_cases c : i < 0 ∨ n ≤ i.toNatClampNeg
  · rw [if_pos c] at e; cases e
  · rw [if_neg c] at e; exact ⟨c, e⟩
theorem o_cp {β : Type} {h : Hp} {a na b nb : Nat} {sp dp n : Int32} {f : Hp → Option β} {y : β} (e : (cpc h a na sp b nb dp n).bind f = some y) : (¬ sp < 0 ∧ ¬ dp < 0 ∧ ¬ n < 0 ∧ sp.toNatClampNeg + n.toNatClampNeg ≤ na ∧ dp.toNatClampNeg + n.toNatClampNeg ≤ nb) ∧ f (sC h a sp.toNatClampNeg b dp.toNatClampNeg n.toNatClampNeg) = some y := by
  unfold cpc at e
  by_cases c : sp < 0 ∨ dp < 0 ∨ n < 0 ∨ na < sp.toNatClampNeg + n.toNatClampNeg ∨ nb < dp.toNatClampNeg + n.toNatClampNeg
  · rw [if_pos c] at e; cases e
  · rw [if_neg c] at e
    exact ⟨⟨fun q => c (Or.inl q), fun q => c (Or.inr (Or.inl q)), fun q => c (Or.inr (Or.inr (Or.inl q))), Nat.le_of_not_lt fun q => c (Or.inr (Or.inr (Or.inr (Or.inl q)))), Nat.le_of_not_lt fun q => c (Or.inr (Or.inr (Or.inr (Or.inr q))))⟩, e⟩
theorem o_zb {x r : Int32} {h hf : Hp} (e : zb x h = some (r, hf)) : (x = 0 ∨ x = 1) ∧ some (x, h) = some (r, hf) := by
  unfold zb at e
  by_cases c : x = 0 ∨ x = 1
  · rw [if_pos c] at e; exact ⟨c, e⟩
  · rw [if_neg c] at e; cases e
theorem o_nz {β : Type} {c : Prop} {_ : Decidable c} {x : Option β} {y : β} (e : (if c then none else x) = some y) : ¬ c ∧ x = some y := by
  by_cases q : c
  · rw [if_pos q] at e; cases e
  · rw [if_neg q] at e; exact ⟨q, e⟩
theorem o_if {β : Type} {c : Prop} {_ : Decidable c} {x z : Option β} {y : Option β} (q : c) (e : (if c then x else z) = y) : x = y := (if_pos q).symm.trans e
theorem o_el {β : Type} {c : Prop} {_ : Decidable c} {x z : Option β} {y : Option β} (q : ¬ c) (e : (if c then x else z) = y) : z = y := (if_neg q).symm.trans e
end
section
/-! the 34 cells as the machine has them -/
def tr (ad : Nat → Nat) (v : Value) : Value := match v with
  | .ref a => .ref (ad a)
  | .int x => .int x
  | .long x => .long x
  | .float x => .float x
  | .double x => .double x
  | .null => .null
  | .retAddr x => .retAddr x
theorem tr_cat (ad : Nat → Nat) (v : Value) : (tr ad v).category = v.category := by cases v <;> rfl
def oC (o : Nat) : Option Nat := match o with
  | 0 => some 4
  | 1 => some 2
  | 4 => some 3
  | 7 => some 3
  | 10 => some 0
  | 12 => some 1
  | 14 => some 1
  | 16 => some 1
  | 20 => some 5
  | _ => none
def aT (o : Nat) : Nat × Nat := match o with
  | 2 => (0, 200)
  | 3 => (0, 5)
  | 5 => (0, 6)
  | 6 => (0, 50)
  | 8 => (0, 6)
  | 9 => (0, 50)
  | 11 => (0, 10)
  | 13 => (0, 60)
  | 15 => (0, 60)
  | 17 => (0, 60)
  | 18 => (0, 6)
  | 19 => (0, 6)
  | 21 => (1, 200)
  | 22 => (0, 2)
  | 23 => (0, 12)
  | 24 => (0, 2)
  | 25 => (0, 100)
  | 26 => (0, 2)
  | 27 => (0, 198)
  | 28 => (2, 2)
  | 29 => (0, 6)
  | 30 => (0, 10)
  | 31 => (0, 6)
  | 32 => (0, 6)
  | 33 => (0, 6)
  | _ => (0, 0)
def fD (o : Nat) : List (Option (Option Nat)) := match o with
  | 0 => [some (some 1), some (some 4), some (some 7), some (some 10), some (some 12), some (some 14), some (some 16), some none, some (some 18), some (some 19), some none, none]
  | 1 => [some (some 2), some (some 3), some none, some none, some none, some none, some none, some none, some none]
  | 4 => [some (some 5), some (some 6), some none, some none, some none]
  | 7 => [some (some 8), some (some 9), some none, some none, some none]
  | 10 => [some (some 4), some (some 11), some none, some none, some none]
  | 12 => [some (some 4), some none, some none, some none, some none, some none, some (some 13), some none]
  | 14 => [some (some 4), some none, some none, some none, some none, some none, some (some 15), some none]
  | 16 => [some (some 4), some none, some none, some none, some none, some none, some (some 17), some none]
  | 20 => [none, some (some 21), some none, some (some 22), some (some 23), some (some 24), some (some 25), some (some 26), some none, some none, some none, some none, some none, some none, some (some 27), some (some 28), some (some 29), some none, some none, some (some 30), some none, some none, some none, some (some 31), some (some 32), some (some 33), some none]
  | _ => []
def fv (h : Hp) (o j : Nat) : Value := match (fD o)[j]? with
  | some (some (some r)) => .ref r
  | some (some none) => .int (h.1 o j)
  | some none => .long (h.2 o j)
  | none => .null
abbrev Cs : Type := ClassId × ClassId × ClassId
def cO (cs : Cs) (t : Nat) : ClassId := match t with
  | 0 => cs.1
  | 1 => cs.2.1
  | _ => cs.2.2
def cE (ad : Nat → Nat) (cs : Cs) (h : Hp) (o : Nat) : va_E := match oC o with
  | some ci => .inr (ci, (List.range (fD o).length).map (fun j => tr ad (fv h o j)))
  | none => .inl (cO cs (aT o).1, (aT o).2, .inl (h.1 o))
def wl (ad : Nat → Nat) (cs : Cs) (h : Hp) : va_W := (List.range 34).map (fun o => (ad o, cE ad cs h o))
theorem wl_get {ad : Nat → Nat} {cs : Cs} {h : Hp} {o : Nat} (ho : o < 34) : (wl ad cs h)[o]? = some (ad o, cE ad cs h o) := by
  unfold wl
  rw [List.getElem?_map, List.getElem?_range ho]
  rfl
theorem wl_inv {ad : Nat → Nat} {cs : Cs} {h : Hp} {o : Nat} {q : Nat × va_E} (e : (wl ad cs h)[o]? = some q) : o < 34 ∧ q = (ad o, cE ad cs h o) := by
  by_cases ho : o < 34
  · rw [wl_get ho] at e
    exact ⟨ho, (Option.some.inj e).symm⟩
  · have hl : (wl ad cs h).length = 34 := by simp [wl]
    rw [List.getElem?_eq_none (by omega)] at e
    cases e
def adOk (A : Nat → Prop) (ad : Nat → Nat) : Prop := (∀ i j : Nat, i < 34 → j < 34 → ad i = ad j → i = j) ∧ ∀ i : Nat, i < 34 → A (ad i)
theorem wl_D {A : Nat → Prop} {ad : Nat → Nat} {cs : Cs} (h : Hp) (hA : adOk A ad) : va_D A (wl ad cs h) := by
  refine ⟨fun i j p q hp hq e => ?_, fun k q hk => ?_⟩
  · obtain ⟨h1, rfl⟩ := wl_inv hp
    obtain ⟨h2, rfl⟩ := wl_inv hq
    exact hA.1 i j h1 h2 e
  · obtain ⟨h1, rfl⟩ := wl_inv hk
    exact hA.2 k h1
theorem wl_Di {A : Nat → Prop} {ad : Nat → Nat} {cs : Cs} {h : Hp} (hD : va_D A (wl ad cs h)) : adOk A ad :=
  ⟨fun i j h1 h2 e => hD.1 i j _ _ (wl_get h1) (wl_get h2) e, fun i h1 => hD.2 i _ (wl_get h1)⟩
theorem cE_obj {ad : Nat → Nat} {cs : Cs} {h : Hp} {o ci : Nat} (e : oC o = some ci) : cE ad cs h o = .inr (ci, (List.range (fD o).length).map (fun j => tr ad (fv h o j))) := by
  unfold cE
  rw [e]
theorem cE_arr {ad : Nat → Nat} {cs : Cs} {h : Hp} {o : Nat} (e : oC o = none) : cE ad cs h o = .inl (cO cs (aT o).1, (aT o).2, .inl (h.1 o)) := by
  unfold cE
  rw [e]
theorem cE_congr {ad : Nat → Nat} {cs : Cs} {h h2 : Hp} {o : Nat} (e1 : h.1 o = h2.1 o) (e2 : h.2 o = h2.2 o) : cE ad cs h o = cE ad cs h2 o := by
  have ef : ∀ j, fv h o j = fv h2 o j := fun j => by unfold fv; rw [e1, e2]
  unfold cE
  cases oC o with
  | none => simp only [e1]
  | some ci => simp only [ef]
/-- a world with one cell set is the world of another heap -/
theorem wl_set {ad : Nat → Nat} {cs : Cs} {h h2 : Hp} {o : Nat} {x : va_E} (hx : x = cE ad cs h2 o) (hn : ∀ i, i ≠ o → h2.1 i = h.1 i ∧ h2.2 i = h.2 i) : (wl ad cs h).set o (ad o, x) = wl ad cs h2 := by
  apply List.ext_getElem?
  intro i
  rw [List.getElem?_set]
  by_cases hi : i < 34
  · rw [wl_get hi, wl_get hi]
    by_cases he : o = i
    · subst he
      have hl : (wl ad cs h).length = 34 := by simp [wl]
      rw [if_pos rfl, if_pos (by omega), hx]
    · rw [if_neg he, cE_congr (hn i (fun q => he q.symm)).1.symm (hn i (fun q => he q.symm)).2.symm]
  · have hl : (wl ad cs h).length = 34 := by simp [wl]
    have hl2 : (wl ad cs h2).length = 34 := by simp [wl]
    rw [List.getElem?_eq_none (l := wl ad cs h2) (by omega), List.getElem?_eq_none (l := wl ad cs h) (by omega)]
    by_cases he : o = i
    · rw [if_pos he, if_neg (by omega)]
    · rw [if_neg he]
theorem sI_o {h : Hp} {o k : Nat} {v : Int32} : (sI h o k v).1 o = upd (h.1 o) k v := by
  funext j
  unfold sI upd
  by_cases hj : j = k
  · subst hj; simp
  · have e : (j == k) = false := by simpa using hj
    simp [hj, e]
theorem sI_n {h : Hp} {o k i : Nat} {v : Int32} (hi : i ≠ o) : (sI h o k v).1 i = h.1 i ∧ (sI h o k v).2 i = h.2 i := by
  refine ⟨?_, rfl⟩
  funext j
  have e : (i == o) = false := by simpa using hi
  unfold sI
  simp [e]
theorem sL_n {h : Hp} {o k i : Nat} {v : Int64} (hi : i ≠ o) : (sL h o k v).1 i = h.1 i ∧ (sL h o k v).2 i = h.2 i := by
  refine ⟨rfl, ?_⟩
  funext j
  have e : (i == o) = false := by simpa using hi
  unfold sL
  simp [e]
theorem sC_n {h : Hp} {a sp b dp n i : Nat} (hi : i ≠ b) : (sC h a sp b dp n).1 i = h.1 i ∧ (sC h a sp b dp n).2 i = h.2 i := by
  refine ⟨?_, rfl⟩
  funext j
  have e : (i == b) = false := by simpa using hi
  unfold sC
  simp [e]
theorem sC_o {h : Hp} {a sp b dp n : Nat} : (sC h a sp b dp n).1 b = va_cpy (h.1 a) (h.1 b) sp dp n := by
  funext j
  unfold sC va_cpy
  by_cases c1 : dp ≤ j ∧ j < dp + n
  · simp [c1]
  · simp [c1]
theorem set_put {ad : Nat → Nat} {cs : Cs} {h : Hp} {o ci j : Nat} {v : Int32} (e : oC o = some ci) (hd : (fD o)[j]? = some (some none)) : (wl ad cs h).set o (ad o, .inr (ci, ((List.range (fD o).length).map (fun j => tr ad (fv h o j))).set j (.int v))) = wl ad cs (sI h o j v) := by
  refine wl_set ?_ (fun i hi => sI_n hi)
  rw [cE_obj e]
  congr 2
  apply List.ext_getElem?
  intro q
  rw [List.getElem?_set, List.getElem?_map, List.getElem?_map]
  have hj : j < (fD o).length := (List.getElem?_eq_some_iff.mp hd).1
  by_cases hq : j = q
  · subst hq
    rw [if_pos rfl, if_pos (by simpa using hj), List.getElem?_range hj]
    simp only [Option.map_some, fv, hd, tr, sI_o, upd, if_pos]
  · rw [if_neg hq]
    have ef : fv (sI h o j v) o q = fv h o q := by
      have hx : (sI h o j v).1 o q = h.1 o q := by rw [sI_o]; unfold upd; rw [if_neg (fun z => hq z.symm)]
      have hy : (sI h o j v).2 = h.2 := rfl
      unfold fv
      rw [hx, hy]
    by_cases hl : q < (fD o).length
    · rw [List.getElem?_range hl]
      simp only [Option.map_some, ef]
    · rw [List.getElem?_eq_none (by simpa using hl)]
      rfl
theorem set_putL {ad : Nat → Nat} {cs : Cs} {h : Hp} {o ci j : Nat} {v : Int64} (e : oC o = some ci) (hd : (fD o)[j]? = some none) : (wl ad cs h).set o (ad o, .inr (ci, ((List.range (fD o).length).map (fun j => tr ad (fv h o j))).set j (.long v))) = wl ad cs (sL h o j v) := by
  refine wl_set ?_ (fun i hi => sL_n hi)
  rw [cE_obj e]
  congr 2
  apply List.ext_getElem?
  intro q
  rw [List.getElem?_set, List.getElem?_map, List.getElem?_map]
  have hj : j < (fD o).length := (List.getElem?_eq_some_iff.mp hd).1
  by_cases hq : j = q
  · subst hq
    rw [if_pos rfl, if_pos (by simpa using hj), List.getElem?_range hj]
    have hx : (sL h o j v).2 o j = v := by unfold sL; simp
    simp only [Option.map_some, fv, hd, tr, hx]
  · rw [if_neg hq]
    have ef : fv (sL h o j v) o q = fv h o q := by
      have hx : (sL h o j v).2 o q = h.2 o q := by
        have e : (q == j) = false := by simpa using (fun z => hq (Eq.symm z))
        unfold sL
        simp [e]
      have hy : (sL h o j v).1 = h.1 := rfl
      unfold fv
      rw [hx, hy]
    by_cases hl : q < (fD o).length
    · rw [List.getElem?_range hl]
      simp only [Option.map_some, ef]
    · rw [List.getElem?_eq_none (by simpa using hl)]
      rfl
theorem set_arr {ad : Nat → Nat} {cs : Cs} {h h2 : Hp} {o : Nat} {f : Nat → Int32} (e : oC o = none) (hf : f = h2.1 o) (hn : ∀ i, i ≠ o → h2.1 i = h.1 i ∧ h2.2 i = h.2 i) : (wl ad cs h).set o (ad o, .inl (cO cs (aT o).1, (aT o).2, .inl f)) = wl ad cs h2 := wl_set (by rw [cE_arr e, hf]) hn

/-! what a walk of one method holds fixed -/
abbrev KX : Type := (Program × Launch × Env) × (State × MethodId × Array Value × List Frame × Method × Code) × (Nat × Nat × (State → Prop)) × ((Nat → Nat) × Cs × va_G × (Nat → Prop))
abbrev kP (k : KX) : Program := k.1.1
abbrev kL (k : KX) : Launch := k.1.2.1
abbrev kE (k : KX) : Env := k.1.2.2
abbrev kS (k : KX) : State := k.2.1.1
abbrev kM (k : KX) : MethodId := k.2.1.2.1
abbrev kA (k : KX) : Array Value := k.2.1.2.2.1
abbrev kB (k : KX) : List Frame := k.2.1.2.2.2.1
abbrev kMe (k : KX) : Method := k.2.1.2.2.2.2.1
abbrev kC (k : KX) : Code := k.2.1.2.2.2.2.2
abbrev kCe (k : KX) : Nat := k.2.2.1.1
abbrev kSl (k : KX) : Nat := k.2.2.1.2.1
abbrev kQ (k : KX) : State → Prop := k.2.2.1.2.2
abbrev kAd (k : KX) : Nat → Nat := k.2.2.2.1
abbrev kCs (k : KX) : Cs := k.2.2.2.2.1
abbrev kD (k : KX) : va_G := k.2.2.2.2.2.1
abbrev kF (k : KX) : Nat → Prop := k.2.2.2.2.2.2
abbrev tys (cs : Cs) : List (ClassId × FieldType) := [(cs.1, .int), (cs.2.1, .byte), (cs.2.2, .boolean)]
abbrev trL (ad : Nat → Nat) (lv : List (Nat × Value)) : List (Nat × Value) := lv.map (fun q => (q.1, tr ad q.2))
def V (k : KX) (Rm : Room) (nL pc : Nat) (lv : List (Nat × Value)) (st : List Value) (h : Hp) : Prop :=
  ∀ (H : Heap) (locs : List Loc) (ls : Array Slot), lv_has ls nL (trL (kAd k) lv) → va_P (kD k) vwCl (wl (kAd k) (kCs k) h) H → va_S (kF k) (kS k).heap H locs → W (kP k) (kL k) (kE k) Rm (kS k) (kM k) (kA k) (kB k) (kMe k) (kC k) H locs (kCe k) (kSl k) (kQ k) (F0 (kM k) pc ls (st.map (tr (kAd k))))
def isNest : Cond → Bool
  | .fieldLinkNest _ _ _ _ _ _ => true
  | .methodLinkNest _ _ _ _ => true
  | _ => false
theorem nest_warm {s U : State} (hW : s.WarmedH U.vm) {w : Cond} (hn : isNest w = true) (h : va_Nw w s) : va_Nw w U := by
  unfold isNest at hn
  split at hn
  · exact va_Nw.warmF hW h
  · exact va_Nw.warmM hW h
  · cases hn
theorem nest_same {s U : State} (e : s.vm = U.vm) {w : Cond} (hn : isNest w = true) (h : va_Nw w s) : va_Nw w U := by
  unfold isNest at hn
  split at hn
  · exact va_Nw.same rfl e h
  · exact va_Nw.same rfl e h
  · cases hn
theorem nestW_is : ∀ w ∈ nestW, isNest w = true := by
  have h : nestW.all isNest = true := by decide +kernel
  exact List.all_eq_true.mp h

def Cx (k : KX) (cc : ByteArray) (own : String) (nL : Nat) (Rm : Room) : Prop :=
  (kP k).tables.exec = Jvm.exec ∧ (kC k).code = cc ∧ (kC k).maxLocals = nL ∧ (kS k).vm.findClass own = some (kM k).cls ∧ (∀ w ∈ wsG, w.before (kA k) (kS k) = true) ∧ va_K (kD k) vwCl (tys (kCs k)) (kS k) ∧ adOk (kF k) (kAd k) ∧ (∀ q, (kS k).heap.size ≤ q → kF k q) ∧ (kCe k ≤ Rm.cells ∧ kSl k ≤ Rm.slots) ∧ ∀ w ∈ nestW, va_Nw w (kS k)
def qR (ad : Nat → Nat) (cs : Cs) (D : va_G) (A : Nat → Prop) (rv : Option Value) (hf : Hp) : Array Value → State → Outcome → State → Prop := fun _ st oc t => oc = .returned (rv.map (tr ad)) ∧ va_P D vwCl (wl ad cs hf) t.heap ∧ va_F A st t
def Rx (k : KX) (ret : Option FieldType) (rv : Option Value) (hf : Hp) : Prop :=
  kQ k = MQ (kB k) (qR (kAd k) (kCs k) (kD k) (kF k) rv hf) (kA k) (kS k) 0 0 (kF k) ∧ (kMe k).sig.returnType = ret ∧ (kMe k).locks = false ∧ kCe k = 0 ∧ kSl k = 0
/-- a method's contract: from the heap h with these arguments it answers rv and leaves the heap hf -/
def wsOf (ad : Nat → Nat) (cs : Cs) (D : va_G) (sz : Nat) (h : Hp) (U : State) : Prop := U.heap.size = sz ∧ va_P D vwCl (wl ad cs h) U.heap ∧ va_K D vwCl (tys cs) U ∧ va_D (fun _ => True) (wl ad cs h) ∧ ∀ w ∈ nestW, va_Nw w U
def Ct (l : Launch) (y : MethodName) (ws : List Cond) (rm : Room) (xs : List Value) (h : Hp) (rv : Option Value) (hf : Hp) : Prop :=
  ∀ (ad : Nat → Nat) (cs : Cs) (D : va_G) (sz : Nat), Met l y ws rm (va_Pc (xs.map (tr ad)) (wsOf ad cs D sz h)) (qR ad cs D (va_A (wl ad cs h) sz) rv hf) 0 0 (va_A (wl ad cs h) sz)

theorem V.iconst {k : KX} {cc : ByteArray} {own : String} {nL : Nat} {Rm : Room} {pc : Nat} {lv : List (Nat × Value)} {st : List Value} {h : Hp} (C : Cx k cc own nL Rm) {n : Int} {v : Int32} (d : decode cc pc = .ok (.iconst n, 1)) (hv : Int32.ofInt n = v) (g : V k Rm nL (pc + 1) lv (.int v :: st) h) : V k Rm nL pc lv st h := by
  intro H locs ls hl hP hS
  exact lv_iconst C.1 C.2.1 d hv (g H locs ls hl hP hS)
theorem V.bipush {k : KX} {cc : ByteArray} {own : String} {nL : Nat} {Rm : Room} {pc : Nat} {lv : List (Nat × Value)} {st : List Value} {h : Hp} (C : Cx k cc own nL Rm) {n : Int} {v : Int32} (d : decode cc pc = .ok (.bipush n, 2)) (hv : (Int8.ofInt n).toInt32 = v) (g : V k Rm nL (pc + 2) lv (.int v :: st) h) : V k Rm nL pc lv st h := by
  intro H locs ls hl hP hS
  exact lv_bipush C.1 C.2.1 d hv (g H locs ls hl hP hS)
theorem V.sipush {k : KX} {cc : ByteArray} {own : String} {nL : Nat} {Rm : Room} {pc : Nat} {lv : List (Nat × Value)} {st : List Value} {h : Hp} (C : Cx k cc own nL Rm) {n : Int} {v : Int32} (d : decode cc pc = .ok (.sipush n, 3)) (hv : (Int16.ofInt n).toInt32 = v) (g : V k Rm nL (pc + 3) lv (.int v :: st) h) : V k Rm nL pc lv st h := by
  intro H locs ls hl hP hS
  exact lv_sipush C.1 C.2.1 d hv (g H locs ls hl hP hS)
theorem V.lconst {k : KX} {cc : ByteArray} {own : String} {nL : Nat} {Rm : Room} {pc : Nat} {lv : List (Nat × Value)} {st : List Value} {h : Hp} (C : Cx k cc own nL Rm) {n : Fin 2} {v : Int64} (d : decode cc pc = .ok (.lconst n, 1)) (hv : Int64.ofNat (n : Nat) = v) (g : V k Rm nL (pc + 1) lv (.long v :: st) h) : V k Rm nL pc lv st h := by
  intro H locs ls hl hP hS
  exact lv_lconst C.1 C.2.1 d hv (g H locs ls hl hP hS)
theorem V.ldc {k : KX} {cc : ByteArray} {own : String} {nL : Nat} {Rm : Room} {pc : Nat} {lv : List (Nat × Value)} {st : List Value} {h : Hp} (C : Cx k cc own nL Rm) {i : Nat} {v : Int32} (hc : Cond.constant own i v ∈ wsG) (d : decode cc pc = .ok (.ldc i, 2)) (g : V k Rm nL (pc + 2) lv (.int v :: st) h) : V k Rm nL pc lv st h := by
  intro H locs ls hl hP hS
  exact lv_ldc C.1 C.2.1 C.2.2.2.1 (C.2.2.2.2.1 _ hc) d (g H locs ls hl hP hS)
theorem V.ldcw {k : KX} {cc : ByteArray} {own : String} {nL : Nat} {Rm : Room} {pc : Nat} {lv : List (Nat × Value)} {st : List Value} {h : Hp} (C : Cx k cc own nL Rm) {i : Nat} {v : Int32} (hc : Cond.constant own i v ∈ wsG) (d : decode cc pc = .ok (.ldc_w i, 3)) (g : V k Rm nL (pc + 3) lv (.int v :: st) h) : V k Rm nL pc lv st h := by
  intro H locs ls hl hP hS
  exact lv_ldcw C.1 C.2.1 C.2.2.2.1 (C.2.2.2.2.1 _ hc) d (g H locs ls hl hP hS)
theorem V.ldc2 {k : KX} {cc : ByteArray} {own : String} {nL : Nat} {Rm : Room} {pc : Nat} {lv : List (Nat × Value)} {st : List Value} {h : Hp} (C : Cx k cc own nL Rm) {i : Nat} {v : Int64} (hc : Cond.constantLong own i v ∈ wsG) (d : decode cc pc = .ok (.ldc2_w i, 3)) (g : V k Rm nL (pc + 3) lv (.long v :: st) h) : V k Rm nL pc lv st h := by
  intro H locs ls hl hP hS
  exact lv_ldc2 C.1 C.2.1 C.2.2.2.1 (C.2.2.2.2.1 _ hc) d (g H locs ls hl hP hS)
theorem lvAt {ad : Nat → Nat} {ls : Array Slot} {nL : Nat} {lv : List (Nat × Value)} (hl : lv_has ls nL (trL ad lv)) (j : Nat) {i : Nat} {v : Value} (hk : lv[j]? = some (i, v)) : ls[i]? = some (.val (tr ad v)) := lv_at hl j (by rw [List.getElem?_map, hk]; rfl)
theorem V.iload_n {k : KX} {cc : ByteArray} {own : String} {nL : Nat} {Rm : Room} {pc : Nat} {lv : List (Nat × Value)} {st : List Value} {h : Hp} (C : Cx k cc own nL Rm) {i : Fin 4} {x : Int32} (d : decode cc pc = .ok (.iload_n i, 1)) (j : Nat) (hk : lv[j]? = some ((i : Nat), .int x)) (g : V k Rm nL (pc + 1) lv (.int x :: st) h) : V k Rm nL pc lv st h := by
  intro H locs ls hl hP hS
  exact lv_iload_n C.1 C.2.1 d rfl (lvAt hl j hk) (g H locs ls hl hP hS)
theorem V.iload {k : KX} {cc : ByteArray} {own : String} {nL : Nat} {Rm : Room} {pc : Nat} {lv : List (Nat × Value)} {st : List Value} {h : Hp} (C : Cx k cc own nL Rm) {i : Nat} {x : Int32} (d : decode cc pc = .ok (.iload i, 2)) (j : Nat) (hk : lv[j]? = some (i, .int x)) (g : V k Rm nL (pc + 2) lv (.int x :: st) h) : V k Rm nL pc lv st h := by
  intro H locs ls hl hP hS
  exact lv_iload C.1 C.2.1 d (lvAt hl j hk) (g H locs ls hl hP hS)
theorem V.lload_n {k : KX} {cc : ByteArray} {own : String} {nL : Nat} {Rm : Room} {pc : Nat} {lv : List (Nat × Value)} {st : List Value} {h : Hp} (C : Cx k cc own nL Rm) {i : Fin 4} {x : Int64} (d : decode cc pc = .ok (.lload_n i, 1)) (j : Nat) (hk : lv[j]? = some ((i : Nat), .long x)) (g : V k Rm nL (pc + 1) lv (.long x :: st) h) : V k Rm nL pc lv st h := by
  intro H locs ls hl hP hS
  exact lv_lload_n C.1 C.2.1 d rfl (lvAt hl j hk) (g H locs ls hl hP hS)
theorem V.lload {k : KX} {cc : ByteArray} {own : String} {nL : Nat} {Rm : Room} {pc : Nat} {lv : List (Nat × Value)} {st : List Value} {h : Hp} (C : Cx k cc own nL Rm) {i : Nat} {x : Int64} (d : decode cc pc = .ok (.lload i, 2)) (j : Nat) (hk : lv[j]? = some (i, .long x)) (g : V k Rm nL (pc + 2) lv (.long x :: st) h) : V k Rm nL pc lv st h := by
  intro H locs ls hl hP hS
  exact lv_lload C.1 C.2.1 d (lvAt hl j hk) (g H locs ls hl hP hS)
theorem V.aload_n {k : KX} {cc : ByteArray} {own : String} {nL : Nat} {Rm : Room} {pc : Nat} {lv : List (Nat × Value)} {st : List Value} {h : Hp} (C : Cx k cc own nL Rm) {i : Fin 4} {x : Nat} (d : decode cc pc = .ok (.aload_n i, 1)) (j : Nat) (hk : lv[j]? = some ((i : Nat), .ref x)) (g : V k Rm nL (pc + 1) lv (.ref x :: st) h) : V k Rm nL pc lv st h := by
  intro H locs ls hl hP hS
  exact lv_aload_n C.1 C.2.1 d rfl (lvAt hl j hk) (g H locs ls hl hP hS)
theorem trL_f1 {ad : Nat → Nat} {lv : List (Nat × Value)} {i : Nat} : (trL ad lv).filter (fun q => !(q.1 == i) && !(q.1 + 1 == i && q.2.category == 2)) = trL ad (lv.filter (fun q => !(q.1 == i) && !(q.1 + 1 == i && q.2.category == 2))) := by
  unfold trL
  rw [List.filter_map]
  congr 1
  apply List.filter_congr
  intro q _
  simp only [Function.comp, tr_cat]
theorem trL_f2 {ad : Nat → Nat} {lv : List (Nat × Value)} {i : Nat} : (trL ad lv).filter (fun q => !(q.1 == i) && (!(q.1 == i + 1) && !(q.1 + 1 == i && q.2.category == 2))) = trL ad (lv.filter (fun q => !(q.1 == i) && (!(q.1 == i + 1) && !(q.1 + 1 == i && q.2.category == 2)))) := by
  unfold trL
  rw [List.filter_map]
  congr 1
  apply List.filter_congr
  intro q _
  simp only [Function.comp, tr_cat]
theorem V.istore_n {k : KX} {cc : ByteArray} {own : String} {nL : Nat} {Rm : Room} {pc : Nat} {lv : List (Nat × Value)} {st : List Value} {h : Hp} (C : Cx k cc own nL Rm) {i0 : Fin 4} {i : Nat} {x : Int32} {lv2 : List (Nat × Value)} (d : decode cc pc = .ok (.istore_n i0, 1)) (hi : (i0 : Nat) = i) (hn : i < nL) (e : (i, Value.int x) :: lv.filter (fun q => !(q.1 == i) && !(q.1 + 1 == i && q.2.category == 2)) = lv2) (g : V k Rm nL (pc + 1) lv2 st h) : V k Rm nL pc lv (.int x :: st) h := by
  intro H locs ls hl hP hS
  exact lv_istore_n C.1 C.2.1 d hi hl hn (by rw [trL_f1]; exact congrArg (trL (kAd k)) e) (fun ls2 hl2 => g H locs ls2 hl2 hP hS)
theorem V.istore {k : KX} {cc : ByteArray} {own : String} {nL : Nat} {Rm : Room} {pc : Nat} {lv : List (Nat × Value)} {st : List Value} {h : Hp} (C : Cx k cc own nL Rm) {i : Nat} {x : Int32} {lv2 : List (Nat × Value)} (d : decode cc pc = .ok (.istore i, 2)) (hn : i < nL) (e : (i, Value.int x) :: lv.filter (fun q => !(q.1 == i) && !(q.1 + 1 == i && q.2.category == 2)) = lv2) (g : V k Rm nL (pc + 2) lv2 st h) : V k Rm nL pc lv (.int x :: st) h := by
  intro H locs ls hl hP hS
  exact lv_istore C.1 C.2.1 d hl hn (by rw [trL_f1]; exact congrArg (trL (kAd k)) e) (fun ls2 hl2 => g H locs ls2 hl2 hP hS)
theorem V.lstore_n {k : KX} {cc : ByteArray} {own : String} {nL : Nat} {Rm : Room} {pc : Nat} {lv : List (Nat × Value)} {st : List Value} {h : Hp} (C : Cx k cc own nL Rm) {i0 : Fin 4} {i : Nat} {x : Int64} {lv2 : List (Nat × Value)} (d : decode cc pc = .ok (.lstore_n i0, 1)) (hi : (i0 : Nat) = i) (hn : i + 1 < nL) (e : (i, Value.long x) :: lv.filter (fun q => !(q.1 == i) && (!(q.1 == i + 1) && !(q.1 + 1 == i && q.2.category == 2))) = lv2) (g : V k Rm nL (pc + 1) lv2 st h) : V k Rm nL pc lv (.long x :: st) h := by
  intro H locs ls hl hP hS
  exact lv_lstore_n C.1 C.2.1 d hi hl hn (by rw [trL_f2]; exact congrArg (trL (kAd k)) e) (fun ls2 hl2 => g H locs ls2 hl2 hP hS)
theorem V.lstore {k : KX} {cc : ByteArray} {own : String} {nL : Nat} {Rm : Room} {pc : Nat} {lv : List (Nat × Value)} {st : List Value} {h : Hp} (C : Cx k cc own nL Rm) {i : Nat} {x : Int64} {lv2 : List (Nat × Value)} (d : decode cc pc = .ok (.lstore i, 2)) (hn : i + 1 < nL) (e : (i, Value.long x) :: lv.filter (fun q => !(q.1 == i) && (!(q.1 == i + 1) && !(q.1 + 1 == i && q.2.category == 2))) = lv2) (g : V k Rm nL (pc + 2) lv2 st h) : V k Rm nL pc lv (.long x :: st) h := by
  intro H locs ls hl hP hS
  exact lv_lstore C.1 C.2.1 d hl hn (by rw [trL_f2]; exact congrArg (trL (kAd k)) e) (fun ls2 hl2 => g H locs ls2 hl2 hP hS)
theorem V.iinc {k : KX} {cc : ByteArray} {own : String} {nL : Nat} {Rm : Room} {pc : Nat} {lv : List (Nat × Value)} {st : List Value} {h : Hp} (C : Cx k cc own nL Rm) {i j : Nat} {n : Int} {x v : Int32} {lv2 : List (Nat × Value)} (d : decode cc pc = .ok (.iinc i n, 3)) (hk : lv[j]? = some (i, .int x)) (hv : x + Int32.ofInt n = v) (hn : i < nL) (e : (i, Value.int v) :: lv.filter (fun q => !(q.1 == i) && !(q.1 + 1 == i && q.2.category == 2)) = lv2) (g : V k Rm nL (pc + 3) lv2 st h) : V k Rm nL pc lv st h := by
  intro H locs ls hl hP hS
  exact lv_iinc C.1 C.2.1 d hl (k := j) (by rw [List.getElem?_map, hk]; rfl) hv hn (by rw [trL_f1]; exact congrArg (trL (kAd k)) e) (fun ls2 hl2 => g H locs ls2 hl2 hP hS)
theorem V.iadd {k : KX} {cc : ByteArray} {own : String} {nL : Nat} {Rm : Room} {pc : Nat} {lv : List (Nat × Value)} {st : List Value} {h : Hp} (C : Cx k cc own nL Rm) {x y : Int32} (d : decode cc pc = .ok (.iadd, 1)) (g : V k Rm nL (pc + 1) lv (.int (x + y) :: st) h) : V k Rm nL pc lv (.int y :: .int x :: st) h := by
  intro H locs ls hl hP hS
  exact lv_iadd C.1 C.2.1 d (g H locs ls hl hP hS)
theorem V.isub {k : KX} {cc : ByteArray} {own : String} {nL : Nat} {Rm : Room} {pc : Nat} {lv : List (Nat × Value)} {st : List Value} {h : Hp} (C : Cx k cc own nL Rm) {x y : Int32} (d : decode cc pc = .ok (.isub, 1)) (g : V k Rm nL (pc + 1) lv (.int (x - y) :: st) h) : V k Rm nL pc lv (.int y :: .int x :: st) h := by
  intro H locs ls hl hP hS
  exact lv_isub C.1 C.2.1 d (g H locs ls hl hP hS)
theorem V.imul {k : KX} {cc : ByteArray} {own : String} {nL : Nat} {Rm : Room} {pc : Nat} {lv : List (Nat × Value)} {st : List Value} {h : Hp} (C : Cx k cc own nL Rm) {x y : Int32} (d : decode cc pc = .ok (.imul, 1)) (g : V k Rm nL (pc + 1) lv (.int (x * y) :: st) h) : V k Rm nL pc lv (.int y :: .int x :: st) h := by
  intro H locs ls hl hP hS
  exact lv_imul C.1 C.2.1 d (g H locs ls hl hP hS)
theorem V.iand {k : KX} {cc : ByteArray} {own : String} {nL : Nat} {Rm : Room} {pc : Nat} {lv : List (Nat × Value)} {st : List Value} {h : Hp} (C : Cx k cc own nL Rm) {x y : Int32} (d : decode cc pc = .ok (.iand, 1)) (g : V k Rm nL (pc + 1) lv (.int (x &&& y) :: st) h) : V k Rm nL pc lv (.int y :: .int x :: st) h := by
  intro H locs ls hl hP hS
  exact lv_iand C.1 C.2.1 d (g H locs ls hl hP hS)
theorem V.ior {k : KX} {cc : ByteArray} {own : String} {nL : Nat} {Rm : Room} {pc : Nat} {lv : List (Nat × Value)} {st : List Value} {h : Hp} (C : Cx k cc own nL Rm) {x y : Int32} (d : decode cc pc = .ok (.ior, 1)) (g : V k Rm nL (pc + 1) lv (.int (x ||| y) :: st) h) : V k Rm nL pc lv (.int y :: .int x :: st) h := by
  intro H locs ls hl hP hS
  exact lv_ior C.1 C.2.1 d (g H locs ls hl hP hS)
theorem V.ishl {k : KX} {cc : ByteArray} {own : String} {nL : Nat} {Rm : Room} {pc : Nat} {lv : List (Nat × Value)} {st : List Value} {h : Hp} (C : Cx k cc own nL Rm) {x y : Int32} (d : decode cc pc = .ok (.ishl, 1)) (g : V k Rm nL (pc + 1) lv (.int (x <<< (y &&& 31)) :: st) h) : V k Rm nL pc lv (.int y :: .int x :: st) h := by
  intro H locs ls hl hP hS
  exact lv_ishl C.1 C.2.1 d (g H locs ls hl hP hS)
theorem V.ishr {k : KX} {cc : ByteArray} {own : String} {nL : Nat} {Rm : Room} {pc : Nat} {lv : List (Nat × Value)} {st : List Value} {h : Hp} (C : Cx k cc own nL Rm) {x y : Int32} (d : decode cc pc = .ok (.ishr, 1)) (g : V k Rm nL (pc + 1) lv (.int (x >>> (y &&& 31)) :: st) h) : V k Rm nL pc lv (.int y :: .int x :: st) h := by
  intro H locs ls hl hP hS
  exact lv_ishr C.1 C.2.1 d (g H locs ls hl hP hS)
theorem V.iushr {k : KX} {cc : ByteArray} {own : String} {nL : Nat} {Rm : Room} {pc : Nat} {lv : List (Nat × Value)} {st : List Value} {h : Hp} (C : Cx k cc own nL Rm) {x y : Int32} (d : decode cc pc = .ok (.iushr, 1)) (g : V k Rm nL (pc + 1) lv (.int ((x.toUInt32 >>> (y.toUInt32 &&& Int32.toUInt32 31)).toInt32) :: st) h) : V k Rm nL pc lv (.int y :: .int x :: st) h := by
  intro H locs ls hl hP hS
  exact lv_iushr C.1 C.2.1 d rfl (g H locs ls hl hP hS)
theorem V.idiv {k : KX} {cc : ByteArray} {own : String} {nL : Nat} {Rm : Room} {pc : Nat} {lv : List (Nat × Value)} {st : List Value} {h : Hp} (C : Cx k cc own nL Rm) {x y : Int32} (d : decode cc pc = .ok (.idiv, 1)) (hz : ¬ y = 0) (g : V k Rm nL (pc + 1) lv (.int (x / y) :: st) h) : V k Rm nL pc lv (.int y :: .int x :: st) h := by
  intro H locs ls hl hP hS
  exact lv_idiv C.1 C.2.1 d hz (g H locs ls hl hP hS)
theorem V.irem {k : KX} {cc : ByteArray} {own : String} {nL : Nat} {Rm : Room} {pc : Nat} {lv : List (Nat × Value)} {st : List Value} {h : Hp} (C : Cx k cc own nL Rm) {x y : Int32} (d : decode cc pc = .ok (.irem, 1)) (hz : ¬ y = 0) (g : V k Rm nL (pc + 1) lv (.int (x - x / y * y) :: st) h) : V k Rm nL pc lv (.int y :: .int x :: st) h := by
  intro H locs ls hl hP hS
  exact lv_irem C.1 C.2.1 d hz (g H locs ls hl hP hS)
theorem V.ladd {k : KX} {cc : ByteArray} {own : String} {nL : Nat} {Rm : Room} {pc : Nat} {lv : List (Nat × Value)} {st : List Value} {h : Hp} (C : Cx k cc own nL Rm) {x y : Int64} (d : decode cc pc = .ok (.ladd, 1)) (g : V k Rm nL (pc + 1) lv (.long (x + y) :: st) h) : V k Rm nL pc lv (.long y :: .long x :: st) h := by
  intro H locs ls hl hP hS
  exact lv_ladd C.1 C.2.1 d (g H locs ls hl hP hS)
theorem V.lmul {k : KX} {cc : ByteArray} {own : String} {nL : Nat} {Rm : Room} {pc : Nat} {lv : List (Nat × Value)} {st : List Value} {h : Hp} (C : Cx k cc own nL Rm) {x y : Int64} (d : decode cc pc = .ok (.lmul, 1)) (g : V k Rm nL (pc + 1) lv (.long (x * y) :: st) h) : V k Rm nL pc lv (.long y :: .long x :: st) h := by
  intro H locs ls hl hP hS
  exact lv_lmul C.1 C.2.1 d (g H locs ls hl hP hS)
theorem V.ldiv {k : KX} {cc : ByteArray} {own : String} {nL : Nat} {Rm : Room} {pc : Nat} {lv : List (Nat × Value)} {st : List Value} {h : Hp} (C : Cx k cc own nL Rm) {x y : Int64} (d : decode cc pc = .ok (.ldiv, 1)) (hz : ¬ y = 0) (g : V k Rm nL (pc + 1) lv (.long (x / y) :: st) h) : V k Rm nL pc lv (.long y :: .long x :: st) h := by
  intro H locs ls hl hP hS
  exact lv_ldiv C.1 C.2.1 d hz (g H locs ls hl hP hS)
theorem V.lrem {k : KX} {cc : ByteArray} {own : String} {nL : Nat} {Rm : Room} {pc : Nat} {lv : List (Nat × Value)} {st : List Value} {h : Hp} (C : Cx k cc own nL Rm) {x y : Int64} (d : decode cc pc = .ok (.lrem, 1)) (hz : ¬ y = 0) (g : V k Rm nL (pc + 1) lv (.long (x - x / y * y) :: st) h) : V k Rm nL pc lv (.long y :: .long x :: st) h := by
  intro H locs ls hl hP hS
  exact lv_lrem C.1 C.2.1 d hz (g H locs ls hl hP hS)
theorem V.lcmp {k : KX} {cc : ByteArray} {own : String} {nL : Nat} {Rm : Room} {pc : Nat} {lv : List (Nat × Value)} {st : List Value} {h : Hp} (C : Cx k cc own nL Rm) {x y : Int64} (d : decode cc pc = .ok (.lcmp, 1)) (g : V k Rm nL (pc + 1) lv (.int (lg_cmp x y) :: st) h) : V k Rm nL pc lv (.long y :: .long x :: st) h := by
  intro H locs ls hl hP hS
  exact W.lcmp C.1 C.2.1 d (g H locs ls hl hP hS)
theorem V.i2l {k : KX} {cc : ByteArray} {own : String} {nL : Nat} {Rm : Room} {pc : Nat} {lv : List (Nat × Value)} {st : List Value} {h : Hp} (C : Cx k cc own nL Rm) {x : Int32} (d : decode cc pc = .ok (.i2l, 1)) (g : V k Rm nL (pc + 1) lv (.long x.toInt64 :: st) h) : V k Rm nL pc lv (.int x :: st) h := by
  intro H locs ls hl hP hS
  exact lv_i2l C.1 C.2.1 d rfl (g H locs ls hl hP hS)
theorem V.i2b {k : KX} {cc : ByteArray} {own : String} {nL : Nat} {Rm : Room} {pc : Nat} {lv : List (Nat × Value)} {st : List Value} {h : Hp} (C : Cx k cc own nL Rm) {x : Int32} (d : decode cc pc = .ok (.i2b, 1)) (g : V k Rm nL (pc + 1) lv (.int x.toInt8.toInt32 :: st) h) : V k Rm nL pc lv (.int x :: st) h := by
  intro H locs ls hl hP hS
  exact lv_i2b C.1 C.2.1 d rfl (g H locs ls hl hP hS)
theorem V.dup {k : KX} {cc : ByteArray} {own : String} {nL : Nat} {Rm : Room} {pc : Nat} {lv : List (Nat × Value)} {st : List Value} {h : Hp} (C : Cx k cc own nL Rm) {v : Value} (d : decode cc pc = .ok (.dup, 1)) (hv : v.category = 1) (g : V k Rm nL (pc + 1) lv (v :: v :: st) h) : V k Rm nL pc lv (v :: st) h := by
  intro H locs ls hl hP hS
  exact lv_dup C.1 C.2.1 d ((tr_cat _ _).trans hv) (g H locs ls hl hP hS)
theorem V.pop {k : KX} {cc : ByteArray} {own : String} {nL : Nat} {Rm : Room} {pc : Nat} {lv : List (Nat × Value)} {st : List Value} {h : Hp} (C : Cx k cc own nL Rm) {v : Value} (d : decode cc pc = .ok (.pop, 1)) (hv : v.category = 1) (g : V k Rm nL (pc + 1) lv st h) : V k Rm nL pc lv (v :: st) h := by
  intro H locs ls hl hP hS
  exact lv_pop C.1 C.2.1 d ((tr_cat _ _).trans hv) (g H locs ls hl hP hS)
theorem V.dup2 {k : KX} {cc : ByteArray} {own : String} {nL : Nat} {Rm : Room} {pc : Nat} {lv : List (Nat × Value)} {st : List Value} {h : Hp} (C : Cx k cc own nL Rm) {v w : Value} (d : decode cc pc = .ok (.dup2, 1)) (hv : v.category = 1) (hw : w.category = 1) (g : V k Rm nL (pc + 1) lv (v :: w :: v :: w :: st) h) : V k Rm nL pc lv (v :: w :: st) h := by
  intro H locs ls hl hP hS
  exact lv_dup2_11 C.1 C.2.1 d ((tr_cat _ _).trans hv) ((tr_cat _ _).trans hw) (g H locs ls hl hP hS)
theorem V.dup2L {k : KX} {cc : ByteArray} {own : String} {nL : Nat} {Rm : Room} {pc : Nat} {lv : List (Nat × Value)} {st : List Value} {h : Hp} (C : Cx k cc own nL Rm) {v : Value} (d : decode cc pc = .ok (.dup2, 1)) (hv : v.category = 2) (g : V k Rm nL (pc + 1) lv (v :: v :: st) h) : V k Rm nL pc lv (v :: st) h := by
  intro H locs ls hl hP hS
  exact lv_dup2_2 C.1 C.2.1 d ((tr_cat _ _).trans hv) (g H locs ls hl hP hS)
theorem V.if_eq {k : KX} {cc : ByteArray} {own : String} {nL : Nat} {Rm : Room} {pc : Nat} {lv : List (Nat × Value)} {st : List Value} {h : Hp} (C : Cx k cc own nL Rm) {x : Int32} {off : Int} {tgt : Nat} (d : decode cc pc = .ok (.ifCond .eq off, 3)) (ht : (pc : Int) + off = (tgt : Int)) (gt : x = 0 → V k Rm nL tgt lv st h) (gf : ¬ x = 0 → V k Rm nL (pc + 3) lv st h) : V k Rm nL pc lv (.int x :: st) h := by
  intro H locs ls hl hP hS
  exact lv_if_eq C.1 C.2.1 d ht (fun q => gt q H locs ls hl hP hS) (fun q => gf q H locs ls hl hP hS)
theorem V.icmp_eq {k : KX} {cc : ByteArray} {own : String} {nL : Nat} {Rm : Room} {pc : Nat} {lv : List (Nat × Value)} {st : List Value} {h : Hp} (C : Cx k cc own nL Rm) {x y : Int32} {off : Int} {tgt : Nat} (d : decode cc pc = .ok (.if_icmp .eq off, 3)) (ht : (pc : Int) + off = (tgt : Int)) (gt : x = y → V k Rm nL tgt lv st h) (gf : ¬ x = y → V k Rm nL (pc + 3) lv st h) : V k Rm nL pc lv (.int y :: .int x :: st) h := by
  intro H locs ls hl hP hS
  exact lv_icmp_eq C.1 C.2.1 d ht (fun q => gt q H locs ls hl hP hS) (fun q => gf q H locs ls hl hP hS)
theorem V.if_ne {k : KX} {cc : ByteArray} {own : String} {nL : Nat} {Rm : Room} {pc : Nat} {lv : List (Nat × Value)} {st : List Value} {h : Hp} (C : Cx k cc own nL Rm) {x : Int32} {off : Int} {tgt : Nat} (d : decode cc pc = .ok (.ifCond .ne off, 3)) (ht : (pc : Int) + off = (tgt : Int)) (gt : ¬ x = 0 → V k Rm nL tgt lv st h) (gf : x = 0 → V k Rm nL (pc + 3) lv st h) : V k Rm nL pc lv (.int x :: st) h := by
  intro H locs ls hl hP hS
  exact lv_if_ne C.1 C.2.1 d ht (fun q => gt q H locs ls hl hP hS) (fun q => gf q H locs ls hl hP hS)
theorem V.icmp_ne {k : KX} {cc : ByteArray} {own : String} {nL : Nat} {Rm : Room} {pc : Nat} {lv : List (Nat × Value)} {st : List Value} {h : Hp} (C : Cx k cc own nL Rm) {x y : Int32} {off : Int} {tgt : Nat} (d : decode cc pc = .ok (.if_icmp .ne off, 3)) (ht : (pc : Int) + off = (tgt : Int)) (gt : ¬ x = y → V k Rm nL tgt lv st h) (gf : x = y → V k Rm nL (pc + 3) lv st h) : V k Rm nL pc lv (.int y :: .int x :: st) h := by
  intro H locs ls hl hP hS
  exact lv_icmp_ne C.1 C.2.1 d ht (fun q => gt q H locs ls hl hP hS) (fun q => gf q H locs ls hl hP hS)
theorem V.if_lt {k : KX} {cc : ByteArray} {own : String} {nL : Nat} {Rm : Room} {pc : Nat} {lv : List (Nat × Value)} {st : List Value} {h : Hp} (C : Cx k cc own nL Rm) {x : Int32} {off : Int} {tgt : Nat} (d : decode cc pc = .ok (.ifCond .lt off, 3)) (ht : (pc : Int) + off = (tgt : Int)) (gt : x < 0 → V k Rm nL tgt lv st h) (gf : ¬ x < 0 → V k Rm nL (pc + 3) lv st h) : V k Rm nL pc lv (.int x :: st) h := by
  intro H locs ls hl hP hS
  exact lv_if_lt C.1 C.2.1 d ht (fun q => gt q H locs ls hl hP hS) (fun q => gf q H locs ls hl hP hS)
theorem V.icmp_lt {k : KX} {cc : ByteArray} {own : String} {nL : Nat} {Rm : Room} {pc : Nat} {lv : List (Nat × Value)} {st : List Value} {h : Hp} (C : Cx k cc own nL Rm) {x y : Int32} {off : Int} {tgt : Nat} (d : decode cc pc = .ok (.if_icmp .lt off, 3)) (ht : (pc : Int) + off = (tgt : Int)) (gt : x < y → V k Rm nL tgt lv st h) (gf : ¬ x < y → V k Rm nL (pc + 3) lv st h) : V k Rm nL pc lv (.int y :: .int x :: st) h := by
  intro H locs ls hl hP hS
  exact lv_icmp_lt C.1 C.2.1 d ht (fun q => gt q H locs ls hl hP hS) (fun q => gf q H locs ls hl hP hS)
theorem V.if_ge {k : KX} {cc : ByteArray} {own : String} {nL : Nat} {Rm : Room} {pc : Nat} {lv : List (Nat × Value)} {st : List Value} {h : Hp} (C : Cx k cc own nL Rm) {x : Int32} {off : Int} {tgt : Nat} (d : decode cc pc = .ok (.ifCond .ge off, 3)) (ht : (pc : Int) + off = (tgt : Int)) (gt : 0 ≤ x → V k Rm nL tgt lv st h) (gf : ¬ 0 ≤ x → V k Rm nL (pc + 3) lv st h) : V k Rm nL pc lv (.int x :: st) h := by
  intro H locs ls hl hP hS
  exact lv_if_ge C.1 C.2.1 d ht (fun q => gt q H locs ls hl hP hS) (fun q => gf q H locs ls hl hP hS)
theorem V.icmp_ge {k : KX} {cc : ByteArray} {own : String} {nL : Nat} {Rm : Room} {pc : Nat} {lv : List (Nat × Value)} {st : List Value} {h : Hp} (C : Cx k cc own nL Rm) {x y : Int32} {off : Int} {tgt : Nat} (d : decode cc pc = .ok (.if_icmp .ge off, 3)) (ht : (pc : Int) + off = (tgt : Int)) (gt : y ≤ x → V k Rm nL tgt lv st h) (gf : ¬ y ≤ x → V k Rm nL (pc + 3) lv st h) : V k Rm nL pc lv (.int y :: .int x :: st) h := by
  intro H locs ls hl hP hS
  exact lv_icmp_ge C.1 C.2.1 d ht (fun q => gt q H locs ls hl hP hS) (fun q => gf q H locs ls hl hP hS)
theorem V.if_gt {k : KX} {cc : ByteArray} {own : String} {nL : Nat} {Rm : Room} {pc : Nat} {lv : List (Nat × Value)} {st : List Value} {h : Hp} (C : Cx k cc own nL Rm) {x : Int32} {off : Int} {tgt : Nat} (d : decode cc pc = .ok (.ifCond .gt off, 3)) (ht : (pc : Int) + off = (tgt : Int)) (gt : 0 < x → V k Rm nL tgt lv st h) (gf : ¬ 0 < x → V k Rm nL (pc + 3) lv st h) : V k Rm nL pc lv (.int x :: st) h := by
  intro H locs ls hl hP hS
  exact lv_if_gt C.1 C.2.1 d ht (fun q => gt q H locs ls hl hP hS) (fun q => gf q H locs ls hl hP hS)
theorem V.icmp_gt {k : KX} {cc : ByteArray} {own : String} {nL : Nat} {Rm : Room} {pc : Nat} {lv : List (Nat × Value)} {st : List Value} {h : Hp} (C : Cx k cc own nL Rm) {x y : Int32} {off : Int} {tgt : Nat} (d : decode cc pc = .ok (.if_icmp .gt off, 3)) (ht : (pc : Int) + off = (tgt : Int)) (gt : y < x → V k Rm nL tgt lv st h) (gf : ¬ y < x → V k Rm nL (pc + 3) lv st h) : V k Rm nL pc lv (.int y :: .int x :: st) h := by
  intro H locs ls hl hP hS
  exact lv_icmp_gt C.1 C.2.1 d ht (fun q => gt q H locs ls hl hP hS) (fun q => gf q H locs ls hl hP hS)
theorem V.if_le {k : KX} {cc : ByteArray} {own : String} {nL : Nat} {Rm : Room} {pc : Nat} {lv : List (Nat × Value)} {st : List Value} {h : Hp} (C : Cx k cc own nL Rm) {x : Int32} {off : Int} {tgt : Nat} (d : decode cc pc = .ok (.ifCond .le off, 3)) (ht : (pc : Int) + off = (tgt : Int)) (gt : x ≤ 0 → V k Rm nL tgt lv st h) (gf : ¬ x ≤ 0 → V k Rm nL (pc + 3) lv st h) : V k Rm nL pc lv (.int x :: st) h := by
  intro H locs ls hl hP hS
  exact lv_if_le C.1 C.2.1 d ht (fun q => gt q H locs ls hl hP hS) (fun q => gf q H locs ls hl hP hS)
theorem V.icmp_le {k : KX} {cc : ByteArray} {own : String} {nL : Nat} {Rm : Room} {pc : Nat} {lv : List (Nat × Value)} {st : List Value} {h : Hp} (C : Cx k cc own nL Rm) {x y : Int32} {off : Int} {tgt : Nat} (d : decode cc pc = .ok (.if_icmp .le off, 3)) (ht : (pc : Int) + off = (tgt : Int)) (gt : x ≤ y → V k Rm nL tgt lv st h) (gf : ¬ x ≤ y → V k Rm nL (pc + 3) lv st h) : V k Rm nL pc lv (.int y :: .int x :: st) h := by
  intro H locs ls hl hP hS
  exact lv_icmp_le C.1 C.2.1 d ht (fun q => gt q H locs ls hl hP hS) (fun q => gf q H locs ls hl hP hS)
theorem V.goto {k : KX} {cc : ByteArray} {own : String} {nL : Nat} {Rm : Room} {pc : Nat} {lv : List (Nat × Value)} {st : List Value} {h : Hp} (C : Cx k cc own nL Rm) {off : Int} {tgt : Nat} (d : decode cc pc = .ok (.goto off, 3)) (ht : (pc : Int) + off = (tgt : Int)) (g : V k Rm nL tgt lv st h) : V k Rm nL pc lv st h := by
  intro H locs ls hl hP hS
  exact lv_goto C.1 C.2.1 d ht (g H locs ls hl hP hS)
theorem V.sub {k : KX} {nL : Nat} {Rm : Room} {pc : Nat} {lv lv2 : List (Nat × Value)} {st : List Value} {h : Hp} (ks : List Nat) (e : lv_pick lv ks = lv2) (g : V k Rm nL pc lv2 st h) : V k Rm nL pc lv st h := by
  intro H locs ls hl hP hS
  refine g H locs ls (lv_sub hl ks ?_) hP hS
  rw [← e]
  unfold lv_pick trL
  rw [List.map_filterMap]
  congr 1
  funext i
  rw [List.getElem?_map]
theorem V.tin {k : KX} {cc : ByteArray} {own : String} {nL : Nat} {Rm : Room} {pc : Nat} {lv : List (Nat × Value)} {st : List Value} {h : Hp} (C : Cx k cc own nL Rm) {dflt lo hi : Int} {offs : Array Int} {len : Nat} {x v : Int32} {off : Int} {tgt : Nat} (d : decode cc pc = .ok (.tableswitch dflt lo hi offs, len)) (e : x = v) (h1 : ¬ v.toInt < lo) (h2 : ¬ hi < v.toInt) (ho : offs[(v.toInt - lo).toNat]? = some off) (ht : (pc : Int) + off = (tgt : Int)) (g : V k Rm nL tgt lv st h) : V k Rm nL pc lv (.int x :: st) h := by
  intro H locs ls hl hP hS
  subst e
  exact lv_tableIn C.1 C.2.1 d h1 h2 ho ht (g H locs ls hl hP hS)
theorem V.tout {k : KX} {cc : ByteArray} {own : String} {nL : Nat} {Rm : Room} {pc : Nat} {lv : List (Nat × Value)} {st : List Value} {h : Hp} (C : Cx k cc own nL Rm) {dflt lo hi : Int} {offs : Array Int} {len : Nat} {x : Int32} {tgt : Nat} (d : decode cc pc = .ok (.tableswitch dflt lo hi offs, len)) (e : x.toInt < lo ∨ hi < x.toInt) (ht : (pc : Int) + dflt = (tgt : Int)) (g : V k Rm nL tgt lv st h) : V k Rm nL pc lv (.int x :: st) h := by
  intro H locs ls hl hP hS
  exact lv_tableOut C.1 C.2.1 d e ht (g H locs ls hl hP hS)
theorem V.look {k : KX} {cc : ByteArray} {own : String} {nL : Nat} {Rm : Room} {pc : Nat} {lv : List (Nat × Value)} {st : List Value} {h : Hp} (C : Cx k cc own nL Rm) {dflt : Int} {ps : Array (Int × Int)} {len : Nat} {x : Int32} {off : Int} {tgt : Nat} (d : decode cc pc = .ok (.lookupswitch dflt ps, len)) (hp : (ps.toList.zip (ps.toList.drop 1)).all (fun (a, next) => a.1 < next.1) = true) (ho : Op.lookupswitch.offset ps.toList dflt x.toInt = off) (ht : (pc : Int) + off = (tgt : Int)) (g : V k Rm nL tgt lv st h) : V k Rm nL pc lv (.int x :: st) h := by
  intro H locs ls hl hP hS
  exact lv_lookup C.1 C.2.1 d hp ho ht (g H locs ls hl hP hS)
theorem fv_at {ad : Nat → Nat} {h : Hp} {o j : Nat} (hj : j < (fD o).length) : ((List.range (fD o).length).map (fun j => tr ad (fv h o j)))[j]? = some (tr ad (fv h o j)) := by
  rw [List.getElem?_map, List.getElem?_range hj]; rfl
theorem V.getf {k : KX} {cc : ByteArray} {own : String} {nL : Nat} {Rm : Room} {pc : Nat} {lv : List (Nat × Value)} {st : List Value} {h : Hp} (C : Cx k cc own nL Rm) {o ci j i N : Nat} {Cn : String} {T : u_T} {v : Value} (ho : o < 34) (hoc : oC o = some ci) (hc : vwCl[ci]? = some (Cn, T, N)) (hin : ∀ w ∈ u_ws Cn T N, w ∈ wsG) (hjN : j < N) (hj : j < (fD o).length) (hl0 : Cond.fieldLink own i (T j).1 (T j).2.1 (T j).2.2.1 ∈ wsG) (hv : fv h o j = v) (d : decode cc pc = .ok (.getfield i, 3)) (g : V k Rm nL (pc + 3) lv (v :: st) h) : V k Rm nL pc lv (.ref o :: st) h := by
  intro H locs ls hl hP hS
  exact va_get (D := kD k) C.1 C.2.1 C.2.2.2.2.1 hin C.2.2.2.1 C.2.2.2.2.2.1 hP o ((wl_get ho).trans (by rw [cE_obj hoc])) hc j hjN (C.2.2.2.2.1 _ hl0) (fun _ h9 => h9) (by rw [fv_at hj, hv]) d (g H locs ls hl hP hS)
theorem V.getN {k : KX} {cc : ByteArray} {own : String} {nL : Nat} {Rm : Room} {pc : Nat} {lv : List (Nat × Value)} {st : List Value} {h : Hp} (C : Cx k cc own nL Rm) {o ci j i N : Nat} {Cn : String} {T : u_T} {v : Value} (ho : o < 34) (hoc : oC o = some ci) (hc : vwCl[ci]? = some (Cn, T, N)) (hin : ∀ w ∈ u_ws Cn T N, w ∈ wsG) (hjN : j < N) (hj : j < (fD o).length) {host : String} (hl0 : Cond.fieldLinkNest own i (T j).1 (T j).2.1 (T j).2.2.1 host ∈ nestW) (hv : fv h o j = v) (d : decode cc pc = .ok (.getfield i, 3)) (g : V k Rm nL (pc + 3) lv (v :: st) h) : V k Rm nL pc lv (.ref o :: st) h := by
  intro H locs ls hl hP hS
  exact va_getN (D := kD k) C.1 C.2.1 C.2.2.2.2.1 hin C.2.2.2.1 C.2.2.2.2.2.1 hP o ((wl_get ho).trans (by rw [cE_obj hoc])) hc j hjN (va_Nw.use rfl (C.2.2.2.2.2.2.2.2.2 _ hl0)) (fun _ h9 => h9) (by rw [fv_at hj, hv]) d (g H locs ls hl hP hS)
theorem V.put {k : KX} {cc : ByteArray} {own : String} {nL : Nat} {Rm : Room} {pc : Nat} {lv : List (Nat × Value)} {st : List Value} {h : Hp} (C : Cx k cc own nL Rm) {o ci j i N : Nat} {Cn : String} {T : u_T} {v : Int32} (ho : o < 34) (hoc : oC o = some ci) (hc : vwCl[ci]? = some (Cn, T, N)) (hin : ∀ w ∈ u_ws Cn T N, w ∈ wsG) (hjN : j < N) (hj : j < (fD o).length) (hl0 : Cond.fieldLink own i (T j).1 (T j).2.1 (T j).2.2.1 ∈ wsG) (ty0 : Nat → FieldType) (hty : ∀ k, k < N → parseFieldDescriptor (T k).2.2.1 = some (ty0 k)) (hnm : ∀ a, a < N → ∀ b, b < N → a ≠ b → (T a).2.1 ≠ (T b).2.1) (hfin : (T j).2.2.2 = false) (hn : narrow (ty0 j) (.int v) = .int v) (hfit : fits (ty0 j) (.int v) = true) (hd : (fD o)[j]? = some (some none)) (d : decode cc pc = .ok (.putfield i, 3)) (g : V k Rm nL (pc + 3) lv st (sI h o j v)) : V k Rm nL pc lv (.int v :: .ref o :: st) h := by
  intro H locs ls hl hP hS
  exact va_put (D := kD k) C.1 C.2.1 C.2.2.2.2.1 hin ty0 hty hnm C.2.2.2.1 C.2.2.2.2.2.1 hP (wl_D h C.2.2.2.2.2.2.1) hS o ((wl_get ho).trans (by rw [cE_obj hoc])) hc j hjN (C.2.2.2.2.1 _ hl0) (fun _ h9 => h9) hfin (hty j hjN) hn hfit (by simpa using hj) d (fun H1 locs1 hP1 _ hS1 => g H1 locs1 ls hl (by rw [← set_put hoc hd]; exact hP1) hS1)
theorem V.putL {k : KX} {cc : ByteArray} {own : String} {nL : Nat} {Rm : Room} {pc : Nat} {lv : List (Nat × Value)} {st : List Value} {h : Hp} (C : Cx k cc own nL Rm) {o ci j i N : Nat} {Cn : String} {T : u_T} {v : Int64} (ho : o < 34) (hoc : oC o = some ci) (hc : vwCl[ci]? = some (Cn, T, N)) (hin : ∀ w ∈ u_ws Cn T N, w ∈ wsG) (hjN : j < N) (hj : j < (fD o).length) (hl0 : Cond.fieldLink own i (T j).1 (T j).2.1 (T j).2.2.1 ∈ wsG) (ty0 : Nat → FieldType) (hty : ∀ k, k < N → parseFieldDescriptor (T k).2.2.1 = some (ty0 k)) (hnm : ∀ a, a < N → ∀ b, b < N → a ≠ b → (T a).2.1 ≠ (T b).2.1) (hfin : (T j).2.2.2 = false) (hn : narrow (ty0 j) (.long v) = .long v) (hfit : fits (ty0 j) (.long v) = true) (hd : (fD o)[j]? = some none) (d : decode cc pc = .ok (.putfield i, 3)) (g : V k Rm nL (pc + 3) lv st (sL h o j v)) : V k Rm nL pc lv (.long v :: .ref o :: st) h := by
  intro H locs ls hl hP hS
  exact va_put (D := kD k) C.1 C.2.1 C.2.2.2.2.1 hin ty0 hty hnm C.2.2.2.1 C.2.2.2.2.2.1 hP (wl_D h C.2.2.2.2.2.2.1) hS o ((wl_get ho).trans (by rw [cE_obj hoc])) hc j hjN (C.2.2.2.2.1 _ hl0) (fun _ h9 => h9) hfin (hty j hjN) hn hfit (by simpa using hj) d (fun H1 locs1 hP1 _ hS1 => g H1 locs1 ls hl (by rw [← set_putL hoc hd]; exact hP1) hS1)
theorem V.putN {k : KX} {cc : ByteArray} {own : String} {nL : Nat} {Rm : Room} {pc : Nat} {lv : List (Nat × Value)} {st : List Value} {h : Hp} (C : Cx k cc own nL Rm) {o ci j i N : Nat} {Cn : String} {T : u_T} {v : Int32} (ho : o < 34) (hoc : oC o = some ci) (hc : vwCl[ci]? = some (Cn, T, N)) (hin : ∀ w ∈ u_ws Cn T N, w ∈ wsG) (hjN : j < N) (hj : j < (fD o).length) {host : String} (hl0 : Cond.fieldLinkNest own i (T j).1 (T j).2.1 (T j).2.2.1 host ∈ nestW) (ty0 : Nat → FieldType) (hty : ∀ k, k < N → parseFieldDescriptor (T k).2.2.1 = some (ty0 k)) (hnm : ∀ a, a < N → ∀ b, b < N → a ≠ b → (T a).2.1 ≠ (T b).2.1) (hfin : (T j).2.2.2 = false) (hn : narrow (ty0 j) (.int v) = .int v) (hfit : fits (ty0 j) (.int v) = true) (hd : (fD o)[j]? = some (some none)) (d : decode cc pc = .ok (.putfield i, 3)) (g : V k Rm nL (pc + 3) lv st (sI h o j v)) : V k Rm nL pc lv (.int v :: .ref o :: st) h := by
  intro H locs ls hl hP hS
  exact va_putN (D := kD k) C.1 C.2.1 C.2.2.2.2.1 hin ty0 hty hnm C.2.2.2.1 C.2.2.2.2.2.1 hP (wl_D h C.2.2.2.2.2.2.1) hS o ((wl_get ho).trans (by rw [cE_obj hoc])) hc j hjN (va_Nw.use rfl (C.2.2.2.2.2.2.2.2.2 _ hl0)) (fun _ h9 => h9) hfin (hty j hjN) hn hfit (by simpa using hj) d (fun H1 locs1 hP1 _ hS1 => g H1 locs1 ls hl (by rw [← set_put hoc hd]; exact hP1) hS1)
theorem V.putNL {k : KX} {cc : ByteArray} {own : String} {nL : Nat} {Rm : Room} {pc : Nat} {lv : List (Nat × Value)} {st : List Value} {h : Hp} (C : Cx k cc own nL Rm) {o ci j i N : Nat} {Cn : String} {T : u_T} {v : Int64} (ho : o < 34) (hoc : oC o = some ci) (hc : vwCl[ci]? = some (Cn, T, N)) (hin : ∀ w ∈ u_ws Cn T N, w ∈ wsG) (hjN : j < N) (hj : j < (fD o).length) {host : String} (hl0 : Cond.fieldLinkNest own i (T j).1 (T j).2.1 (T j).2.2.1 host ∈ nestW) (ty0 : Nat → FieldType) (hty : ∀ k, k < N → parseFieldDescriptor (T k).2.2.1 = some (ty0 k)) (hnm : ∀ a, a < N → ∀ b, b < N → a ≠ b → (T a).2.1 ≠ (T b).2.1) (hfin : (T j).2.2.2 = false) (hn : narrow (ty0 j) (.long v) = .long v) (hfit : fits (ty0 j) (.long v) = true) (hd : (fD o)[j]? = some none) (d : decode cc pc = .ok (.putfield i, 3)) (g : V k Rm nL (pc + 3) lv st (sL h o j v)) : V k Rm nL pc lv (.long v :: .ref o :: st) h := by
  intro H locs ls hl hP hS
  exact va_putN (D := kD k) C.1 C.2.1 C.2.2.2.2.1 hin ty0 hty hnm C.2.2.2.1 C.2.2.2.2.2.1 hP (wl_D h C.2.2.2.2.2.2.1) hS o ((wl_get ho).trans (by rw [cE_obj hoc])) hc j hjN (va_Nw.use rfl (C.2.2.2.2.2.2.2.2.2 _ hl0)) (fun _ h9 => h9) hfin (hty j hjN) hn hfit (by simpa using hj) d (fun H1 locs1 hP1 _ hS1 => g H1 locs1 ls hl (by rw [← set_putL hoc hd]; exact hP1) hS1)
theorem V.iald {k : KX} {cc : ByteArray} {own : String} {nL : Nat} {Rm : Room} {pc : Nat} {lv : List (Nat × Value)} {st : List Value} {h : Hp} (C : Cx k cc own nL Rm) {o n : Nat} {i : Int32} (ho : o < 34) (hoc : oC o = none) (ha : aT o = (0, n)) (hin : ¬ (i < 0 ∨ n ≤ i.toNatClampNeg)) {v : Int32} (hv : h.1 o i.toNatClampNeg = v) (d : decode cc pc = .ok (.iaload, 1)) (g : V k Rm nL (pc + 1) lv (.int v :: st) h) : V k Rm nL pc lv (.int i :: .ref o :: st) h := by
  intro H locs ls hl hP hS
  subst hv
  exact va_iald (D := kD k) C.1 C.2.1 C.2.2.2.2.2.1 hP o 0 ((wl_get ho).trans (by rw [cE_arr hoc, ha]; rfl)) rfl hin d (g H locs ls hl hP hS)
theorem V.bald {k : KX} {cc : ByteArray} {own : String} {nL : Nat} {Rm : Room} {pc : Nat} {lv : List (Nat × Value)} {st : List Value} {h : Hp} (C : Cx k cc own nL Rm) {o n : Nat} {i : Int32} (ho : o < 34) (hoc : oC o = none) (ha : aT o = (1, n)) (hin : ¬ (i < 0 ∨ n ≤ i.toNatClampNeg)) {v : Int32} (hv : h.1 o i.toNatClampNeg = v) (d : decode cc pc = .ok (.baload, 1)) (g : V k Rm nL (pc + 1) lv (.int v :: st) h) : V k Rm nL pc lv (.int i :: .ref o :: st) h := by
  intro H locs ls hl hP hS
  subst hv
  exact va_bald (D := kD k) C.1 C.2.1 C.2.2.2.2.2.1 hP o 1 ((wl_get ho).trans (by rw [cE_arr hoc, ha]; rfl)) rfl hin d (g H locs ls hl hP hS)
theorem V.zald {k : KX} {cc : ByteArray} {own : String} {nL : Nat} {Rm : Room} {pc : Nat} {lv : List (Nat × Value)} {st : List Value} {h : Hp} (C : Cx k cc own nL Rm) {o n : Nat} {i : Int32} (ho : o < 34) (hoc : oC o = none) (ha : aT o = (2, n)) (hin : ¬ (i < 0 ∨ n ≤ i.toNatClampNeg)) {v : Int32} (hv : h.1 o i.toNatClampNeg = v) (d : decode cc pc = .ok (.baload, 1)) (g : V k Rm nL (pc + 1) lv (.int v :: st) h) : V k Rm nL pc lv (.int i :: .ref o :: st) h := by
  intro H locs ls hl hP hS
  subst hv
  exact va_zald (D := kD k) C.1 C.2.1 C.2.2.2.2.2.1 hP o 2 ((wl_get ho).trans (by rw [cE_arr hoc, ha]; rfl)) rfl hin d (g H locs ls hl hP hS)
theorem V.iast {k : KX} {cc : ByteArray} {own : String} {nL : Nat} {Rm : Room} {pc : Nat} {lv : List (Nat × Value)} {st : List Value} {h : Hp} (C : Cx k cc own nL Rm) {o n : Nat} {i : Int32} (ho : o < 34) (hoc : oC o = none) (ha : aT o = (0, n)) (hin : ¬ (i < 0 ∨ n ≤ i.toNatClampNeg)) {v : Int32} (d : decode cc pc = .ok (.iastore, 1)) (g : V k Rm nL (pc + 1) lv st (sI h o i.toNatClampNeg v)) : V k Rm nL pc lv (.int v :: .int i :: .ref o :: st) h := by
  intro H locs ls hl hP hS
  exact va_iast (D := kD k) C.1 C.2.1 C.2.2.2.2.2.1 hP (wl_D h C.2.2.2.2.2.2.1) hS o 0 ((wl_get ho).trans (by rw [cE_arr hoc, ha]; rfl)) rfl hin d (fun H1 locs1 hP1 _ hS1 => g H1 locs1 ls hl (by rw [← set_arr (h := h) hoc sI_o.symm (fun i hi => sI_n hi), ha]; exact hP1) hS1)
theorem V.bast {k : KX} {cc : ByteArray} {own : String} {nL : Nat} {Rm : Room} {pc : Nat} {lv : List (Nat × Value)} {st : List Value} {h : Hp} (C : Cx k cc own nL Rm) {o n : Nat} {i : Int32} (ho : o < 34) (hoc : oC o = none) (ha : aT o = (1, n)) (hin : ¬ (i < 0 ∨ n ≤ i.toNatClampNeg)) {v : Int32} {w : Int32} (hw : vp_nar .byte v = w) (d : decode cc pc = .ok (.bastore, 1)) (g : V k Rm nL (pc + 1) lv st (sI h o i.toNatClampNeg w)) : V k Rm nL pc lv (.int v :: .int i :: .ref o :: st) h := by
  intro H locs ls hl hP hS
  subst hw
  exact va_bast (D := kD k) C.1 C.2.1 C.2.2.2.2.2.1 hP (wl_D h C.2.2.2.2.2.2.1) hS o 1 ((wl_get ho).trans (by rw [cE_arr hoc, ha]; rfl)) rfl hin d (fun H1 locs1 hP1 _ hS1 => g H1 locs1 ls hl (by rw [← set_arr (h := h) hoc sI_o.symm (fun i hi => sI_n hi), ha]; exact hP1) hS1)
theorem V.zast {k : KX} {cc : ByteArray} {own : String} {nL : Nat} {Rm : Room} {pc : Nat} {lv : List (Nat × Value)} {st : List Value} {h : Hp} (C : Cx k cc own nL Rm) {o n : Nat} {i : Int32} (ho : o < 34) (hoc : oC o = none) (ha : aT o = (2, n)) (hin : ¬ (i < 0 ∨ n ≤ i.toNatClampNeg)) {v : Int32} {w : Int32} (hw : vp_nar .boolean v = w) (d : decode cc pc = .ok (.bastore, 1)) (g : V k Rm nL (pc + 1) lv st (sI h o i.toNatClampNeg w)) : V k Rm nL pc lv (.int v :: .int i :: .ref o :: st) h := by
  intro H locs ls hl hP hS
  subst hw
  exact va_zast (D := kD k) C.1 C.2.1 C.2.2.2.2.2.1 hP (wl_D h C.2.2.2.2.2.2.1) hS o 2 ((wl_get ho).trans (by rw [cE_arr hoc, ha]; rfl)) rfl hin d (fun H1 locs1 hP1 _ hS1 => g H1 locs1 ls hl (by rw [← set_arr (h := h) hoc sI_o.symm (fun i hi => sI_n hi), ha]; exact hP1) hS1)
theorem V.alen {k : KX} {cc : ByteArray} {own : String} {nL : Nat} {Rm : Room} {pc : Nat} {lv : List (Nat × Value)} {st : List Value} {h : Hp} (C : Cx k cc own nL Rm) {o n : Nat} {v : Int32} (ho : o < 34) (hoc : oC o = none) (ha : aT o = (0, n)) (hv : Int32.ofNat n = v) (d : decode cc pc = .ok (.arraylength, 1)) (g : V k Rm nL (pc + 1) lv (.int v :: st) h) : V k Rm nL pc lv (.ref o :: st) h := by
  intro H locs ls hl hP hS
  exact va_alen (D := kD k) C.1 C.2.1 C.2.2.2.2.2.1 hP o 0 ((wl_get ho).trans (by rw [cE_arr hoc, ha]; rfl)) rfl hv d (g H locs ls hl hP hS)
theorem V.acopy {k : KX} {cc : ByteArray} {own : String} {nL : Nat} {Rm : Room} {pc : Nat} {lv : List (Nat × Value)} {st : List Value} {h : Hp} (C : Cx k cc own nL Rm) {a b na nb i : Nat} {sp dp n : Int32} (hb0 : b < 34) (ha0 : a < 34) (hoa : oC a = none) (hob : oC b = none) (hta : aT a = (0, na)) (htb : aT b = (0, nb)) (hq : ¬ sp < 0 ∧ ¬ dp < 0 ∧ ¬ n < 0 ∧ sp.toNatClampNeg + n.toNatClampNeg ≤ na ∧ dp.toNatClampNeg + n.toNatClampNeg ≤ nb) (hw : Cond.methodLink own i arraycopyName ∈ wsG ∧ Cond.native arraycopyName ∈ wsG ∧ Cond.static arraycopyName ∈ wsG ∧ Cond.initialized "java/lang/System" ∈ wsG) (hfr : 1 ≤ Rm.frames) (hlo : (st.map fun v => v.category).sum + (nativeFrameWords "java/lang/System" "arraycopy" 5 + 11) ≤ Rm.locals) (d : decode cc pc = .ok (.invokestatic i, 3)) (g : V k Rm nL (pc + 3) lv st (sC h a sp.toNatClampNeg b dp.toNatClampNeg n.toNatClampNeg)) : V k Rm nL pc lv (.int n :: .int dp :: .ref b :: .int sp :: .ref a :: st) h := by
  intro H locs ls hl hP hS
  obtain ⟨q1, q2, q3, q4, q5⟩ := hq
  refine va_copyi (D := kD k) (ty := .int) C.1 C.2.1 (C.2.2.1.trans hl.1.symm) C.2.2.2.1 (C.2.2.2.2.1 _ hw.1) (C.2.2.2.2.1 _ hw.2.1) (C.2.2.2.2.1 _ hw.2.2.1) (C.2.2.2.2.1 _ hw.2.2.2) C.2.2.2.2.2.1 hP (wl_D h C.2.2.2.2.2.2.1) hS a b 0 0 ((wl_get ha0).trans (by rw [cE_arr hoa, hta]; rfl)) ((wl_get hb0).trans (by rw [cE_arr hob, htb]; rfl)) rfl rfl rfl q1 q2 q3 q4 q5 (fun _ _ => rfl) hfr ?_ d (fun H1 locs1 hP1 _ hS1 => g H1 locs1 ls hl (by rw [← set_arr (h := h) hob sC_o.symm (fun i hi => sC_n hi), htb]; exact hP1) hS1)
  rw [List.map_map]
  simpa only [Function.comp_def, tr_cat] using hlo
theorem V.mmax {k : KX} {cc : ByteArray} {own : String} {nL : Nat} {Rm : Room} {pc : Nat} {lv : List (Nat × Value)} {st : List Value} {h : Hp} (C : Cx k cc own nL Rm) {x y : Int32} {i : Nat} (hw : Cond.methodLink own i Lib.Math.max.name ∈ wsG ∧ Cond.static Lib.Math.max.name ∈ wsG ∧ Cond.initialized "java/lang/Math" ∈ wsG ∧ Cond.code Lib.Math.max.name Lib.Math.max.code 2 (some .int) ∈ wsG) (hfr : 1 ≤ Rm.frames) (hlo : (st.map fun v => v.category).sum + 13 ≤ Rm.locals) (d : decode cc pc = .ok (.invokestatic i, 3)) (g : V k Rm nL (pc + 3) lv (.int (if x < y then y else x) :: st) h) : V k Rm nL pc lv (.int y :: .int x :: st) h := by
  intro H locs ls hl hP hS
  refine va_mmax C.1 C.2.1 (C.2.2.1.trans hl.1.symm) C.2.2.2.1 (C.2.2.2.2.1 _ hw.1) (C.2.2.2.2.1 _ hw.2.1) (C.2.2.2.2.1 _ hw.2.2.1) (C.2.2.2.2.1 _ hw.2.2.2) hfr ?_ C.2.2.2.2.2.2.2.2.1.1 C.2.2.2.2.2.2.2.2.1.2 d (g H locs ls hl hP hS)
  rw [List.map_map]
  simpa only [Function.comp_def, tr_cat] using hlo
theorem V.mmin {k : KX} {cc : ByteArray} {own : String} {nL : Nat} {Rm : Room} {pc : Nat} {lv : List (Nat × Value)} {st : List Value} {h : Hp} (C : Cx k cc own nL Rm) {x y : Int32} {i : Nat} (hw : Cond.methodLink own i Lib.Math.min.name ∈ wsG ∧ Cond.static Lib.Math.min.name ∈ wsG ∧ Cond.initialized "java/lang/Math" ∈ wsG ∧ Cond.code Lib.Math.min.name Lib.Math.min.code 2 (some .int) ∈ wsG) (hfr : 1 ≤ Rm.frames) (hlo : (st.map fun v => v.category).sum + 13 ≤ Rm.locals) (d : decode cc pc = .ok (.invokestatic i, 3)) (g : V k Rm nL (pc + 3) lv (.int (if y < x then y else x) :: st) h) : V k Rm nL pc lv (.int y :: .int x :: st) h := by
  intro H locs ls hl hP hS
  refine va_mmin C.1 C.2.1 (C.2.2.1.trans hl.1.symm) C.2.2.2.1 (C.2.2.2.2.1 _ hw.1) (C.2.2.2.2.1 _ hw.2.1) (C.2.2.2.2.1 _ hw.2.2.1) (C.2.2.2.2.1 _ hw.2.2.2) hfr ?_ C.2.2.2.2.2.2.2.2.1.1 C.2.2.2.2.2.2.2.2.1.2 d (g H locs ls hl hP hS)
  rw [List.map_map]
  simpa only [Function.comp_def, tr_cat] using hlo
theorem gdC {w : Cond} (h : w ∈ wsG) : GoodIn wsG (w :: wsG) := fun x hx => (List.mem_cons.mp hx).elim (fun e => by rw [e]; exact ⟨h, good_of_word (wsG_good w h)⟩) (fun hx => ⟨hx, good_of_word (wsG_good x hx)⟩)
theorem gdA {us ws : List Cond} (h : ∀ w ∈ us, w ∈ wsG) (g : GoodIn wsG ws) : GoodIn wsG (us ++ ws) := fun x hx => (List.mem_append.mp hx).elim (fun hx => ⟨h x hx, good_of_word (wsG_good x (h x hx))⟩) (g x)
theorem gdV {own Cn : String} {i : Nat} {y : MethodName} {w : Cond} (h1 : Cond.methodLink own i y ∈ wsG) (h2 : Cond.instanceMethod y ∈ wsG) (h3 : Cond.selects Cn y y ∈ wsG) (h4 : Cond.initialized Cn ∈ wsG) (h5 : w ∈ wsG) : GoodIn wsG (wsV own i Cn y (w :: wsG)) :=
  gdA (List.forall_mem_cons.mpr ⟨h1, List.forall_mem_cons.mpr ⟨h2, List.forall_mem_cons.mpr ⟨h3, List.forall_mem_cons.mpr ⟨h4, fun _ h => absurd h List.not_mem_nil⟩⟩⟩⟩) (gdC h5)
theorem gdS {own : String} {i : Nat} {y : MethodName} {w : Cond} (h1 : Cond.methodLink own i y ∈ wsG) (h2 : Cond.static y ∈ wsG) (h4 : Cond.initialized y.cls ∈ wsG) (h5 : w ∈ wsG) : GoodIn wsG (va_wsS own i y (w :: wsG)) :=
  gdA (List.forall_mem_cons.mpr ⟨h1, List.forall_mem_cons.mpr ⟨h2, List.forall_mem_cons.mpr ⟨h4, fun _ h => absurd h List.not_mem_nil⟩⟩⟩) (gdC h5)
theorem lv_args_tr (ad : Nat → Nat) (xs : List Value) : ∀ i, lv_args i (xs.map (tr ad)) = trL ad (lv_args i xs) := by
  induction xs with
  | nil => intro i; rfl
  | cons v t ih =>
    intro i
    show (i, tr ad v) :: lv_args (if (tr ad v).category = 2 then i + 2 else i + 1) (t.map (tr ad)) = (i, tr ad v) :: trL ad (lv_args (if v.category = 2 then i + 2 else i + 1) t)
    rw [tr_cat, ih]
/-- behind a call -/
theorem call_W {p : Program} {l : Launch} {e : Env} {R : Room} {s : State} {m : MethodId} {args : Array Value} {below : List Frame} {meth : Method} {c : Code} {H : Heap} {locs : List Loc} {cells slots : Nat} {Q : State → Prop} {pc : Nat} {ls : Array Slot} {rest st0 : List Value} {a : Array Value} {A0 A1 : Nat → Prop} {ad : Nat → Nat} {cs : Cs} {D : va_G} {rv : Option Value} {hf : Hp}
    (hr : va_Run p l e R s m args below meth c H locs cells slots 0 0 (F0 m pc ls st0) rest (qR ad cs D A1 rv hf a) A1) (hS : va_S A0 s.heap H locs) (hA : ∀ q, A1 q → A0 q)
    (kk : ∀ (H1 : Heap) (locs1 : List Loc), va_P D vwCl (wl ad cs hf) H1 → va_S A0 s.heap H1 locs1 → W p l e R s m args below meth c H1 locs1 cells slots Q (F0 m (pc + 3) ls ((rv.map (tr ad)).toList ++ rest))) : W p l e R s m args below meth c H locs cells slots Q (F0 m pc ls st0) := by
  intro T hT X
  obtain ⟨v, st₀, t, T', L, h0, X', hL, e1, e2, ⟨hv, hP, hz, hk⟩, st⟩ := hr T hT X
  cases hv
  rw [h0] at hz hk
  obtain ⟨t2, a1, b1⟩ := kk T'.heap (locs ++ L) (by rw [e1]; exact hP)
    ⟨Nat.le_trans hS.1 (by rw [e1]; exact hz), fun q h1 h2 => by rw [e1, hk q (Nat.lt_of_lt_of_le h1 hS.1) (fun z => h2 (hA q z))]; exact hS.2.1 q h1 h2, fun q hq => by
      rcases List.mem_append.mp hq with h | h
      · exact hS.2.2 q h
      · exact hA _ (hL q h)⟩ T' rfl X'
  exact ⟨t2, st t2 a1, b1⟩
theorem ws_pre {k : KX} {cc : ByteArray} {own : String} {nL : Nat} {Rm : Room} (C : Cx k cc own nL Rm) {h : Hp} {H : Heap} (hP : va_P (kD k) vwCl (wl (kAd k) (kCs k) h) H) {U : State} (hU : U.heap = H) (hW : (kS k).WarmedH U.vm) : wsOf (kAd k) (kCs k) (kD k) H.size h U :=
  ⟨by rw [hU], by rw [hU]; exact hP, va_K.moved hW.alike C.2.2.2.2.2.1, (wl_D h C.2.2.2.2.2.2.1).weaken (fun _ _ _ _ => trivial), fun w hw => nest_warm hW (nestW_is w hw) (C.2.2.2.2.2.2.2.2.2 w hw)⟩
theorem ws_blind {ad : Nat → Nat} {cs : Cs} {D : va_G} {sz : Nat} {h : Hp} {xs : List Value} : FrameBlind (va_Pc xs (wsOf ad cs D sz h)) := by
  intro a U g mk q
  obtain ⟨q0, q1, q2, q3, q4, q5⟩ := q
  exact ⟨q0, q1, q2, va_K.moved (u := U) (U := U.calling g mk a) (Vm.Alike.refl U.vm) q3, q4, fun w hw => nest_same (s := U) (U := U.calling g mk a) rfl (nestW_is w hw) (q5 w hw)⟩
theorem ws_free {k : KX} {cc : ByteArray} {own : String} {nL : Nat} {Rm : Room} (C : Cx k cc own nL Rm) {h : Hp} {H : Heap} {locs : List Loc} (hS : va_S (kF k) (kS k).heap H locs) : ∀ q, va_A (wl (kAd k) (kCs k) h) H.size q → kF k q := by
  intro q hq
  rcases hq with ⟨i, e, hi⟩ | hq
  · obtain ⟨h1, h2⟩ := wl_inv hi
    have h3 : q = kAd k i := congrArg Prod.fst h2
    rw [h3]
    exact C.2.2.2.2.2.2.1.2 i h1
  · exact C.2.2.2.2.2.2.2.1 q (Nat.le_trans hS.1 hq)
theorem tr_rev (ad : Nat → Nat) (As rest : List Value) : (As.reverse ++ rest).map (tr ad) = (As.map (tr ad)).reverse ++ rest.map (tr ad) := by rw [List.map_append, List.map_reverse]
theorem rv_st (ad : Nat → Nat) (rv : Option Value) (rest : List Value) : (rv.toList ++ rest).map (tr ad) = (rv.map (tr ad)).toList ++ rest.map (tr ad) := by
  cases rv <;> rfl
theorem room_tr {ad : Nat → Nat} {m : MethodId} {pc : Nat} {ls : Array Slot} {x rest : List Value} (h : (rest.map fun v => v.category).sum ≤ 8) : 2 * (F0 m pc ls x).monitorRoom + ((rest.map (tr ad)).map fun v => v.category).sum ≤ 8 := by
  apply lv_room
  rw [List.map_map]
  simpa only [Function.comp_def, tr_cat] using h
theorem V.callV {k : KX} {cc : ByteArray} {own : String} {nL : Nat} {Rm : Room} {pc : Nat} {lv : List (Nat × Value)} {h : Hp} (C : Cx k cc own nL Rm) {y : MethodName} {bytes : ByteArray} {maxL n i : Nat} {ret : Option FieldType} {rm : Room} {As rest : List Value} {rv : Option Value} {h1 : Hp} {o ci N : Nat} {Cn : String} {T : u_T} (ho : o < 34) (hoc : oC o = some ci) (hc : vwCl[ci]? = some (Cn, T, N)) (hM : Ct (kL k) y (Cond.code y bytes maxL ret :: wsG) rm (.ref o :: As) h rv h1) (hG : Cond.methodLink own i y ∈ wsG) (hi1 : Cond.instanceMethod y ∈ wsG) (hi2 : Cond.selects Cn y y ∈ wsG) (hi3 : Cond.initialized Cn ∈ wsG) (hi4 : Cond.code y bytes maxL ret ∈ wsG) (hrc : rm.cells = 0) (hrs : rm.slots = 0) (hd : y.cls = Cn ∧ y.cls ≠ "java/lang/invoke/MethodHandle" ∧ y.cls ≠ "java/lang/invoke/VarHandle" ∧ (parseMethodDescriptor y.desc).map (fun d => d.parameters.length) = some n) (hR : rm.frames + 1 ≤ Rm.frames ∧ 8 + (maxL + 11) + rm.locals ≤ Rm.locals) (hn : As.length = n) (hcat : (rest.map fun v => v.category).sum ≤ 8) (d : decode cc pc = .ok (.invokevirtual i, 3)) (g : V k Rm nL (pc + 3) lv (rv.toList ++ rest) h1) : V k Rm nL pc lv (As.reverse ++ .ref o :: rest) h := by
  intro H locs ls hl hP hS
  rw [tr_rev]
  refine call_W (va_runV (As := As.map (tr (kAd k))) (rest := rest.map (tr (kAd k))) (b := kAd k o) (C := Cn) ⟨C.1, C.2.1, C.2.2.1, C.2.2.2.1, C.2.2.2.2.1⟩ (hM (kAd k) (kCs k) (kD k) H.size) (cwV n C.2.2.2.2.1 (gdV hG hi1 hi2 hi3 hi4) rfl hrc hrs hd hR) ⟨ws_blind, va_recv C.2.2.2.2.2.1 hP hc ((wl_get ho).trans (by rw [cE_obj hoc])), fun U hU hW => ⟨rfl, ws_pre C hP hU hW⟩⟩ rfl (by rw [List.length_map]; exact hn) hl.1 rfl (room_tr hcat) d ⟨C.2.2.2.2.2.2.2.2.1.1, C.2.2.2.2.2.2.2.2.1.2⟩) hS (ws_free C hS) (fun H1 locs1 hP1 hS1 => ?_)
  rw [← rv_st]
  exact g H1 locs1 ls hl hP1 hS1
theorem V.callS {k : KX} {cc : ByteArray} {own : String} {nL : Nat} {Rm : Room} {pc : Nat} {lv : List (Nat × Value)} {h : Hp} (C : Cx k cc own nL Rm) {y : MethodName} {bytes : ByteArray} {maxL n i : Nat} {ret : Option FieldType} {rm : Room} {As rest : List Value} {rv : Option Value} {h1 : Hp} (hM : Ct (kL k) y (Cond.code y bytes maxL ret :: wsG) rm As h rv h1) (hG : Cond.methodLink own i y ∈ wsG) (hi1 : Cond.static y ∈ wsG) (hi3 : Cond.initialized y.cls ∈ wsG) (hi4 : Cond.code y bytes maxL ret ∈ wsG) (hrc : rm.cells = 0) (hrs : rm.slots = 0) (hd : y.cls ≠ "java/lang/invoke/MethodHandle" ∧ y.cls ≠ "java/lang/invoke/VarHandle" ∧ (parseMethodDescriptor y.desc).map (fun d => d.parameters.length) = some n) (hR : rm.frames + 1 ≤ Rm.frames ∧ 8 + (maxL + 11) + rm.locals ≤ Rm.locals) (hn : As.length = n) (hcat : (rest.map fun v => v.category).sum ≤ 8) (d : decode cc pc = .ok (.invokestatic i, 3)) (g : V k Rm nL (pc + 3) lv (rv.toList ++ rest) h1) : V k Rm nL pc lv (As.reverse ++ rest) h := by
  intro H locs ls hl hP hS
  rw [tr_rev]
  refine call_W (va_runS (As := As.map (tr (kAd k))) (rest := rest.map (tr (kAd k))) ⟨C.1, C.2.1, C.2.2.1, C.2.2.2.1, C.2.2.2.2.1⟩ (hM (kAd k) (kCs k) (kD k) H.size) (va_cwS n C.2.2.2.2.1 (gdS hG hi1 hi3 hi4) rfl hrc hrs hd hR) ⟨ws_blind, fun U hU hW => ⟨rfl, ws_pre C hP hU hW⟩⟩ rfl (by rw [List.length_map]; exact hn) hl.1 rfl (room_tr hcat) d ⟨C.2.2.2.2.2.2.2.2.1.1, C.2.2.2.2.2.2.2.2.1.2⟩) hS (ws_free C hS) (fun H1 locs1 hP1 hS1 => ?_)
  rw [← rv_st]
  exact g H1 locs1 ls hl hP1 hS1
theorem V.callN {k : KX} {cc : ByteArray} {own : String} {nL : Nat} {Rm : Room} {pc : Nat} {lv : List (Nat × Value)} {h : Hp} (C : Cx k cc own nL Rm) {y : MethodName} {bytes : ByteArray} {maxL n i : Nat} {ret : Option FieldType} {rm : Room} {As rest : List Value} {rv : Option Value} {h1 : Hp} {host : String} (hM : Ct (kL k) y (Cond.code y bytes maxL ret :: wsG) rm As h rv h1) (hi4 : Cond.code y bytes maxL ret ∈ wsG) (hnw : Cond.methodLinkNest own i y host ∈ nestW) (hst : Cond.static y ∈ wsG) (hini : Cond.initialized y.cls ∈ wsG) (hrc : rm.cells = 0) (hrs : rm.slots = 0) (hd : y.cls ≠ "java/lang/invoke/MethodHandle" ∧ y.cls ≠ "java/lang/invoke/VarHandle" ∧ (parseMethodDescriptor y.desc).map (fun d => d.parameters.length) = some n) (hR : rm.frames + 1 ≤ Rm.frames ∧ 8 + (maxL + 11) + rm.locals ≤ Rm.locals) (hn : As.length = n) (hcat : (rest.map fun v => v.category).sum ≤ 8) (d : decode cc pc = .ok (.invokestatic i, 3)) (g : V k Rm nL (pc + 3) lv (rv.toList ++ rest) h1) : V k Rm nL pc lv (As.reverse ++ rest) h := by
  intro H locs ls hl hP hS
  rw [tr_rev]
  refine call_W (va_runSN (host := host) (As := As.map (tr (kAd k))) (rest := rest.map (tr (kAd k))) ⟨C.1, C.2.1, C.2.2.1, C.2.2.2.1, C.2.2.2.2.1⟩ (hM (kAd k) (kCs k) (kD k) H.size) ⟨va_cnB n C.2.2.2.2.1 (gdC hi4) rfl hrc hrs (C.2.2.2.2.2.2.2.2.2 _ hnw) (C.2.2.2.2.1 _ hini) hd hR, C.2.2.2.2.1 _ hst, trivial⟩ ⟨ws_blind, fun U hU hW => ⟨rfl, ws_pre C hP hU hW⟩⟩ rfl (by rw [List.length_map]; exact hn) hl.1 rfl (room_tr hcat) d ⟨C.2.2.2.2.2.2.2.2.1.1, C.2.2.2.2.2.2.2.2.1.2⟩) hS (ws_free C hS) (fun H1 locs1 hP1 hS1 => ?_)
  rw [← rv_st]
  exact g H1 locs1 ls hl hP1 hS1

theorem V.iret {k : KX} {cc : ByteArray} {own : String} {nL : Nat} {Rm : Room} {pc : Nat} {lv : List (Nat × Value)} {h hf : Hp} {x r : Int32} (C : Cx k cc own nL Rm) (T : Rx k (some .int) (some (.int r)) hf) (hs : some (x, h) = some (r, hf)) (d : decode cc pc = .ok (.ireturn, 1)) : V k Rm nL pc lv [.int x] h := by
  cases hs
  intro H locs ls hl hP hS
  rw [T.1, T.2.2.2.1, T.2.2.2.2]
  exact W.iret C.1 C.2.1 T.2.1 (fun t ht _ => ⟨rfl, by rw [ht]; exact hP, hS.F ht⟩) hS.2.2 d T.2.2.1
theorem V.lret {k : KX} {cc : ByteArray} {own : String} {nL : Nat} {Rm : Room} {pc : Nat} {lv : List (Nat × Value)} {h hf : Hp} {x r : Int64} (C : Cx k cc own nL Rm) (T : Rx k (some .long) (some (.long r)) hf) (hs : some (x, h) = some (r, hf)) (d : decode cc pc = .ok (.lreturn, 1)) : V k Rm nL pc lv [.long x] h := by
  cases hs
  intro H locs ls hl hP hS
  rw [T.1, T.2.2.2.1, T.2.2.2.2]
  exact W.lret C.1 C.2.1 T.2.1 (fun t ht _ => ⟨rfl, by rw [ht]; exact hP, hS.F ht⟩) hS.2.2 d T.2.2.1
theorem V.zret {k : KX} {cc : ByteArray} {own : String} {nL : Nat} {Rm : Room} {pc : Nat} {lv : List (Nat × Value)} {h hf : Hp} {x r : Int32} (C : Cx k cc own nL Rm) (T : Rx k (some .boolean) (some (.int r)) hf) (hn : x = 0 ∨ x = 1) (hs : some (x, h) = some (r, hf)) (d : decode cc pc = .ok (.ireturn, 1)) : V k Rm nL pc lv [.int x] h := by
  cases hs
  intro H locs ls hl hP hS
  rw [T.1, T.2.2.2.1, T.2.2.2.2]
  exact W.zret C.1 C.2.1 T.2.1 (by rcases hn with rfl | rfl <;> rfl) (fun t ht _ => ⟨rfl, by rw [ht]; exact hP, hS.F ht⟩) hS.2.2 d T.2.2.1
theorem V.vret {k : KX} {cc : ByteArray} {own : String} {nL : Nat} {Rm : Room} {pc : Nat} {lv : List (Nat × Value)} {h hf : Hp} (C : Cx k cc own nL Rm) (T : Rx k none none hf) (hs : some h = some hf) (d : decode cc pc = .ok (.return_, 1)) : V k Rm nL pc lv [] h := by
  cases hs
  intro H locs ls hl hP hS
  rw [T.1, T.2.2.2.1, T.2.2.2.2]
  exact W.vret C.1 C.2.1 T.2.1 (fun t ht _ => ⟨rfl, by rw [ht]; exact hP, hS.F ht⟩) hS.2.2 d T.2.2.1
theorem V.aret {k : KX} {cc : ByteArray} {own : String} {nL : Nat} {Rm : Room} {pc : Nat} {lv : List (Nat × Value)} {h hf : Hp} {x r : Nat} {n : String} (C : Cx k cc own nL Rm) (T : Rx k (some (.object n)) (some (.ref r)) hf) (hs : some (x, h) = some (r, hf)) (d : decode cc pc = .ok (.areturn, 1)) : V k Rm nL pc lv [.ref x] h := by
  cases hs
  intro H locs ls hl hP hS
  rw [T.1, T.2.2.2.1, T.2.2.2.2]
  exact W.aret C.1 C.2.1 T.2.1 (Or.inl ⟨n, rfl⟩) (Or.inr ⟨_, rfl⟩) (fun t ht _ => ⟨rfl, by rw [ht]; exact hP, hS.F ht⟩) hS.2.2 d T.2.2.1
/-- a contract out of a walk -/
theorem Ct.of {l : Launch} {y : MethodName} {cc : ByteArray} {nL : Nat} {ret : Option FieldType} {Rm : Room} {xs : List Value} {h hf : Hp} {rv : Option Value} (hy : plainName y.cls = true) (hlen : ∀ ad, (lg_sl (xs.map (tr ad))).length ≤ nL)
    (body : ∀ k : KX, Cx k cc y.cls nL Rm → Rx k ret rv hf → V k Rm nL 0 (lv_args 0 xs) [] h) : Ct l y (Cond.code y cc nL ret :: wsG) Rm xs h rv hf := by
  intro ad cs D sz
  refine Met.ofW (cc := cc) (maxL := nL) (ret := ret) hy rfl ?_
  intro p e s m args below meth c s₁ B hml hv
  obtain ⟨rfl, rfl, hP, hK, hD0, hN⟩ := hv
  have hts0 := atoms_spec (ws := Cond.code y cc nL ret :: wsG) B.pre
  have hts : ∀ w ∈ wsG, w.before (xs.map (tr ad)).toArray s = true := fun w hw => hts0 w (List.mem_cons_of_mem _ hw)
  have hown : s.vm.findClass y.cls = some m.cls := findClass_of_methodNamed B.named
  have hD := hD0.self (sz := s.heap.size)
  have hA : ∀ q : Nat, s.heap.size ≤ q → va_A (wl ad cs h) s.heap.size q := fun q h => Or.inr h
  have hl := lv_entry (xs.map (tr ad)) (n := nL) (hlen ad)
  have ha : lv_args 0 (xs.map (tr ad)) = trL ad (lv_args 0 xs) := lv_args_tr ad xs 0
  rw [ha] at hl
  rw [lg_entry_eq]
  exact body ((p, l, e), (s, m, (xs.map (tr ad)).toArray, below, meth, c), (0, 0, MQ below (qR ad cs D (va_A (wl ad cs h) s.heap.size) rv hf) (xs.map (tr ad)).toArray s 0 0 (va_A (wl ad cs h) s.heap.size)), (ad, cs, D, va_A (wl ad cs h) s.heap.size))
    ⟨B.exec, B.bytes, hml, hown, hts, hK, wl_Di hD, hA, ⟨Nat.zero_le _, Nat.zero_le _⟩, hN⟩ ⟨rfl, B.returns, B.notSynchronized, rfl, rfl⟩ s.heap [] _ hl hP va_S.rf
end
