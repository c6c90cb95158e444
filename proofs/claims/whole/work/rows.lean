section
-- ===== PART A: goes FIRST, ahead of the names: the tables' words, and 'selects' of the private methods out of them =====
/-- a private method of a class that the tables say can be made, by its rows of tables_1 -/
def lw_okq (q : MethodName × Nat) : Prop := (q.1.cls ≠ "java/lang/invoke/MethodHandle" ∧ q.1.cls ≠ "java/lang/invoke/VarHandle") ∧ Cond.instantiable q.1.cls q.2 ∈ tables_1 ∧ Cond.privateMethod q.1 ∈ tables_1 ∧ Cond.instanceMethod q.1 ∈ tables_1
theorem lw_p0 : lw_okq (⟨"BesomYard$Told", "setAsAtFirst", "()V"⟩, 2) := ⟨⟨by decide +kernel, by decide +kernel⟩, List.mem_of_getElem? (i := 51) (by decide +kernel), List.mem_of_getElem? (i := 57) (by decide +kernel), List.mem_of_getElem? (i := 58) (by decide +kernel)⟩
theorem lw_p1 : lw_okq (⟨"BesomYard", "startAnew", "()V"⟩, 16) := ⟨⟨by decide +kernel, by decide +kernel⟩, List.mem_of_getElem? (i := 17) (by decide +kernel), List.mem_of_getElem? (i := 161) (by decide +kernel), List.mem_of_getElem? (i := 162) (by decide +kernel)⟩
theorem lw_p2 : lw_okq (⟨"BesomYard", "forgetPast", "()V"⟩, 16) := ⟨⟨by decide +kernel, by decide +kernel⟩, List.mem_of_getElem? (i := 17) (by decide +kernel), List.mem_of_getElem? (i := 185) (by decide +kernel), List.mem_of_getElem? (i := 186) (by decide +kernel)⟩
theorem lw_p3 : lw_okq (⟨"BesomYard$Text", "letterAt", "(I)I"⟩, 6) := ⟨⟨by decide +kernel, by decide +kernel⟩, List.mem_of_getElem? (i := 25) (by decide +kernel), List.mem_of_getElem? (i := 274) (by decide +kernel), List.mem_of_getElem? (i := 275) (by decide +kernel)⟩
theorem lw_p4 : lw_okq (⟨"BesomYard$Text", "isDigit", "(I)Z"⟩, 6) := ⟨⟨by decide +kernel, by decide +kernel⟩, List.mem_of_getElem? (i := 25) (by decide +kernel), List.mem_of_getElem? (i := 278) (by decide +kernel), List.mem_of_getElem? (i := 279) (by decide +kernel)⟩
theorem lw_p5 : lw_okq (⟨"BesomYard$Text", "readNumber", "()V"⟩, 6) := ⟨⟨by decide +kernel, by decide +kernel⟩, List.mem_of_getElem? (i := 25) (by decide +kernel), List.mem_of_getElem? (i := 282) (by decide +kernel), List.mem_of_getElem? (i := 283) (by decide +kernel)⟩
theorem lw_p6 : lw_okq (⟨"BesomYard$Told", "readItem", "(LBesomYard$Text;I)Z"⟩, 2) := ⟨⟨by decide +kernel, by decide +kernel⟩, List.mem_of_getElem? (i := 51) (by decide +kernel), List.mem_of_getElem? (i := 289) (by decide +kernel), List.mem_of_getElem? (i := 290) (by decide +kernel)⟩
theorem lw_p7 : lw_okq (⟨"BesomYard$Told", "take", "(III)Z"⟩, 2) := ⟨⟨by decide +kernel, by decide +kernel⟩, List.mem_of_getElem? (i := 51) (by decide +kernel), List.mem_of_getElem? (i := 386) (by decide +kernel), List.mem_of_getElem? (i := 387) (by decide +kernel)⟩
theorem lw_p8 : lw_okq (⟨"BesomYard", "isPart", "(I)Z"⟩, 16) := ⟨⟨by decide +kernel, by decide +kernel⟩, List.mem_of_getElem? (i := 17) (by decide +kernel), List.mem_of_getElem? (i := 403) (by decide +kernel), List.mem_of_getElem? (i := 404) (by decide +kernel)⟩
theorem lw_p9 : lw_okq (⟨"BesomYard", "giftOf", "(I)I"⟩, 16) := ⟨⟨by decide +kernel, by decide +kernel⟩, List.mem_of_getElem? (i := 17) (by decide +kernel), List.mem_of_getElem? (i := 416) (by decide +kernel), List.mem_of_getElem? (i := 417) (by decide +kernel)⟩
theorem lw_p10 : lw_okq (⟨"BesomYard", "isOrder", "(I)Z"⟩, 16) := ⟨⟨by decide +kernel, by decide +kernel⟩, List.mem_of_getElem? (i := 17) (by decide +kernel), List.mem_of_getElem? (i := 431) (by decide +kernel), List.mem_of_getElem? (i := 432) (by decide +kernel)⟩
theorem lw_p11 : lw_okq (⟨"BesomYard", "remember", "()V"⟩, 16) := ⟨⟨by decide +kernel, by decide +kernel⟩, List.mem_of_getElem? (i := 17) (by decide +kernel), List.mem_of_getElem? (i := 462) (by decide +kernel), List.mem_of_getElem? (i := 463) (by decide +kernel)⟩
theorem lw_p12 : lw_okq (⟨"BesomYard$Shelf", "placeAt", "(I)LBesomYard$Moment;"⟩, 1) := ⟨⟨by decide +kernel, by decide +kernel⟩, List.mem_of_getElem? (i := 123) (by decide +kernel), List.mem_of_getElem? (i := 470) (by decide +kernel), List.mem_of_getElem? (i := 471) (by decide +kernel)⟩
theorem lw_p13 : lw_okq (⟨"BesomYard", "isLate", "(I)Z"⟩, 16) := ⟨⟨by decide +kernel, by decide +kernel⟩, List.mem_of_getElem? (i := 17) (by decide +kernel), List.mem_of_getElem? (i := 517) (by decide +kernel), List.mem_of_getElem? (i := 518) (by decide +kernel)⟩
theorem lw_p14 : lw_okq (⟨"BesomYard$Besom", "shorten", "(II)V"⟩, 2) := ⟨⟨by decide +kernel, by decide +kernel⟩, List.mem_of_getElem? (i := 77) (by decide +kernel), List.mem_of_getElem? (i := 529) (by decide +kernel), List.mem_of_getElem? (i := 530) (by decide +kernel)⟩
theorem lw_p15 : lw_okq (⟨"BesomYard", "bestTurn", "()I"⟩, 16) := ⟨⟨by decide +kernel, by decide +kernel⟩, List.mem_of_getElem? (i := 17) (by decide +kernel), List.mem_of_getElem? (i := 561) (by decide +kernel), List.mem_of_getElem? (i := 562) (by decide +kernel)⟩
def lw_privs_1 : List (MethodName × Nat) := [(⟨"BesomYard$Told", "setAsAtFirst", "()V"⟩, 2), (⟨"BesomYard", "startAnew", "()V"⟩, 16), (⟨"BesomYard", "forgetPast", "()V"⟩, 16), (⟨"BesomYard$Text", "letterAt", "(I)I"⟩, 6), (⟨"BesomYard$Text", "isDigit", "(I)Z"⟩, 6), (⟨"BesomYard$Text", "readNumber", "()V"⟩, 6), (⟨"BesomYard$Told", "readItem", "(LBesomYard$Text;I)Z"⟩, 2), (⟨"BesomYard$Told", "take", "(III)Z"⟩, 2), (⟨"BesomYard", "isPart", "(I)Z"⟩, 16), (⟨"BesomYard", "giftOf", "(I)I"⟩, 16), (⟨"BesomYard", "isOrder", "(I)Z"⟩, 16), (⟨"BesomYard", "remember", "()V"⟩, 16), (⟨"BesomYard$Shelf", "placeAt", "(I)LBesomYard$Moment;"⟩, 1), (⟨"BesomYard", "isLate", "(I)Z"⟩, 16), (⟨"BesomYard$Besom", "shorten", "(II)V"⟩, 2), (⟨"BesomYard", "bestTurn", "()I"⟩, 16)]
theorem lw_r1 : ∀ q ∈ lw_privs_1, lw_okq q := List.forall_mem_cons.mpr ⟨lw_p0, List.forall_mem_cons.mpr ⟨lw_p1, List.forall_mem_cons.mpr ⟨lw_p2, List.forall_mem_cons.mpr ⟨lw_p3, List.forall_mem_cons.mpr ⟨lw_p4, List.forall_mem_cons.mpr ⟨lw_p5, List.forall_mem_cons.mpr ⟨lw_p6, List.forall_mem_cons.mpr ⟨lw_p7, List.forall_mem_cons.mpr ⟨lw_p8, List.forall_mem_cons.mpr ⟨lw_p9, List.forall_mem_cons.mpr ⟨lw_p10, List.forall_mem_cons.mpr ⟨lw_p11, List.forall_mem_cons.mpr ⟨lw_p12, List.forall_mem_cons.mpr ⟨lw_p13, List.forall_mem_cons.mpr ⟨lw_p14, List.forall_mem_cons.mpr ⟨lw_p15, fun _ h => absurd h List.not_mem_nil⟩⟩⟩⟩⟩⟩⟩⟩⟩⟩⟩⟩⟩⟩⟩⟩
theorem lw_p16 : lw_okq (⟨"BesomYard$Planner", "gotIn", "(ILBesomYard$Told;LBesomYard$Moment;)I"⟩, 4) := ⟨⟨by decide +kernel, by decide +kernel⟩, List.mem_of_getElem? (i := 141) (by decide +kernel), List.mem_of_getElem? (i := 581) (by decide +kernel), List.mem_of_getElem? (i := 582) (by decide +kernel)⟩
theorem lw_p17 : lw_okq (⟨"BesomYard$Planner", "compare", "(I)V"⟩, 4) := ⟨⟨by decide +kernel, by decide +kernel⟩, List.mem_of_getElem? (i := 141) (by decide +kernel), List.mem_of_getElem? (i := 589) (by decide +kernel), List.mem_of_getElem? (i := 590) (by decide +kernel)⟩
theorem lw_p18 : lw_okq (⟨"BesomYard$Planner", "goToNextRow", "(II)I"⟩, 4) := ⟨⟨by decide +kernel, by decide +kernel⟩, List.mem_of_getElem? (i := 141) (by decide +kernel), List.mem_of_getElem? (i := 594) (by decide +kernel), List.mem_of_getElem? (i := 595) (by decide +kernel)⟩
theorem lw_p19 : lw_okq (⟨"BesomYard", "coinsOf", "(I)I"⟩, 16) := ⟨⟨by decide +kernel, by decide +kernel⟩, List.mem_of_getElem? (i := 17) (by decide +kernel), List.mem_of_getElem? (i := 610) (by decide +kernel), List.mem_of_getElem? (i := 611) (by decide +kernel)⟩
theorem lw_p20 : lw_okq (⟨"BesomYard", "canBeKept", "(I)Z"⟩, 16) := ⟨⟨by decide +kernel, by decide +kernel⟩, List.mem_of_getElem? (i := 17) (by decide +kernel), List.mem_of_getElem? (i := 614) (by decide +kernel), List.mem_of_getElem? (i := 615) (by decide +kernel)⟩
theorem lw_p21 : lw_okq (⟨"BesomYard", "besomsDueBy", "(II)I"⟩, 16) := ⟨⟨by decide +kernel, by decide +kernel⟩, List.mem_of_getElem? (i := 17) (by decide +kernel), List.mem_of_getElem? (i := 622) (by decide +kernel), List.mem_of_getElem? (i := 623) (by decide +kernel)⟩
theorem lw_p22 : lw_okq (⟨"BesomYard", "goesAhead", "(III)Z"⟩, 16) := ⟨⟨by decide +kernel, by decide +kernel⟩, List.mem_of_getElem? (i := 17) (by decide +kernel), List.mem_of_getElem? (i := 630) (by decide +kernel), List.mem_of_getElem? (i := 631) (by decide +kernel)⟩
theorem lw_p23 : lw_okq (⟨"BesomYard", "lackingTwigs", "()I"⟩, 16) := ⟨⟨by decide +kernel, by decide +kernel⟩, List.mem_of_getElem? (i := 17) (by decide +kernel), List.mem_of_getElem? (i := 638) (by decide +kernel), List.mem_of_getElem? (i := 639) (by decide +kernel)⟩
theorem lw_p24 : lw_okq (⟨"BesomYard", "besomsToBind", "()I"⟩, 16) := ⟨⟨by decide +kernel, by decide +kernel⟩, List.mem_of_getElem? (i := 17) (by decide +kernel), List.mem_of_getElem? (i := 642) (by decide +kernel), List.mem_of_getElem? (i := 643) (by decide +kernel)⟩
theorem lw_p25 : lw_okq (⟨"BesomYard", "giftsOf", "(I)I"⟩, 16) := ⟨⟨by decide +kernel, by decide +kernel⟩, List.mem_of_getElem? (i := 17) (by decide +kernel), List.mem_of_getElem? (i := 656) (by decide +kernel), List.mem_of_getElem? (i := 657) (by decide +kernel)⟩
theorem lw_p26 : lw_okq (⟨"BesomYard", "sweepingsBy", "(I)I"⟩, 16) := ⟨⟨by decide +kernel, by decide +kernel⟩, List.mem_of_getElem? (i := 17) (by decide +kernel), List.mem_of_getElem? (i := 668) (by decide +kernel), List.mem_of_getElem? (i := 669) (by decide +kernel)⟩
theorem lw_p27 : lw_okq (⟨"BesomYard", "allSeenIsSoBy", "(I)Z"⟩, 16) := ⟨⟨by decide +kernel, by decide +kernel⟩, List.mem_of_getElem? (i := 17) (by decide +kernel), List.mem_of_getElem? (i := 693) (by decide +kernel), List.mem_of_getElem? (i := 694) (by decide +kernel)⟩
theorem lw_p28 : lw_okq (⟨"BesomYard", "seenFits", "(I)Z"⟩, 16) := ⟨⟨by decide +kernel, by decide +kernel⟩, List.mem_of_getElem? (i := 17) (by decide +kernel), List.mem_of_getElem? (i := 697) (by decide +kernel), List.mem_of_getElem? (i := 698) (by decide +kernel)⟩
theorem lw_p29 : lw_okq (⟨"BesomYard", "rateAsPart", "(I)I"⟩, 16) := ⟨⟨by decide +kernel, by decide +kernel⟩, List.mem_of_getElem? (i := 17) (by decide +kernel), List.mem_of_getElem? (i := 716) (by decide +kernel), List.mem_of_getElem? (i := 717) (by decide +kernel)⟩
theorem lw_p30 : lw_okq (⟨"BesomYard", "rateAsBirch", "(I)I"⟩, 16) := ⟨⟨by decide +kernel, by decide +kernel⟩, List.mem_of_getElem? (i := 17) (by decide +kernel), List.mem_of_getElem? (i := 720) (by decide +kernel), List.mem_of_getElem? (i := 721) (by decide +kernel)⟩
theorem lw_p31 : lw_okq (⟨"BesomYard", "rateAsHeather", "(I)I"⟩, 16) := ⟨⟨by decide +kernel, by decide +kernel⟩, List.mem_of_getElem? (i := 17) (by decide +kernel), List.mem_of_getElem? (i := 725) (by decide +kernel), List.mem_of_getElem? (i := 726) (by decide +kernel)⟩
def lw_privs_2 : List (MethodName × Nat) := [(⟨"BesomYard$Planner", "gotIn", "(ILBesomYard$Told;LBesomYard$Moment;)I"⟩, 4), (⟨"BesomYard$Planner", "compare", "(I)V"⟩, 4), (⟨"BesomYard$Planner", "goToNextRow", "(II)I"⟩, 4), (⟨"BesomYard", "coinsOf", "(I)I"⟩, 16), (⟨"BesomYard", "canBeKept", "(I)Z"⟩, 16), (⟨"BesomYard", "besomsDueBy", "(II)I"⟩, 16), (⟨"BesomYard", "goesAhead", "(III)Z"⟩, 16), (⟨"BesomYard", "lackingTwigs", "()I"⟩, 16), (⟨"BesomYard", "besomsToBind", "()I"⟩, 16), (⟨"BesomYard", "giftsOf", "(I)I"⟩, 16), (⟨"BesomYard", "sweepingsBy", "(I)I"⟩, 16), (⟨"BesomYard", "allSeenIsSoBy", "(I)Z"⟩, 16), (⟨"BesomYard", "seenFits", "(I)Z"⟩, 16), (⟨"BesomYard", "rateAsPart", "(I)I"⟩, 16), (⟨"BesomYard", "rateAsBirch", "(I)I"⟩, 16), (⟨"BesomYard", "rateAsHeather", "(I)I"⟩, 16)]
theorem lw_r2 : ∀ q ∈ lw_privs_2, lw_okq q := List.forall_mem_cons.mpr ⟨lw_p16, List.forall_mem_cons.mpr ⟨lw_p17, List.forall_mem_cons.mpr ⟨lw_p18, List.forall_mem_cons.mpr ⟨lw_p19, List.forall_mem_cons.mpr ⟨lw_p20, List.forall_mem_cons.mpr ⟨lw_p21, List.forall_mem_cons.mpr ⟨lw_p22, List.forall_mem_cons.mpr ⟨lw_p23, List.forall_mem_cons.mpr ⟨lw_p24, List.forall_mem_cons.mpr ⟨lw_p25, List.forall_mem_cons.mpr ⟨lw_p26, List.forall_mem_cons.mpr ⟨lw_p27, List.forall_mem_cons.mpr ⟨lw_p28, List.forall_mem_cons.mpr ⟨lw_p29, List.forall_mem_cons.mpr ⟨lw_p30, List.forall_mem_cons.mpr ⟨lw_p31, fun _ h => absurd h List.not_mem_nil⟩⟩⟩⟩⟩⟩⟩⟩⟩⟩⟩⟩⟩⟩⟩⟩
theorem lw_p32 : lw_okq (⟨"BesomYard", "rateAsStake", "(I)I"⟩, 16) := ⟨⟨by decide +kernel, by decide +kernel⟩, List.mem_of_getElem? (i := 17) (by decide +kernel), List.mem_of_getElem? (i := 730) (by decide +kernel), List.mem_of_getElem? (i := 731) (by decide +kernel)⟩
theorem lw_p33 : lw_okq (⟨"BesomYard", "rateAsKnot", "(I)I"⟩, 16) := ⟨⟨by decide +kernel, by decide +kernel⟩, List.mem_of_getElem? (i := 17) (by decide +kernel), List.mem_of_getElem? (i := 735) (by decide +kernel), List.mem_of_getElem? (i := 736) (by decide +kernel)⟩
theorem lw_p34 : lw_okq (⟨"BesomYard", "rateAsBramble", "(I)I"⟩, 16) := ⟨⟨by decide +kernel, by decide +kernel⟩, List.mem_of_getElem? (i := 17) (by decide +kernel), List.mem_of_getElem? (i := 740) (by decide +kernel), List.mem_of_getElem? (i := 741) (by decide +kernel)⟩
theorem lw_p35 : lw_okq (⟨"BesomYardModel", "begins", "()V"⟩, 28) := ⟨⟨by decide +kernel, by decide +kernel⟩, List.mem_of_getElem? (i := 765) (by decide +kernel), List.mem_of_getElem? (i := 771) (by decide +kernel), List.mem_of_getElem? (i := 772) (by decide +kernel)⟩
theorem lw_p36 : lw_okq (⟨"BesomYardModel", "settles", "()V"⟩, 28) := ⟨⟨by decide +kernel, by decide +kernel⟩, List.mem_of_getElem? (i := 765) (by decide +kernel), List.mem_of_getElem? (i := 775) (by decide +kernel), List.mem_of_getElem? (i := 776) (by decide +kernel)⟩
theorem lw_p37 : lw_okq (⟨"BesomYardModel", "advances", "()V"⟩, 28) := ⟨⟨by decide +kernel, by decide +kernel⟩, List.mem_of_getElem? (i := 765) (by decide +kernel), List.mem_of_getElem? (i := 879) (by decide +kernel), List.mem_of_getElem? (i := 880) (by decide +kernel)⟩
theorem lw_p38 : lw_okq (⟨"BesomYardModel", "letterAt", "(I)I"⟩, 28) := ⟨⟨by decide +kernel, by decide +kernel⟩, List.mem_of_getElem? (i := 765) (by decide +kernel), List.mem_of_getElem? (i := 883) (by decide +kernel), List.mem_of_getElem? (i := 884) (by decide +kernel)⟩
theorem lw_p39 : lw_okq (⟨"BesomYardModel", "isWell", "()Z"⟩, 28) := ⟨⟨by decide +kernel, by decide +kernel⟩, List.mem_of_getElem? (i := 765) (by decide +kernel), List.mem_of_getElem? (i := 890) (by decide +kernel), List.mem_of_getElem? (i := 891) (by decide +kernel)⟩
theorem lw_p40 : lw_okq (⟨"BesomYardModel", "mayBegin", "()Z"⟩, 28) := ⟨⟨by decide +kernel, by decide +kernel⟩, List.mem_of_getElem? (i := 765) (by decide +kernel), List.mem_of_getElem? (i := 894) (by decide +kernel), List.mem_of_getElem? (i := 895) (by decide +kernel)⟩
theorem lw_p41 : lw_okq (⟨"BesomYardModel", "takes", "(Z)I"⟩, 28) := ⟨⟨by decide +kernel, by decide +kernel⟩, List.mem_of_getElem? (i := 765) (by decide +kernel), List.mem_of_getElem? (i := 901) (by decide +kernel), List.mem_of_getElem? (i := 902) (by decide +kernel)⟩
theorem lw_p42 : lw_okq (⟨"BesomYardModel", "readsItem", "(I)V"⟩, 28) := ⟨⟨by decide +kernel, by decide +kernel⟩, List.mem_of_getElem? (i := 765) (by decide +kernel), List.mem_of_getElem? (i := 905) (by decide +kernel), List.mem_of_getElem? (i := 906) (by decide +kernel)⟩
theorem lw_p43 : lw_okq (⟨"BesomYardModel", "number", "(II)I"⟩, 28) := ⟨⟨by decide +kernel, by decide +kernel⟩, List.mem_of_getElem? (i := 765) (by decide +kernel), List.mem_of_getElem? (i := 909) (by decide +kernel), List.mem_of_getElem? (i := 910) (by decide +kernel)⟩
theorem lw_p44 : lw_okq (⟨"BesomYardModel", "isPart", "(I)Z"⟩, 28) := ⟨⟨by decide +kernel, by decide +kernel⟩, List.mem_of_getElem? (i := 765) (by decide +kernel), List.mem_of_getElem? (i := 917) (by decide +kernel), List.mem_of_getElem? (i := 918) (by decide +kernel)⟩
theorem lw_p45 : lw_okq (⟨"BesomYardModel", "gives", "([II)I"⟩, 28) := ⟨⟨by decide +kernel, by decide +kernel⟩, List.mem_of_getElem? (i := 765) (by decide +kernel), List.mem_of_getElem? (i := 921) (by decide +kernel), List.mem_of_getElem? (i := 922) (by decide +kernel)⟩
theorem lw_p46 : lw_okq (⟨"BesomYardModel", "givesAt", "(II)I"⟩, 28) := ⟨⟨by decide +kernel, by decide +kernel⟩, List.mem_of_getElem? (i := 765) (by decide +kernel), List.mem_of_getElem? (i := 925) (by decide +kernel), List.mem_of_getElem? (i := 926) (by decide +kernel)⟩
theorem lw_p47 : lw_okq (⟨"BesomYardModel", "isOrder", "(I)Z"⟩, 28) := ⟨⟨by decide +kernel, by decide +kernel⟩, List.mem_of_getElem? (i := 765) (by decide +kernel), List.mem_of_getElem? (i := 933) (by decide +kernel), List.mem_of_getElem? (i := 934) (by decide +kernel)⟩
def lw_privs_3 : List (MethodName × Nat) := [(⟨"BesomYard", "rateAsStake", "(I)I"⟩, 16), (⟨"BesomYard", "rateAsKnot", "(I)I"⟩, 16), (⟨"BesomYard", "rateAsBramble", "(I)I"⟩, 16), (⟨"BesomYardModel", "begins", "()V"⟩, 28), (⟨"BesomYardModel", "settles", "()V"⟩, 28), (⟨"BesomYardModel", "advances", "()V"⟩, 28), (⟨"BesomYardModel", "letterAt", "(I)I"⟩, 28), (⟨"BesomYardModel", "isWell", "()Z"⟩, 28), (⟨"BesomYardModel", "mayBegin", "()Z"⟩, 28), (⟨"BesomYardModel", "takes", "(Z)I"⟩, 28), (⟨"BesomYardModel", "readsItem", "(I)V"⟩, 28), (⟨"BesomYardModel", "number", "(II)I"⟩, 28), (⟨"BesomYardModel", "isPart", "(I)Z"⟩, 28), (⟨"BesomYardModel", "gives", "([II)I"⟩, 28), (⟨"BesomYardModel", "givesAt", "(II)I"⟩, 28), (⟨"BesomYardModel", "isOrder", "(I)Z"⟩, 28)]
theorem lw_r3 : ∀ q ∈ lw_privs_3, lw_okq q := List.forall_mem_cons.mpr ⟨lw_p32, List.forall_mem_cons.mpr ⟨lw_p33, List.forall_mem_cons.mpr ⟨lw_p34, List.forall_mem_cons.mpr ⟨lw_p35, List.forall_mem_cons.mpr ⟨lw_p36, List.forall_mem_cons.mpr ⟨lw_p37, List.forall_mem_cons.mpr ⟨lw_p38, List.forall_mem_cons.mpr ⟨lw_p39, List.forall_mem_cons.mpr ⟨lw_p40, List.forall_mem_cons.mpr ⟨lw_p41, List.forall_mem_cons.mpr ⟨lw_p42, List.forall_mem_cons.mpr ⟨lw_p43, List.forall_mem_cons.mpr ⟨lw_p44, List.forall_mem_cons.mpr ⟨lw_p45, List.forall_mem_cons.mpr ⟨lw_p46, List.forall_mem_cons.mpr ⟨lw_p47, fun _ h => absurd h List.not_mem_nil⟩⟩⟩⟩⟩⟩⟩⟩⟩⟩⟩⟩⟩⟩⟩⟩
theorem lw_p48 : lw_okq (⟨"BesomYardModel", "isSent", "(I)Z"⟩, 28) := ⟨⟨by decide +kernel, by decide +kernel⟩, List.mem_of_getElem? (i := 765) (by decide +kernel), List.mem_of_getElem? (i := 937) (by decide +kernel), List.mem_of_getElem? (i := 938) (by decide +kernel)⟩
theorem lw_p49 : lw_okq (⟨"BesomYardModel", "notes", "()V"⟩, 28) := ⟨⟨by decide +kernel, by decide +kernel⟩, List.mem_of_getElem? (i := 765) (by decide +kernel), List.mem_of_getElem? (i := 953) (by decide +kernel), List.mem_of_getElem? (i := 954) (by decide +kernel)⟩
theorem lw_p50 : lw_okq (⟨"BesomYardModel", "fells", "([II)I"⟩, 28) := ⟨⟨by decide +kernel, by decide +kernel⟩, List.mem_of_getElem? (i := 765) (by decide +kernel), List.mem_of_getElem? (i := 957) (by decide +kernel), List.mem_of_getElem? (i := 958) (by decide +kernel)⟩
theorem lw_p51 : lw_okq (⟨"BesomYardModel", "grows", "([I)V"⟩, 28) := ⟨⟨by decide +kernel, by decide +kernel⟩, List.mem_of_getElem? (i := 765) (by decide +kernel), List.mem_of_getElem? (i := 965) (by decide +kernel), List.mem_of_getElem? (i := 966) (by decide +kernel)⟩
theorem lw_p52 : lw_okq (⟨"BesomYardModel", "days", "(I)I"⟩, 28) := ⟨⟨by decide +kernel, by decide +kernel⟩, List.mem_of_getElem? (i := 765) (by decide +kernel), List.mem_of_getElem? (i := 973) (by decide +kernel), List.mem_of_getElem? (i := 974) (by decide +kernel)⟩
theorem lw_p53 : lw_okq (⟨"BesomYardModel", "twigsBy", "(I)I"⟩, 28) := ⟨⟨by decide +kernel, by decide +kernel⟩, List.mem_of_getElem? (i := 765) (by decide +kernel), List.mem_of_getElem? (i := 1014) (by decide +kernel), List.mem_of_getElem? (i := 1015) (by decide +kernel)⟩
theorem lw_p54 : lw_okq (⟨"BesomYardModel", "asNow", "()V"⟩, 28) := ⟨⟨by decide +kernel, by decide +kernel⟩, List.mem_of_getElem? (i := 765) (by decide +kernel), List.mem_of_getElem? (i := 1018) (by decide +kernel), List.mem_of_getElem? (i := 1019) (by decide +kernel)⟩
theorem lw_p55 : lw_okq (⟨"BesomYardModel", "coinsOf", "(I)I"⟩, 28) := ⟨⟨by decide +kernel, by decide +kernel⟩, List.mem_of_getElem? (i := 765) (by decide +kernel), List.mem_of_getElem? (i := 1026) (by decide +kernel), List.mem_of_getElem? (i := 1027) (by decide +kernel)⟩
theorem lw_p56 : lw_okq (⟨"BesomYardModel", "canBeKept", "(I)Z"⟩, 28) := ⟨⟨by decide +kernel, by decide +kernel⟩, List.mem_of_getElem? (i := 765) (by decide +kernel), List.mem_of_getElem? (i := 1030) (by decide +kernel), List.mem_of_getElem? (i := 1031) (by decide +kernel)⟩
theorem lw_p57 : lw_okq (⟨"BesomYardModel", "besomsBy", "(II)I"⟩, 28) := ⟨⟨by decide +kernel, by decide +kernel⟩, List.mem_of_getElem? (i := 765) (by decide +kernel), List.mem_of_getElem? (i := 1034) (by decide +kernel), List.mem_of_getElem? (i := 1035) (by decide +kernel)⟩
theorem lw_p58 : lw_okq (⟨"BesomYardModel", "lacks", "()I"⟩, 28) := ⟨⟨by decide +kernel, by decide +kernel⟩, List.mem_of_getElem? (i := 765) (by decide +kernel), List.mem_of_getElem? (i := 1046) (by decide +kernel), List.mem_of_getElem? (i := 1047) (by decide +kernel)⟩
theorem lw_p59 : lw_okq (⟨"BesomYardModel", "wanted", "()I"⟩, 28) := ⟨⟨by decide +kernel, by decide +kernel⟩, List.mem_of_getElem? (i := 765) (by decide +kernel), List.mem_of_getElem? (i := 1050) (by decide +kernel), List.mem_of_getElem? (i := 1051) (by decide +kernel)⟩
theorem lw_p60 : lw_okq (⟨"BesomYardModel", "lastsBy", "(I)I"⟩, 28) := ⟨⟨by decide +kernel, by decide +kernel⟩, List.mem_of_getElem? (i := 765) (by decide +kernel), List.mem_of_getElem? (i := 1069) (by decide +kernel), List.mem_of_getElem? (i := 1070) (by decide +kernel)⟩
theorem lw_p61 : lw_okq (⟨"BesomYardModel", "goes", "(I)V"⟩, 28) := ⟨⟨by decide +kernel, by decide +kernel⟩, List.mem_of_getElem? (i := 765) (by decide +kernel), List.mem_of_getElem? (i := 1076) (by decide +kernel), List.mem_of_getElem? (i := 1077) (by decide +kernel)⟩
def lw_privs_4 : List (MethodName × Nat) := [(⟨"BesomYardModel", "isSent", "(I)Z"⟩, 28), (⟨"BesomYardModel", "notes", "()V"⟩, 28), (⟨"BesomYardModel", "fells", "([II)I"⟩, 28), (⟨"BesomYardModel", "grows", "([I)V"⟩, 28), (⟨"BesomYardModel", "days", "(I)I"⟩, 28), (⟨"BesomYardModel", "twigsBy", "(I)I"⟩, 28), (⟨"BesomYardModel", "asNow", "()V"⟩, 28), (⟨"BesomYardModel", "coinsOf", "(I)I"⟩, 28), (⟨"BesomYardModel", "canBeKept", "(I)Z"⟩, 28), (⟨"BesomYardModel", "besomsBy", "(II)I"⟩, 28), (⟨"BesomYardModel", "lacks", "()I"⟩, 28), (⟨"BesomYardModel", "wanted", "()I"⟩, 28), (⟨"BesomYardModel", "lastsBy", "(I)I"⟩, 28), (⟨"BesomYardModel", "goes", "(I)V"⟩, 28)]
theorem lw_r4 : ∀ q ∈ lw_privs_4, lw_okq q := List.forall_mem_cons.mpr ⟨lw_p48, List.forall_mem_cons.mpr ⟨lw_p49, List.forall_mem_cons.mpr ⟨lw_p50, List.forall_mem_cons.mpr ⟨lw_p51, List.forall_mem_cons.mpr ⟨lw_p52, List.forall_mem_cons.mpr ⟨lw_p53, List.forall_mem_cons.mpr ⟨lw_p54, List.forall_mem_cons.mpr ⟨lw_p55, List.forall_mem_cons.mpr ⟨lw_p56, List.forall_mem_cons.mpr ⟨lw_p57, List.forall_mem_cons.mpr ⟨lw_p58, List.forall_mem_cons.mpr ⟨lw_p59, List.forall_mem_cons.mpr ⟨lw_p60, List.forall_mem_cons.mpr ⟨lw_p61, fun _ h => absurd h List.not_mem_nil⟩⟩⟩⟩⟩⟩⟩⟩⟩⟩⟩⟩⟩⟩
def lw_privs : List (MethodName × Nat) := lw_privs_1 ++ (lw_privs_2 ++ (lw_privs_3 ++ (lw_privs_4)))
def lw_tbl : List Cond := k2_sels lw_privs ++ tables_1
theorem lw_privs_ok : ∀ q ∈ lw_privs, lw_okq q := by
  show ∀ q ∈ lw_privs_1 ++ (lw_privs_2 ++ (lw_privs_3 ++ (lw_privs_4))), lw_okq q
  exact List.forall_mem_append.mpr ⟨lw_r1, List.forall_mem_append.mpr ⟨lw_r2, List.forall_mem_append.mpr ⟨lw_r3, lw_r4⟩⟩⟩
end
section
def RX0 : String := "BesomYard$Besom"
def TX0 : u_T := fun k => match k with
  | 0 => ("BesomYard$Besom", "lengths", "[I", true)
  | _ => ("BesomYard$Besom", "front", "I", false)
def tyX0 : Nat → FieldType := fun k => match k with
  | 0 => .array .int
  | _ => .int
abbrev wsX00 : List Cond := u_ws RX0 TX0 2
theorem nmX0 : ∀ a, a < 2 → ∀ b, b < 2 → a ≠ b → (TX0 a).2.1 ≠ (TX0 b).2.1 := by decide +kernel
theorem tyX0_ok : ∀ k, k < 2 → parseFieldDescriptor (TX0 k).2.2.1 = some (tyX0 k) := by decide +kernel
abbrev cX0_init : ByteArray := prog_2_method_1_code
def yX0_init : MethodName := ⟨RX0, "<init>", "()V"⟩
abbrev cX0_lengthOf : ByteArray := prog_2_method_2_code
def yX0_lengthOf : MethodName := ⟨RX0, "lengthOf", "(I)I"⟩
abbrev cX0_renew : ByteArray := prog_2_method_3_code
def yX0_renew : MethodName := ⟨RX0, "renew", "(I)V"⟩
abbrev cX0_setAs : ByteArray := prog_2_method_4_code
def yX0_setAs : MethodName := ⟨RX0, "setAs", "(LBesomYard$Besom;)V"⟩
abbrev cX0_sweep : ByteArray := prog_2_method_5_code
def yX0_sweep : MethodName := ⟨RX0, "sweep", "()V"⟩
abbrev cX0_turnBy : ByteArray := prog_2_method_6_code
def yX0_turnBy : MethodName := ⟨RX0, "turnBy", "(I)V"⟩
abbrev cX0_isWornOut : ByteArray := prog_2_method_7_code
def yX0_isWornOut : MethodName := ⟨RX0, "isWornOut", "()Z"⟩
abbrev cX0_shorten : ByteArray := prog_2_method_8_code
def yX0_shorten : MethodName := ⟨RX0, "shorten", "(II)V"⟩
def RX1 : String := "BesomYard$Moment"
def TX1 : u_T := fun k => match k with
  | 0 => ("BesomYard$Moment", "ages", "[I", true)
  | 1 => ("BesomYard$Moment", "door", "LBesomYard$Besom;", true)
  | 2 => ("BesomYard$Moment", "stack", "I", false)
  | 3 => ("BesomYard$Moment", "bound", "I", false)
  | 4 => ("BesomYard$Moment", "day", "I", false)
  | 5 => ("BesomYard$Moment", "earned", "I", false)
  | 6 => ("BesomYard$Moment", "sent", "I", false)
  | _ => ("BesomYard$Moment", "year", "I", false)
def tyX1 : Nat → FieldType := fun k => match k with
  | 0 => .array .int
  | 1 => .object "BesomYard$Besom"
  | 2 => .int
  | 3 => .int
  | 4 => .int
  | 5 => .int
  | 6 => .int
  | _ => .int
abbrev wsX10 : List Cond := u_ws RX1 TX1 8
theorem nmX1 : ∀ a, a < 8 → ∀ b, b < 8 → a ≠ b → (TX1 a).2.1 ≠ (TX1 b).2.1 := by decide +kernel
theorem tyX1_ok : ∀ k, k < 8 → parseFieldDescriptor (TX1 k).2.2.1 = some (tyX1 k) := by decide +kernel
abbrev cX1_init : ByteArray := prog_3_method_1_code
def yX1_init : MethodName := ⟨RX1, "<init>", "()V"⟩
abbrev cX1_age : ByteArray := prog_3_method_2_code
def yX1_age : MethodName := ⟨RX1, "age", "(I)I"⟩
abbrev cX1_wasSent : ByteArray := prog_3_method_3_code
def yX1_wasSent : MethodName := ⟨RX1, "wasSent", "(I)Z"⟩
abbrev cX1_beCut : ByteArray := prog_3_method_4_code
def yX1_beCut : MethodName := ⟨RX1, "beCut", "(I)V"⟩
abbrev cX1_growOlder : ByteArray := prog_3_method_5_code
def yX1_growOlder : MethodName := ⟨RX1, "growOlder", "()V"⟩
abbrev cX1_begin : ByteArray := prog_3_method_6_code
def yX1_begin : MethodName := ⟨RX1, "begin", "(LBesomYard$Told;)V"⟩
abbrev cX1_setAs : ByteArray := prog_3_method_7_code
def yX1_setAs : MethodName := ⟨RX1, "setAs", "(LBesomYard$Moment;)V"⟩
def RX2 : String := "BesomYard$Planner"
def TX2 : u_T := fun k => match k with
  | 0 => ("BesomYard$Planner", "most", "I", false)
  | 1 => ("BesomYard$Planner", "row", "[I", true)
  | 2 => ("BesomYard$Planner", "best", "[I", true)
  | _ => ("BesomYard$Planner", "got", "[I", true)
def tyX2 : Nat → FieldType := fun k => match k with
  | 0 => .int
  | 1 => .array .int
  | 2 => .array .int
  | _ => .array .int
abbrev wsX20 : List Cond := u_ws RX2 TX2 4
theorem nmX2 : ∀ a, a < 4 → ∀ b, b < 4 → a ≠ b → (TX2 a).2.1 ≠ (TX2 b).2.1 := by decide +kernel
theorem tyX2_ok : ∀ k, k < 4 → parseFieldDescriptor (TX2 k).2.2.1 = some (tyX2 k) := by decide +kernel
abbrev cX2_init : ByteArray := prog_4_method_1_code
def yX2_init : MethodName := ⟨RX2, "<init>", "()V"⟩
abbrev cX2_mostTwigs : ByteArray := prog_4_method_2_code
def yX2_mostTwigs : MethodName := ⟨RX2, "mostTwigs", "()I"⟩
abbrev cX2_chosenIn : ByteArray := prog_4_method_3_code
def yX2_chosenIn : MethodName := ⟨RX2, "chosenIn", "(I)I"⟩
abbrev cX2_find : ByteArray := prog_4_method_4_code
def yX2_find : MethodName := ⟨RX2, "find", "(LBesomYard$Told;LBesomYard$Moment;I)V"⟩
abbrev cX2_gotIn : ByteArray := prog_4_method_5_code
def yX2_gotIn : MethodName := ⟨RX2, "gotIn", "(ILBesomYard$Told;LBesomYard$Moment;)I"⟩
abbrev cX2_goToNextRow : ByteArray := prog_4_method_6_code
def yX2_goToNextRow : MethodName := ⟨RX2, "goToNextRow", "(II)I"⟩
abbrev cX2_compare : ByteArray := prog_4_method_7_code
def yX2_compare : MethodName := ⟨RX2, "compare", "(I)V"⟩
def RX3 : String := "BesomYard$Shelf"
def TX3 : u_T := fun k => match k with
  | _ => ("BesomYard$Shelf", "places", "[LBesomYard$Moment;", true)
def tyX3 : Nat → FieldType := fun k => match k with
  | _ => .array (.object "BesomYard$Moment")
abbrev wsX30 : List Cond := u_ws RX3 TX3 1
theorem nmX3 : ∀ a, a < 1 → ∀ b, b < 1 → a ≠ b → (TX3 a).2.1 ≠ (TX3 b).2.1 := by decide +kernel
theorem tyX3_ok : ∀ k, k < 1 → parseFieldDescriptor (TX3 k).2.2.1 = some (tyX3 k) := by decide +kernel
abbrev cX3_init : ByteArray := prog_5_method_1_code
def yX3_init : MethodName := ⟨RX3, "<init>", "(I)V"⟩
abbrev cX3_put : ByteArray := prog_5_method_2_code
def yX3_put : MethodName := ⟨RX3, "put", "(ILBesomYard$Moment;)V"⟩
abbrev cX3_take : ByteArray := prog_5_method_3_code
def yX3_take : MethodName := ⟨RX3, "take", "(ILBesomYard$Moment;)V"⟩
abbrev cX3_placeAt : ByteArray := prog_5_method_4_code
def yX3_placeAt : MethodName := ⟨RX3, "placeAt", "(I)LBesomYard$Moment;"⟩
def RX4 : String := "BesomYard$Text"
def TX4 : u_T := fun k => match k with
  | 0 => ("BesomYard$Text", "letters", "[C", true)
  | 1 => ("BesomYard$Text", "many", "I", false)
  | 2 => ("BesomYard$Text", "start", "I", false)
  | 3 => ("BesomYard$Text", "behind", "I", false)
  | 4 => ("BesomYard$Text", "token", "I", false)
  | _ => ("BesomYard$Text", "number", "I", false)
def tyX4 : Nat → FieldType := fun k => match k with
  | 0 => .array .char
  | 1 => .int
  | 2 => .int
  | 3 => .int
  | 4 => .int
  | _ => .int
abbrev wsX40 : List Cond := u_ws RX4 TX4 6
theorem nmX4 : ∀ a, a < 6 → ∀ b, b < 6 → a ≠ b → (TX4 a).2.1 ≠ (TX4 b).2.1 := by decide +kernel
theorem tyX4_ok : ∀ k, k < 6 → parseFieldDescriptor (TX4 k).2.2.1 = some (tyX4 k) := by decide +kernel
abbrev cX4_init : ByteArray := prog_6_method_1_code
def yX4_init : MethodName := ⟨RX4, "<init>", "()V"⟩
abbrev cX4_size : ByteArray := prog_6_method_2_code
def yX4_size : MethodName := ⟨RX4, "size", "()I"⟩
abbrev cX4_empty : ByteArray := prog_6_method_3_code
def yX4_empty : MethodName := ⟨RX4, "empty", "()V"⟩
abbrev cX4_add : ByteArray := prog_6_method_4_code
def yX4_add : MethodName := ⟨RX4, "add", "(C)Z"⟩
abbrev cX4_rewind : ByteArray := prog_6_method_5_code
def yX4_rewind : MethodName := ⟨RX4, "rewind", "()V"⟩
abbrev cX4_tokenStart : ByteArray := prog_6_method_6_code
def yX4_tokenStart : MethodName := ⟨RX4, "tokenStart", "()I"⟩
abbrev cX4_tokenNumber : ByteArray := prog_6_method_7_code
def yX4_tokenNumber : MethodName := ⟨RX4, "tokenNumber", "()I"⟩
abbrev cX4_goOn : ByteArray := prog_6_method_8_code
def yX4_goOn : MethodName := ⟨RX4, "goOn", "()I"⟩
abbrev cX4_readNumber : ByteArray := prog_6_method_9_code
def yX4_readNumber : MethodName := ⟨RX4, "readNumber", "()V"⟩
abbrev cX4_isDigit : ByteArray := prog_6_method_10_code
def yX4_isDigit : MethodName := ⟨RX4, "isDigit", "(I)Z"⟩
abbrev cX4_letterAt : ByteArray := prog_6_method_11_code
def yX4_letterAt : MethodName := ⟨RX4, "letterAt", "(I)I"⟩
def RX5 : String := "BesomYard$Told"
def TX5 : u_T := fun k => match k with
  | 0 => ("BesomYard$Told", "many", "[I", true)
  | _ => ("BesomYard$Told", "values", "[I", true)
def tyX5 : Nat → FieldType := fun k => match k with
  | 0 => .array .int
  | _ => .array .int
abbrev wsX50 : List Cond := u_ws RX5 TX5 2
theorem nmX5 : ∀ a, a < 2 → ∀ b, b < 2 → a ≠ b → (TX5 a).2.1 ≠ (TX5 b).2.1 := by decide +kernel
theorem tyX5_ok : ∀ k, k < 2 → parseFieldDescriptor (TX5 k).2.2.1 = some (tyX5 k) := by decide +kernel
abbrev cX5_init : ByteArray := prog_7_method_1_code
def yX5_init : MethodName := ⟨RX5, "<init>", "()V"⟩
abbrev cX5_parts : ByteArray := prog_7_method_2_code
def yX5_parts : MethodName := ⟨RX5, "parts", "()I"⟩
abbrev cX5_orders : ByteArray := prog_7_method_3_code
def yX5_orders : MethodName := ⟨RX5, "orders", "()I"⟩
abbrev cX5_ripe : ByteArray := prog_7_method_4_code
def yX5_ripe : MethodName := ⟨RX5, "ripe", "()I"⟩
abbrev cX5_twigs : ByteArray := prog_7_method_5_code
def yX5_twigs : MethodName := ⟨RX5, "twigs", "()I"⟩
abbrev cX5_pace : ByteArray := prog_7_method_6_code
def yX5_pace : MethodName := ⟨RX5, "pace", "()I"⟩
abbrev cX5_lengthAtFirst : ByteArray := prog_7_method_7_code
def yX5_lengthAtFirst : MethodName := ⟨RX5, "lengthAtFirst", "()I"⟩
abbrev cX5_value : ByteArray := prog_7_method_8_code
def yX5_value : MethodName := ⟨RX5, "value", "(II)I"⟩
abbrev cX5_readFrom : ByteArray := prog_7_method_9_code
def yX5_readFrom : MethodName := ⟨RX5, "readFrom", "(LBesomYard$Text;)I"⟩
abbrev cX5_readItem : ByteArray := prog_7_method_10_code
def yX5_readItem : MethodName := ⟨RX5, "readItem", "(LBesomYard$Text;I)Z"⟩
abbrev cX5_take : ByteArray := prog_7_method_11_code
def yX5_take : MethodName := ⟨RX5, "take", "(III)Z"⟩
abbrev cX5_isPlace : ByteArray := prog_7_method_12_code
def yX5_isPlace : MethodName := ⟨RX5, "isPlace", "(II)Z"⟩
abbrev cX5_setAsAtFirst : ByteArray := prog_7_method_13_code
def yX5_setAsAtFirst : MethodName := ⟨RX5, "setAsAtFirst", "()V"⟩
def RX6 : String := "BesomYard"
def TX6 : u_T := fun k => match k with
  | 0 => ("BesomYard", "text", "LBesomYard$Text;", true)
  | 1 => ("BesomYard", "told", "LBesomYard$Told;", false)
  | 2 => ("BesomYard", "draft", "LBesomYard$Told;", false)
  | 3 => ("BesomYard", "here", "LBesomYard$Moment;", true)
  | 4 => ("BesomYard", "past", "LBesomYard$Shelf;", true)
  | 5 => ("BesomYard", "pastMany", "I", false)
  | 6 => ("BesomYard", "pastNext", "I", false)
  | 7 => ("BesomYard", "images", "LBesomYard$Shelf;", true)
  | 8 => ("BesomYard", "imageKept", "[Z", true)
  | 9 => ("BesomYard", "seenBehind", "[I", true)
  | 10 => ("BesomYard", "seenSide", "[I", true)
  | 11 => ("BesomYard", "seenLength", "[I", true)
  | 12 => ("BesomYard", "seenMany", "I", false)
  | 13 => ("BesomYard", "trial", "LBesomYard$Besom;", true)
  | 14 => ("BesomYard", "planner", "LBesomYard$Planner;", true)
  | _ => ("BesomYard", "traced", "J", false)
def tyX6 : Nat → FieldType := fun k => match k with
  | 0 => .object "BesomYard$Text"
  | 1 => .object "BesomYard$Told"
  | 2 => .object "BesomYard$Told"
  | 3 => .object "BesomYard$Moment"
  | 4 => .object "BesomYard$Shelf"
  | 5 => .int
  | 6 => .int
  | 7 => .object "BesomYard$Shelf"
  | 8 => .array .boolean
  | 9 => .array .int
  | 10 => .array .int
  | 11 => .array .int
  | 12 => .int
  | 13 => .object "BesomYard$Besom"
  | 14 => .object "BesomYard$Planner"
  | _ => .long
abbrev wsX60 : List Cond := u_ws RX6 TX6 16
theorem nmX6 : ∀ a, a < 16 → ∀ b, b < 16 → a ≠ b → (TX6 a).2.1 ≠ (TX6 b).2.1 := by decide +kernel
theorem tyX6_ok : ∀ k, k < 16 → parseFieldDescriptor (TX6 k).2.2.1 = some (tyX6 k) := by decide +kernel
abbrev cX6_init : ByteArray := prog_1_method_1_code
def yX6_init : MethodName := ⟨RX6, "<init>", "()V"⟩
abbrev cX6_type : ByteArray := prog_1_method_2_code
def yX6_type : MethodName := ⟨RX6, "type", "(I)I"⟩
abbrev cX6_clear : ByteArray := prog_1_method_3_code
def yX6_clear : MethodName := ⟨RX6, "clear", "()I"⟩
abbrev cX6_yard : ByteArray := prog_1_method_4_code
def yX6_yard : MethodName := ⟨RX6, "yard", "()I"⟩
abbrev cX6_part : ByteArray := prog_1_method_5_code
def yX6_part : MethodName := ⟨RX6, "part", "(II)I"⟩
abbrev cX6_order : ByteArray := prog_1_method_6_code
def yX6_order : MethodName := ⟨RX6, "order", "(II)I"⟩
abbrev cX6_side : ByteArray := prog_1_method_7_code
def yX6_side : MethodName := ⟨RX6, "side", "(I)I"⟩
abbrev cX6_now : ByteArray := prog_1_method_8_code
def yX6_now : MethodName := ⟨RX6, "now", "(I)I"⟩
abbrev cX6_cuts : ByteArray := prog_1_method_9_code
def yX6_cuts : MethodName := ⟨RX6, "cuts", "(I)I"⟩
abbrev cX6_year : ByteArray := prog_1_method_10_code
def yX6_year : MethodName := ⟨RX6, "year", "()I"⟩
abbrev cX6_binds : ByteArray := prog_1_method_11_code
def yX6_binds : MethodName := ⟨RX6, "binds", "(I)I"⟩
abbrev cX6_sends : ByteArray := prog_1_method_12_code
def yX6_sends : MethodName := ⟨RX6, "sends", "(I)I"⟩
abbrev cX6_sweeps : ByteArray := prog_1_method_13_code
def yX6_sweeps : MethodName := ⟨RX6, "sweeps", "()I"⟩
abbrev cX6_spins : ByteArray := prog_1_method_14_code
def yX6_spins : MethodName := ⟨RX6, "spins", "(I)I"⟩
abbrev cX6_undo : ByteArray := prog_1_method_15_code
def yX6_undo : MethodName := ⟨RX6, "undo", "()I"⟩
abbrev cX6_inYears : ByteArray := prog_1_method_16_code
def yX6_inYears : MethodName := ⟨RX6, "inYears", "(II)I"⟩
abbrev cX6_turn : ByteArray := prog_1_method_17_code
def yX6_turn : MethodName := ⟨RX6, "turn", "(II)I"⟩
abbrev cX6_plan : ByteArray := prog_1_method_18_code
def yX6_plan : MethodName := ⟨RX6, "plan", "(II)I"⟩
abbrev cX6_kept : ByteArray := prog_1_method_19_code
def yX6_kept : MethodName := ⟨RX6, "kept", "(I)I"⟩
abbrev cX6_next : ByteArray := prog_1_method_20_code
def yX6_next : MethodName := ⟨RX6, "next", "(I)I"⟩
abbrev cX6_lack : ByteArray := prog_1_method_21_code
def yX6_lack : MethodName := ⟨RX6, "lack", "()I"⟩
abbrev cX6_cutFor : ByteArray := prog_1_method_22_code
def yX6_cutFor : MethodName := ⟨RX6, "cutFor", "()I"⟩
abbrev cX6_allBy : ByteArray := prog_1_method_23_code
def yX6_allBy : MethodName := ⟨RX6, "allBy", "()I"⟩
abbrev cX6_lasts : ByteArray := prog_1_method_24_code
def yX6_lasts : MethodName := ⟨RX6, "lasts", "(I)I"⟩
abbrev cX6_latest : ByteArray := prog_1_method_25_code
def yX6_latest : MethodName := ⟨RX6, "latest", "()I"⟩
abbrev cX6_saw : ByteArray := prog_1_method_26_code
def yX6_saw : MethodName := ⟨RX6, "saw", "(III)I"⟩
abbrev cX6_forget : ByteArray := prog_1_method_27_code
def yX6_forget : MethodName := ⟨RX6, "forget", "()I"⟩
abbrev cX6_which : ByteArray := prog_1_method_28_code
def yX6_which : MethodName := ⟨RX6, "which", "()I"⟩
abbrev cX6_odds : ByteArray := prog_1_method_29_code
def yX6_odds : MethodName := ⟨RX6, "odds", "(IIII)I"⟩
abbrev cX6_rate : ByteArray := prog_1_method_30_code
def yX6_rate : MethodName := ⟨RX6, "rate", "(II)I"⟩
abbrev cX6_keep : ByteArray := prog_1_method_31_code
def yX6_keep : MethodName := ⟨RX6, "keep", "(I)I"⟩
abbrev cX6_back : ByteArray := prog_1_method_32_code
def yX6_back : MethodName := ⟨RX6, "back", "(I)I"⟩
abbrev cX6_count : ByteArray := prog_1_method_33_code
def yX6_count : MethodName := ⟨RX6, "count", "(I)I"⟩
abbrev cX6_trace : ByteArray := prog_1_method_34_code
def yX6_trace : MethodName := ⟨RX6, "trace", "()J"⟩
abbrev cX6_isPart : ByteArray := prog_1_method_35_code
def yX6_isPart : MethodName := ⟨RX6, "isPart", "(I)Z"⟩
abbrev cX6_isOrder : ByteArray := prog_1_method_36_code
def yX6_isOrder : MethodName := ⟨RX6, "isOrder", "(I)Z"⟩
abbrev cX6_isSide : ByteArray := prog_1_method_37_code
def yX6_isSide : MethodName := ⟨RX6, "isSide", "(I)Z"⟩
abbrev cX6_isImage : ByteArray := prog_1_method_38_code
def yX6_isImage : MethodName := ⟨RX6, "isImage", "(I)Z"⟩
abbrev cX6_isLate : ByteArray := prog_1_method_39_code
def yX6_isLate : MethodName := ⟨RX6, "isLate", "(I)Z"⟩
abbrev cX6_startAnew : ByteArray := prog_1_method_40_code
def yX6_startAnew : MethodName := ⟨RX6, "startAnew", "()V"⟩
abbrev cX6_forgetPast : ByteArray := prog_1_method_41_code
def yX6_forgetPast : MethodName := ⟨RX6, "forgetPast", "()V"⟩
abbrev cX6_remember : ByteArray := prog_1_method_42_code
def yX6_remember : MethodName := ⟨RX6, "remember", "()V"⟩
abbrev cX6_giftOf : ByteArray := prog_1_method_43_code
def yX6_giftOf : MethodName := ⟨RX6, "giftOf", "(I)I"⟩
abbrev cX6_gift : ByteArray := prog_1_method_44_code
def yX6_gift : MethodName := ⟨RX6, "gift", "(III)I"⟩
abbrev cX6_giftsOf : ByteArray := prog_1_method_45_code
def yX6_giftsOf : MethodName := ⟨RX6, "giftsOf", "(I)I"⟩
abbrev cX6_bestTurn : ByteArray := prog_1_method_46_code
def yX6_bestTurn : MethodName := ⟨RX6, "bestTurn", "()I"⟩
abbrev cX6_coinsOf : ByteArray := prog_1_method_47_code
def yX6_coinsOf : MethodName := ⟨RX6, "coinsOf", "(I)I"⟩
abbrev cX6_besomsDueBy : ByteArray := prog_1_method_48_code
def yX6_besomsDueBy : MethodName := ⟨RX6, "besomsDueBy", "(II)I"⟩
abbrev cX6_canBeKept : ByteArray := prog_1_method_49_code
def yX6_canBeKept : MethodName := ⟨RX6, "canBeKept", "(I)Z"⟩
abbrev cX6_goesAhead : ByteArray := prog_1_method_50_code
def yX6_goesAhead : MethodName := ⟨RX6, "goesAhead", "(III)Z"⟩
abbrev cX6_besomsToBind : ByteArray := prog_1_method_51_code
def yX6_besomsToBind : MethodName := ⟨RX6, "besomsToBind", "()I"⟩
abbrev cX6_lackingTwigs : ByteArray := prog_1_method_52_code
def yX6_lackingTwigs : MethodName := ⟨RX6, "lackingTwigs", "()I"⟩
abbrev cX6_sweepingsBy : ByteArray := prog_1_method_53_code
def yX6_sweepingsBy : MethodName := ⟨RX6, "sweepingsBy", "(I)I"⟩
abbrev cX6_allSeenIsSoBy : ByteArray := prog_1_method_54_code
def yX6_allSeenIsSoBy : MethodName := ⟨RX6, "allSeenIsSoBy", "(I)Z"⟩
abbrev cX6_seenFits : ByteArray := prog_1_method_55_code
def yX6_seenFits : MethodName := ⟨RX6, "seenFits", "(I)Z"⟩
abbrev cX6_rateAsPart : ByteArray := prog_1_method_56_code
def yX6_rateAsPart : MethodName := ⟨RX6, "rateAsPart", "(I)I"⟩
abbrev cX6_rateAsBirch : ByteArray := prog_1_method_57_code
def yX6_rateAsBirch : MethodName := ⟨RX6, "rateAsBirch", "(I)I"⟩
abbrev cX6_rateAsHeather : ByteArray := prog_1_method_58_code
def yX6_rateAsHeather : MethodName := ⟨RX6, "rateAsHeather", "(I)I"⟩
abbrev cX6_rateAsStake : ByteArray := prog_1_method_59_code
def yX6_rateAsStake : MethodName := ⟨RX6, "rateAsStake", "(I)I"⟩
abbrev cX6_rateAsKnot : ByteArray := prog_1_method_60_code
def yX6_rateAsKnot : MethodName := ⟨RX6, "rateAsKnot", "(I)I"⟩
abbrev cX6_rateAsBramble : ByteArray := prog_1_method_61_code
def yX6_rateAsBramble : MethodName := ⟨RX6, "rateAsBramble", "(I)I"⟩
abbrev cX6_cutUpwards : ByteArray := prog_1_method_62_code
def yX6_cutUpwards : MethodName := ⟨RX6, "cutUpwards", "(II)I"⟩
abbrev cX6_cutDownwards : ByteArray := prog_1_method_63_code
def yX6_cutDownwards : MethodName := ⟨RX6, "cutDownwards", "(II)I"⟩
abbrev cX6_inLeastTerms : ByteArray := prog_1_method_64_code
def yX6_inLeastTerms : MethodName := ⟨RX6, "inLeastTerms", "(III)I"⟩
abbrev cX6_commonDivisor : ByteArray := prog_1_method_65_code
def yX6_commonDivisor : MethodName := ⟨RX6, "commonDivisor", "(II)I"⟩
abbrev cX6_power : ByteArray := prog_1_method_66_code
def yX6_power : MethodName := ⟨RX6, "power", "(II)I"⟩
abbrev cX6_waysToChoose : ByteArray := prog_1_method_67_code
def yX6_waysToChoose : MethodName := ⟨RX6, "waysToChoose", "(II)I"⟩
def RX7 : String := "BesomYardModel"
def TX7 : u_T := fun k => match k with
  | 0 => ("BesomYardModel", "thrown", "I", false)
  | 1 => ("BesomYardModel", "trace", "J", false)
  | 2 => ("BesomYardModel", "text", "[I", true)
  | 3 => ("BesomYardModel", "typed", "I", false)
  | 4 => ("BesomYardModel", "next", "I", false)
  | 5 => ("BesomYardModel", "token", "I", false)
  | 6 => ("BesomYardModel", "place", "I", false)
  | 7 => ("BesomYardModel", "value", "I", false)
  | 8 => ("BesomYardModel", "fault", "I", false)
  | 9 => ("BesomYardModel", "many", "[I", true)
  | 10 => ("BesomYardModel", "told", "I", false)
  | 11 => ("BesomYardModel", "size", "[I", true)
  | 12 => ("BesomYardModel", "age", "[I", true)
  | 13 => ("BesomYardModel", "dayOf", "[I", true)
  | 14 => ("BesomYardModel", "besoms", "[I", true)
  | 15 => ("BesomYardModel", "coins", "[I", true)
  | 16 => ("BesomYardModel", "s", "[I", true)
  | 17 => ("BesomYardModel", "w", "[I", true)
  | 18 => ("BesomYardModel", "kept", "[I", true)
  | 19 => ("BesomYardModel", "isKept", "[Z", true)
  | 20 => ("BesomYardModel", "undos", "[I", true)
  | 21 => ("BesomYardModel", "undoMany", "I", false)
  | 22 => ("BesomYardModel", "sawBehind", "[I", true)
  | 23 => ("BesomYardModel", "sawSide", "[I", true)
  | 24 => ("BesomYardModel", "sawLong", "[I", true)
  | 25 => ("BesomYardModel", "sawMany", "I", false)
  | 26 => ("BesomYardModel", "row", "[I", true)
  | _ => ("BesomYardModel", "best", "[I", true)
def tyX7 : Nat → FieldType := fun k => match k with
  | 0 => .int
  | 1 => .long
  | 2 => .array .int
  | 3 => .int
  | 4 => .int
  | 5 => .int
  | 6 => .int
  | 7 => .int
  | 8 => .int
  | 9 => .array .int
  | 10 => .int
  | 11 => .array .int
  | 12 => .array .int
  | 13 => .array .int
  | 14 => .array .int
  | 15 => .array .int
  | 16 => .array .int
  | 17 => .array .int
  | 18 => .array .int
  | 19 => .array .boolean
  | 20 => .array .int
  | 21 => .int
  | 22 => .array .int
  | 23 => .array .int
  | 24 => .array .int
  | 25 => .int
  | 26 => .array .int
  | _ => .array .int
abbrev wsX70 : List Cond := u_ws RX7 TX7 28
theorem nmX7 : ∀ a, a < 28 → ∀ b, b < 28 → a ≠ b → (TX7 a).2.1 ≠ (TX7 b).2.1 := by decide +kernel
theorem tyX7_ok : ∀ k, k < 28 → parseFieldDescriptor (TX7 k).2.2.1 = some (tyX7 k) := by decide +kernel
abbrev cX7_init : ByteArray := prog_9_method_1_code
def yX7_init : MethodName := ⟨RX7, "<init>", "()V"⟩
abbrev cX7_in : ByteArray := prog_9_method_3_code
def yX7_in : MethodName := ⟨RX7, "in", "(III)Z"⟩
abbrev cX7_ones : ByteArray := prog_9_method_4_code
def yX7_ones : MethodName := ⟨RX7, "ones", "(I)I"⟩
abbrev cX7_type : ByteArray := prog_9_method_5_code
def yX7_type : MethodName := ⟨RX7, "type", "(I)I"⟩
abbrev cX7_clear : ByteArray := prog_9_method_6_code
def yX7_clear : MethodName := ⟨RX7, "clear", "()I"⟩
abbrev cX7_letterAt : ByteArray := prog_9_method_7_code
def yX7_letterAt : MethodName := ⟨RX7, "letterAt", "(I)I"⟩
abbrev cX7_isLetter : ByteArray := prog_9_method_8_code
def yX7_isLetter : MethodName := ⟨RX7, "isLetter", "(I)Z"⟩
abbrev cX7_advances : ByteArray := prog_9_method_9_code
def yX7_advances : MethodName := ⟨RX7, "advances", "()V"⟩
abbrev cX7_isWell : ByteArray := prog_9_method_10_code
def yX7_isWell : MethodName := ⟨RX7, "isWell", "()Z"⟩
abbrev cX7_takes : ByteArray := prog_9_method_11_code
def yX7_takes : MethodName := ⟨RX7, "takes", "(Z)I"⟩
abbrev cX7_number : ByteArray := prog_9_method_12_code
def yX7_number : MethodName := ⟨RX7, "number", "(II)I"⟩
abbrev cX7_begins : ByteArray := prog_9_method_13_code
def yX7_begins : MethodName := ⟨RX7, "begins", "()V"⟩
abbrev cX7_fixed : ByteArray := prog_9_method_14_code
def yX7_fixed : MethodName := ⟨RX7, "fixed", "(I)I"⟩
abbrev cX7_mayBegin : ByteArray := prog_9_method_15_code
def yX7_mayBegin : MethodName := ⟨RX7, "mayBegin", "()Z"⟩
abbrev cX7_readsItem : ByteArray := prog_9_method_16_code
def yX7_readsItem : MethodName := ⟨RX7, "readsItem", "(I)V"⟩
abbrev cX7_yard : ByteArray := prog_9_method_17_code
def yX7_yard : MethodName := ⟨RX7, "yard", "()I"⟩
abbrev cX7_settles : ByteArray := prog_9_method_18_code
def yX7_settles : MethodName := ⟨RX7, "settles", "()V"⟩
abbrev cX7_isPart : ByteArray := prog_9_method_19_code
def yX7_isPart : MethodName := ⟨RX7, "isPart", "(I)Z"⟩
abbrev cX7_isOrder : ByteArray := prog_9_method_20_code
def yX7_isOrder : MethodName := ⟨RX7, "isOrder", "(I)Z"⟩
abbrev cX7_givesAt : ByteArray := prog_9_method_21_code
def yX7_givesAt : MethodName := ⟨RX7, "givesAt", "(II)I"⟩
abbrev cX7_gives : ByteArray := prog_9_method_22_code
def yX7_gives : MethodName := ⟨RX7, "gives", "([II)I"⟩
abbrev cX7_isSent : ByteArray := prog_9_method_23_code
def yX7_isSent : MethodName := ⟨RX7, "isSent", "(I)Z"⟩
abbrev cX7_part : ByteArray := prog_9_method_24_code
def yX7_part : MethodName := ⟨RX7, "part", "(II)I"⟩
abbrev cX7_order : ByteArray := prog_9_method_25_code
def yX7_order : MethodName := ⟨RX7, "order", "(II)I"⟩
abbrev cX7_side : ByteArray := prog_9_method_26_code
def yX7_side : MethodName := ⟨RX7, "side", "(I)I"⟩
abbrev cX7_now : ByteArray := prog_9_method_27_code
def yX7_now : MethodName := ⟨RX7, "now", "(I)I"⟩
abbrev cX7_notes : ByteArray := prog_9_method_28_code
def yX7_notes : MethodName := ⟨RX7, "notes", "()V"⟩
abbrev cX7_fells : ByteArray := prog_9_method_29_code
def yX7_fells : MethodName := ⟨RX7, "fells", "([II)I"⟩
abbrev cX7_grows : ByteArray := prog_9_method_30_code
def yX7_grows : MethodName := ⟨RX7, "grows", "([I)V"⟩
abbrev cX7_cuts : ByteArray := prog_9_method_31_code
def yX7_cuts : MethodName := ⟨RX7, "cuts", "(I)I"⟩
abbrev cX7_year : ByteArray := prog_9_method_32_code
def yX7_year : MethodName := ⟨RX7, "year", "()I"⟩
abbrev cX7_days : ByteArray := prog_9_method_33_code
def yX7_days : MethodName := ⟨RX7, "days", "(I)I"⟩
abbrev cX7_binds : ByteArray := prog_9_method_34_code
def yX7_binds : MethodName := ⟨RX7, "binds", "(I)I"⟩
abbrev cX7_sends : ByteArray := prog_9_method_35_code
def yX7_sends : MethodName := ⟨RX7, "sends", "(I)I"⟩
abbrev cX7_shortens : ByteArray := prog_9_method_36_code
def yX7_shortens : MethodName := ⟨RX7, "shortens", "([III)V"⟩
abbrev cX7_sweep : ByteArray := prog_9_method_37_code
def yX7_sweep : MethodName := ⟨RX7, "sweep", "([I)V"⟩
abbrev cX7_sweeps : ByteArray := prog_9_method_38_code
def yX7_sweeps : MethodName := ⟨RX7, "sweeps", "()I"⟩
abbrev cX7_spins : ByteArray := prog_9_method_39_code
def yX7_spins : MethodName := ⟨RX7, "spins", "(I)I"⟩
abbrev cX7_undo : ByteArray := prog_9_method_40_code
def yX7_undo : MethodName := ⟨RX7, "undo", "()I"⟩
abbrev cX7_asNow : ByteArray := prog_9_method_41_code
def yX7_asNow : MethodName := ⟨RX7, "asNow", "()V"⟩
abbrev cX7_inYears : ByteArray := prog_9_method_42_code
def yX7_inYears : MethodName := ⟨RX7, "inYears", "(II)I"⟩
abbrev cX7_gcd : ByteArray := prog_9_method_43_code
def yX7_gcd : MethodName := ⟨RX7, "gcd", "(II)I"⟩
abbrev cX7_turn : ByteArray := prog_9_method_44_code
def yX7_turn : MethodName := ⟨RX7, "turn", "(II)I"⟩
abbrev cX7_twigsBy : ByteArray := prog_9_method_45_code
def yX7_twigsBy : MethodName := ⟨RX7, "twigsBy", "(I)I"⟩
abbrev cX7_plan : ByteArray := prog_9_method_46_code
def yX7_plan : MethodName := ⟨RX7, "plan", "(II)I"⟩
abbrev cX7_besomsBy : ByteArray := prog_9_method_47_code
def yX7_besomsBy : MethodName := ⟨RX7, "besomsBy", "(II)I"⟩
abbrev cX7_canBeKept : ByteArray := prog_9_method_48_code
def yX7_canBeKept : MethodName := ⟨RX7, "canBeKept", "(I)Z"⟩
abbrev cX7_coinsOf : ByteArray := prog_9_method_49_code
def yX7_coinsOf : MethodName := ⟨RX7, "coinsOf", "(I)I"⟩
abbrev cX7_kept : ByteArray := prog_9_method_50_code
def yX7_kept : MethodName := ⟨RX7, "kept", "(I)I"⟩
abbrev cX7_next : ByteArray := prog_9_method_51_code
def yX7_next : MethodName := ⟨RX7, "next", "(I)I"⟩
abbrev cX7_wanted : ByteArray := prog_9_method_52_code
def yX7_wanted : MethodName := ⟨RX7, "wanted", "()I"⟩
abbrev cX7_lacks : ByteArray := prog_9_method_53_code
def yX7_lacks : MethodName := ⟨RX7, "lacks", "()I"⟩
abbrev cX7_lack : ByteArray := prog_9_method_54_code
def yX7_lack : MethodName := ⟨RX7, "lack", "()I"⟩
abbrev cX7_cutFor : ByteArray := prog_9_method_55_code
def yX7_cutFor : MethodName := ⟨RX7, "cutFor", "()I"⟩
abbrev cX7_allBy : ByteArray := prog_9_method_56_code
def yX7_allBy : MethodName := ⟨RX7, "allBy", "()I"⟩
abbrev cX7_isWornOut : ByteArray := prog_9_method_57_code
def yX7_isWornOut : MethodName := ⟨RX7, "isWornOut", "([I)Z"⟩
abbrev cX7_goes : ByteArray := prog_9_method_58_code
def yX7_goes : MethodName := ⟨RX7, "goes", "(I)V"⟩
abbrev cX7_lastsBy : ByteArray := prog_9_method_59_code
def yX7_lastsBy : MethodName := ⟨RX7, "lastsBy", "(I)I"⟩
abbrev cX7_lasts : ByteArray := prog_9_method_60_code
def yX7_lasts : MethodName := ⟨RX7, "lasts", "(I)I"⟩
abbrev cX7_latest : ByteArray := prog_9_method_61_code
def yX7_latest : MethodName := ⟨RX7, "latest", "()I"⟩
abbrev cX7_saw : ByteArray := prog_9_method_62_code
def yX7_saw : MethodName := ⟨RX7, "saw", "(III)I"⟩
abbrev cX7_forget : ByteArray := prog_9_method_63_code
def yX7_forget : MethodName := ⟨RX7, "forget", "()I"⟩
abbrev cX7_which : ByteArray := prog_9_method_64_code
def yX7_which : MethodName := ⟨RX7, "which", "()I"⟩
abbrev cX7_power : ByteArray := prog_9_method_65_code
def yX7_power : MethodName := ⟨RX7, "power", "(II)I"⟩
abbrev cX7_odds : ByteArray := prog_9_method_66_code
def yX7_odds : MethodName := ⟨RX7, "odds", "(IIII)I"⟩
abbrev cX7_rate : ByteArray := prog_9_method_67_code
def yX7_rate : MethodName := ⟨RX7, "rate", "(II)I"⟩
abbrev cX7_keep : ByteArray := prog_9_method_68_code
def yX7_keep : MethodName := ⟨RX7, "keep", "(I)I"⟩
abbrev cX7_back : ByteArray := prog_9_method_69_code
def yX7_back : MethodName := ⟨RX7, "back", "(I)I"⟩
abbrev cX7_count : ByteArray := prog_9_method_70_code
def yX7_count : MethodName := ⟨RX7, "count", "(I)I"⟩
abbrev cX7_trace : ByteArray := prog_9_method_71_code
def yX7_trace : MethodName := ⟨RX7, "trace", "()J"⟩
def RJ11 : String := "java/lang/Character"
abbrev cJ11_isValidCodePoint_9a6ad : ByteArray := prog_10_method_11_code
def yJ11_isValidCodePoint_9a6ad : MethodName := ⟨RJ11, "isValidCodePoint", "(I)Z"⟩
abbrev cJ11_highSurrogate_5068e : ByteArray := prog_10_method_28_code
def yJ11_highSurrogate_5068e : MethodName := ⟨RJ11, "highSurrogate", "(I)C"⟩
abbrev cJ11_lowSurrogate_5068e : ByteArray := prog_10_method_29_code
def yJ11_lowSurrogate_5068e : MethodName := ⟨RJ11, "lowSurrogate", "(I)C"⟩
def RJ6 : String := "java/lang/Integer"
abbrev cJ6_bitCount_0f7a4 : ByteArray := prog_11_method_49_code
def yJ6_bitCount_0f7a4 : MethodName := ⟨RJ6, "bitCount", "(I)I"⟩
def RJ9 : String := "java/lang/Math"
abbrev cJ9_floorMod_7cf53 : ByteArray := prog_12_method_50_code
def yJ9_floorMod_7cf53 : MethodName := ⟨RJ9, "floorMod", "(II)I"⟩
abbrev cJ9_max_7cf53 : ByteArray := prog_12_method_65_code
def yJ9_max_7cf53 : MethodName := ⟨RJ9, "max", "(II)I"⟩
abbrev cJ9_min_7cf53 : ByteArray := prog_12_method_69_code
def yJ9_min_7cf53 : MethodName := ⟨RJ9, "min", "(II)I"⟩
def RJ0 : String := "java/lang/String"
abbrev cJ0_length_8abf5 : ByteArray := prog_13_method_54_code
def yJ0_length_8abf5 : MethodName := ⟨RJ0, "length", "()I"⟩
abbrev cJ0_indexOf_0f7a4 : ByteArray := prog_13_method_79_code
def yJ0_indexOf_0f7a4 : MethodName := ⟨RJ0, "indexOf", "(I)I"⟩
abbrev cJ0_indexOf_7cf53 : ByteArray := prog_13_method_80_code
def yJ0_indexOf_7cf53 : MethodName := ⟨RJ0, "indexOf", "(II)I"⟩
abbrev cJ0_coder_7d493 : ByteArray := prog_13_method_152_code
def yJ0_coder_7d493 : MethodName := ⟨RJ0, "coder", "()B"⟩
abbrev cJ0_isLatin1_aae02 : ByteArray := prog_13_method_154_code
def yJ0_isLatin1_aae02 : MethodName := ⟨RJ0, "isLatin1", "()Z"⟩
abbrev cJ0_checkBoundsBeginEnd_23922 : ByteArray := prog_13_method_158_code
def yJ0_checkBoundsBeginEnd_23922 : MethodName := ⟨RJ0, "checkBoundsBeginEnd", "(III)V"⟩
def RJ1 : String := "java/lang/StringLatin1"
abbrev cJ1_canEncode_9a6ad : ByteArray := prog_14_method_4_code
def yJ1_canEncode_9a6ad : MethodName := ⟨RJ1, "canEncode", "(I)Z"⟩
abbrev cJ1_indexOf_4cfef : ByteArray := prog_14_method_22_code
def yJ1_indexOf_4cfef : MethodName := ⟨RJ1, "indexOf", "([BIII)I"⟩
abbrev cJ1_indexOfChar_4cfef : ByteArray := prog_14_method_23_code
def yJ1_indexOfChar_4cfef : MethodName := ⟨RJ1, "indexOfChar", "([BIII)I"⟩
def RJ2 : String := "java/lang/StringUTF16"
abbrev cJ2_getChar_3b067 : ByteArray := prog_15_method_5_code
def yJ2_getChar_3b067 : MethodName := ⟨RJ2, "getChar", "([BI)C"⟩
abbrev cJ2_length_9d52b : ByteArray := prog_15_method_6_code
def yJ2_length_9d52b : MethodName := ⟨RJ2, "length", "([B)I"⟩
abbrev cJ2_indexOf_4cfef : ByteArray := prog_15_method_40_code
def yJ2_indexOf_4cfef : MethodName := ⟨RJ2, "indexOf", "([BIII)I"⟩
abbrev cJ2_indexOfChar_4cfef : ByteArray := prog_15_method_47_code
def yJ2_indexOfChar_4cfef : MethodName := ⟨RJ2, "indexOfChar", "([BIII)I"⟩
abbrev cJ2_indexOfCharUnsafe_4cfef : ByteArray := prog_15_method_48_code
def yJ2_indexOfCharUnsafe_4cfef : MethodName := ⟨RJ2, "indexOfCharUnsafe", "([BIII)I"⟩
abbrev cJ2_indexOfSupplementary_4cfef : ByteArray := prog_15_method_49_code
def yJ2_indexOfSupplementary_4cfef : MethodName := ⟨RJ2, "indexOfSupplementary", "([BIII)I"⟩
abbrev cJ2_checkBoundsBeginEnd_d044e : ByteArray := prog_15_method_93_code
def yJ2_checkBoundsBeginEnd_d044e : MethodName := ⟨RJ2, "checkBoundsBeginEnd", "(II[B)V"⟩
def RJ3 : String := "jdk/internal/util/Preconditions"
abbrev cJ3_checkFromToIndex_8c36e : ByteArray := prog_16_method_12_code
def yJ3_checkFromToIndex_8c36e : MethodName := ⟨RJ3, "checkFromToIndex", "(IIILjava/util/function/BiFunction;)I"⟩
def RL : String := "BesomYardLaw"
abbrev cL_law : ByteArray := code
def yL_law : MethodName := ⟨RL, "law", "([I)Z"⟩
abbrev vwCl : List vw_C := [(RX0, TX0, 2), (RX1, TX1, 8), (RX2, TX2, 4), (RX3, TX3, 1), (RX4, TX4, 6), (RX5, TX5, 2), (RX6, TX6, 16), (RX7, TX7, 28)]
end
section
theorem dX0_init_0 : decode cX0_init 0 = .ok (.aload_n 0, 1) := by decide +kernel
theorem dX0_init_1 : decode cX0_init 1 = .ok (.invokespecial 1, 3) := by decide +kernel
theorem dX0_init_4 : decode cX0_init 4 = .ok (.aload_n 0, 1) := by decide +kernel
theorem dX0_init_5 : decode cX0_init 5 = .ok (.bipush 8, 2) := by decide +kernel
theorem dX0_init_7 : decode cX0_init 7 = .ok (.newarray .int, 2) := by decide +kernel
theorem dX0_init_9 : decode cX0_init 9 = .ok (.putfield 9, 3) := by decide +kernel
theorem dX0_init_12 : decode cX0_init 12 = .ok (.return_, 1) := by decide +kernel
theorem dX0_lengthOf_0 : decode cX0_lengthOf 0 = .ok (.iload_n 1, 1) := by decide +kernel
theorem dX0_lengthOf_1 : decode cX0_lengthOf 1 = .ok (.ifCond .lt 9, 3) := by decide +kernel
theorem dX0_lengthOf_4 : decode cX0_lengthOf 4 = .ok (.iload_n 1, 1) := by decide +kernel
theorem dX0_lengthOf_5 : decode cX0_lengthOf 5 = .ok (.bipush 8, 2) := by decide +kernel
theorem dX0_lengthOf_7 : decode cX0_lengthOf 7 = .ok (.if_icmp .lt 7, 3) := by decide +kernel
theorem dX0_lengthOf_10 : decode cX0_lengthOf 10 = .ok (.iconst 0, 1) := by decide +kernel
theorem dX0_lengthOf_11 : decode cX0_lengthOf 11 = .ok (.goto 9, 3) := by decide +kernel
theorem dX0_lengthOf_14 : decode cX0_lengthOf 14 = .ok (.aload_n 0, 1) := by decide +kernel
theorem dX0_lengthOf_15 : decode cX0_lengthOf 15 = .ok (.getfield 9, 3) := by decide +kernel
theorem dX0_lengthOf_18 : decode cX0_lengthOf 18 = .ok (.iload_n 1, 1) := by decide +kernel
theorem dX0_lengthOf_19 : decode cX0_lengthOf 19 = .ok (.iaload, 1) := by decide +kernel
theorem dX0_lengthOf_20 : decode cX0_lengthOf 20 = .ok (.ireturn, 1) := by decide +kernel
theorem dX0_renew_0 : decode cX0_renew 0 = .ok (.iconst 0, 1) := by decide +kernel
theorem dX0_renew_1 : decode cX0_renew 1 = .ok (.istore_n 2, 1) := by decide +kernel
theorem dX0_renew_2 : decode cX0_renew 2 = .ok (.iload_n 2, 1) := by decide +kernel
theorem dX0_renew_3 : decode cX0_renew 3 = .ok (.bipush 8, 2) := by decide +kernel
theorem dX0_renew_5 : decode cX0_renew 5 = .ok (.if_icmp .ge 16, 3) := by decide +kernel
theorem dX0_renew_8 : decode cX0_renew 8 = .ok (.aload_n 0, 1) := by decide +kernel
theorem dX0_renew_9 : decode cX0_renew 9 = .ok (.getfield 9, 3) := by decide +kernel
theorem dX0_renew_12 : decode cX0_renew 12 = .ok (.iload_n 2, 1) := by decide +kernel
theorem dX0_renew_13 : decode cX0_renew 13 = .ok (.iload_n 1, 1) := by decide +kernel
theorem dX0_renew_14 : decode cX0_renew 14 = .ok (.iastore, 1) := by decide +kernel
theorem dX0_renew_15 : decode cX0_renew 15 = .ok (.iinc 2 1, 3) := by decide +kernel
theorem dX0_renew_18 : decode cX0_renew 18 = .ok (.goto (-16), 3) := by decide +kernel
theorem dX0_renew_21 : decode cX0_renew 21 = .ok (.aload_n 0, 1) := by decide +kernel
theorem dX0_renew_22 : decode cX0_renew 22 = .ok (.iconst 0, 1) := by decide +kernel
theorem dX0_renew_23 : decode cX0_renew 23 = .ok (.putfield 13, 3) := by decide +kernel
theorem dX0_renew_26 : decode cX0_renew 26 = .ok (.return_, 1) := by decide +kernel
theorem dX0_setAs_0 : decode cX0_setAs 0 = .ok (.iconst 0, 1) := by decide +kernel
theorem dX0_setAs_1 : decode cX0_setAs 1 = .ok (.istore_n 2, 1) := by decide +kernel
theorem dX0_setAs_2 : decode cX0_setAs 2 = .ok (.iload_n 2, 1) := by decide +kernel
theorem dX0_setAs_3 : decode cX0_setAs 3 = .ok (.bipush 8, 2) := by decide +kernel
theorem dX0_setAs_5 : decode cX0_setAs 5 = .ok (.if_icmp .ge 20, 3) := by decide +kernel
theorem dX0_setAs_8 : decode cX0_setAs 8 = .ok (.aload_n 0, 1) := by decide +kernel
theorem dX0_setAs_9 : decode cX0_setAs 9 = .ok (.getfield 9, 3) := by decide +kernel
theorem dX0_setAs_12 : decode cX0_setAs 12 = .ok (.iload_n 2, 1) := by decide +kernel
theorem dX0_setAs_13 : decode cX0_setAs 13 = .ok (.aload_n 1, 1) := by decide +kernel
theorem dX0_setAs_14 : decode cX0_setAs 14 = .ok (.iload_n 2, 1) := by decide +kernel
theorem dX0_setAs_15 : decode cX0_setAs 15 = .ok (.invokevirtual 17, 3) := by decide +kernel
theorem dX0_setAs_18 : decode cX0_setAs 18 = .ok (.iastore, 1) := by decide +kernel
theorem dX0_setAs_19 : decode cX0_setAs 19 = .ok (.iinc 2 1, 3) := by decide +kernel
theorem dX0_setAs_22 : decode cX0_setAs 22 = .ok (.goto (-20), 3) := by decide +kernel
theorem dX0_setAs_25 : decode cX0_setAs 25 = .ok (.aload_n 0, 1) := by decide +kernel
theorem dX0_setAs_26 : decode cX0_setAs 26 = .ok (.aload_n 1, 1) := by decide +kernel
theorem dX0_setAs_27 : decode cX0_setAs 27 = .ok (.getfield 13, 3) := by decide +kernel
theorem dX0_setAs_30 : decode cX0_setAs 30 = .ok (.putfield 13, 3) := by decide +kernel
theorem dX0_setAs_33 : decode cX0_setAs 33 = .ok (.return_, 1) := by decide +kernel
theorem dX0_sweep_0 : decode cX0_sweep 0 = .ok (.aload_n 0, 1) := by decide +kernel
theorem dX0_sweep_1 : decode cX0_sweep 1 = .ok (.aload_n 0, 1) := by decide +kernel
theorem dX0_sweep_2 : decode cX0_sweep 2 = .ok (.getfield 13, 3) := by decide +kernel
theorem dX0_sweep_5 : decode cX0_sweep 5 = .ok (.iconst 2, 1) := by decide +kernel
theorem dX0_sweep_6 : decode cX0_sweep 6 = .ok (.invokevirtual 21, 3) := by decide +kernel
theorem dX0_sweep_9 : decode cX0_sweep 9 = .ok (.aload_n 0, 1) := by decide +kernel
theorem dX0_sweep_10 : decode cX0_sweep 10 = .ok (.aload_n 0, 1) := by decide +kernel
theorem dX0_sweep_11 : decode cX0_sweep 11 = .ok (.getfield 13, 3) := by decide +kernel
theorem dX0_sweep_14 : decode cX0_sweep 14 = .ok (.iconst 1, 1) := by decide +kernel
theorem dX0_sweep_15 : decode cX0_sweep 15 = .ok (.iadd, 1) := by decide +kernel
theorem dX0_sweep_16 : decode cX0_sweep 16 = .ok (.iconst 1, 1) := by decide +kernel
theorem dX0_sweep_17 : decode cX0_sweep 17 = .ok (.invokevirtual 21, 3) := by decide +kernel
theorem dX0_sweep_20 : decode cX0_sweep 20 = .ok (.aload_n 0, 1) := by decide +kernel
theorem dX0_sweep_21 : decode cX0_sweep 21 = .ok (.aload_n 0, 1) := by decide +kernel
theorem dX0_sweep_22 : decode cX0_sweep 22 = .ok (.getfield 13, 3) := by decide +kernel
theorem dX0_sweep_25 : decode cX0_sweep 25 = .ok (.iconst 1, 1) := by decide +kernel
theorem dX0_sweep_26 : decode cX0_sweep 26 = .ok (.isub, 1) := by decide +kernel
theorem dX0_sweep_27 : decode cX0_sweep 27 = .ok (.iconst 1, 1) := by decide +kernel
theorem dX0_sweep_28 : decode cX0_sweep 28 = .ok (.invokevirtual 21, 3) := by decide +kernel
theorem dX0_sweep_31 : decode cX0_sweep 31 = .ok (.return_, 1) := by decide +kernel
theorem dX0_turnBy_0 : decode cX0_turnBy 0 = .ok (.aload_n 0, 1) := by decide +kernel
theorem dX0_turnBy_1 : decode cX0_turnBy 1 = .ok (.aload_n 0, 1) := by decide +kernel
theorem dX0_turnBy_2 : decode cX0_turnBy 2 = .ok (.getfield 13, 3) := by decide +kernel
theorem dX0_turnBy_5 : decode cX0_turnBy 5 = .ok (.iload_n 1, 1) := by decide +kernel
theorem dX0_turnBy_6 : decode cX0_turnBy 6 = .ok (.iadd, 1) := by decide +kernel
theorem dX0_turnBy_7 : decode cX0_turnBy 7 = .ok (.bipush 8, 2) := by decide +kernel
theorem dX0_turnBy_9 : decode cX0_turnBy 9 = .ok (.invokestatic 25, 3) := by decide +kernel
theorem dX0_turnBy_12 : decode cX0_turnBy 12 = .ok (.putfield 13, 3) := by decide +kernel
theorem dX0_turnBy_15 : decode cX0_turnBy 15 = .ok (.return_, 1) := by decide +kernel
theorem dX0_isWornOut_0 : decode cX0_isWornOut 0 = .ok (.iconst 0, 1) := by decide +kernel
theorem dX0_isWornOut_1 : decode cX0_isWornOut 1 = .ok (.istore_n 1, 1) := by decide +kernel
theorem dX0_isWornOut_2 : decode cX0_isWornOut 2 = .ok (.iload_n 1, 1) := by decide +kernel
theorem dX0_isWornOut_3 : decode cX0_isWornOut 3 = .ok (.bipush 8, 2) := by decide +kernel
theorem dX0_isWornOut_5 : decode cX0_isWornOut 5 = .ok (.if_icmp .ge 20, 3) := by decide +kernel
theorem dX0_isWornOut_8 : decode cX0_isWornOut 8 = .ok (.aload_n 0, 1) := by decide +kernel
theorem dX0_isWornOut_9 : decode cX0_isWornOut 9 = .ok (.getfield 9, 3) := by decide +kernel
theorem dX0_isWornOut_12 : decode cX0_isWornOut 12 = .ok (.iload_n 1, 1) := by decide +kernel
theorem dX0_isWornOut_13 : decode cX0_isWornOut 13 = .ok (.iaload, 1) := by decide +kernel
theorem dX0_isWornOut_14 : decode cX0_isWornOut 14 = .ok (.ifCond .ne 5, 3) := by decide +kernel
theorem dX0_isWornOut_17 : decode cX0_isWornOut 17 = .ok (.iconst 1, 1) := by decide +kernel
theorem dX0_isWornOut_18 : decode cX0_isWornOut 18 = .ok (.ireturn, 1) := by decide +kernel
theorem dX0_isWornOut_19 : decode cX0_isWornOut 19 = .ok (.iinc 1 1, 3) := by decide +kernel
theorem dX0_isWornOut_22 : decode cX0_isWornOut 22 = .ok (.goto (-20), 3) := by decide +kernel
theorem dX0_isWornOut_25 : decode cX0_isWornOut 25 = .ok (.iconst 0, 1) := by decide +kernel
theorem dX0_isWornOut_26 : decode cX0_isWornOut 26 = .ok (.ireturn, 1) := by decide +kernel
theorem dX0_shorten_0 : decode cX0_shorten 0 = .ok (.iload_n 1, 1) := by decide +kernel
theorem dX0_shorten_1 : decode cX0_shorten 1 = .ok (.bipush 8, 2) := by decide +kernel
theorem dX0_shorten_3 : decode cX0_shorten 3 = .ok (.invokestatic 25, 3) := by decide +kernel
theorem dX0_shorten_6 : decode cX0_shorten 6 = .ok (.istore_n 3, 1) := by decide +kernel
theorem dX0_shorten_7 : decode cX0_shorten 7 = .ok (.aload_n 0, 1) := by decide +kernel
theorem dX0_shorten_8 : decode cX0_shorten 8 = .ok (.getfield 9, 3) := by decide +kernel
theorem dX0_shorten_11 : decode cX0_shorten 11 = .ok (.iload_n 3, 1) := by decide +kernel
theorem dX0_shorten_12 : decode cX0_shorten 12 = .ok (.iconst 0, 1) := by decide +kernel
theorem dX0_shorten_13 : decode cX0_shorten 13 = .ok (.aload_n 0, 1) := by decide +kernel
theorem dX0_shorten_14 : decode cX0_shorten 14 = .ok (.getfield 9, 3) := by decide +kernel
theorem dX0_shorten_17 : decode cX0_shorten 17 = .ok (.iload_n 3, 1) := by decide +kernel
theorem dX0_shorten_18 : decode cX0_shorten 18 = .ok (.iaload, 1) := by decide +kernel
theorem dX0_shorten_19 : decode cX0_shorten 19 = .ok (.iload_n 2, 1) := by decide +kernel
theorem dX0_shorten_20 : decode cX0_shorten 20 = .ok (.isub, 1) := by decide +kernel
theorem dX0_shorten_21 : decode cX0_shorten 21 = .ok (.invokestatic 31, 3) := by decide +kernel
theorem dX0_shorten_24 : decode cX0_shorten 24 = .ok (.iastore, 1) := by decide +kernel
theorem dX0_shorten_25 : decode cX0_shorten 25 = .ok (.return_, 1) := by decide +kernel
theorem dX1_init_0 : decode cX1_init 0 = .ok (.aload_n 0, 1) := by decide +kernel
theorem dX1_init_1 : decode cX1_init 1 = .ok (.invokespecial 1, 3) := by decide +kernel
theorem dX1_init_4 : decode cX1_init 4 = .ok (.aload_n 0, 1) := by decide +kernel
theorem dX1_init_5 : decode cX1_init 5 = .ok (.bipush 6, 2) := by decide +kernel
theorem dX1_init_7 : decode cX1_init 7 = .ok (.newarray .int, 2) := by decide +kernel
theorem dX1_init_9 : decode cX1_init 9 = .ok (.putfield 9, 3) := by decide +kernel
theorem dX1_init_12 : decode cX1_init 12 = .ok (.aload_n 0, 1) := by decide +kernel
theorem dX1_init_13 : decode cX1_init 13 = .ok (.new 15, 3) := by decide +kernel
theorem dX1_init_16 : decode cX1_init 16 = .ok (.dup, 1) := by decide +kernel
theorem dX1_init_17 : decode cX1_init 17 = .ok (.invokespecial 17, 3) := by decide +kernel
theorem dX1_init_20 : decode cX1_init 20 = .ok (.putfield 18, 3) := by decide +kernel
theorem dX1_init_23 : decode cX1_init 23 = .ok (.return_, 1) := by decide +kernel
theorem dX1_age_0 : decode cX1_age 0 = .ok (.iload_n 1, 1) := by decide +kernel
theorem dX1_age_1 : decode cX1_age 1 = .ok (.ifCond .lt 12, 3) := by decide +kernel
theorem dX1_age_4 : decode cX1_age 4 = .ok (.iload_n 1, 1) := by decide +kernel
theorem dX1_age_5 : decode cX1_age 5 = .ok (.aload_n 0, 1) := by decide +kernel
theorem dX1_age_6 : decode cX1_age 6 = .ok (.getfield 9, 3) := by decide +kernel
theorem dX1_age_9 : decode cX1_age 9 = .ok (.arraylength, 1) := by decide +kernel
theorem dX1_age_10 : decode cX1_age 10 = .ok (.if_icmp .lt 7, 3) := by decide +kernel
theorem dX1_age_13 : decode cX1_age 13 = .ok (.iconst 0, 1) := by decide +kernel
theorem dX1_age_14 : decode cX1_age 14 = .ok (.goto 9, 3) := by decide +kernel
theorem dX1_age_17 : decode cX1_age 17 = .ok (.aload_n 0, 1) := by decide +kernel
theorem dX1_age_18 : decode cX1_age 18 = .ok (.getfield 9, 3) := by decide +kernel
theorem dX1_age_21 : decode cX1_age 21 = .ok (.iload_n 1, 1) := by decide +kernel
theorem dX1_age_22 : decode cX1_age 22 = .ok (.iaload, 1) := by decide +kernel
theorem dX1_age_23 : decode cX1_age 23 = .ok (.ireturn, 1) := by decide +kernel
theorem dX1_wasSent_0 : decode cX1_wasSent 0 = .ok (.aload_n 0, 1) := by decide +kernel
theorem dX1_wasSent_1 : decode cX1_wasSent 1 = .ok (.getfield 22, 3) := by decide +kernel
theorem dX1_wasSent_4 : decode cX1_wasSent 4 = .ok (.iload_n 1, 1) := by decide +kernel
theorem dX1_wasSent_5 : decode cX1_wasSent 5 = .ok (.ishr, 1) := by decide +kernel
theorem dX1_wasSent_6 : decode cX1_wasSent 6 = .ok (.iconst 1, 1) := by decide +kernel
theorem dX1_wasSent_7 : decode cX1_wasSent 7 = .ok (.iand, 1) := by decide +kernel
theorem dX1_wasSent_8 : decode cX1_wasSent 8 = .ok (.iconst 1, 1) := by decide +kernel
theorem dX1_wasSent_9 : decode cX1_wasSent 9 = .ok (.if_icmp .ne 7, 3) := by decide +kernel
theorem dX1_wasSent_12 : decode cX1_wasSent 12 = .ok (.iconst 1, 1) := by decide +kernel
theorem dX1_wasSent_13 : decode cX1_wasSent 13 = .ok (.goto 4, 3) := by decide +kernel
theorem dX1_wasSent_16 : decode cX1_wasSent 16 = .ok (.iconst 0, 1) := by decide +kernel
theorem dX1_wasSent_17 : decode cX1_wasSent 17 = .ok (.ireturn, 1) := by decide +kernel
theorem dX1_beCut_0 : decode cX1_beCut 0 = .ok (.iload_n 1, 1) := by decide +kernel
theorem dX1_beCut_1 : decode cX1_beCut 1 = .ok (.ifCond .lt 19, 3) := by decide +kernel
theorem dX1_beCut_4 : decode cX1_beCut 4 = .ok (.iload_n 1, 1) := by decide +kernel
theorem dX1_beCut_5 : decode cX1_beCut 5 = .ok (.aload_n 0, 1) := by decide +kernel
theorem dX1_beCut_6 : decode cX1_beCut 6 = .ok (.getfield 9, 3) := by decide +kernel
theorem dX1_beCut_9 : decode cX1_beCut 9 = .ok (.arraylength, 1) := by decide +kernel
theorem dX1_beCut_10 : decode cX1_beCut 10 = .ok (.if_icmp .ge 10, 3) := by decide +kernel
theorem dX1_beCut_13 : decode cX1_beCut 13 = .ok (.aload_n 0, 1) := by decide +kernel
theorem dX1_beCut_14 : decode cX1_beCut 14 = .ok (.getfield 9, 3) := by decide +kernel
theorem dX1_beCut_17 : decode cX1_beCut 17 = .ok (.iload_n 1, 1) := by decide +kernel
theorem dX1_beCut_18 : decode cX1_beCut 18 = .ok (.iconst 0, 1) := by decide +kernel
theorem dX1_beCut_19 : decode cX1_beCut 19 = .ok (.iastore, 1) := by decide +kernel
theorem dX1_beCut_20 : decode cX1_beCut 20 = .ok (.return_, 1) := by decide +kernel
theorem dX1_growOlder_0 : decode cX1_growOlder 0 = .ok (.iconst 0, 1) := by decide +kernel
theorem dX1_growOlder_1 : decode cX1_growOlder 1 = .ok (.istore_n 1, 1) := by decide +kernel
theorem dX1_growOlder_2 : decode cX1_growOlder 2 = .ok (.iload_n 1, 1) := by decide +kernel
theorem dX1_growOlder_3 : decode cX1_growOlder 3 = .ok (.aload_n 0, 1) := by decide +kernel
theorem dX1_growOlder_4 : decode cX1_growOlder 4 = .ok (.getfield 9, 3) := by decide +kernel
theorem dX1_growOlder_7 : decode cX1_growOlder 7 = .ok (.arraylength, 1) := by decide +kernel
theorem dX1_growOlder_8 : decode cX1_growOlder 8 = .ok (.if_icmp .ge 28, 3) := by decide +kernel
theorem dX1_growOlder_11 : decode cX1_growOlder 11 = .ok (.aload_n 0, 1) := by decide +kernel
theorem dX1_growOlder_12 : decode cX1_growOlder 12 = .ok (.getfield 9, 3) := by decide +kernel
theorem dX1_growOlder_15 : decode cX1_growOlder 15 = .ok (.iload_n 1, 1) := by decide +kernel
theorem dX1_growOlder_16 : decode cX1_growOlder 16 = .ok (.bipush 40, 2) := by decide +kernel
theorem dX1_growOlder_18 : decode cX1_growOlder 18 = .ok (.aload_n 0, 1) := by decide +kernel
theorem dX1_growOlder_19 : decode cX1_growOlder 19 = .ok (.getfield 9, 3) := by decide +kernel
theorem dX1_growOlder_22 : decode cX1_growOlder 22 = .ok (.iload_n 1, 1) := by decide +kernel
theorem dX1_growOlder_23 : decode cX1_growOlder 23 = .ok (.iaload, 1) := by decide +kernel
theorem dX1_growOlder_24 : decode cX1_growOlder 24 = .ok (.iconst 1, 1) := by decide +kernel
theorem dX1_growOlder_25 : decode cX1_growOlder 25 = .ok (.iadd, 1) := by decide +kernel
theorem dX1_growOlder_26 : decode cX1_growOlder 26 = .ok (.invokestatic 26, 3) := by decide +kernel
theorem dX1_growOlder_29 : decode cX1_growOlder 29 = .ok (.iastore, 1) := by decide +kernel
theorem dX1_growOlder_30 : decode cX1_growOlder 30 = .ok (.iinc 1 1, 3) := by decide +kernel
theorem dX1_growOlder_33 : decode cX1_growOlder 33 = .ok (.goto (-31), 3) := by decide +kernel
theorem dX1_growOlder_36 : decode cX1_growOlder 36 = .ok (.return_, 1) := by decide +kernel
theorem dX1_begin_0 : decode cX1_begin 0 = .ok (.iconst 0, 1) := by decide +kernel
theorem dX1_begin_1 : decode cX1_begin 1 = .ok (.istore_n 2, 1) := by decide +kernel
theorem dX1_begin_2 : decode cX1_begin 2 = .ok (.iload_n 2, 1) := by decide +kernel
theorem dX1_begin_3 : decode cX1_begin 3 = .ok (.aload_n 0, 1) := by decide +kernel
theorem dX1_begin_4 : decode cX1_begin 4 = .ok (.getfield 9, 3) := by decide +kernel
theorem dX1_begin_7 : decode cX1_begin 7 = .ok (.arraylength, 1) := by decide +kernel
theorem dX1_begin_8 : decode cX1_begin 8 = .ok (.if_icmp .ge 21, 3) := by decide +kernel
theorem dX1_begin_11 : decode cX1_begin 11 = .ok (.aload_n 0, 1) := by decide +kernel
theorem dX1_begin_12 : decode cX1_begin 12 = .ok (.getfield 9, 3) := by decide +kernel
theorem dX1_begin_15 : decode cX1_begin 15 = .ok (.iload_n 2, 1) := by decide +kernel
theorem dX1_begin_16 : decode cX1_begin 16 = .ok (.aload_n 1, 1) := by decide +kernel
theorem dX1_begin_17 : decode cX1_begin 17 = .ok (.iconst 1, 1) := by decide +kernel
theorem dX1_begin_18 : decode cX1_begin 18 = .ok (.iload_n 2, 1) := by decide +kernel
theorem dX1_begin_19 : decode cX1_begin 19 = .ok (.invokevirtual 32, 3) := by decide +kernel
theorem dX1_begin_22 : decode cX1_begin 22 = .ok (.iastore, 1) := by decide +kernel
theorem dX1_begin_23 : decode cX1_begin 23 = .ok (.iinc 2 1, 3) := by decide +kernel
theorem dX1_begin_26 : decode cX1_begin 26 = .ok (.goto (-24), 3) := by decide +kernel
theorem dX1_begin_29 : decode cX1_begin 29 = .ok (.aload_n 0, 1) := by decide +kernel
theorem dX1_begin_30 : decode cX1_begin 30 = .ok (.getfield 18, 3) := by decide +kernel
theorem dX1_begin_33 : decode cX1_begin 33 = .ok (.aload_n 1, 1) := by decide +kernel
theorem dX1_begin_34 : decode cX1_begin 34 = .ok (.invokevirtual 35, 3) := by decide +kernel
theorem dX1_begin_37 : decode cX1_begin 37 = .ok (.invokevirtual 39, 3) := by decide +kernel
theorem dX1_begin_40 : decode cX1_begin 40 = .ok (.aload_n 0, 1) := by decide +kernel
theorem dX1_begin_41 : decode cX1_begin 41 = .ok (.iconst 0, 1) := by decide +kernel
theorem dX1_begin_42 : decode cX1_begin 42 = .ok (.putfield 43, 3) := by decide +kernel
theorem dX1_begin_45 : decode cX1_begin 45 = .ok (.aload_n 0, 1) := by decide +kernel
theorem dX1_begin_46 : decode cX1_begin 46 = .ok (.iconst 0, 1) := by decide +kernel
theorem dX1_begin_47 : decode cX1_begin 47 = .ok (.putfield 46, 3) := by decide +kernel
theorem dX1_begin_50 : decode cX1_begin 50 = .ok (.aload_n 0, 1) := by decide +kernel
theorem dX1_begin_51 : decode cX1_begin 51 = .ok (.iconst 0, 1) := by decide +kernel
theorem dX1_begin_52 : decode cX1_begin 52 = .ok (.putfield 49, 3) := by decide +kernel
theorem dX1_begin_55 : decode cX1_begin 55 = .ok (.aload_n 0, 1) := by decide +kernel
theorem dX1_begin_56 : decode cX1_begin 56 = .ok (.iconst 0, 1) := by decide +kernel
theorem dX1_begin_57 : decode cX1_begin 57 = .ok (.putfield 52, 3) := by decide +kernel
theorem dX1_begin_60 : decode cX1_begin 60 = .ok (.aload_n 0, 1) := by decide +kernel
theorem dX1_begin_61 : decode cX1_begin 61 = .ok (.iconst 0, 1) := by decide +kernel
theorem dX1_begin_62 : decode cX1_begin 62 = .ok (.putfield 22, 3) := by decide +kernel
theorem dX1_begin_65 : decode cX1_begin 65 = .ok (.aload_n 0, 1) := by decide +kernel
theorem dX1_begin_66 : decode cX1_begin 66 = .ok (.iconst 0, 1) := by decide +kernel
theorem dX1_begin_67 : decode cX1_begin 67 = .ok (.putfield 55, 3) := by decide +kernel
theorem dX1_begin_70 : decode cX1_begin 70 = .ok (.return_, 1) := by decide +kernel
theorem dX1_setAs_0 : decode cX1_setAs 0 = .ok (.iconst 0, 1) := by decide +kernel
theorem dX1_setAs_1 : decode cX1_setAs 1 = .ok (.istore_n 2, 1) := by decide +kernel
theorem dX1_setAs_2 : decode cX1_setAs 2 = .ok (.iload_n 2, 1) := by decide +kernel
theorem dX1_setAs_3 : decode cX1_setAs 3 = .ok (.aload_n 0, 1) := by decide +kernel
theorem dX1_setAs_4 : decode cX1_setAs 4 = .ok (.getfield 9, 3) := by decide +kernel
theorem dX1_setAs_7 : decode cX1_setAs 7 = .ok (.arraylength, 1) := by decide +kernel
theorem dX1_setAs_8 : decode cX1_setAs 8 = .ok (.if_icmp .ge 20, 3) := by decide +kernel
theorem dX1_setAs_11 : decode cX1_setAs 11 = .ok (.aload_n 0, 1) := by decide +kernel
theorem dX1_setAs_12 : decode cX1_setAs 12 = .ok (.getfield 9, 3) := by decide +kernel
theorem dX1_setAs_15 : decode cX1_setAs 15 = .ok (.iload_n 2, 1) := by decide +kernel
theorem dX1_setAs_16 : decode cX1_setAs 16 = .ok (.aload_n 1, 1) := by decide +kernel
theorem dX1_setAs_17 : decode cX1_setAs 17 = .ok (.iload_n 2, 1) := by decide +kernel
theorem dX1_setAs_18 : decode cX1_setAs 18 = .ok (.invokevirtual 58, 3) := by decide +kernel
theorem dX1_setAs_21 : decode cX1_setAs 21 = .ok (.iastore, 1) := by decide +kernel
theorem dX1_setAs_22 : decode cX1_setAs 22 = .ok (.iinc 2 1, 3) := by decide +kernel
theorem dX1_setAs_25 : decode cX1_setAs 25 = .ok (.goto (-23), 3) := by decide +kernel
theorem dX1_setAs_28 : decode cX1_setAs 28 = .ok (.aload_n 0, 1) := by decide +kernel
theorem dX1_setAs_29 : decode cX1_setAs 29 = .ok (.getfield 18, 3) := by decide +kernel
theorem dX1_setAs_32 : decode cX1_setAs 32 = .ok (.aload_n 1, 1) := by decide +kernel
theorem dX1_setAs_33 : decode cX1_setAs 33 = .ok (.getfield 18, 3) := by decide +kernel
theorem dX1_setAs_36 : decode cX1_setAs 36 = .ok (.invokevirtual 62, 3) := by decide +kernel
theorem dX1_setAs_39 : decode cX1_setAs 39 = .ok (.aload_n 0, 1) := by decide +kernel
theorem dX1_setAs_40 : decode cX1_setAs 40 = .ok (.aload_n 1, 1) := by decide +kernel
theorem dX1_setAs_41 : decode cX1_setAs 41 = .ok (.getfield 43, 3) := by decide +kernel
theorem dX1_setAs_44 : decode cX1_setAs 44 = .ok (.putfield 43, 3) := by decide +kernel
theorem dX1_setAs_47 : decode cX1_setAs 47 = .ok (.aload_n 0, 1) := by decide +kernel
theorem dX1_setAs_48 : decode cX1_setAs 48 = .ok (.aload_n 1, 1) := by decide +kernel
theorem dX1_setAs_49 : decode cX1_setAs 49 = .ok (.getfield 46, 3) := by decide +kernel
theorem dX1_setAs_52 : decode cX1_setAs 52 = .ok (.putfield 46, 3) := by decide +kernel
theorem dX1_setAs_55 : decode cX1_setAs 55 = .ok (.aload_n 0, 1) := by decide +kernel
theorem dX1_setAs_56 : decode cX1_setAs 56 = .ok (.aload_n 1, 1) := by decide +kernel
theorem dX1_setAs_57 : decode cX1_setAs 57 = .ok (.getfield 49, 3) := by decide +kernel
theorem dX1_setAs_60 : decode cX1_setAs 60 = .ok (.putfield 49, 3) := by decide +kernel
theorem dX1_setAs_63 : decode cX1_setAs 63 = .ok (.aload_n 0, 1) := by decide +kernel
theorem dX1_setAs_64 : decode cX1_setAs 64 = .ok (.aload_n 1, 1) := by decide +kernel
theorem dX1_setAs_65 : decode cX1_setAs 65 = .ok (.getfield 52, 3) := by decide +kernel
theorem dX1_setAs_68 : decode cX1_setAs 68 = .ok (.putfield 52, 3) := by decide +kernel
theorem dX1_setAs_71 : decode cX1_setAs 71 = .ok (.aload_n 0, 1) := by decide +kernel
theorem dX1_setAs_72 : decode cX1_setAs 72 = .ok (.aload_n 1, 1) := by decide +kernel
theorem dX1_setAs_73 : decode cX1_setAs 73 = .ok (.getfield 22, 3) := by decide +kernel
theorem dX1_setAs_76 : decode cX1_setAs 76 = .ok (.putfield 22, 3) := by decide +kernel
theorem dX1_setAs_79 : decode cX1_setAs 79 = .ok (.aload_n 0, 1) := by decide +kernel
theorem dX1_setAs_80 : decode cX1_setAs 80 = .ok (.aload_n 1, 1) := by decide +kernel
theorem dX1_setAs_81 : decode cX1_setAs 81 = .ok (.getfield 55, 3) := by decide +kernel
theorem dX1_setAs_84 : decode cX1_setAs 84 = .ok (.putfield 55, 3) := by decide +kernel
theorem dX1_setAs_87 : decode cX1_setAs 87 = .ok (.return_, 1) := by decide +kernel
theorem dX2_init_0 : decode cX2_init 0 = .ok (.aload_n 0, 1) := by decide +kernel
theorem dX2_init_1 : decode cX2_init 1 = .ok (.invokespecial 3, 3) := by decide +kernel
theorem dX2_init_4 : decode cX2_init 4 = .ok (.aload_n 0, 1) := by decide +kernel
theorem dX2_init_5 : decode cX2_init 5 = .ok (.iconst 4, 1) := by decide +kernel
theorem dX2_init_6 : decode cX2_init 6 = .ok (.newarray .int, 2) := by decide +kernel
theorem dX2_init_8 : decode cX2_init 8 = .ok (.putfield 11, 3) := by decide +kernel
theorem dX2_init_11 : decode cX2_init 11 = .ok (.aload_n 0, 1) := by decide +kernel
theorem dX2_init_12 : decode cX2_init 12 = .ok (.iconst 4, 1) := by decide +kernel
theorem dX2_init_13 : decode cX2_init 13 = .ok (.newarray .int, 2) := by decide +kernel
theorem dX2_init_15 : decode cX2_init 15 = .ok (.putfield 15, 3) := by decide +kernel
theorem dX2_init_18 : decode cX2_init 18 = .ok (.aload_n 0, 1) := by decide +kernel
theorem dX2_init_19 : decode cX2_init 19 = .ok (.iconst 5, 1) := by decide +kernel
theorem dX2_init_20 : decode cX2_init 20 = .ok (.newarray .int, 2) := by decide +kernel
theorem dX2_init_22 : decode cX2_init 22 = .ok (.putfield 18, 3) := by decide +kernel
theorem dX2_init_25 : decode cX2_init 25 = .ok (.return_, 1) := by decide +kernel
theorem dX2_mostTwigs_0 : decode cX2_mostTwigs 0 = .ok (.aload_n 0, 1) := by decide +kernel
theorem dX2_mostTwigs_1 : decode cX2_mostTwigs 1 = .ok (.getfield 21, 3) := by decide +kernel
theorem dX2_mostTwigs_4 : decode cX2_mostTwigs 4 = .ok (.ireturn, 1) := by decide +kernel
theorem dX2_chosenIn_0 : decode cX2_chosenIn 0 = .ok (.iload_n 1, 1) := by decide +kernel
theorem dX2_chosenIn_1 : decode cX2_chosenIn 1 = .ok (.ifCond .lt 8, 3) := by decide +kernel
theorem dX2_chosenIn_4 : decode cX2_chosenIn 4 = .ok (.iload_n 1, 1) := by decide +kernel
theorem dX2_chosenIn_5 : decode cX2_chosenIn 5 = .ok (.iconst 4, 1) := by decide +kernel
theorem dX2_chosenIn_6 : decode cX2_chosenIn 6 = .ok (.if_icmp .lt 6, 3) := by decide +kernel
theorem dX2_chosenIn_9 : decode cX2_chosenIn 9 = .ok (.bipush (-9), 2) := by decide +kernel
theorem dX2_chosenIn_11 : decode cX2_chosenIn 11 = .ok (.ireturn, 1) := by decide +kernel
theorem dX2_chosenIn_12 : decode cX2_chosenIn 12 = .ok (.aload_n 0, 1) := by decide +kernel
theorem dX2_chosenIn_13 : decode cX2_chosenIn 13 = .ok (.getfield 15, 3) := by decide +kernel
theorem dX2_chosenIn_16 : decode cX2_chosenIn 16 = .ok (.iload_n 1, 1) := by decide +kernel
theorem dX2_chosenIn_17 : decode cX2_chosenIn 17 = .ok (.iaload, 1) := by decide +kernel
theorem dX2_chosenIn_18 : decode cX2_chosenIn 18 = .ok (.iconst (-1), 1) := by decide +kernel
theorem dX2_chosenIn_19 : decode cX2_chosenIn 19 = .ok (.if_icmp .ne 8, 3) := by decide +kernel
theorem dX2_chosenIn_22 : decode cX2_chosenIn 22 = .ok (.bipush (-5), 2) := by decide +kernel
theorem dX2_chosenIn_24 : decode cX2_chosenIn 24 = .ok (.goto 9, 3) := by decide +kernel
theorem dX2_chosenIn_27 : decode cX2_chosenIn 27 = .ok (.aload_n 0, 1) := by decide +kernel
theorem dX2_chosenIn_28 : decode cX2_chosenIn 28 = .ok (.getfield 15, 3) := by decide +kernel
theorem dX2_chosenIn_31 : decode cX2_chosenIn 31 = .ok (.iload_n 1, 1) := by decide +kernel
theorem dX2_chosenIn_32 : decode cX2_chosenIn 32 = .ok (.iaload, 1) := by decide +kernel
theorem dX2_chosenIn_33 : decode cX2_chosenIn 33 = .ok (.ireturn, 1) := by decide +kernel
theorem dX2_find_0 : decode cX2_find 0 = .ok (.iconst 0, 1) := by decide +kernel
theorem dX2_find_1 : decode cX2_find 1 = .ok (.iconst 4, 1) := by decide +kernel
theorem dX2_find_2 : decode cX2_find 2 = .ok (.iload_n 3, 1) := by decide +kernel
theorem dX2_find_3 : decode cX2_find 3 = .ok (.invokestatic 25, 3) := by decide +kernel
theorem dX2_find_6 : decode cX2_find 6 = .ok (.invokestatic 31, 3) := by decide +kernel
theorem dX2_find_9 : decode cX2_find 9 = .ok (.istore 4, 2) := by decide +kernel
theorem dX2_find_11 : decode cX2_find 11 = .ok (.aload_n 0, 1) := by decide +kernel
theorem dX2_find_12 : decode cX2_find 12 = .ok (.iconst (-1), 1) := by decide +kernel
theorem dX2_find_13 : decode cX2_find 13 = .ok (.putfield 21, 3) := by decide +kernel
theorem dX2_find_16 : decode cX2_find 16 = .ok (.iconst 0, 1) := by decide +kernel
theorem dX2_find_17 : decode cX2_find 17 = .ok (.istore 5, 2) := by decide +kernel
theorem dX2_find_19 : decode cX2_find 19 = .ok (.iload 5, 2) := by decide +kernel
theorem dX2_find_21 : decode cX2_find 21 = .ok (.iconst 4, 1) := by decide +kernel
theorem dX2_find_22 : decode cX2_find 22 = .ok (.if_icmp .ge 17, 3) := by decide +kernel
theorem dX2_find_25 : decode cX2_find 25 = .ok (.aload_n 0, 1) := by decide +kernel
theorem dX2_find_26 : decode cX2_find 26 = .ok (.getfield 11, 3) := by decide +kernel
theorem dX2_find_29 : decode cX2_find 29 = .ok (.iload 5, 2) := by decide +kernel
theorem dX2_find_31 : decode cX2_find 31 = .ok (.iconst (-1), 1) := by decide +kernel
theorem dX2_find_32 : decode cX2_find 32 = .ok (.iastore, 1) := by decide +kernel
theorem dX2_find_33 : decode cX2_find 33 = .ok (.iinc 5 1, 3) := by decide +kernel
theorem dX2_find_36 : decode cX2_find 36 = .ok (.goto (-17), 3) := by decide +kernel
theorem dX2_find_39 : decode cX2_find 39 = .ok (.iconst 0, 1) := by decide +kernel
theorem dX2_find_40 : decode cX2_find 40 = .ok (.istore 5, 2) := by decide +kernel
theorem dX2_find_42 : decode cX2_find 42 = .ok (.iconst 0, 1) := by decide +kernel
theorem dX2_find_43 : decode cX2_find 43 = .ok (.istore 6, 2) := by decide +kernel
theorem dX2_find_45 : decode cX2_find 45 = .ok (.iload 6, 2) := by decide +kernel
theorem dX2_find_47 : decode cX2_find 47 = .ok (.sipush 2401, 3) := by decide +kernel
theorem dX2_find_50 : decode cX2_find 50 = .ok (.if_icmp .ge 79, 3) := by decide +kernel
theorem dX2_find_53 : decode cX2_find 53 = .ok (.iload 5, 2) := by decide +kernel
theorem dX2_find_55 : decode cX2_find 55 = .ok (.ifCond .lt 74, 3) := by decide +kernel
theorem dX2_find_58 : decode cX2_find 58 = .ok (.iload 5, 2) := by decide +kernel
theorem dX2_find_60 : decode cX2_find 60 = .ok (.istore 7, 2) := by decide +kernel
theorem dX2_find_62 : decode cX2_find 62 = .ok (.iload 7, 2) := by decide +kernel
theorem dX2_find_64 : decode cX2_find 64 = .ok (.iload 4, 2) := by decide +kernel
theorem dX2_find_66 : decode cX2_find 66 = .ok (.if_icmp .ge 34, 3) := by decide +kernel
theorem dX2_find_69 : decode cX2_find 69 = .ok (.aload_n 0, 1) := by decide +kernel
theorem dX2_find_70 : decode cX2_find 70 = .ok (.getfield 18, 3) := by decide +kernel
theorem dX2_find_73 : decode cX2_find 73 = .ok (.iload 7, 2) := by decide +kernel
theorem dX2_find_75 : decode cX2_find 75 = .ok (.iconst 1, 1) := by decide +kernel
theorem dX2_find_76 : decode cX2_find 76 = .ok (.iadd, 1) := by decide +kernel
theorem dX2_find_77 : decode cX2_find 77 = .ok (.aload_n 0, 1) := by decide +kernel
theorem dX2_find_78 : decode cX2_find 78 = .ok (.getfield 18, 3) := by decide +kernel
theorem dX2_find_81 : decode cX2_find 81 = .ok (.iload 7, 2) := by decide +kernel
theorem dX2_find_83 : decode cX2_find 83 = .ok (.iaload, 1) := by decide +kernel
theorem dX2_find_84 : decode cX2_find 84 = .ok (.aload_n 0, 1) := by decide +kernel
theorem dX2_find_85 : decode cX2_find 85 = .ok (.iload 7, 2) := by decide +kernel
theorem dX2_find_87 : decode cX2_find 87 = .ok (.aload_n 1, 1) := by decide +kernel
theorem dX2_find_88 : decode cX2_find 88 = .ok (.aload_n 2, 1) := by decide +kernel
theorem dX2_find_89 : decode cX2_find 89 = .ok (.invokevirtual 34, 3) := by decide +kernel
theorem dX2_find_92 : decode cX2_find 92 = .ok (.iadd, 1) := by decide +kernel
theorem dX2_find_93 : decode cX2_find 93 = .ok (.iastore, 1) := by decide +kernel
theorem dX2_find_94 : decode cX2_find 94 = .ok (.iinc 7 1, 3) := by decide +kernel
theorem dX2_find_97 : decode cX2_find 97 = .ok (.goto (-35), 3) := by decide +kernel
theorem dX2_find_100 : decode cX2_find 100 = .ok (.aload_n 0, 1) := by decide +kernel
theorem dX2_find_101 : decode cX2_find 101 = .ok (.aload_n 0, 1) := by decide +kernel
theorem dX2_find_102 : decode cX2_find 102 = .ok (.getfield 18, 3) := by decide +kernel
theorem dX2_find_105 : decode cX2_find 105 = .ok (.iload 4, 2) := by decide +kernel
theorem dX2_find_107 : decode cX2_find 107 = .ok (.iaload, 1) := by decide +kernel
theorem dX2_find_108 : decode cX2_find 108 = .ok (.invokevirtual 38, 3) := by decide +kernel
theorem dX2_find_111 : decode cX2_find 111 = .ok (.aload_n 0, 1) := by decide +kernel
theorem dX2_find_112 : decode cX2_find 112 = .ok (.iload 4, 2) := by decide +kernel
theorem dX2_find_114 : decode cX2_find 114 = .ok (.aload_n 1, 1) := by decide +kernel
theorem dX2_find_115 : decode cX2_find 115 = .ok (.invokevirtual 42, 3) := by decide +kernel
theorem dX2_find_118 : decode cX2_find 118 = .ok (.invokevirtual 48, 3) := by decide +kernel
theorem dX2_find_121 : decode cX2_find 121 = .ok (.istore 5, 2) := by decide +kernel
theorem dX2_find_123 : decode cX2_find 123 = .ok (.iinc 6 1, 3) := by decide +kernel
theorem dX2_find_126 : decode cX2_find 126 = .ok (.goto (-81), 3) := by decide +kernel
theorem dX2_find_129 : decode cX2_find 129 = .ok (.return_, 1) := by decide +kernel
theorem dX2_gotIn_0 : decode cX2_gotIn 0 = .ok (.aload_n 0, 1) := by decide +kernel
theorem dX2_gotIn_1 : decode cX2_gotIn 1 = .ok (.getfield 11, 3) := by decide +kernel
theorem dX2_gotIn_4 : decode cX2_gotIn 4 = .ok (.iload_n 1, 1) := by decide +kernel
theorem dX2_gotIn_5 : decode cX2_gotIn 5 = .ok (.iaload, 1) := by decide +kernel
theorem dX2_gotIn_6 : decode cX2_gotIn 6 = .ok (.istore 4, 2) := by decide +kernel
theorem dX2_gotIn_8 : decode cX2_gotIn 8 = .ok (.iload 4, 2) := by decide +kernel
theorem dX2_gotIn_10 : decode cX2_gotIn 10 = .ok (.iconst (-1), 1) := by decide +kernel
theorem dX2_gotIn_11 : decode cX2_gotIn 11 = .ok (.if_icmp .ne 5, 3) := by decide +kernel
theorem dX2_gotIn_14 : decode cX2_gotIn 14 = .ok (.iconst 0, 1) := by decide +kernel
theorem dX2_gotIn_15 : decode cX2_gotIn 15 = .ok (.ireturn, 1) := by decide +kernel
theorem dX2_gotIn_16 : decode cX2_gotIn 16 = .ok (.aload_n 3, 1) := by decide +kernel
theorem dX2_gotIn_17 : decode cX2_gotIn 17 = .ok (.iload 4, 2) := by decide +kernel
theorem dX2_gotIn_19 : decode cX2_gotIn 19 = .ok (.invokevirtual 51, 3) := by decide +kernel
theorem dX2_gotIn_22 : decode cX2_gotIn 22 = .ok (.iload_n 1, 1) := by decide +kernel
theorem dX2_gotIn_23 : decode cX2_gotIn 23 = .ok (.iadd, 1) := by decide +kernel
theorem dX2_gotIn_24 : decode cX2_gotIn 24 = .ok (.istore 5, 2) := by decide +kernel
theorem dX2_gotIn_26 : decode cX2_gotIn 26 = .ok (.iconst 0, 1) := by decide +kernel
theorem dX2_gotIn_27 : decode cX2_gotIn 27 = .ok (.istore 6, 2) := by decide +kernel
theorem dX2_gotIn_29 : decode cX2_gotIn 29 = .ok (.iload 6, 2) := by decide +kernel
theorem dX2_gotIn_31 : decode cX2_gotIn 31 = .ok (.iload_n 1, 1) := by decide +kernel
theorem dX2_gotIn_32 : decode cX2_gotIn 32 = .ok (.if_icmp .ge 27, 3) := by decide +kernel
theorem dX2_gotIn_35 : decode cX2_gotIn 35 = .ok (.aload_n 0, 1) := by decide +kernel
theorem dX2_gotIn_36 : decode cX2_gotIn 36 = .ok (.getfield 11, 3) := by decide +kernel
theorem dX2_gotIn_39 : decode cX2_gotIn 39 = .ok (.iload 6, 2) := by decide +kernel
theorem dX2_gotIn_41 : decode cX2_gotIn 41 = .ok (.iaload, 1) := by decide +kernel
theorem dX2_gotIn_42 : decode cX2_gotIn 42 = .ok (.iload 4, 2) := by decide +kernel
theorem dX2_gotIn_44 : decode cX2_gotIn 44 = .ok (.if_icmp .ne 9, 3) := by decide +kernel
theorem dX2_gotIn_47 : decode cX2_gotIn 47 = .ok (.iload_n 1, 1) := by decide +kernel
theorem dX2_gotIn_48 : decode cX2_gotIn 48 = .ok (.iload 6, 2) := by decide +kernel
theorem dX2_gotIn_50 : decode cX2_gotIn 50 = .ok (.isub, 1) := by decide +kernel
theorem dX2_gotIn_51 : decode cX2_gotIn 51 = .ok (.istore 5, 2) := by decide +kernel
theorem dX2_gotIn_53 : decode cX2_gotIn 53 = .ok (.iinc 6 1, 3) := by decide +kernel
theorem dX2_gotIn_56 : decode cX2_gotIn 56 = .ok (.goto (-27), 3) := by decide +kernel
theorem dX2_gotIn_59 : decode cX2_gotIn 59 = .ok (.aload_n 2, 1) := by decide +kernel
theorem dX2_gotIn_60 : decode cX2_gotIn 60 = .ok (.iconst 0, 1) := by decide +kernel
theorem dX2_gotIn_61 : decode cX2_gotIn 61 = .ok (.iload 4, 2) := by decide +kernel
theorem dX2_gotIn_63 : decode cX2_gotIn 63 = .ok (.invokevirtual 57, 3) := by decide +kernel
theorem dX2_gotIn_66 : decode cX2_gotIn 66 = .ok (.iload 5, 2) := by decide +kernel
theorem dX2_gotIn_68 : decode cX2_gotIn 68 = .ok (.aload_n 2, 1) := by decide +kernel
theorem dX2_gotIn_69 : decode cX2_gotIn 69 = .ok (.invokevirtual 60, 3) := by decide +kernel
theorem dX2_gotIn_72 : decode cX2_gotIn 72 = .ok (.invokestatic 63, 3) := by decide +kernel
theorem dX2_gotIn_75 : decode cX2_gotIn 75 = .ok (.ireturn, 1) := by decide +kernel
theorem dX2_goToNextRow_0 : decode cX2_goToNextRow 0 = .ok (.iload_n 1, 1) := by decide +kernel
theorem dX2_goToNextRow_1 : decode cX2_goToNextRow 1 = .ok (.iconst 1, 1) := by decide +kernel
theorem dX2_goToNextRow_2 : decode cX2_goToNextRow 2 = .ok (.isub, 1) := by decide +kernel
theorem dX2_goToNextRow_3 : decode cX2_goToNextRow 3 = .ok (.istore_n 3, 1) := by decide +kernel
theorem dX2_goToNextRow_4 : decode cX2_goToNextRow 4 = .ok (.iload_n 3, 1) := by decide +kernel
theorem dX2_goToNextRow_5 : decode cX2_goToNextRow 5 = .ok (.ifCond .lt 40, 3) := by decide +kernel
theorem dX2_goToNextRow_8 : decode cX2_goToNextRow 8 = .ok (.aload_n 0, 1) := by decide +kernel
theorem dX2_goToNextRow_9 : decode cX2_goToNextRow 9 = .ok (.getfield 11, 3) := by decide +kernel
theorem dX2_goToNextRow_12 : decode cX2_goToNextRow 12 = .ok (.iload_n 3, 1) := by decide +kernel
theorem dX2_goToNextRow_13 : decode cX2_goToNextRow 13 = .ok (.iaload, 1) := by decide +kernel
theorem dX2_goToNextRow_14 : decode cX2_goToNextRow 14 = .ok (.iconst 1, 1) := by decide +kernel
theorem dX2_goToNextRow_15 : decode cX2_goToNextRow 15 = .ok (.iadd, 1) := by decide +kernel
theorem dX2_goToNextRow_16 : decode cX2_goToNextRow 16 = .ok (.iload_n 2, 1) := by decide +kernel
theorem dX2_goToNextRow_17 : decode cX2_goToNextRow 17 = .ok (.if_icmp .ge 15, 3) := by decide +kernel
theorem dX2_goToNextRow_20 : decode cX2_goToNextRow 20 = .ok (.aload_n 0, 1) := by decide +kernel
theorem dX2_goToNextRow_21 : decode cX2_goToNextRow 21 = .ok (.getfield 11, 3) := by decide +kernel
theorem dX2_goToNextRow_24 : decode cX2_goToNextRow 24 = .ok (.iload_n 3, 1) := by decide +kernel
theorem dX2_goToNextRow_25 : decode cX2_goToNextRow 25 = .ok (.dup2, 1) := by decide +kernel
theorem dX2_goToNextRow_26 : decode cX2_goToNextRow 26 = .ok (.iaload, 1) := by decide +kernel
theorem dX2_goToNextRow_27 : decode cX2_goToNextRow 27 = .ok (.iconst 1, 1) := by decide +kernel
theorem dX2_goToNextRow_28 : decode cX2_goToNextRow 28 = .ok (.iadd, 1) := by decide +kernel
theorem dX2_goToNextRow_29 : decode cX2_goToNextRow 29 = .ok (.iastore, 1) := by decide +kernel
theorem dX2_goToNextRow_30 : decode cX2_goToNextRow 30 = .ok (.iload_n 3, 1) := by decide +kernel
theorem dX2_goToNextRow_31 : decode cX2_goToNextRow 31 = .ok (.ireturn, 1) := by decide +kernel
theorem dX2_goToNextRow_32 : decode cX2_goToNextRow 32 = .ok (.aload_n 0, 1) := by decide +kernel
theorem dX2_goToNextRow_33 : decode cX2_goToNextRow 33 = .ok (.getfield 11, 3) := by decide +kernel
theorem dX2_goToNextRow_36 : decode cX2_goToNextRow 36 = .ok (.iload_n 3, 1) := by decide +kernel
theorem dX2_goToNextRow_37 : decode cX2_goToNextRow 37 = .ok (.iconst (-1), 1) := by decide +kernel
theorem dX2_goToNextRow_38 : decode cX2_goToNextRow 38 = .ok (.iastore, 1) := by decide +kernel
theorem dX2_goToNextRow_39 : decode cX2_goToNextRow 39 = .ok (.iinc 3 (-1), 3) := by decide +kernel
theorem dX2_goToNextRow_42 : decode cX2_goToNextRow 42 = .ok (.goto (-38), 3) := by decide +kernel
theorem dX2_goToNextRow_45 : decode cX2_goToNextRow 45 = .ok (.iconst (-1), 1) := by decide +kernel
theorem dX2_goToNextRow_46 : decode cX2_goToNextRow 46 = .ok (.ireturn, 1) := by decide +kernel
theorem dX2_compare_0 : decode cX2_compare 0 = .ok (.iload_n 1, 1) := by decide +kernel
theorem dX2_compare_1 : decode cX2_compare 1 = .ok (.aload_n 0, 1) := by decide +kernel
theorem dX2_compare_2 : decode cX2_compare 2 = .ok (.getfield 21, 3) := by decide +kernel
theorem dX2_compare_5 : decode cX2_compare 5 = .ok (.if_icmp .le 33, 3) := by decide +kernel
theorem dX2_compare_8 : decode cX2_compare 8 = .ok (.aload_n 0, 1) := by decide +kernel
theorem dX2_compare_9 : decode cX2_compare 9 = .ok (.iload_n 1, 1) := by decide +kernel
theorem dX2_compare_10 : decode cX2_compare 10 = .ok (.putfield 21, 3) := by decide +kernel
theorem dX2_compare_13 : decode cX2_compare 13 = .ok (.iconst 0, 1) := by decide +kernel
theorem dX2_compare_14 : decode cX2_compare 14 = .ok (.istore_n 2, 1) := by decide +kernel
theorem dX2_compare_15 : decode cX2_compare 15 = .ok (.iload_n 2, 1) := by decide +kernel
theorem dX2_compare_16 : decode cX2_compare 16 = .ok (.iconst 4, 1) := by decide +kernel
theorem dX2_compare_17 : decode cX2_compare 17 = .ok (.if_icmp .ge 21, 3) := by decide +kernel
theorem dX2_compare_20 : decode cX2_compare 20 = .ok (.aload_n 0, 1) := by decide +kernel
theorem dX2_compare_21 : decode cX2_compare 21 = .ok (.getfield 15, 3) := by decide +kernel
theorem dX2_compare_24 : decode cX2_compare 24 = .ok (.iload_n 2, 1) := by decide +kernel
theorem dX2_compare_25 : decode cX2_compare 25 = .ok (.aload_n 0, 1) := by decide +kernel
theorem dX2_compare_26 : decode cX2_compare 26 = .ok (.getfield 11, 3) := by decide +kernel
theorem dX2_compare_29 : decode cX2_compare 29 = .ok (.iload_n 2, 1) := by decide +kernel
theorem dX2_compare_30 : decode cX2_compare 30 = .ok (.iaload, 1) := by decide +kernel
theorem dX2_compare_31 : decode cX2_compare 31 = .ok (.iastore, 1) := by decide +kernel
theorem dX2_compare_32 : decode cX2_compare 32 = .ok (.iinc 2 1, 3) := by decide +kernel
theorem dX2_compare_35 : decode cX2_compare 35 = .ok (.goto (-20), 3) := by decide +kernel
theorem dX2_compare_38 : decode cX2_compare 38 = .ok (.return_, 1) := by decide +kernel
theorem dX3_init_0 : decode cX3_init 0 = .ok (.aload_n 0, 1) := by decide +kernel
theorem dX3_init_1 : decode cX3_init 1 = .ok (.invokespecial 1, 3) := by decide +kernel
theorem dX3_init_4 : decode cX3_init 4 = .ok (.aload_n 0, 1) := by decide +kernel
theorem dX3_init_5 : decode cX3_init 5 = .ok (.iconst 0, 1) := by decide +kernel
theorem dX3_init_6 : decode cX3_init 6 = .ok (.iload_n 1, 1) := by decide +kernel
theorem dX3_init_7 : decode cX3_init 7 = .ok (.invokestatic 7, 3) := by decide +kernel
theorem dX3_init_10 : decode cX3_init 10 = .ok (.anewarray 13, 3) := by decide +kernel
theorem dX3_init_13 : decode cX3_init 13 = .ok (.putfield 15, 3) := by decide +kernel
theorem dX3_init_16 : decode cX3_init 16 = .ok (.iconst 0, 1) := by decide +kernel
theorem dX3_init_17 : decode cX3_init 17 = .ok (.istore_n 2, 1) := by decide +kernel
theorem dX3_init_18 : decode cX3_init 18 = .ok (.iload_n 2, 1) := by decide +kernel
theorem dX3_init_19 : decode cX3_init 19 = .ok (.aload_n 0, 1) := by decide +kernel
theorem dX3_init_20 : decode cX3_init 20 = .ok (.getfield 15, 3) := by decide +kernel
theorem dX3_init_23 : decode cX3_init 23 = .ok (.arraylength, 1) := by decide +kernel
theorem dX3_init_24 : decode cX3_init 24 = .ok (.if_icmp .ge 22, 3) := by decide +kernel
theorem dX3_init_27 : decode cX3_init 27 = .ok (.aload_n 0, 1) := by decide +kernel
theorem dX3_init_28 : decode cX3_init 28 = .ok (.getfield 15, 3) := by decide +kernel
theorem dX3_init_31 : decode cX3_init 31 = .ok (.iload_n 2, 1) := by decide +kernel
theorem dX3_init_32 : decode cX3_init 32 = .ok (.new 13, 3) := by decide +kernel
theorem dX3_init_35 : decode cX3_init 35 = .ok (.dup, 1) := by decide +kernel
theorem dX3_init_36 : decode cX3_init 36 = .ok (.invokespecial 21, 3) := by decide +kernel
theorem dX3_init_39 : decode cX3_init 39 = .ok (.aastore, 1) := by decide +kernel
theorem dX3_init_40 : decode cX3_init 40 = .ok (.iinc 2 1, 3) := by decide +kernel
theorem dX3_init_43 : decode cX3_init 43 = .ok (.goto (-25), 3) := by decide +kernel
theorem dX3_init_46 : decode cX3_init 46 = .ok (.return_, 1) := by decide +kernel
theorem dX3_put_0 : decode cX3_put 0 = .ok (.aload_n 0, 1) := by decide +kernel
theorem dX3_put_1 : decode cX3_put 1 = .ok (.iload_n 1, 1) := by decide +kernel
theorem dX3_put_2 : decode cX3_put 2 = .ok (.invokevirtual 22, 3) := by decide +kernel
theorem dX3_put_5 : decode cX3_put 5 = .ok (.astore_n 3, 1) := by decide +kernel
theorem dX3_put_6 : decode cX3_put 6 = .ok (.aload_n 3, 1) := by decide +kernel
theorem dX3_put_7 : decode cX3_put 7 = .ok (.ifnull 8, 3) := by decide +kernel
theorem dX3_put_10 : decode cX3_put 10 = .ok (.aload_n 3, 1) := by decide +kernel
theorem dX3_put_11 : decode cX3_put 11 = .ok (.aload_n 2, 1) := by decide +kernel
theorem dX3_put_12 : decode cX3_put 12 = .ok (.invokevirtual 26, 3) := by decide +kernel
theorem dX3_put_15 : decode cX3_put 15 = .ok (.return_, 1) := by decide +kernel
theorem dX3_take_0 : decode cX3_take 0 = .ok (.aload_n 0, 1) := by decide +kernel
theorem dX3_take_1 : decode cX3_take 1 = .ok (.iload_n 1, 1) := by decide +kernel
theorem dX3_take_2 : decode cX3_take 2 = .ok (.invokevirtual 22, 3) := by decide +kernel
theorem dX3_take_5 : decode cX3_take 5 = .ok (.astore_n 3, 1) := by decide +kernel
theorem dX3_take_6 : decode cX3_take 6 = .ok (.aload_n 3, 1) := by decide +kernel
theorem dX3_take_7 : decode cX3_take 7 = .ok (.ifnull 8, 3) := by decide +kernel
theorem dX3_take_10 : decode cX3_take 10 = .ok (.aload_n 2, 1) := by decide +kernel
theorem dX3_take_11 : decode cX3_take 11 = .ok (.aload_n 3, 1) := by decide +kernel
theorem dX3_take_12 : decode cX3_take 12 = .ok (.invokevirtual 26, 3) := by decide +kernel
theorem dX3_take_15 : decode cX3_take 15 = .ok (.return_, 1) := by decide +kernel
theorem dX3_placeAt_0 : decode cX3_placeAt 0 = .ok (.iload_n 1, 1) := by decide +kernel
theorem dX3_placeAt_1 : decode cX3_placeAt 1 = .ok (.ifCond .lt 12, 3) := by decide +kernel
theorem dX3_placeAt_4 : decode cX3_placeAt 4 = .ok (.iload_n 1, 1) := by decide +kernel
theorem dX3_placeAt_5 : decode cX3_placeAt 5 = .ok (.aload_n 0, 1) := by decide +kernel
theorem dX3_placeAt_6 : decode cX3_placeAt 6 = .ok (.getfield 15, 3) := by decide +kernel
theorem dX3_placeAt_9 : decode cX3_placeAt 9 = .ok (.arraylength, 1) := by decide +kernel
theorem dX3_placeAt_10 : decode cX3_placeAt 10 = .ok (.if_icmp .lt 7, 3) := by decide +kernel
theorem dX3_placeAt_13 : decode cX3_placeAt 13 = .ok (.aconst_null, 1) := by decide +kernel
theorem dX3_placeAt_14 : decode cX3_placeAt 14 = .ok (.goto 9, 3) := by decide +kernel
theorem dX3_placeAt_17 : decode cX3_placeAt 17 = .ok (.aload_n 0, 1) := by decide +kernel
theorem dX3_placeAt_18 : decode cX3_placeAt 18 = .ok (.getfield 15, 3) := by decide +kernel
theorem dX3_placeAt_21 : decode cX3_placeAt 21 = .ok (.iload_n 1, 1) := by decide +kernel
theorem dX3_placeAt_22 : decode cX3_placeAt 22 = .ok (.aaload, 1) := by decide +kernel
theorem dX3_placeAt_23 : decode cX3_placeAt 23 = .ok (.areturn, 1) := by decide +kernel
theorem dX4_init_0 : decode cX4_init 0 = .ok (.aload_n 0, 1) := by decide +kernel
theorem dX4_init_1 : decode cX4_init 1 = .ok (.invokespecial 1, 3) := by decide +kernel
theorem dX4_init_4 : decode cX4_init 4 = .ok (.aload_n 0, 1) := by decide +kernel
theorem dX4_init_5 : decode cX4_init 5 = .ok (.sipush 200, 3) := by decide +kernel
theorem dX4_init_8 : decode cX4_init 8 = .ok (.newarray .char, 2) := by decide +kernel
theorem dX4_init_10 : decode cX4_init 10 = .ok (.putfield 9, 3) := by decide +kernel
theorem dX4_init_13 : decode cX4_init 13 = .ok (.return_, 1) := by decide +kernel
theorem dX4_size_0 : decode cX4_size 0 = .ok (.aload_n 0, 1) := by decide +kernel
theorem dX4_size_1 : decode cX4_size 1 = .ok (.getfield 13, 3) := by decide +kernel
theorem dX4_size_4 : decode cX4_size 4 = .ok (.ireturn, 1) := by decide +kernel
theorem dX4_empty_0 : decode cX4_empty 0 = .ok (.aload_n 0, 1) := by decide +kernel
theorem dX4_empty_1 : decode cX4_empty 1 = .ok (.iconst 0, 1) := by decide +kernel
theorem dX4_empty_2 : decode cX4_empty 2 = .ok (.putfield 13, 3) := by decide +kernel
theorem dX4_empty_5 : decode cX4_empty 5 = .ok (.return_, 1) := by decide +kernel
theorem dX4_add_0 : decode cX4_add 0 = .ok (.aload_n 0, 1) := by decide +kernel
theorem dX4_add_1 : decode cX4_add 1 = .ok (.getfield 13, 3) := by decide +kernel
theorem dX4_add_4 : decode cX4_add 4 = .ok (.ifCond .lt 13, 3) := by decide +kernel
theorem dX4_add_7 : decode cX4_add 7 = .ok (.aload_n 0, 1) := by decide +kernel
theorem dX4_add_8 : decode cX4_add 8 = .ok (.getfield 13, 3) := by decide +kernel
theorem dX4_add_11 : decode cX4_add 11 = .ok (.sipush 200, 3) := by decide +kernel
theorem dX4_add_14 : decode cX4_add 14 = .ok (.if_icmp .lt 5, 3) := by decide +kernel
theorem dX4_add_17 : decode cX4_add 17 = .ok (.iconst 0, 1) := by decide +kernel
theorem dX4_add_18 : decode cX4_add 18 = .ok (.ireturn, 1) := by decide +kernel
theorem dX4_add_19 : decode cX4_add 19 = .ok (.aload_n 0, 1) := by decide +kernel
theorem dX4_add_20 : decode cX4_add 20 = .ok (.getfield 9, 3) := by decide +kernel
theorem dX4_add_23 : decode cX4_add 23 = .ok (.aload_n 0, 1) := by decide +kernel
theorem dX4_add_24 : decode cX4_add 24 = .ok (.getfield 13, 3) := by decide +kernel
theorem dX4_add_27 : decode cX4_add 27 = .ok (.iload_n 1, 1) := by decide +kernel
theorem dX4_add_28 : decode cX4_add 28 = .ok (.castore, 1) := by decide +kernel
theorem dX4_add_29 : decode cX4_add 29 = .ok (.aload_n 0, 1) := by decide +kernel
theorem dX4_add_30 : decode cX4_add 30 = .ok (.dup, 1) := by decide +kernel
theorem dX4_add_31 : decode cX4_add 31 = .ok (.getfield 13, 3) := by decide +kernel
theorem dX4_add_34 : decode cX4_add 34 = .ok (.iconst 1, 1) := by decide +kernel
theorem dX4_add_35 : decode cX4_add 35 = .ok (.iadd, 1) := by decide +kernel
theorem dX4_add_36 : decode cX4_add 36 = .ok (.putfield 13, 3) := by decide +kernel
theorem dX4_add_39 : decode cX4_add 39 = .ok (.iconst 1, 1) := by decide +kernel
theorem dX4_add_40 : decode cX4_add 40 = .ok (.ireturn, 1) := by decide +kernel
theorem dX4_rewind_0 : decode cX4_rewind 0 = .ok (.aload_n 0, 1) := by decide +kernel
theorem dX4_rewind_1 : decode cX4_rewind 1 = .ok (.iconst 0, 1) := by decide +kernel
theorem dX4_rewind_2 : decode cX4_rewind 2 = .ok (.putfield 17, 3) := by decide +kernel
theorem dX4_rewind_5 : decode cX4_rewind 5 = .ok (.return_, 1) := by decide +kernel
theorem dX4_tokenStart_0 : decode cX4_tokenStart 0 = .ok (.aload_n 0, 1) := by decide +kernel
theorem dX4_tokenStart_1 : decode cX4_tokenStart 1 = .ok (.getfield 20, 3) := by decide +kernel
theorem dX4_tokenStart_4 : decode cX4_tokenStart 4 = .ok (.ireturn, 1) := by decide +kernel
theorem dX4_tokenNumber_0 : decode cX4_tokenNumber 0 = .ok (.aload_n 0, 1) := by decide +kernel
theorem dX4_tokenNumber_1 : decode cX4_tokenNumber 1 = .ok (.getfield 23, 3) := by decide +kernel
theorem dX4_tokenNumber_4 : decode cX4_tokenNumber 4 = .ok (.ireturn, 1) := by decide +kernel
theorem dX4_goOn_0 : decode cX4_goOn 0 = .ok (.aload_n 0, 1) := by decide +kernel
theorem dX4_goOn_1 : decode cX4_goOn 1 = .ok (.aload_n 0, 1) := by decide +kernel
theorem dX4_goOn_2 : decode cX4_goOn 2 = .ok (.getfield 17, 3) := by decide +kernel
theorem dX4_goOn_5 : decode cX4_goOn 5 = .ok (.putfield 20, 3) := by decide +kernel
theorem dX4_goOn_8 : decode cX4_goOn 8 = .ok (.aload_n 0, 1) := by decide +kernel
theorem dX4_goOn_9 : decode cX4_goOn 9 = .ok (.getfield 20, 3) := by decide +kernel
theorem dX4_goOn_12 : decode cX4_goOn 12 = .ok (.aload_n 0, 1) := by decide +kernel
theorem dX4_goOn_13 : decode cX4_goOn 13 = .ok (.getfield 13, 3) := by decide +kernel
theorem dX4_goOn_16 : decode cX4_goOn 16 = .ok (.if_icmp .ge 29, 3) := by decide +kernel
theorem dX4_goOn_19 : decode cX4_goOn 19 = .ok (.aload_n 0, 1) := by decide +kernel
theorem dX4_goOn_20 : decode cX4_goOn 20 = .ok (.aload_n 0, 1) := by decide +kernel
theorem dX4_goOn_21 : decode cX4_goOn 21 = .ok (.getfield 20, 3) := by decide +kernel
theorem dX4_goOn_24 : decode cX4_goOn 24 = .ok (.invokevirtual 26, 3) := by decide +kernel
theorem dX4_goOn_27 : decode cX4_goOn 27 = .ok (.bipush 32, 2) := by decide +kernel
theorem dX4_goOn_29 : decode cX4_goOn 29 = .ok (.if_icmp .ne 16, 3) := by decide +kernel
theorem dX4_goOn_32 : decode cX4_goOn 32 = .ok (.aload_n 0, 1) := by decide +kernel
theorem dX4_goOn_33 : decode cX4_goOn 33 = .ok (.dup, 1) := by decide +kernel
theorem dX4_goOn_34 : decode cX4_goOn 34 = .ok (.getfield 20, 3) := by decide +kernel
theorem dX4_goOn_37 : decode cX4_goOn 37 = .ok (.iconst 1, 1) := by decide +kernel
theorem dX4_goOn_38 : decode cX4_goOn 38 = .ok (.iadd, 1) := by decide +kernel
theorem dX4_goOn_39 : decode cX4_goOn 39 = .ok (.putfield 20, 3) := by decide +kernel
theorem dX4_goOn_42 : decode cX4_goOn 42 = .ok (.goto (-34), 3) := by decide +kernel
theorem dX4_goOn_45 : decode cX4_goOn 45 = .ok (.aload_n 0, 1) := by decide +kernel
theorem dX4_goOn_46 : decode cX4_goOn 46 = .ok (.aload_n 0, 1) := by decide +kernel
theorem dX4_goOn_47 : decode cX4_goOn 47 = .ok (.getfield 20, 3) := by decide +kernel
theorem dX4_goOn_50 : decode cX4_goOn 50 = .ok (.putfield 17, 3) := by decide +kernel
theorem dX4_goOn_53 : decode cX4_goOn 53 = .ok (.aload_n 0, 1) := by decide +kernel
theorem dX4_goOn_54 : decode cX4_goOn 54 = .ok (.getfield 20, 3) := by decide +kernel
theorem dX4_goOn_57 : decode cX4_goOn 57 = .ok (.aload_n 0, 1) := by decide +kernel
theorem dX4_goOn_58 : decode cX4_goOn 58 = .ok (.getfield 13, 3) := by decide +kernel
theorem dX4_goOn_61 : decode cX4_goOn 61 = .ok (.if_icmp .lt 11, 3) := by decide +kernel
theorem dX4_goOn_64 : decode cX4_goOn 64 = .ok (.aload_n 0, 1) := by decide +kernel
theorem dX4_goOn_65 : decode cX4_goOn 65 = .ok (.iconst (-1), 1) := by decide +kernel
theorem dX4_goOn_66 : decode cX4_goOn 66 = .ok (.putfield 30, 3) := by decide +kernel
theorem dX4_goOn_69 : decode cX4_goOn 69 = .ok (.goto 43, 3) := by decide +kernel
theorem dX4_goOn_72 : decode cX4_goOn 72 = .ok (.aload_n 0, 1) := by decide +kernel
theorem dX4_goOn_73 : decode cX4_goOn 73 = .ok (.aload_n 0, 1) := by decide +kernel
theorem dX4_goOn_74 : decode cX4_goOn 74 = .ok (.getfield 20, 3) := by decide +kernel
theorem dX4_goOn_77 : decode cX4_goOn 77 = .ok (.invokevirtual 33, 3) := by decide +kernel
theorem dX4_goOn_80 : decode cX4_goOn 80 = .ok (.ifCond .eq 10, 3) := by decide +kernel
theorem dX4_goOn_83 : decode cX4_goOn 83 = .ok (.aload_n 0, 1) := by decide +kernel
theorem dX4_goOn_84 : decode cX4_goOn 84 = .ok (.invokevirtual 37, 3) := by decide +kernel
theorem dX4_goOn_87 : decode cX4_goOn 87 = .ok (.goto 25, 3) := by decide +kernel
theorem dX4_goOn_90 : decode cX4_goOn 90 = .ok (.aload_n 0, 1) := by decide +kernel
theorem dX4_goOn_91 : decode cX4_goOn 91 = .ok (.aload_n 0, 1) := by decide +kernel
theorem dX4_goOn_92 : decode cX4_goOn 92 = .ok (.aload_n 0, 1) := by decide +kernel
theorem dX4_goOn_93 : decode cX4_goOn 93 = .ok (.getfield 20, 3) := by decide +kernel
theorem dX4_goOn_96 : decode cX4_goOn 96 = .ok (.invokevirtual 26, 3) := by decide +kernel
theorem dX4_goOn_99 : decode cX4_goOn 99 = .ok (.putfield 30, 3) := by decide +kernel
theorem dX4_goOn_102 : decode cX4_goOn 102 = .ok (.aload_n 0, 1) := by decide +kernel
theorem dX4_goOn_103 : decode cX4_goOn 103 = .ok (.dup, 1) := by decide +kernel
theorem dX4_goOn_104 : decode cX4_goOn 104 = .ok (.getfield 17, 3) := by decide +kernel
theorem dX4_goOn_107 : decode cX4_goOn 107 = .ok (.iconst 1, 1) := by decide +kernel
theorem dX4_goOn_108 : decode cX4_goOn 108 = .ok (.iadd, 1) := by decide +kernel
theorem dX4_goOn_109 : decode cX4_goOn 109 = .ok (.putfield 17, 3) := by decide +kernel
theorem dX4_goOn_112 : decode cX4_goOn 112 = .ok (.aload_n 0, 1) := by decide +kernel
theorem dX4_goOn_113 : decode cX4_goOn 113 = .ok (.getfield 30, 3) := by decide +kernel
theorem dX4_goOn_116 : decode cX4_goOn 116 = .ok (.ireturn, 1) := by decide +kernel
theorem dX4_readNumber_0 : decode cX4_readNumber 0 = .ok (.aload_n 0, 1) := by decide +kernel
theorem dX4_readNumber_1 : decode cX4_readNumber 1 = .ok (.iconst 0, 1) := by decide +kernel
theorem dX4_readNumber_2 : decode cX4_readNumber 2 = .ok (.putfield 23, 3) := by decide +kernel
theorem dX4_readNumber_5 : decode cX4_readNumber 5 = .ok (.aload_n 0, 1) := by decide +kernel
theorem dX4_readNumber_6 : decode cX4_readNumber 6 = .ok (.getfield 17, 3) := by decide +kernel
theorem dX4_readNumber_9 : decode cX4_readNumber 9 = .ok (.aload_n 0, 1) := by decide +kernel
theorem dX4_readNumber_10 : decode cX4_readNumber 10 = .ok (.getfield 13, 3) := by decide +kernel
theorem dX4_readNumber_13 : decode cX4_readNumber 13 = .ok (.if_icmp .ge 55, 3) := by decide +kernel
theorem dX4_readNumber_16 : decode cX4_readNumber 16 = .ok (.aload_n 0, 1) := by decide +kernel
theorem dX4_readNumber_17 : decode cX4_readNumber 17 = .ok (.aload_n 0, 1) := by decide +kernel
theorem dX4_readNumber_18 : decode cX4_readNumber 18 = .ok (.getfield 17, 3) := by decide +kernel
theorem dX4_readNumber_21 : decode cX4_readNumber 21 = .ok (.invokevirtual 33, 3) := by decide +kernel
theorem dX4_readNumber_24 : decode cX4_readNumber 24 = .ok (.ifCond .eq 44, 3) := by decide +kernel
theorem dX4_readNumber_27 : decode cX4_readNumber 27 = .ok (.aload_n 0, 1) := by decide +kernel
theorem dX4_readNumber_28 : decode cX4_readNumber 28 = .ok (.bipush 100, 2) := by decide +kernel
theorem dX4_readNumber_30 : decode cX4_readNumber 30 = .ok (.aload_n 0, 1) := by decide +kernel
theorem dX4_readNumber_31 : decode cX4_readNumber 31 = .ok (.getfield 23, 3) := by decide +kernel
theorem dX4_readNumber_34 : decode cX4_readNumber 34 = .ok (.bipush 10, 2) := by decide +kernel
theorem dX4_readNumber_36 : decode cX4_readNumber 36 = .ok (.imul, 1) := by decide +kernel
theorem dX4_readNumber_37 : decode cX4_readNumber 37 = .ok (.aload_n 0, 1) := by decide +kernel
theorem dX4_readNumber_38 : decode cX4_readNumber 38 = .ok (.aload_n 0, 1) := by decide +kernel
theorem dX4_readNumber_39 : decode cX4_readNumber 39 = .ok (.getfield 17, 3) := by decide +kernel
theorem dX4_readNumber_42 : decode cX4_readNumber 42 = .ok (.invokevirtual 26, 3) := by decide +kernel
theorem dX4_readNumber_45 : decode cX4_readNumber 45 = .ok (.iadd, 1) := by decide +kernel
theorem dX4_readNumber_46 : decode cX4_readNumber 46 = .ok (.bipush 48, 2) := by decide +kernel
theorem dX4_readNumber_48 : decode cX4_readNumber 48 = .ok (.isub, 1) := by decide +kernel
theorem dX4_readNumber_49 : decode cX4_readNumber 49 = .ok (.invokestatic 40, 3) := by decide +kernel
theorem dX4_readNumber_52 : decode cX4_readNumber 52 = .ok (.putfield 23, 3) := by decide +kernel
theorem dX4_readNumber_55 : decode cX4_readNumber 55 = .ok (.aload_n 0, 1) := by decide +kernel
theorem dX4_readNumber_56 : decode cX4_readNumber 56 = .ok (.dup, 1) := by decide +kernel
theorem dX4_readNumber_57 : decode cX4_readNumber 57 = .ok (.getfield 17, 3) := by decide +kernel
theorem dX4_readNumber_60 : decode cX4_readNumber 60 = .ok (.iconst 1, 1) := by decide +kernel
theorem dX4_readNumber_61 : decode cX4_readNumber 61 = .ok (.iadd, 1) := by decide +kernel
theorem dX4_readNumber_62 : decode cX4_readNumber 62 = .ok (.putfield 17, 3) := by decide +kernel
theorem dX4_readNumber_65 : decode cX4_readNumber 65 = .ok (.goto (-60), 3) := by decide +kernel
theorem dX4_readNumber_68 : decode cX4_readNumber 68 = .ok (.aload_n 0, 1) := by decide +kernel
theorem dX4_readNumber_69 : decode cX4_readNumber 69 = .ok (.aload_n 0, 1) := by decide +kernel
theorem dX4_readNumber_70 : decode cX4_readNumber 70 = .ok (.getfield 20, 3) := by decide +kernel
theorem dX4_readNumber_73 : decode cX4_readNumber 73 = .ok (.invokevirtual 26, 3) := by decide +kernel
theorem dX4_readNumber_76 : decode cX4_readNumber 76 = .ok (.bipush 48, 2) := by decide +kernel
theorem dX4_readNumber_78 : decode cX4_readNumber 78 = .ok (.if_icmp .ne 20, 3) := by decide +kernel
theorem dX4_readNumber_81 : decode cX4_readNumber 81 = .ok (.aload_n 0, 1) := by decide +kernel
theorem dX4_readNumber_82 : decode cX4_readNumber 82 = .ok (.getfield 17, 3) := by decide +kernel
theorem dX4_readNumber_85 : decode cX4_readNumber 85 = .ok (.aload_n 0, 1) := by decide +kernel
theorem dX4_readNumber_86 : decode cX4_readNumber 86 = .ok (.getfield 20, 3) := by decide +kernel
theorem dX4_readNumber_89 : decode cX4_readNumber 89 = .ok (.isub, 1) := by decide +kernel
theorem dX4_readNumber_90 : decode cX4_readNumber 90 = .ok (.iconst 1, 1) := by decide +kernel
theorem dX4_readNumber_91 : decode cX4_readNumber 91 = .ok (.if_icmp .le 7, 3) := by decide +kernel
theorem dX4_readNumber_94 : decode cX4_readNumber 94 = .ok (.iconst 1, 1) := by decide +kernel
theorem dX4_readNumber_95 : decode cX4_readNumber 95 = .ok (.goto 4, 3) := by decide +kernel
theorem dX4_readNumber_98 : decode cX4_readNumber 98 = .ok (.iconst 0, 1) := by decide +kernel
theorem dX4_readNumber_99 : decode cX4_readNumber 99 = .ok (.istore_n 1, 1) := by decide +kernel
theorem dX4_readNumber_100 : decode cX4_readNumber 100 = .ok (.aload_n 0, 1) := by decide +kernel
theorem dX4_readNumber_101 : decode cX4_readNumber 101 = .ok (.iload_n 1, 1) := by decide +kernel
theorem dX4_readNumber_102 : decode cX4_readNumber 102 = .ok (.ifCond .ne 12, 3) := by decide +kernel
theorem dX4_readNumber_105 : decode cX4_readNumber 105 = .ok (.aload_n 0, 1) := by decide +kernel
theorem dX4_readNumber_106 : decode cX4_readNumber 106 = .ok (.getfield 23, 3) := by decide +kernel
theorem dX4_readNumber_109 : decode cX4_readNumber 109 = .ok (.bipush 99, 2) := by decide +kernel
theorem dX4_readNumber_111 : decode cX4_readNumber 111 = .ok (.if_icmp .le 8, 3) := by decide +kernel
theorem dX4_readNumber_114 : decode cX4_readNumber 114 = .ok (.bipush (-3), 2) := by decide +kernel
theorem dX4_readNumber_116 : decode cX4_readNumber 116 = .ok (.goto 5, 3) := by decide +kernel
theorem dX4_readNumber_119 : decode cX4_readNumber 119 = .ok (.bipush (-2), 2) := by decide +kernel
theorem dX4_readNumber_121 : decode cX4_readNumber 121 = .ok (.putfield 30, 3) := by decide +kernel
theorem dX4_readNumber_124 : decode cX4_readNumber 124 = .ok (.return_, 1) := by decide +kernel
theorem dX4_isDigit_0 : decode cX4_isDigit 0 = .ok (.aload_n 0, 1) := by decide +kernel
theorem dX4_isDigit_1 : decode cX4_isDigit 1 = .ok (.iload_n 1, 1) := by decide +kernel
theorem dX4_isDigit_2 : decode cX4_isDigit 2 = .ok (.invokevirtual 26, 3) := by decide +kernel
theorem dX4_isDigit_5 : decode cX4_isDigit 5 = .ok (.istore_n 2, 1) := by decide +kernel
theorem dX4_isDigit_6 : decode cX4_isDigit 6 = .ok (.iload_n 2, 1) := by decide +kernel
theorem dX4_isDigit_7 : decode cX4_isDigit 7 = .ok (.bipush 48, 2) := by decide +kernel
theorem dX4_isDigit_9 : decode cX4_isDigit 9 = .ok (.if_icmp .lt 13, 3) := by decide +kernel
theorem dX4_isDigit_12 : decode cX4_isDigit 12 = .ok (.iload_n 2, 1) := by decide +kernel
theorem dX4_isDigit_13 : decode cX4_isDigit 13 = .ok (.bipush 57, 2) := by decide +kernel
theorem dX4_isDigit_15 : decode cX4_isDigit 15 = .ok (.if_icmp .gt 7, 3) := by decide +kernel
theorem dX4_isDigit_18 : decode cX4_isDigit 18 = .ok (.iconst 1, 1) := by decide +kernel
theorem dX4_isDigit_19 : decode cX4_isDigit 19 = .ok (.goto 4, 3) := by decide +kernel
theorem dX4_isDigit_22 : decode cX4_isDigit 22 = .ok (.iconst 0, 1) := by decide +kernel
theorem dX4_isDigit_23 : decode cX4_isDigit 23 = .ok (.ireturn, 1) := by decide +kernel
theorem dX4_letterAt_0 : decode cX4_letterAt 0 = .ok (.iload_n 1, 1) := by decide +kernel
theorem dX4_letterAt_1 : decode cX4_letterAt 1 = .ok (.ifCond .lt 10, 3) := by decide +kernel
theorem dX4_letterAt_4 : decode cX4_letterAt 4 = .ok (.iload_n 1, 1) := by decide +kernel
theorem dX4_letterAt_5 : decode cX4_letterAt 5 = .ok (.sipush 200, 3) := by decide +kernel
theorem dX4_letterAt_8 : decode cX4_letterAt 8 = .ok (.if_icmp .lt 8, 3) := by decide +kernel
theorem dX4_letterAt_11 : decode cX4_letterAt 11 = .ok (.bipush 32, 2) := by decide +kernel
theorem dX4_letterAt_13 : decode cX4_letterAt 13 = .ok (.goto 9, 3) := by decide +kernel
theorem dX4_letterAt_16 : decode cX4_letterAt 16 = .ok (.aload_n 0, 1) := by decide +kernel
theorem dX4_letterAt_17 : decode cX4_letterAt 17 = .ok (.getfield 9, 3) := by decide +kernel
theorem dX4_letterAt_20 : decode cX4_letterAt 20 = .ok (.iload_n 1, 1) := by decide +kernel
theorem dX4_letterAt_21 : decode cX4_letterAt 21 = .ok (.caload, 1) := by decide +kernel
theorem dX4_letterAt_22 : decode cX4_letterAt 22 = .ok (.ireturn, 1) := by decide +kernel
theorem dX5_init_0 : decode cX5_init 0 = .ok (.aload_n 0, 1) := by decide +kernel
theorem dX5_init_1 : decode cX5_init 1 = .ok (.invokespecial 1, 3) := by decide +kernel
theorem dX5_init_4 : decode cX5_init 4 = .ok (.aload_n 0, 1) := by decide +kernel
theorem dX5_init_5 : decode cX5_init 5 = .ok (.bipush 6, 2) := by decide +kernel
theorem dX5_init_7 : decode cX5_init 7 = .ok (.newarray .int, 2) := by decide +kernel
theorem dX5_init_9 : decode cX5_init 9 = .ok (.putfield 9, 3) := by decide +kernel
theorem dX5_init_12 : decode cX5_init 12 = .ok (.aload_n 0, 1) := by decide +kernel
theorem dX5_init_13 : decode cX5_init 13 = .ok (.bipush 54, 2) := by decide +kernel
theorem dX5_init_15 : decode cX5_init 15 = .ok (.newarray .int, 2) := by decide +kernel
theorem dX5_init_17 : decode cX5_init 17 = .ok (.putfield 13, 3) := by decide +kernel
theorem dX5_init_20 : decode cX5_init 20 = .ok (.aload_n 0, 1) := by decide +kernel
theorem dX5_init_21 : decode cX5_init 21 = .ok (.invokevirtual 16, 3) := by decide +kernel
theorem dX5_init_24 : decode cX5_init 24 = .ok (.return_, 1) := by decide +kernel
theorem dX5_parts_0 : decode cX5_parts 0 = .ok (.aload_n 0, 1) := by decide +kernel
theorem dX5_parts_1 : decode cX5_parts 1 = .ok (.getfield 9, 3) := by decide +kernel
theorem dX5_parts_4 : decode cX5_parts 4 = .ok (.iconst 0, 1) := by decide +kernel
theorem dX5_parts_5 : decode cX5_parts 5 = .ok (.iaload, 1) := by decide +kernel
theorem dX5_parts_6 : decode cX5_parts 6 = .ok (.ireturn, 1) := by decide +kernel
theorem dX5_orders_0 : decode cX5_orders 0 = .ok (.aload_n 0, 1) := by decide +kernel
theorem dX5_orders_1 : decode cX5_orders 1 = .ok (.getfield 9, 3) := by decide +kernel
theorem dX5_orders_4 : decode cX5_orders 4 = .ok (.iconst 1, 1) := by decide +kernel
theorem dX5_orders_5 : decode cX5_orders 5 = .ok (.iaload, 1) := by decide +kernel
theorem dX5_orders_6 : decode cX5_orders 6 = .ok (.ireturn, 1) := by decide +kernel
theorem dX5_ripe_0 : decode cX5_ripe 0 = .ok (.aload_n 0, 1) := by decide +kernel
theorem dX5_ripe_1 : decode cX5_ripe 1 = .ok (.iconst 5, 1) := by decide +kernel
theorem dX5_ripe_2 : decode cX5_ripe 2 = .ok (.iconst 0, 1) := by decide +kernel
theorem dX5_ripe_3 : decode cX5_ripe 3 = .ok (.invokevirtual 19, 3) := by decide +kernel
theorem dX5_ripe_6 : decode cX5_ripe 6 = .ok (.ireturn, 1) := by decide +kernel
theorem dX5_twigs_0 : decode cX5_twigs 0 = .ok (.aload_n 0, 1) := by decide +kernel
theorem dX5_twigs_1 : decode cX5_twigs 1 = .ok (.bipush 6, 2) := by decide +kernel
theorem dX5_twigs_3 : decode cX5_twigs 3 = .ok (.iconst 0, 1) := by decide +kernel
theorem dX5_twigs_4 : decode cX5_twigs 4 = .ok (.invokevirtual 19, 3) := by decide +kernel
theorem dX5_twigs_7 : decode cX5_twigs 7 = .ok (.ireturn, 1) := by decide +kernel
theorem dX5_pace_0 : decode cX5_pace 0 = .ok (.aload_n 0, 1) := by decide +kernel
theorem dX5_pace_1 : decode cX5_pace 1 = .ok (.bipush 7, 2) := by decide +kernel
theorem dX5_pace_3 : decode cX5_pace 3 = .ok (.iconst 0, 1) := by decide +kernel
theorem dX5_pace_4 : decode cX5_pace 4 = .ok (.invokevirtual 19, 3) := by decide +kernel
theorem dX5_pace_7 : decode cX5_pace 7 = .ok (.ireturn, 1) := by decide +kernel
theorem dX5_lengthAtFirst_0 : decode cX5_lengthAtFirst 0 = .ok (.aload_n 0, 1) := by decide +kernel
theorem dX5_lengthAtFirst_1 : decode cX5_lengthAtFirst 1 = .ok (.bipush 8, 2) := by decide +kernel
theorem dX5_lengthAtFirst_3 : decode cX5_lengthAtFirst 3 = .ok (.iconst 0, 1) := by decide +kernel
theorem dX5_lengthAtFirst_4 : decode cX5_lengthAtFirst 4 = .ok (.invokevirtual 19, 3) := by decide +kernel
theorem dX5_lengthAtFirst_7 : decode cX5_lengthAtFirst 7 = .ok (.ireturn, 1) := by decide +kernel
theorem dX5_value_0 : decode cX5_value 0 = .ok (.iload_n 1, 1) := by decide +kernel
theorem dX5_value_1 : decode cX5_value 1 = .ok (.iload_n 2, 1) := by decide +kernel
theorem dX5_value_2 : decode cX5_value 2 = .ok (.invokestatic 23, 3) := by decide +kernel
theorem dX5_value_5 : decode cX5_value 5 = .ok (.ifCond .eq 17, 3) := by decide +kernel
theorem dX5_value_8 : decode cX5_value 8 = .ok (.aload_n 0, 1) := by decide +kernel
theorem dX5_value_9 : decode cX5_value 9 = .ok (.getfield 13, 3) := by decide +kernel
theorem dX5_value_12 : decode cX5_value 12 = .ok (.iload_n 1, 1) := by decide +kernel
theorem dX5_value_13 : decode cX5_value 13 = .ok (.bipush 6, 2) := by decide +kernel
theorem dX5_value_15 : decode cX5_value 15 = .ok (.imul, 1) := by decide +kernel
theorem dX5_value_16 : decode cX5_value 16 = .ok (.iload_n 2, 1) := by decide +kernel
theorem dX5_value_17 : decode cX5_value 17 = .ok (.iadd, 1) := by decide +kernel
theorem dX5_value_18 : decode cX5_value 18 = .ok (.iaload, 1) := by decide +kernel
theorem dX5_value_19 : decode cX5_value 19 = .ok (.goto 4, 3) := by decide +kernel
theorem dX5_value_22 : decode cX5_value 22 = .ok (.iconst 0, 1) := by decide +kernel
theorem dX5_value_23 : decode cX5_value 23 = .ok (.ireturn, 1) := by decide +kernel
theorem dX5_readFrom_0 : decode cX5_readFrom 0 = .ok (.aload_n 0, 1) := by decide +kernel
theorem dX5_readFrom_1 : decode cX5_readFrom 1 = .ok (.invokevirtual 16, 3) := by decide +kernel
theorem dX5_readFrom_4 : decode cX5_readFrom 4 = .ok (.aload_n 1, 1) := by decide +kernel
theorem dX5_readFrom_5 : decode cX5_readFrom 5 = .ok (.invokevirtual 27, 3) := by decide +kernel
theorem dX5_readFrom_8 : decode cX5_readFrom 8 = .ok (.iconst 0, 1) := by decide +kernel
theorem dX5_readFrom_9 : decode cX5_readFrom 9 = .ok (.istore_n 2, 1) := by decide +kernel
theorem dX5_readFrom_10 : decode cX5_readFrom 10 = .ok (.iload_n 2, 1) := by decide +kernel
theorem dX5_readFrom_11 : decode cX5_readFrom 11 = .ok (.sipush 200, 3) := by decide +kernel
theorem dX5_readFrom_14 : decode cX5_readFrom 14 = .ok (.if_icmp .gt 33, 3) := by decide +kernel
theorem dX5_readFrom_17 : decode cX5_readFrom 17 = .ok (.aload_n 1, 1) := by decide +kernel
theorem dX5_readFrom_18 : decode cX5_readFrom 18 = .ok (.invokevirtual 32, 3) := by decide +kernel
theorem dX5_readFrom_21 : decode cX5_readFrom 21 = .ok (.istore_n 3, 1) := by decide +kernel
theorem dX5_readFrom_22 : decode cX5_readFrom 22 = .ok (.iload_n 3, 1) := by decide +kernel
theorem dX5_readFrom_23 : decode cX5_readFrom 23 = .ok (.iconst (-1), 1) := by decide +kernel
theorem dX5_readFrom_24 : decode cX5_readFrom 24 = .ok (.if_icmp .ne 5, 3) := by decide +kernel
theorem dX5_readFrom_27 : decode cX5_readFrom 27 = .ok (.iload_n 2, 1) := by decide +kernel
theorem dX5_readFrom_28 : decode cX5_readFrom 28 = .ok (.ireturn, 1) := by decide +kernel
theorem dX5_readFrom_29 : decode cX5_readFrom 29 = .ok (.aload_n 0, 1) := by decide +kernel
theorem dX5_readFrom_30 : decode cX5_readFrom 30 = .ok (.aload_n 1, 1) := by decide +kernel
theorem dX5_readFrom_31 : decode cX5_readFrom 31 = .ok (.iload_n 3, 1) := by decide +kernel
theorem dX5_readFrom_32 : decode cX5_readFrom 32 = .ok (.invokevirtual 36, 3) := by decide +kernel
theorem dX5_readFrom_35 : decode cX5_readFrom 35 = .ok (.ifCond .ne 6, 3) := by decide +kernel
theorem dX5_readFrom_38 : decode cX5_readFrom 38 = .ok (.goto 9, 3) := by decide +kernel
theorem dX5_readFrom_41 : decode cX5_readFrom 41 = .ok (.iinc 2 1, 3) := by decide +kernel
theorem dX5_readFrom_44 : decode cX5_readFrom 44 = .ok (.goto (-34), 3) := by decide +kernel
theorem dX5_readFrom_47 : decode cX5_readFrom 47 = .ok (.bipush (-10), 2) := by decide +kernel
theorem dX5_readFrom_49 : decode cX5_readFrom 49 = .ok (.aload_n 1, 1) := by decide +kernel
theorem dX5_readFrom_50 : decode cX5_readFrom 50 = .ok (.invokevirtual 40, 3) := by decide +kernel
theorem dX5_readFrom_53 : decode cX5_readFrom 53 = .ok (.isub, 1) := by decide +kernel
theorem dX5_readFrom_54 : decode cX5_readFrom 54 = .ok (.ireturn, 1) := by decide +kernel
theorem dX5_readItem_0 : decode cX5_readItem 0 = .ok (.iload_n 2, 1) := by decide +kernel
theorem dX5_readItem_1 : decode cX5_readItem 1 = .ok (.ifCond .ge 7, 3) := by decide +kernel
theorem dX5_readItem_4 : decode cX5_readItem 4 = .ok (.iconst (-1), 1) := by decide +kernel
theorem dX5_readItem_5 : decode cX5_readItem 5 = .ok (.goto 10, 3) := by decide +kernel
theorem dX5_readItem_8 : decode cX5_readItem 8 = .ok (.ldc 43, 2) := by decide +kernel
theorem dX5_readItem_10 : decode cX5_readItem 10 = .ok (.iload_n 2, 1) := by decide +kernel
theorem dX5_readItem_11 : decode cX5_readItem 11 = .ok (.i2c, 1) := by decide +kernel
theorem dX5_readItem_12 : decode cX5_readItem 12 = .ok (.invokevirtual 45, 3) := by decide +kernel
theorem dX5_readItem_15 : decode cX5_readItem 15 = .ok (.istore_n 3, 1) := by decide +kernel
theorem dX5_readItem_16 : decode cX5_readItem 16 = .ok (.iload_n 3, 1) := by decide +kernel
theorem dX5_readItem_17 : decode cX5_readItem 17 = .ok (.ifCond .lt 23, 3) := by decide +kernel
theorem dX5_readItem_20 : decode cX5_readItem 20 = .ok (.iload_n 3, 1) := by decide +kernel
theorem dX5_readItem_21 : decode cX5_readItem 21 = .ok (.bipush 6, 2) := by decide +kernel
theorem dX5_readItem_23 : decode cX5_readItem 23 = .ok (.if_icmp .ge 17, 3) := by decide +kernel
theorem dX5_readItem_26 : decode cX5_readItem 26 = .ok (.aload_n 0, 1) := by decide +kernel
theorem dX5_readItem_27 : decode cX5_readItem 27 = .ok (.getfield 9, 3) := by decide +kernel
theorem dX5_readItem_30 : decode cX5_readItem 30 = .ok (.iload_n 3, 1) := by decide +kernel
theorem dX5_readItem_31 : decode cX5_readItem 31 = .ok (.iaload, 1) := by decide +kernel
theorem dX5_readItem_32 : decode cX5_readItem 32 = .ok (.getstatic 51, 3) := by decide +kernel
theorem dX5_readItem_35 : decode cX5_readItem 35 = .ok (.iload_n 3, 1) := by decide +kernel
theorem dX5_readItem_36 : decode cX5_readItem 36 = .ok (.iaload, 1) := by decide +kernel
theorem dX5_readItem_37 : decode cX5_readItem 37 = .ok (.if_icmp .lt 5, 3) := by decide +kernel
theorem dX5_readItem_40 : decode cX5_readItem 40 = .ok (.iconst 0, 1) := by decide +kernel
theorem dX5_readItem_41 : decode cX5_readItem 41 = .ok (.ireturn, 1) := by decide +kernel
theorem dX5_readItem_42 : decode cX5_readItem 42 = .ok (.aload_n 0, 1) := by decide +kernel
theorem dX5_readItem_43 : decode cX5_readItem 43 = .ok (.getfield 9, 3) := by decide +kernel
theorem dX5_readItem_46 : decode cX5_readItem 46 = .ok (.iload_n 3, 1) := by decide +kernel
theorem dX5_readItem_47 : decode cX5_readItem 47 = .ok (.iaload, 1) := by decide +kernel
theorem dX5_readItem_48 : decode cX5_readItem 48 = .ok (.istore 4, 2) := by decide +kernel
theorem dX5_readItem_50 : decode cX5_readItem 50 = .ok (.iconst 0, 1) := by decide +kernel
theorem dX5_readItem_51 : decode cX5_readItem 51 = .ok (.istore 5, 2) := by decide +kernel
theorem dX5_readItem_53 : decode cX5_readItem 53 = .ok (.iload 5, 2) := by decide +kernel
theorem dX5_readItem_55 : decode cX5_readItem 55 = .ok (.getstatic 54, 3) := by decide +kernel
theorem dX5_readItem_58 : decode cX5_readItem 58 = .ok (.iload_n 3, 1) := by decide +kernel
theorem dX5_readItem_59 : decode cX5_readItem 59 = .ok (.iaload, 1) := by decide +kernel
theorem dX5_readItem_60 : decode cX5_readItem 60 = .ok (.if_icmp .ge 41, 3) := by decide +kernel
theorem dX5_readItem_63 : decode cX5_readItem 63 = .ok (.aload_n 1, 1) := by decide +kernel
theorem dX5_readItem_64 : decode cX5_readItem 64 = .ok (.invokevirtual 32, 3) := by decide +kernel
theorem dX5_readItem_67 : decode cX5_readItem 67 = .ok (.bipush (-2), 2) := by decide +kernel
theorem dX5_readItem_69 : decode cX5_readItem 69 = .ok (.if_icmp .ne 24, 3) := by decide +kernel
theorem dX5_readItem_72 : decode cX5_readItem 72 = .ok (.aload_n 0, 1) := by decide +kernel
theorem dX5_readItem_73 : decode cX5_readItem 73 = .ok (.getstatic 57, 3) := by decide +kernel
theorem dX5_readItem_76 : decode cX5_readItem 76 = .ok (.iload_n 3, 1) := by decide +kernel
theorem dX5_readItem_77 : decode cX5_readItem 77 = .ok (.iaload, 1) := by decide +kernel
theorem dX5_readItem_78 : decode cX5_readItem 78 = .ok (.iload 5, 2) := by decide +kernel
theorem dX5_readItem_80 : decode cX5_readItem 80 = .ok (.iadd, 1) := by decide +kernel
theorem dX5_readItem_81 : decode cX5_readItem 81 = .ok (.iload 4, 2) := by decide +kernel
theorem dX5_readItem_83 : decode cX5_readItem 83 = .ok (.aload_n 1, 1) := by decide +kernel
theorem dX5_readItem_84 : decode cX5_readItem 84 = .ok (.invokevirtual 60, 3) := by decide +kernel
theorem dX5_readItem_87 : decode cX5_readItem 87 = .ok (.invokevirtual 63, 3) := by decide +kernel
theorem dX5_readItem_90 : decode cX5_readItem 90 = .ok (.ifCond .ne 5, 3) := by decide +kernel
theorem dX5_readItem_93 : decode cX5_readItem 93 = .ok (.iconst 0, 1) := by decide +kernel
theorem dX5_readItem_94 : decode cX5_readItem 94 = .ok (.ireturn, 1) := by decide +kernel
theorem dX5_readItem_95 : decode cX5_readItem 95 = .ok (.iinc 5 1, 3) := by decide +kernel
theorem dX5_readItem_98 : decode cX5_readItem 98 = .ok (.goto (-45), 3) := by decide +kernel
theorem dX5_readItem_101 : decode cX5_readItem 101 = .ok (.aload_n 0, 1) := by decide +kernel
theorem dX5_readItem_102 : decode cX5_readItem 102 = .ok (.getfield 9, 3) := by decide +kernel
theorem dX5_readItem_105 : decode cX5_readItem 105 = .ok (.iload_n 3, 1) := by decide +kernel
theorem dX5_readItem_106 : decode cX5_readItem 106 = .ok (.dup2, 1) := by decide +kernel
theorem dX5_readItem_107 : decode cX5_readItem 107 = .ok (.iaload, 1) := by decide +kernel
theorem dX5_readItem_108 : decode cX5_readItem 108 = .ok (.iconst 1, 1) := by decide +kernel
theorem dX5_readItem_109 : decode cX5_readItem 109 = .ok (.iadd, 1) := by decide +kernel
theorem dX5_readItem_110 : decode cX5_readItem 110 = .ok (.iastore, 1) := by decide +kernel
theorem dX5_readItem_111 : decode cX5_readItem 111 = .ok (.aload_n 1, 1) := by decide +kernel
theorem dX5_readItem_112 : decode cX5_readItem 112 = .ok (.invokevirtual 32, 3) := by decide +kernel
theorem dX5_readItem_115 : decode cX5_readItem 115 = .ok (.bipush 59, 2) := by decide +kernel
theorem dX5_readItem_117 : decode cX5_readItem 117 = .ok (.if_icmp .ne 7, 3) := by decide +kernel
theorem dX5_readItem_120 : decode cX5_readItem 120 = .ok (.iconst 1, 1) := by decide +kernel
theorem dX5_readItem_121 : decode cX5_readItem 121 = .ok (.goto 4, 3) := by decide +kernel
theorem dX5_readItem_124 : decode cX5_readItem 124 = .ok (.iconst 0, 1) := by decide +kernel
theorem dX5_readItem_125 : decode cX5_readItem 125 = .ok (.ireturn, 1) := by decide +kernel
theorem dX5_take_0 : decode cX5_take 0 = .ok (.iload_n 1, 1) := by decide +kernel
theorem dX5_take_1 : decode cX5_take 1 = .ok (.iload_n 2, 1) := by decide +kernel
theorem dX5_take_2 : decode cX5_take 2 = .ok (.invokestatic 23, 3) := by decide +kernel
theorem dX5_take_5 : decode cX5_take 5 = .ok (.ifCond .eq 21, 3) := by decide +kernel
theorem dX5_take_8 : decode cX5_take 8 = .ok (.iload_n 3, 1) := by decide +kernel
theorem dX5_take_9 : decode cX5_take 9 = .ok (.getstatic 67, 3) := by decide +kernel
theorem dX5_take_12 : decode cX5_take 12 = .ok (.iload_n 1, 1) := by decide +kernel
theorem dX5_take_13 : decode cX5_take 13 = .ok (.iaload, 1) := by decide +kernel
theorem dX5_take_14 : decode cX5_take 14 = .ok (.if_icmp .lt 12, 3) := by decide +kernel
theorem dX5_take_17 : decode cX5_take 17 = .ok (.iload_n 3, 1) := by decide +kernel
theorem dX5_take_18 : decode cX5_take 18 = .ok (.getstatic 70, 3) := by decide +kernel
theorem dX5_take_21 : decode cX5_take 21 = .ok (.iload_n 1, 1) := by decide +kernel
theorem dX5_take_22 : decode cX5_take 22 = .ok (.iaload, 1) := by decide +kernel
theorem dX5_take_23 : decode cX5_take 23 = .ok (.if_icmp .le 5, 3) := by decide +kernel
theorem dX5_take_26 : decode cX5_take 26 = .ok (.iconst 0, 1) := by decide +kernel
theorem dX5_take_27 : decode cX5_take 27 = .ok (.ireturn, 1) := by decide +kernel
theorem dX5_take_28 : decode cX5_take 28 = .ok (.aload_n 0, 1) := by decide +kernel
theorem dX5_take_29 : decode cX5_take 29 = .ok (.getfield 13, 3) := by decide +kernel
theorem dX5_take_32 : decode cX5_take 32 = .ok (.iload_n 1, 1) := by decide +kernel
theorem dX5_take_33 : decode cX5_take 33 = .ok (.bipush 6, 2) := by decide +kernel
theorem dX5_take_35 : decode cX5_take 35 = .ok (.imul, 1) := by decide +kernel
theorem dX5_take_36 : decode cX5_take 36 = .ok (.iload_n 2, 1) := by decide +kernel
theorem dX5_take_37 : decode cX5_take 37 = .ok (.iadd, 1) := by decide +kernel
theorem dX5_take_38 : decode cX5_take 38 = .ok (.iload_n 3, 1) := by decide +kernel
theorem dX5_take_39 : decode cX5_take 39 = .ok (.iastore, 1) := by decide +kernel
theorem dX5_take_40 : decode cX5_take 40 = .ok (.iconst 1, 1) := by decide +kernel
theorem dX5_take_41 : decode cX5_take 41 = .ok (.ireturn, 1) := by decide +kernel
theorem dX5_isPlace_0 : decode cX5_isPlace 0 = .ok (.iload_n 0, 1) := by decide +kernel
theorem dX5_isPlace_1 : decode cX5_isPlace 1 = .ok (.ifCond .lt 23, 3) := by decide +kernel
theorem dX5_isPlace_4 : decode cX5_isPlace 4 = .ok (.iload_n 0, 1) := by decide +kernel
theorem dX5_isPlace_5 : decode cX5_isPlace 5 = .ok (.bipush 9, 2) := by decide +kernel
theorem dX5_isPlace_7 : decode cX5_isPlace 7 = .ok (.if_icmp .ge 17, 3) := by decide +kernel
theorem dX5_isPlace_10 : decode cX5_isPlace 10 = .ok (.iload_n 1, 1) := by decide +kernel
theorem dX5_isPlace_11 : decode cX5_isPlace 11 = .ok (.ifCond .lt 13, 3) := by decide +kernel
theorem dX5_isPlace_14 : decode cX5_isPlace 14 = .ok (.iload_n 1, 1) := by decide +kernel
theorem dX5_isPlace_15 : decode cX5_isPlace 15 = .ok (.bipush 6, 2) := by decide +kernel
theorem dX5_isPlace_17 : decode cX5_isPlace 17 = .ok (.if_icmp .ge 7, 3) := by decide +kernel
theorem dX5_isPlace_20 : decode cX5_isPlace 20 = .ok (.iconst 1, 1) := by decide +kernel
theorem dX5_isPlace_21 : decode cX5_isPlace 21 = .ok (.goto 4, 3) := by decide +kernel
theorem dX5_isPlace_24 : decode cX5_isPlace 24 = .ok (.iconst 0, 1) := by decide +kernel
theorem dX5_isPlace_25 : decode cX5_isPlace 25 = .ok (.ireturn, 1) := by decide +kernel
theorem dX5_setAsAtFirst_0 : decode cX5_setAsAtFirst 0 = .ok (.iconst 0, 1) := by decide +kernel
theorem dX5_setAsAtFirst_1 : decode cX5_setAsAtFirst 1 = .ok (.istore_n 1, 1) := by decide +kernel
theorem dX5_setAsAtFirst_2 : decode cX5_setAsAtFirst 2 = .ok (.iload_n 1, 1) := by decide +kernel
theorem dX5_setAsAtFirst_3 : decode cX5_setAsAtFirst 3 = .ok (.bipush 6, 2) := by decide +kernel
theorem dX5_setAsAtFirst_5 : decode cX5_setAsAtFirst 5 = .ok (.if_icmp .ge 16, 3) := by decide +kernel
theorem dX5_setAsAtFirst_8 : decode cX5_setAsAtFirst 8 = .ok (.aload_n 0, 1) := by decide +kernel
theorem dX5_setAsAtFirst_9 : decode cX5_setAsAtFirst 9 = .ok (.getfield 9, 3) := by decide +kernel
theorem dX5_setAsAtFirst_12 : decode cX5_setAsAtFirst 12 = .ok (.iload_n 1, 1) := by decide +kernel
theorem dX5_setAsAtFirst_13 : decode cX5_setAsAtFirst 13 = .ok (.iconst 0, 1) := by decide +kernel
theorem dX5_setAsAtFirst_14 : decode cX5_setAsAtFirst 14 = .ok (.iastore, 1) := by decide +kernel
theorem dX5_setAsAtFirst_15 : decode cX5_setAsAtFirst 15 = .ok (.iinc 1 1, 3) := by decide +kernel
theorem dX5_setAsAtFirst_18 : decode cX5_setAsAtFirst 18 = .ok (.goto (-16), 3) := by decide +kernel
theorem dX5_setAsAtFirst_21 : decode cX5_setAsAtFirst 21 = .ok (.iconst 0, 1) := by decide +kernel
theorem dX5_setAsAtFirst_22 : decode cX5_setAsAtFirst 22 = .ok (.istore_n 1, 1) := by decide +kernel
theorem dX5_setAsAtFirst_23 : decode cX5_setAsAtFirst 23 = .ok (.iload_n 1, 1) := by decide +kernel
theorem dX5_setAsAtFirst_24 : decode cX5_setAsAtFirst 24 = .ok (.bipush 9, 2) := by decide +kernel
theorem dX5_setAsAtFirst_26 : decode cX5_setAsAtFirst 26 = .ok (.if_icmp .ge 39, 3) := by decide +kernel
theorem dX5_setAsAtFirst_29 : decode cX5_setAsAtFirst 29 = .ok (.iconst 0, 1) := by decide +kernel
theorem dX5_setAsAtFirst_30 : decode cX5_setAsAtFirst 30 = .ok (.istore_n 2, 1) := by decide +kernel
theorem dX5_setAsAtFirst_31 : decode cX5_setAsAtFirst 31 = .ok (.iload_n 2, 1) := by decide +kernel
theorem dX5_setAsAtFirst_32 : decode cX5_setAsAtFirst 32 = .ok (.bipush 6, 2) := by decide +kernel
theorem dX5_setAsAtFirst_34 : decode cX5_setAsAtFirst 34 = .ok (.if_icmp .ge 25, 3) := by decide +kernel
theorem dX5_setAsAtFirst_37 : decode cX5_setAsAtFirst 37 = .ok (.aload_n 0, 1) := by decide +kernel
theorem dX5_setAsAtFirst_38 : decode cX5_setAsAtFirst 38 = .ok (.getfield 13, 3) := by decide +kernel
theorem dX5_setAsAtFirst_41 : decode cX5_setAsAtFirst 41 = .ok (.iload_n 1, 1) := by decide +kernel
theorem dX5_setAsAtFirst_42 : decode cX5_setAsAtFirst 42 = .ok (.bipush 6, 2) := by decide +kernel
theorem dX5_setAsAtFirst_44 : decode cX5_setAsAtFirst 44 = .ok (.imul, 1) := by decide +kernel
theorem dX5_setAsAtFirst_45 : decode cX5_setAsAtFirst 45 = .ok (.iload_n 2, 1) := by decide +kernel
theorem dX5_setAsAtFirst_46 : decode cX5_setAsAtFirst 46 = .ok (.iadd, 1) := by decide +kernel
theorem dX5_setAsAtFirst_47 : decode cX5_setAsAtFirst 47 = .ok (.getstatic 73, 3) := by decide +kernel
theorem dX5_setAsAtFirst_50 : decode cX5_setAsAtFirst 50 = .ok (.iload_n 1, 1) := by decide +kernel
theorem dX5_setAsAtFirst_51 : decode cX5_setAsAtFirst 51 = .ok (.iaload, 1) := by decide +kernel
theorem dX5_setAsAtFirst_52 : decode cX5_setAsAtFirst 52 = .ok (.iastore, 1) := by decide +kernel
theorem dX5_setAsAtFirst_53 : decode cX5_setAsAtFirst 53 = .ok (.iinc 2 1, 3) := by decide +kernel
theorem dX5_setAsAtFirst_56 : decode cX5_setAsAtFirst 56 = .ok (.goto (-25), 3) := by decide +kernel
theorem dX5_setAsAtFirst_59 : decode cX5_setAsAtFirst 59 = .ok (.iinc 1 1, 3) := by decide +kernel
theorem dX5_setAsAtFirst_62 : decode cX5_setAsAtFirst 62 = .ok (.goto (-39), 3) := by decide +kernel
theorem dX5_setAsAtFirst_65 : decode cX5_setAsAtFirst 65 = .ok (.return_, 1) := by decide +kernel
end
section
theorem dX6_init_0 : decode cX6_init 0 = .ok (.aload_n 0, 1) := by decide +kernel
theorem dX6_init_1 : decode cX6_init 1 = .ok (.invokespecial 1, 3) := by decide +kernel
theorem dX6_init_4 : decode cX6_init 4 = .ok (.aload_n 0, 1) := by decide +kernel
theorem dX6_init_5 : decode cX6_init 5 = .ok (.new 7, 3) := by decide +kernel
theorem dX6_init_8 : decode cX6_init 8 = .ok (.dup, 1) := by decide +kernel
theorem dX6_init_9 : decode cX6_init 9 = .ok (.invokespecial 9, 3) := by decide +kernel
theorem dX6_init_12 : decode cX6_init 12 = .ok (.putfield 10, 3) := by decide +kernel
theorem dX6_init_15 : decode cX6_init 15 = .ok (.aload_n 0, 1) := by decide +kernel
theorem dX6_init_16 : decode cX6_init 16 = .ok (.new 16, 3) := by decide +kernel
theorem dX6_init_19 : decode cX6_init 19 = .ok (.dup, 1) := by decide +kernel
theorem dX6_init_20 : decode cX6_init 20 = .ok (.invokespecial 18, 3) := by decide +kernel
theorem dX6_init_23 : decode cX6_init 23 = .ok (.putfield 19, 3) := by decide +kernel
theorem dX6_init_26 : decode cX6_init 26 = .ok (.aload_n 0, 1) := by decide +kernel
theorem dX6_init_27 : decode cX6_init 27 = .ok (.new 16, 3) := by decide +kernel
theorem dX6_init_30 : decode cX6_init 30 = .ok (.dup, 1) := by decide +kernel
theorem dX6_init_31 : decode cX6_init 31 = .ok (.invokespecial 18, 3) := by decide +kernel
theorem dX6_init_34 : decode cX6_init 34 = .ok (.putfield 23, 3) := by decide +kernel
theorem dX6_init_37 : decode cX6_init 37 = .ok (.aload_n 0, 1) := by decide +kernel
theorem dX6_init_38 : decode cX6_init 38 = .ok (.new 26, 3) := by decide +kernel
theorem dX6_init_41 : decode cX6_init 41 = .ok (.dup, 1) := by decide +kernel
theorem dX6_init_42 : decode cX6_init 42 = .ok (.invokespecial 28, 3) := by decide +kernel
theorem dX6_init_45 : decode cX6_init 45 = .ok (.putfield 29, 3) := by decide +kernel
theorem dX6_init_48 : decode cX6_init 48 = .ok (.aload_n 0, 1) := by decide +kernel
theorem dX6_init_49 : decode cX6_init 49 = .ok (.new 33, 3) := by decide +kernel
theorem dX6_init_52 : decode cX6_init 52 = .ok (.dup, 1) := by decide +kernel
theorem dX6_init_53 : decode cX6_init 53 = .ok (.bipush 10, 2) := by decide +kernel
theorem dX6_init_55 : decode cX6_init 55 = .ok (.invokespecial 35, 3) := by decide +kernel
theorem dX6_init_58 : decode cX6_init 58 = .ok (.putfield 38, 3) := by decide +kernel
theorem dX6_init_61 : decode cX6_init 61 = .ok (.aload_n 0, 1) := by decide +kernel
theorem dX6_init_62 : decode cX6_init 62 = .ok (.new 33, 3) := by decide +kernel
theorem dX6_init_65 : decode cX6_init 65 = .ok (.dup, 1) := by decide +kernel
theorem dX6_init_66 : decode cX6_init 66 = .ok (.iconst 2, 1) := by decide +kernel
theorem dX6_init_67 : decode cX6_init 67 = .ok (.invokespecial 35, 3) := by decide +kernel
theorem dX6_init_70 : decode cX6_init 70 = .ok (.putfield 42, 3) := by decide +kernel
theorem dX6_init_73 : decode cX6_init 73 = .ok (.aload_n 0, 1) := by decide +kernel
theorem dX6_init_74 : decode cX6_init 74 = .ok (.iconst 2, 1) := by decide +kernel
theorem dX6_init_75 : decode cX6_init 75 = .ok (.newarray .boolean, 2) := by decide +kernel
theorem dX6_init_77 : decode cX6_init 77 = .ok (.putfield 45, 3) := by decide +kernel
theorem dX6_init_80 : decode cX6_init 80 = .ok (.aload_n 0, 1) := by decide +kernel
theorem dX6_init_81 : decode cX6_init 81 = .ok (.iconst 5, 1) := by decide +kernel
theorem dX6_init_82 : decode cX6_init 82 = .ok (.newarray .int, 2) := by decide +kernel
theorem dX6_init_84 : decode cX6_init 84 = .ok (.putfield 49, 3) := by decide +kernel
theorem dX6_init_87 : decode cX6_init 87 = .ok (.aload_n 0, 1) := by decide +kernel
theorem dX6_init_88 : decode cX6_init 88 = .ok (.iconst 5, 1) := by decide +kernel
theorem dX6_init_89 : decode cX6_init 89 = .ok (.newarray .int, 2) := by decide +kernel
theorem dX6_init_91 : decode cX6_init 91 = .ok (.putfield 53, 3) := by decide +kernel
theorem dX6_init_94 : decode cX6_init 94 = .ok (.aload_n 0, 1) := by decide +kernel
theorem dX6_init_95 : decode cX6_init 95 = .ok (.iconst 5, 1) := by decide +kernel
theorem dX6_init_96 : decode cX6_init 96 = .ok (.newarray .int, 2) := by decide +kernel
theorem dX6_init_98 : decode cX6_init 98 = .ok (.putfield 56, 3) := by decide +kernel
theorem dX6_init_101 : decode cX6_init 101 = .ok (.aload_n 0, 1) := by decide +kernel
theorem dX6_init_102 : decode cX6_init 102 = .ok (.new 59, 3) := by decide +kernel
theorem dX6_init_105 : decode cX6_init 105 = .ok (.dup, 1) := by decide +kernel
theorem dX6_init_106 : decode cX6_init 106 = .ok (.invokespecial 61, 3) := by decide +kernel
theorem dX6_init_109 : decode cX6_init 109 = .ok (.putfield 62, 3) := by decide +kernel
theorem dX6_init_112 : decode cX6_init 112 = .ok (.aload_n 0, 1) := by decide +kernel
theorem dX6_init_113 : decode cX6_init 113 = .ok (.new 66, 3) := by decide +kernel
theorem dX6_init_116 : decode cX6_init 116 = .ok (.dup, 1) := by decide +kernel
theorem dX6_init_117 : decode cX6_init 117 = .ok (.invokespecial 68, 3) := by decide +kernel
theorem dX6_init_120 : decode cX6_init 120 = .ok (.putfield 69, 3) := by decide +kernel
theorem dX6_init_123 : decode cX6_init 123 = .ok (.aload_n 0, 1) := by decide +kernel
theorem dX6_init_124 : decode cX6_init 124 = .ok (.invokevirtual 73, 3) := by decide +kernel
theorem dX6_init_127 : decode cX6_init 127 = .ok (.return_, 1) := by decide +kernel
theorem dX6_type_0 : decode cX6_type 0 = .ok (.iload_n 1, 1) := by decide +kernel
theorem dX6_type_1 : decode cX6_type 1 = .ok (.ifCond .lt 10, 3) := by decide +kernel
theorem dX6_type_4 : decode cX6_type 4 = .ok (.iload_n 1, 1) := by decide +kernel
theorem dX6_type_5 : decode cX6_type 5 = .ok (.sipush 255, 3) := by decide +kernel
theorem dX6_type_8 : decode cX6_type 8 = .ok (.if_icmp .le 5, 3) := by decide +kernel
theorem dX6_type_11 : decode cX6_type 11 = .ok (.iconst (-1), 1) := by decide +kernel
theorem dX6_type_12 : decode cX6_type 12 = .ok (.ireturn, 1) := by decide +kernel
theorem dX6_type_13 : decode cX6_type 13 = .ok (.aload_n 0, 1) := by decide +kernel
theorem dX6_type_14 : decode cX6_type 14 = .ok (.getfield 10, 3) := by decide +kernel
theorem dX6_type_17 : decode cX6_type 17 = .ok (.iload_n 1, 1) := by decide +kernel
theorem dX6_type_18 : decode cX6_type 18 = .ok (.i2c, 1) := by decide +kernel
theorem dX6_type_19 : decode cX6_type 19 = .ok (.invokevirtual 76, 3) := by decide +kernel
theorem dX6_type_22 : decode cX6_type 22 = .ok (.ifCond .eq 13, 3) := by decide +kernel
theorem dX6_type_25 : decode cX6_type 25 = .ok (.aload_n 0, 1) := by decide +kernel
theorem dX6_type_26 : decode cX6_type 26 = .ok (.getfield 10, 3) := by decide +kernel
theorem dX6_type_29 : decode cX6_type 29 = .ok (.invokevirtual 80, 3) := by decide +kernel
theorem dX6_type_32 : decode cX6_type 32 = .ok (.goto 5, 3) := by decide +kernel
theorem dX6_type_35 : decode cX6_type 35 = .ok (.bipush (-3), 2) := by decide +kernel
theorem dX6_type_37 : decode cX6_type 37 = .ok (.ireturn, 1) := by decide +kernel
theorem dX6_clear_0 : decode cX6_clear 0 = .ok (.aload_n 0, 1) := by decide +kernel
theorem dX6_clear_1 : decode cX6_clear 1 = .ok (.getfield 10, 3) := by decide +kernel
theorem dX6_clear_4 : decode cX6_clear 4 = .ok (.invokevirtual 80, 3) := by decide +kernel
theorem dX6_clear_7 : decode cX6_clear 7 = .ok (.istore_n 1, 1) := by decide +kernel
theorem dX6_clear_8 : decode cX6_clear 8 = .ok (.aload_n 0, 1) := by decide +kernel
theorem dX6_clear_9 : decode cX6_clear 9 = .ok (.getfield 10, 3) := by decide +kernel
theorem dX6_clear_12 : decode cX6_clear 12 = .ok (.invokevirtual 84, 3) := by decide +kernel
theorem dX6_clear_15 : decode cX6_clear 15 = .ok (.iload_n 1, 1) := by decide +kernel
theorem dX6_clear_16 : decode cX6_clear 16 = .ok (.ireturn, 1) := by decide +kernel
theorem dX6_yard_0 : decode cX6_yard 0 = .ok (.aload_n 0, 1) := by decide +kernel
theorem dX6_yard_1 : decode cX6_yard 1 = .ok (.getfield 23, 3) := by decide +kernel
theorem dX6_yard_4 : decode cX6_yard 4 = .ok (.aload_n 0, 1) := by decide +kernel
theorem dX6_yard_5 : decode cX6_yard 5 = .ok (.getfield 10, 3) := by decide +kernel
theorem dX6_yard_8 : decode cX6_yard 8 = .ok (.invokevirtual 87, 3) := by decide +kernel
theorem dX6_yard_11 : decode cX6_yard 11 = .ok (.istore_n 1, 1) := by decide +kernel
theorem dX6_yard_12 : decode cX6_yard 12 = .ok (.iload_n 1, 1) := by decide +kernel
theorem dX6_yard_13 : decode cX6_yard 13 = .ok (.ifCond .ge 5, 3) := by decide +kernel
theorem dX6_yard_16 : decode cX6_yard 16 = .ok (.iload_n 1, 1) := by decide +kernel
theorem dX6_yard_17 : decode cX6_yard 17 = .ok (.ireturn, 1) := by decide +kernel
theorem dX6_yard_18 : decode cX6_yard 18 = .ok (.aload_n 0, 1) := by decide +kernel
theorem dX6_yard_19 : decode cX6_yard 19 = .ok (.getfield 19, 3) := by decide +kernel
theorem dX6_yard_22 : decode cX6_yard 22 = .ok (.astore_n 2, 1) := by decide +kernel
theorem dX6_yard_23 : decode cX6_yard 23 = .ok (.aload_n 0, 1) := by decide +kernel
theorem dX6_yard_24 : decode cX6_yard 24 = .ok (.aload_n 0, 1) := by decide +kernel
theorem dX6_yard_25 : decode cX6_yard 25 = .ok (.getfield 23, 3) := by decide +kernel
theorem dX6_yard_28 : decode cX6_yard 28 = .ok (.putfield 19, 3) := by decide +kernel
theorem dX6_yard_31 : decode cX6_yard 31 = .ok (.aload_n 0, 1) := by decide +kernel
theorem dX6_yard_32 : decode cX6_yard 32 = .ok (.aload_n 2, 1) := by decide +kernel
theorem dX6_yard_33 : decode cX6_yard 33 = .ok (.putfield 23, 3) := by decide +kernel
theorem dX6_yard_36 : decode cX6_yard 36 = .ok (.aload_n 0, 1) := by decide +kernel
theorem dX6_yard_37 : decode cX6_yard 37 = .ok (.getfield 10, 3) := by decide +kernel
theorem dX6_yard_40 : decode cX6_yard 40 = .ok (.invokevirtual 84, 3) := by decide +kernel
theorem dX6_yard_43 : decode cX6_yard 43 = .ok (.aload_n 0, 1) := by decide +kernel
theorem dX6_yard_44 : decode cX6_yard 44 = .ok (.invokevirtual 73, 3) := by decide +kernel
theorem dX6_yard_47 : decode cX6_yard 47 = .ok (.iload_n 1, 1) := by decide +kernel
theorem dX6_yard_48 : decode cX6_yard 48 = .ok (.ireturn, 1) := by decide +kernel
theorem dX6_part_0 : decode cX6_part 0 = .ok (.aload_n 0, 1) := by decide +kernel
theorem dX6_part_1 : decode cX6_part 1 = .ok (.iload_n 1, 1) := by decide +kernel
theorem dX6_part_2 : decode cX6_part 2 = .ok (.invokevirtual 91, 3) := by decide +kernel
theorem dX6_part_5 : decode cX6_part 5 = .ok (.ifCond .ne 5, 3) := by decide +kernel
theorem dX6_part_8 : decode cX6_part 8 = .ok (.iconst (-1), 1) := by decide +kernel
theorem dX6_part_9 : decode cX6_part 9 = .ok (.ireturn, 1) := by decide +kernel
theorem dX6_part_10 : decode cX6_part 10 = .ok (.iload_n 2, 1) := by decide +kernel
theorem dX6_part_11 : decode cX6_part 11 = .ok (.tableswitch 50 0 2 #[25, 35, 44], 25) := by decide +kernel
theorem dX6_part_36 : decode cX6_part 36 = .ok (.aload_n 0, 1) := by decide +kernel
theorem dX6_part_37 : decode cX6_part 37 = .ok (.getfield 19, 3) := by decide +kernel
theorem dX6_part_40 : decode cX6_part 40 = .ok (.iconst 0, 1) := by decide +kernel
theorem dX6_part_41 : decode cX6_part 41 = .ok (.iload_n 1, 1) := by decide +kernel
theorem dX6_part_42 : decode cX6_part 42 = .ok (.invokevirtual 95, 3) := by decide +kernel
theorem dX6_part_45 : decode cX6_part 45 = .ok (.ireturn, 1) := by decide +kernel
theorem dX6_part_46 : decode cX6_part 46 = .ok (.aload_n 0, 1) := by decide +kernel
theorem dX6_part_47 : decode cX6_part 47 = .ok (.getfield 29, 3) := by decide +kernel
theorem dX6_part_50 : decode cX6_part 50 = .ok (.iload_n 1, 1) := by decide +kernel
theorem dX6_part_51 : decode cX6_part 51 = .ok (.invokevirtual 99, 3) := by decide +kernel
theorem dX6_part_54 : decode cX6_part 54 = .ok (.ireturn, 1) := by decide +kernel
theorem dX6_part_55 : decode cX6_part 55 = .ok (.aload_n 0, 1) := by decide +kernel
theorem dX6_part_56 : decode cX6_part 56 = .ok (.iload_n 1, 1) := by decide +kernel
theorem dX6_part_57 : decode cX6_part 57 = .ok (.invokevirtual 103, 3) := by decide +kernel
theorem dX6_part_60 : decode cX6_part 60 = .ok (.ireturn, 1) := by decide +kernel
theorem dX6_part_61 : decode cX6_part 61 = .ok (.iconst (-1), 1) := by decide +kernel
theorem dX6_part_62 : decode cX6_part 62 = .ok (.ireturn, 1) := by decide +kernel
theorem dX6_order_0 : decode cX6_order 0 = .ok (.aload_n 0, 1) := by decide +kernel
theorem dX6_order_1 : decode cX6_order 1 = .ok (.iload_n 1, 1) := by decide +kernel
theorem dX6_order_2 : decode cX6_order 2 = .ok (.invokevirtual 106, 3) := by decide +kernel
theorem dX6_order_5 : decode cX6_order 5 = .ok (.ifCond .ne 5, 3) := by decide +kernel
theorem dX6_order_8 : decode cX6_order 8 = .ok (.iconst (-1), 1) := by decide +kernel
theorem dX6_order_9 : decode cX6_order 9 = .ok (.ireturn, 1) := by decide +kernel
theorem dX6_order_10 : decode cX6_order 10 = .ok (.iload_n 2, 1) := by decide +kernel
theorem dX6_order_11 : decode cX6_order 11 = .ok (.tableswitch 76 0 3 #[29, 39, 49, 59], 29) := by decide +kernel
theorem dX6_order_40 : decode cX6_order 40 = .ok (.aload_n 0, 1) := by decide +kernel
theorem dX6_order_41 : decode cX6_order 41 = .ok (.getfield 19, 3) := by decide +kernel
theorem dX6_order_44 : decode cX6_order 44 = .ok (.iconst 2, 1) := by decide +kernel
theorem dX6_order_45 : decode cX6_order 45 = .ok (.iload_n 1, 1) := by decide +kernel
theorem dX6_order_46 : decode cX6_order 46 = .ok (.invokevirtual 95, 3) := by decide +kernel
theorem dX6_order_49 : decode cX6_order 49 = .ok (.ireturn, 1) := by decide +kernel
theorem dX6_order_50 : decode cX6_order 50 = .ok (.aload_n 0, 1) := by decide +kernel
theorem dX6_order_51 : decode cX6_order 51 = .ok (.getfield 19, 3) := by decide +kernel
theorem dX6_order_54 : decode cX6_order 54 = .ok (.iconst 3, 1) := by decide +kernel
theorem dX6_order_55 : decode cX6_order 55 = .ok (.iload_n 1, 1) := by decide +kernel
theorem dX6_order_56 : decode cX6_order 56 = .ok (.invokevirtual 95, 3) := by decide +kernel
theorem dX6_order_59 : decode cX6_order 59 = .ok (.ireturn, 1) := by decide +kernel
theorem dX6_order_60 : decode cX6_order 60 = .ok (.aload_n 0, 1) := by decide +kernel
theorem dX6_order_61 : decode cX6_order 61 = .ok (.getfield 19, 3) := by decide +kernel
theorem dX6_order_64 : decode cX6_order 64 = .ok (.iconst 4, 1) := by decide +kernel
theorem dX6_order_65 : decode cX6_order 65 = .ok (.iload_n 1, 1) := by decide +kernel
theorem dX6_order_66 : decode cX6_order 66 = .ok (.invokevirtual 95, 3) := by decide +kernel
theorem dX6_order_69 : decode cX6_order 69 = .ok (.ireturn, 1) := by decide +kernel
theorem dX6_order_70 : decode cX6_order 70 = .ok (.aload_n 0, 1) := by decide +kernel
theorem dX6_order_71 : decode cX6_order 71 = .ok (.getfield 29, 3) := by decide +kernel
theorem dX6_order_74 : decode cX6_order 74 = .ok (.iload_n 1, 1) := by decide +kernel
theorem dX6_order_75 : decode cX6_order 75 = .ok (.invokevirtual 109, 3) := by decide +kernel
theorem dX6_order_78 : decode cX6_order 78 = .ok (.ifCond .eq 7, 3) := by decide +kernel
theorem dX6_order_81 : decode cX6_order 81 = .ok (.iconst 1, 1) := by decide +kernel
theorem dX6_order_82 : decode cX6_order 82 = .ok (.goto 4, 3) := by decide +kernel
theorem dX6_order_85 : decode cX6_order 85 = .ok (.iconst 0, 1) := by decide +kernel
theorem dX6_order_86 : decode cX6_order 86 = .ok (.ireturn, 1) := by decide +kernel
theorem dX6_order_87 : decode cX6_order 87 = .ok (.iconst (-1), 1) := by decide +kernel
theorem dX6_order_88 : decode cX6_order 88 = .ok (.ireturn, 1) := by decide +kernel
theorem dX6_side_0 : decode cX6_side 0 = .ok (.iload_n 1, 1) := by decide +kernel
theorem dX6_side_1 : decode cX6_side 1 = .ok (.invokestatic 112, 3) := by decide +kernel
theorem dX6_side_4 : decode cX6_side 4 = .ok (.ifCond .eq 17, 3) := by decide +kernel
theorem dX6_side_7 : decode cX6_side 7 = .ok (.aload_n 0, 1) := by decide +kernel
theorem dX6_side_8 : decode cX6_side 8 = .ok (.getfield 29, 3) := by decide +kernel
theorem dX6_side_11 : decode cX6_side 11 = .ok (.getfield 115, 3) := by decide +kernel
theorem dX6_side_14 : decode cX6_side 14 = .ok (.iload_n 1, 1) := by decide +kernel
theorem dX6_side_15 : decode cX6_side 15 = .ok (.invokevirtual 118, 3) := by decide +kernel
theorem dX6_side_18 : decode cX6_side 18 = .ok (.goto 4, 3) := by decide +kernel
theorem dX6_side_21 : decode cX6_side 21 = .ok (.iconst (-1), 1) := by decide +kernel
theorem dX6_side_22 : decode cX6_side 22 = .ok (.ireturn, 1) := by decide +kernel
theorem dX6_now_0 : decode cX6_now 0 = .ok (.iload_n 1, 1) := by decide +kernel
theorem dX6_now_1 : decode cX6_now 1 = .ok (.tableswitch 111 0 7 #[47, 55, 63, 71, 79, 87, 95, 106], 47) := by decide +kernel
theorem dX6_now_48 : decode cX6_now 48 = .ok (.aload_n 0, 1) := by decide +kernel
theorem dX6_now_49 : decode cX6_now 49 = .ok (.getfield 29, 3) := by decide +kernel
theorem dX6_now_52 : decode cX6_now 52 = .ok (.getfield 121, 3) := by decide +kernel
theorem dX6_now_55 : decode cX6_now 55 = .ok (.ireturn, 1) := by decide +kernel
theorem dX6_now_56 : decode cX6_now 56 = .ok (.aload_n 0, 1) := by decide +kernel
theorem dX6_now_57 : decode cX6_now 57 = .ok (.getfield 29, 3) := by decide +kernel
theorem dX6_now_60 : decode cX6_now 60 = .ok (.getfield 125, 3) := by decide +kernel
theorem dX6_now_63 : decode cX6_now 63 = .ok (.ireturn, 1) := by decide +kernel
theorem dX6_now_64 : decode cX6_now 64 = .ok (.aload_n 0, 1) := by decide +kernel
theorem dX6_now_65 : decode cX6_now 65 = .ok (.getfield 29, 3) := by decide +kernel
theorem dX6_now_68 : decode cX6_now 68 = .ok (.getfield 128, 3) := by decide +kernel
theorem dX6_now_71 : decode cX6_now 71 = .ok (.ireturn, 1) := by decide +kernel
theorem dX6_now_72 : decode cX6_now 72 = .ok (.aload_n 0, 1) := by decide +kernel
theorem dX6_now_73 : decode cX6_now 73 = .ok (.getfield 29, 3) := by decide +kernel
theorem dX6_now_76 : decode cX6_now 76 = .ok (.getfield 131, 3) := by decide +kernel
theorem dX6_now_79 : decode cX6_now 79 = .ok (.ireturn, 1) := by decide +kernel
theorem dX6_now_80 : decode cX6_now 80 = .ok (.aload_n 0, 1) := by decide +kernel
theorem dX6_now_81 : decode cX6_now 81 = .ok (.getfield 29, 3) := by decide +kernel
theorem dX6_now_84 : decode cX6_now 84 = .ok (.getfield 134, 3) := by decide +kernel
theorem dX6_now_87 : decode cX6_now 87 = .ok (.ireturn, 1) := by decide +kernel
theorem dX6_now_88 : decode cX6_now 88 = .ok (.aload_n 0, 1) := by decide +kernel
theorem dX6_now_89 : decode cX6_now 89 = .ok (.getfield 29, 3) := by decide +kernel
theorem dX6_now_92 : decode cX6_now 92 = .ok (.getfield 137, 3) := by decide +kernel
theorem dX6_now_95 : decode cX6_now 95 = .ok (.ireturn, 1) := by decide +kernel
theorem dX6_now_96 : decode cX6_now 96 = .ok (.aload_n 0, 1) := by decide +kernel
theorem dX6_now_97 : decode cX6_now 97 = .ok (.getfield 29, 3) := by decide +kernel
theorem dX6_now_100 : decode cX6_now 100 = .ok (.getfield 115, 3) := by decide +kernel
theorem dX6_now_103 : decode cX6_now 103 = .ok (.getfield 140, 3) := by decide +kernel
theorem dX6_now_106 : decode cX6_now 106 = .ok (.ireturn, 1) := by decide +kernel
theorem dX6_now_107 : decode cX6_now 107 = .ok (.aload_n 0, 1) := by decide +kernel
theorem dX6_now_108 : decode cX6_now 108 = .ok (.getfield 143, 3) := by decide +kernel
theorem dX6_now_111 : decode cX6_now 111 = .ok (.ireturn, 1) := by decide +kernel
theorem dX6_now_112 : decode cX6_now 112 = .ok (.iconst (-1), 1) := by decide +kernel
theorem dX6_now_113 : decode cX6_now 113 = .ok (.ireturn, 1) := by decide +kernel
theorem dX6_cuts_0 : decode cX6_cuts 0 = .ok (.aload_n 0, 1) := by decide +kernel
theorem dX6_cuts_1 : decode cX6_cuts 1 = .ok (.iload_n 1, 1) := by decide +kernel
theorem dX6_cuts_2 : decode cX6_cuts 2 = .ok (.invokevirtual 91, 3) := by decide +kernel
theorem dX6_cuts_5 : decode cX6_cuts 5 = .ok (.ifCond .ne 5, 3) := by decide +kernel
theorem dX6_cuts_8 : decode cX6_cuts 8 = .ok (.iconst (-1), 1) := by decide +kernel
theorem dX6_cuts_9 : decode cX6_cuts 9 = .ok (.ireturn, 1) := by decide +kernel
theorem dX6_cuts_10 : decode cX6_cuts 10 = .ok (.aload_n 0, 1) := by decide +kernel
theorem dX6_cuts_11 : decode cX6_cuts 11 = .ok (.invokevirtual 146, 3) := by decide +kernel
theorem dX6_cuts_14 : decode cX6_cuts 14 = .ok (.aload_n 0, 1) := by decide +kernel
theorem dX6_cuts_15 : decode cX6_cuts 15 = .ok (.iload_n 1, 1) := by decide +kernel
theorem dX6_cuts_16 : decode cX6_cuts 16 = .ok (.invokevirtual 103, 3) := by decide +kernel
theorem dX6_cuts_19 : decode cX6_cuts 19 = .ok (.istore_n 2, 1) := by decide +kernel
theorem dX6_cuts_20 : decode cX6_cuts 20 = .ok (.aload_n 0, 1) := by decide +kernel
theorem dX6_cuts_21 : decode cX6_cuts 21 = .ok (.getfield 29, 3) := by decide +kernel
theorem dX6_cuts_24 : decode cX6_cuts 24 = .ok (.dup, 1) := by decide +kernel
theorem dX6_cuts_25 : decode cX6_cuts 25 = .ok (.getfield 128, 3) := by decide +kernel
theorem dX6_cuts_28 : decode cX6_cuts 28 = .ok (.iload_n 2, 1) := by decide +kernel
theorem dX6_cuts_29 : decode cX6_cuts 29 = .ok (.iadd, 1) := by decide +kernel
theorem dX6_cuts_30 : decode cX6_cuts 30 = .ok (.putfield 128, 3) := by decide +kernel
theorem dX6_cuts_33 : decode cX6_cuts 33 = .ok (.aload_n 0, 1) := by decide +kernel
theorem dX6_cuts_34 : decode cX6_cuts 34 = .ok (.getfield 29, 3) := by decide +kernel
theorem dX6_cuts_37 : decode cX6_cuts 37 = .ok (.iload_n 1, 1) := by decide +kernel
theorem dX6_cuts_38 : decode cX6_cuts 38 = .ok (.invokevirtual 149, 3) := by decide +kernel
theorem dX6_cuts_41 : decode cX6_cuts 41 = .ok (.iload_n 2, 1) := by decide +kernel
theorem dX6_cuts_42 : decode cX6_cuts 42 = .ok (.ireturn, 1) := by decide +kernel
theorem dX6_year_0 : decode cX6_year 0 = .ok (.aload_n 0, 1) := by decide +kernel
theorem dX6_year_1 : decode cX6_year 1 = .ok (.getfield 29, 3) := by decide +kernel
theorem dX6_year_4 : decode cX6_year 4 = .ok (.getfield 125, 3) := by decide +kernel
theorem dX6_year_7 : decode cX6_year 7 = .ok (.sipush 999, 3) := by decide +kernel
theorem dX6_year_10 : decode cX6_year 10 = .ok (.if_icmp .lt 6, 3) := by decide +kernel
theorem dX6_year_13 : decode cX6_year 13 = .ok (.bipush (-2), 2) := by decide +kernel
theorem dX6_year_15 : decode cX6_year 15 = .ok (.ireturn, 1) := by decide +kernel
theorem dX6_year_16 : decode cX6_year 16 = .ok (.aload_n 0, 1) := by decide +kernel
theorem dX6_year_17 : decode cX6_year 17 = .ok (.invokevirtual 146, 3) := by decide +kernel
theorem dX6_year_20 : decode cX6_year 20 = .ok (.aload_n 0, 1) := by decide +kernel
theorem dX6_year_21 : decode cX6_year 21 = .ok (.getfield 29, 3) := by decide +kernel
theorem dX6_year_24 : decode cX6_year 24 = .ok (.dup, 1) := by decide +kernel
theorem dX6_year_25 : decode cX6_year 25 = .ok (.getfield 125, 3) := by decide +kernel
theorem dX6_year_28 : decode cX6_year 28 = .ok (.iconst 1, 1) := by decide +kernel
theorem dX6_year_29 : decode cX6_year 29 = .ok (.iadd, 1) := by decide +kernel
theorem dX6_year_30 : decode cX6_year 30 = .ok (.putfield 125, 3) := by decide +kernel
theorem dX6_year_33 : decode cX6_year 33 = .ok (.aload_n 0, 1) := by decide +kernel
theorem dX6_year_34 : decode cX6_year 34 = .ok (.getfield 29, 3) := by decide +kernel
theorem dX6_year_37 : decode cX6_year 37 = .ok (.invokevirtual 152, 3) := by decide +kernel
theorem dX6_year_40 : decode cX6_year 40 = .ok (.aload_n 0, 1) := by decide +kernel
theorem dX6_year_41 : decode cX6_year 41 = .ok (.getfield 29, 3) := by decide +kernel
theorem dX6_year_44 : decode cX6_year 44 = .ok (.getfield 125, 3) := by decide +kernel
theorem dX6_year_47 : decode cX6_year 47 = .ok (.ireturn, 1) := by decide +kernel
theorem dX6_binds_0 : decode cX6_binds 0 = .ok (.iload_n 1, 1) := by decide +kernel
theorem dX6_binds_1 : decode cX6_binds 1 = .ok (.iconst 1, 1) := by decide +kernel
theorem dX6_binds_2 : decode cX6_binds 2 = .ok (.if_icmp .lt 9, 3) := by decide +kernel
theorem dX6_binds_5 : decode cX6_binds 5 = .ok (.iload_n 1, 1) := by decide +kernel
theorem dX6_binds_6 : decode cX6_binds 6 = .ok (.bipush 99, 2) := by decide +kernel
theorem dX6_binds_8 : decode cX6_binds 8 = .ok (.if_icmp .le 5, 3) := by decide +kernel
theorem dX6_binds_11 : decode cX6_binds 11 = .ok (.iconst (-1), 1) := by decide +kernel
theorem dX6_binds_12 : decode cX6_binds 12 = .ok (.ireturn, 1) := by decide +kernel
theorem dX6_binds_13 : decode cX6_binds 13 = .ok (.iload_n 1, 1) := by decide +kernel
theorem dX6_binds_14 : decode cX6_binds 14 = .ok (.aload_n 0, 1) := by decide +kernel
theorem dX6_binds_15 : decode cX6_binds 15 = .ok (.getfield 19, 3) := by decide +kernel
theorem dX6_binds_18 : decode cX6_binds 18 = .ok (.invokevirtual 155, 3) := by decide +kernel
theorem dX6_binds_21 : decode cX6_binds 21 = .ok (.imul, 1) := by decide +kernel
theorem dX6_binds_22 : decode cX6_binds 22 = .ok (.istore_n 2, 1) := by decide +kernel
theorem dX6_binds_23 : decode cX6_binds 23 = .ok (.aload_n 0, 1) := by decide +kernel
theorem dX6_binds_24 : decode cX6_binds 24 = .ok (.getfield 29, 3) := by decide +kernel
theorem dX6_binds_27 : decode cX6_binds 27 = .ok (.getfield 121, 3) := by decide +kernel
theorem dX6_binds_30 : decode cX6_binds 30 = .ok (.iload_n 1, 1) := by decide +kernel
theorem dX6_binds_31 : decode cX6_binds 31 = .ok (.aload_n 0, 1) := by decide +kernel
theorem dX6_binds_32 : decode cX6_binds 32 = .ok (.getfield 19, 3) := by decide +kernel
theorem dX6_binds_35 : decode cX6_binds 35 = .ok (.invokevirtual 158, 3) := by decide +kernel
theorem dX6_binds_38 : decode cX6_binds 38 = .ok (.invokestatic 161, 3) := by decide +kernel
theorem dX6_binds_41 : decode cX6_binds 41 = .ok (.iadd, 1) := by decide +kernel
theorem dX6_binds_42 : decode cX6_binds 42 = .ok (.istore_n 3, 1) := by decide +kernel
theorem dX6_binds_43 : decode cX6_binds 43 = .ok (.iload_n 2, 1) := by decide +kernel
theorem dX6_binds_44 : decode cX6_binds 44 = .ok (.aload_n 0, 1) := by decide +kernel
theorem dX6_binds_45 : decode cX6_binds 45 = .ok (.getfield 29, 3) := by decide +kernel
theorem dX6_binds_48 : decode cX6_binds 48 = .ok (.getfield 128, 3) := by decide +kernel
theorem dX6_binds_51 : decode cX6_binds 51 = .ok (.if_icmp .gt 10, 3) := by decide +kernel
theorem dX6_binds_54 : decode cX6_binds 54 = .ok (.iload_n 3, 1) := by decide +kernel
theorem dX6_binds_55 : decode cX6_binds 55 = .ok (.sipush 9999, 3) := by decide +kernel
theorem dX6_binds_58 : decode cX6_binds 58 = .ok (.if_icmp .le 6, 3) := by decide +kernel
theorem dX6_binds_61 : decode cX6_binds 61 = .ok (.bipush (-2), 2) := by decide +kernel
theorem dX6_binds_63 : decode cX6_binds 63 = .ok (.ireturn, 1) := by decide +kernel
theorem dX6_binds_64 : decode cX6_binds 64 = .ok (.aload_n 0, 1) := by decide +kernel
theorem dX6_binds_65 : decode cX6_binds 65 = .ok (.invokevirtual 146, 3) := by decide +kernel
theorem dX6_binds_68 : decode cX6_binds 68 = .ok (.aload_n 0, 1) := by decide +kernel
theorem dX6_binds_69 : decode cX6_binds 69 = .ok (.getfield 29, 3) := by decide +kernel
theorem dX6_binds_72 : decode cX6_binds 72 = .ok (.dup, 1) := by decide +kernel
theorem dX6_binds_73 : decode cX6_binds 73 = .ok (.getfield 128, 3) := by decide +kernel
theorem dX6_binds_76 : decode cX6_binds 76 = .ok (.iload_n 2, 1) := by decide +kernel
theorem dX6_binds_77 : decode cX6_binds 77 = .ok (.isub, 1) := by decide +kernel
theorem dX6_binds_78 : decode cX6_binds 78 = .ok (.putfield 128, 3) := by decide +kernel
theorem dX6_binds_81 : decode cX6_binds 81 = .ok (.aload_n 0, 1) := by decide +kernel
theorem dX6_binds_82 : decode cX6_binds 82 = .ok (.getfield 29, 3) := by decide +kernel
theorem dX6_binds_85 : decode cX6_binds 85 = .ok (.dup, 1) := by decide +kernel
theorem dX6_binds_86 : decode cX6_binds 86 = .ok (.getfield 131, 3) := by decide +kernel
theorem dX6_binds_89 : decode cX6_binds 89 = .ok (.iload_n 1, 1) := by decide +kernel
theorem dX6_binds_90 : decode cX6_binds 90 = .ok (.iadd, 1) := by decide +kernel
theorem dX6_binds_91 : decode cX6_binds 91 = .ok (.putfield 131, 3) := by decide +kernel
theorem dX6_binds_94 : decode cX6_binds 94 = .ok (.aload_n 0, 1) := by decide +kernel
theorem dX6_binds_95 : decode cX6_binds 95 = .ok (.getfield 29, 3) := by decide +kernel
theorem dX6_binds_98 : decode cX6_binds 98 = .ok (.iload_n 3, 1) := by decide +kernel
theorem dX6_binds_99 : decode cX6_binds 99 = .ok (.putfield 121, 3) := by decide +kernel
theorem dX6_binds_102 : decode cX6_binds 102 = .ok (.iload_n 3, 1) := by decide +kernel
theorem dX6_binds_103 : decode cX6_binds 103 = .ok (.ireturn, 1) := by decide +kernel
theorem dX6_sends_0 : decode cX6_sends 0 = .ok (.aload_n 0, 1) := by decide +kernel
theorem dX6_sends_1 : decode cX6_sends 1 = .ok (.iload_n 1, 1) := by decide +kernel
theorem dX6_sends_2 : decode cX6_sends 2 = .ok (.invokevirtual 106, 3) := by decide +kernel
theorem dX6_sends_5 : decode cX6_sends 5 = .ok (.ifCond .ne 5, 3) := by decide +kernel
theorem dX6_sends_8 : decode cX6_sends 8 = .ok (.iconst (-1), 1) := by decide +kernel
theorem dX6_sends_9 : decode cX6_sends 9 = .ok (.ireturn, 1) := by decide +kernel
theorem dX6_sends_10 : decode cX6_sends 10 = .ok (.aload_n 0, 1) := by decide +kernel
theorem dX6_sends_11 : decode cX6_sends 11 = .ok (.getfield 19, 3) := by decide +kernel
theorem dX6_sends_14 : decode cX6_sends 14 = .ok (.iconst 3, 1) := by decide +kernel
theorem dX6_sends_15 : decode cX6_sends 15 = .ok (.iload_n 1, 1) := by decide +kernel
theorem dX6_sends_16 : decode cX6_sends 16 = .ok (.invokevirtual 95, 3) := by decide +kernel
theorem dX6_sends_19 : decode cX6_sends 19 = .ok (.istore_n 2, 1) := by decide +kernel
theorem dX6_sends_20 : decode cX6_sends 20 = .ok (.aload_n 0, 1) := by decide +kernel
theorem dX6_sends_21 : decode cX6_sends 21 = .ok (.getfield 29, 3) := by decide +kernel
theorem dX6_sends_24 : decode cX6_sends 24 = .ok (.iload_n 1, 1) := by decide +kernel
theorem dX6_sends_25 : decode cX6_sends 25 = .ok (.invokevirtual 109, 3) := by decide +kernel
theorem dX6_sends_28 : decode cX6_sends 28 = .ok (.ifCond .ne 22, 3) := by decide +kernel
theorem dX6_sends_31 : decode cX6_sends 31 = .ok (.iload_n 2, 1) := by decide +kernel
theorem dX6_sends_32 : decode cX6_sends 32 = .ok (.aload_n 0, 1) := by decide +kernel
theorem dX6_sends_33 : decode cX6_sends 33 = .ok (.getfield 29, 3) := by decide +kernel
theorem dX6_sends_36 : decode cX6_sends 36 = .ok (.getfield 131, 3) := by decide +kernel
theorem dX6_sends_39 : decode cX6_sends 39 = .ok (.if_icmp .gt 11, 3) := by decide +kernel
theorem dX6_sends_42 : decode cX6_sends 42 = .ok (.aload_n 0, 1) := by decide +kernel
theorem dX6_sends_43 : decode cX6_sends 43 = .ok (.iload_n 1, 1) := by decide +kernel
theorem dX6_sends_44 : decode cX6_sends 44 = .ok (.invokevirtual 164, 3) := by decide +kernel
theorem dX6_sends_47 : decode cX6_sends 47 = .ok (.ifCond .eq 6, 3) := by decide +kernel
theorem dX6_sends_50 : decode cX6_sends 50 = .ok (.bipush (-2), 2) := by decide +kernel
theorem dX6_sends_52 : decode cX6_sends 52 = .ok (.ireturn, 1) := by decide +kernel
theorem dX6_sends_53 : decode cX6_sends 53 = .ok (.aload_n 0, 1) := by decide +kernel
theorem dX6_sends_54 : decode cX6_sends 54 = .ok (.invokevirtual 146, 3) := by decide +kernel
theorem dX6_sends_57 : decode cX6_sends 57 = .ok (.aload_n 0, 1) := by decide +kernel
theorem dX6_sends_58 : decode cX6_sends 58 = .ok (.getfield 29, 3) := by decide +kernel
theorem dX6_sends_61 : decode cX6_sends 61 = .ok (.dup, 1) := by decide +kernel
theorem dX6_sends_62 : decode cX6_sends 62 = .ok (.getfield 131, 3) := by decide +kernel
theorem dX6_sends_65 : decode cX6_sends 65 = .ok (.iload_n 2, 1) := by decide +kernel
theorem dX6_sends_66 : decode cX6_sends 66 = .ok (.isub, 1) := by decide +kernel
theorem dX6_sends_67 : decode cX6_sends 67 = .ok (.putfield 131, 3) := by decide +kernel
theorem dX6_sends_70 : decode cX6_sends 70 = .ok (.aload_n 0, 1) := by decide +kernel
theorem dX6_sends_71 : decode cX6_sends 71 = .ok (.getfield 29, 3) := by decide +kernel
theorem dX6_sends_74 : decode cX6_sends 74 = .ok (.dup, 1) := by decide +kernel
theorem dX6_sends_75 : decode cX6_sends 75 = .ok (.getfield 134, 3) := by decide +kernel
theorem dX6_sends_78 : decode cX6_sends 78 = .ok (.aload_n 0, 1) := by decide +kernel
theorem dX6_sends_79 : decode cX6_sends 79 = .ok (.getfield 19, 3) := by decide +kernel
theorem dX6_sends_82 : decode cX6_sends 82 = .ok (.iconst 4, 1) := by decide +kernel
theorem dX6_sends_83 : decode cX6_sends 83 = .ok (.iload_n 1, 1) := by decide +kernel
theorem dX6_sends_84 : decode cX6_sends 84 = .ok (.invokevirtual 95, 3) := by decide +kernel
theorem dX6_sends_87 : decode cX6_sends 87 = .ok (.iadd, 1) := by decide +kernel
theorem dX6_sends_88 : decode cX6_sends 88 = .ok (.putfield 134, 3) := by decide +kernel
theorem dX6_sends_91 : decode cX6_sends 91 = .ok (.aload_n 0, 1) := by decide +kernel
theorem dX6_sends_92 : decode cX6_sends 92 = .ok (.getfield 29, 3) := by decide +kernel
theorem dX6_sends_95 : decode cX6_sends 95 = .ok (.dup, 1) := by decide +kernel
theorem dX6_sends_96 : decode cX6_sends 96 = .ok (.getfield 137, 3) := by decide +kernel
theorem dX6_sends_99 : decode cX6_sends 99 = .ok (.iconst 1, 1) := by decide +kernel
theorem dX6_sends_100 : decode cX6_sends 100 = .ok (.iload_n 1, 1) := by decide +kernel
theorem dX6_sends_101 : decode cX6_sends 101 = .ok (.ishl, 1) := by decide +kernel
theorem dX6_sends_102 : decode cX6_sends 102 = .ok (.ior, 1) := by decide +kernel
theorem dX6_sends_103 : decode cX6_sends 103 = .ok (.putfield 137, 3) := by decide +kernel
theorem dX6_sends_106 : decode cX6_sends 106 = .ok (.aload_n 0, 1) := by decide +kernel
theorem dX6_sends_107 : decode cX6_sends 107 = .ok (.getfield 29, 3) := by decide +kernel
theorem dX6_sends_110 : decode cX6_sends 110 = .ok (.getfield 134, 3) := by decide +kernel
theorem dX6_sends_113 : decode cX6_sends 113 = .ok (.ireturn, 1) := by decide +kernel
theorem dX6_sweeps_0 : decode cX6_sweeps 0 = .ok (.aload_n 0, 1) := by decide +kernel
theorem dX6_sweeps_1 : decode cX6_sweeps 1 = .ok (.invokevirtual 146, 3) := by decide +kernel
theorem dX6_sweeps_4 : decode cX6_sweeps 4 = .ok (.aload_n 0, 1) := by decide +kernel
theorem dX6_sweeps_5 : decode cX6_sweeps 5 = .ok (.getfield 29, 3) := by decide +kernel
theorem dX6_sweeps_8 : decode cX6_sweeps 8 = .ok (.getfield 115, 3) := by decide +kernel
theorem dX6_sweeps_11 : decode cX6_sweeps 11 = .ok (.invokevirtual 167, 3) := by decide +kernel
theorem dX6_sweeps_14 : decode cX6_sweeps 14 = .ok (.aload_n 0, 1) := by decide +kernel
theorem dX6_sweeps_15 : decode cX6_sweeps 15 = .ok (.getfield 29, 3) := by decide +kernel
theorem dX6_sweeps_18 : decode cX6_sweeps 18 = .ok (.getfield 115, 3) := by decide +kernel
theorem dX6_sweeps_21 : decode cX6_sweeps 21 = .ok (.aload_n 0, 1) := by decide +kernel
theorem dX6_sweeps_22 : decode cX6_sweeps 22 = .ok (.getfield 29, 3) := by decide +kernel
theorem dX6_sweeps_25 : decode cX6_sweeps 25 = .ok (.getfield 115, 3) := by decide +kernel
theorem dX6_sweeps_28 : decode cX6_sweeps 28 = .ok (.getfield 140, 3) := by decide +kernel
theorem dX6_sweeps_31 : decode cX6_sweeps 31 = .ok (.invokevirtual 118, 3) := by decide +kernel
theorem dX6_sweeps_34 : decode cX6_sweeps 34 = .ok (.ireturn, 1) := by decide +kernel
theorem dX6_spins_0 : decode cX6_spins 0 = .ok (.iload_n 1, 1) := by decide +kernel
theorem dX6_spins_1 : decode cX6_spins 1 = .ok (.iconst 1, 1) := by decide +kernel
theorem dX6_spins_2 : decode cX6_spins 2 = .ok (.if_icmp .lt 9, 3) := by decide +kernel
theorem dX6_spins_5 : decode cX6_spins 5 = .ok (.iload_n 1, 1) := by decide +kernel
theorem dX6_spins_6 : decode cX6_spins 6 = .ok (.bipush 8, 2) := by decide +kernel
theorem dX6_spins_8 : decode cX6_spins 8 = .ok (.if_icmp .lt 5, 3) := by decide +kernel
theorem dX6_spins_11 : decode cX6_spins 11 = .ok (.iconst (-1), 1) := by decide +kernel
theorem dX6_spins_12 : decode cX6_spins 12 = .ok (.ireturn, 1) := by decide +kernel
theorem dX6_spins_13 : decode cX6_spins 13 = .ok (.aload_n 0, 1) := by decide +kernel
theorem dX6_spins_14 : decode cX6_spins 14 = .ok (.invokevirtual 146, 3) := by decide +kernel
theorem dX6_spins_17 : decode cX6_spins 17 = .ok (.aload_n 0, 1) := by decide +kernel
theorem dX6_spins_18 : decode cX6_spins 18 = .ok (.getfield 29, 3) := by decide +kernel
theorem dX6_spins_21 : decode cX6_spins 21 = .ok (.getfield 115, 3) := by decide +kernel
theorem dX6_spins_24 : decode cX6_spins 24 = .ok (.iload_n 1, 1) := by decide +kernel
theorem dX6_spins_25 : decode cX6_spins 25 = .ok (.invokevirtual 170, 3) := by decide +kernel
theorem dX6_spins_28 : decode cX6_spins 28 = .ok (.aload_n 0, 1) := by decide +kernel
theorem dX6_spins_29 : decode cX6_spins 29 = .ok (.getfield 29, 3) := by decide +kernel
theorem dX6_spins_32 : decode cX6_spins 32 = .ok (.getfield 115, 3) := by decide +kernel
theorem dX6_spins_35 : decode cX6_spins 35 = .ok (.getfield 140, 3) := by decide +kernel
theorem dX6_spins_38 : decode cX6_spins 38 = .ok (.ireturn, 1) := by decide +kernel
theorem dX6_undo_0 : decode cX6_undo 0 = .ok (.aload_n 0, 1) := by decide +kernel
theorem dX6_undo_1 : decode cX6_undo 1 = .ok (.getfield 143, 3) := by decide +kernel
theorem dX6_undo_4 : decode cX6_undo 4 = .ok (.iconst 1, 1) := by decide +kernel
theorem dX6_undo_5 : decode cX6_undo 5 = .ok (.if_icmp .ge 6, 3) := by decide +kernel
theorem dX6_undo_8 : decode cX6_undo 8 = .ok (.bipush (-2), 2) := by decide +kernel
theorem dX6_undo_10 : decode cX6_undo 10 = .ok (.ireturn, 1) := by decide +kernel
theorem dX6_undo_11 : decode cX6_undo 11 = .ok (.aload_n 0, 1) := by decide +kernel
theorem dX6_undo_12 : decode cX6_undo 12 = .ok (.dup, 1) := by decide +kernel
theorem dX6_undo_13 : decode cX6_undo 13 = .ok (.getfield 143, 3) := by decide +kernel
theorem dX6_undo_16 : decode cX6_undo 16 = .ok (.iconst 1, 1) := by decide +kernel
theorem dX6_undo_17 : decode cX6_undo 17 = .ok (.isub, 1) := by decide +kernel
theorem dX6_undo_18 : decode cX6_undo 18 = .ok (.putfield 143, 3) := by decide +kernel
theorem dX6_undo_21 : decode cX6_undo 21 = .ok (.aload_n 0, 1) := by decide +kernel
theorem dX6_undo_22 : decode cX6_undo 22 = .ok (.aload_n 0, 1) := by decide +kernel
theorem dX6_undo_23 : decode cX6_undo 23 = .ok (.getfield 173, 3) := by decide +kernel
theorem dX6_undo_26 : decode cX6_undo 26 = .ok (.iconst 1, 1) := by decide +kernel
theorem dX6_undo_27 : decode cX6_undo 27 = .ok (.if_icmp .ge 8, 3) := by decide +kernel
theorem dX6_undo_30 : decode cX6_undo 30 = .ok (.bipush 9, 2) := by decide +kernel
theorem dX6_undo_32 : decode cX6_undo 32 = .ok (.goto 9, 3) := by decide +kernel
theorem dX6_undo_35 : decode cX6_undo 35 = .ok (.aload_n 0, 1) := by decide +kernel
theorem dX6_undo_36 : decode cX6_undo 36 = .ok (.getfield 173, 3) := by decide +kernel
theorem dX6_undo_39 : decode cX6_undo 39 = .ok (.iconst 1, 1) := by decide +kernel
theorem dX6_undo_40 : decode cX6_undo 40 = .ok (.isub, 1) := by decide +kernel
theorem dX6_undo_41 : decode cX6_undo 41 = .ok (.putfield 173, 3) := by decide +kernel
theorem dX6_undo_44 : decode cX6_undo 44 = .ok (.aload_n 0, 1) := by decide +kernel
theorem dX6_undo_45 : decode cX6_undo 45 = .ok (.getfield 38, 3) := by decide +kernel
theorem dX6_undo_48 : decode cX6_undo 48 = .ok (.aload_n 0, 1) := by decide +kernel
theorem dX6_undo_49 : decode cX6_undo 49 = .ok (.getfield 173, 3) := by decide +kernel
theorem dX6_undo_52 : decode cX6_undo 52 = .ok (.aload_n 0, 1) := by decide +kernel
theorem dX6_undo_53 : decode cX6_undo 53 = .ok (.getfield 29, 3) := by decide +kernel
theorem dX6_undo_56 : decode cX6_undo 56 = .ok (.invokevirtual 176, 3) := by decide +kernel
theorem dX6_undo_59 : decode cX6_undo 59 = .ok (.aload_n 0, 1) := by decide +kernel
theorem dX6_undo_60 : decode cX6_undo 60 = .ok (.getfield 143, 3) := by decide +kernel
theorem dX6_undo_63 : decode cX6_undo 63 = .ok (.ireturn, 1) := by decide +kernel
theorem dX6_inYears_0 : decode cX6_inYears 0 = .ok (.aload_n 0, 1) := by decide +kernel
theorem dX6_inYears_1 : decode cX6_inYears 1 = .ok (.iload_n 1, 1) := by decide +kernel
theorem dX6_inYears_2 : decode cX6_inYears 2 = .ok (.invokevirtual 91, 3) := by decide +kernel
theorem dX6_inYears_5 : decode cX6_inYears 5 = .ok (.ifCond .eq 13, 3) := by decide +kernel
theorem dX6_inYears_8 : decode cX6_inYears 8 = .ok (.iload_n 2, 1) := by decide +kernel
theorem dX6_inYears_9 : decode cX6_inYears 9 = .ok (.ifCond .lt 9, 3) := by decide +kernel
theorem dX6_inYears_12 : decode cX6_inYears 12 = .ok (.iload_n 2, 1) := by decide +kernel
theorem dX6_inYears_13 : decode cX6_inYears 13 = .ok (.bipush 30, 2) := by decide +kernel
theorem dX6_inYears_15 : decode cX6_inYears 15 = .ok (.if_icmp .le 5, 3) := by decide +kernel
theorem dX6_inYears_18 : decode cX6_inYears 18 = .ok (.iconst (-1), 1) := by decide +kernel
theorem dX6_inYears_19 : decode cX6_inYears 19 = .ok (.ireturn, 1) := by decide +kernel
theorem dX6_inYears_20 : decode cX6_inYears 20 = .ok (.aload_n 0, 1) := by decide +kernel
theorem dX6_inYears_21 : decode cX6_inYears 21 = .ok (.getfield 19, 3) := by decide +kernel
theorem dX6_inYears_24 : decode cX6_inYears 24 = .ok (.iconst 0, 1) := by decide +kernel
theorem dX6_inYears_25 : decode cX6_inYears 25 = .ok (.iload_n 1, 1) := by decide +kernel
theorem dX6_inYears_26 : decode cX6_inYears 26 = .ok (.invokevirtual 95, 3) := by decide +kernel
theorem dX6_inYears_29 : decode cX6_inYears 29 = .ok (.aload_n 0, 1) := by decide +kernel
theorem dX6_inYears_30 : decode cX6_inYears 30 = .ok (.getfield 29, 3) := by decide +kernel
theorem dX6_inYears_33 : decode cX6_inYears 33 = .ok (.iload_n 1, 1) := by decide +kernel
theorem dX6_inYears_34 : decode cX6_inYears 34 = .ok (.invokevirtual 99, 3) := by decide +kernel
theorem dX6_inYears_37 : decode cX6_inYears 37 = .ok (.iload_n 2, 1) := by decide +kernel
theorem dX6_inYears_38 : decode cX6_inYears 38 = .ok (.iadd, 1) := by decide +kernel
theorem dX6_inYears_39 : decode cX6_inYears 39 = .ok (.aload_n 0, 1) := by decide +kernel
theorem dX6_inYears_40 : decode cX6_inYears 40 = .ok (.getfield 19, 3) := by decide +kernel
theorem dX6_inYears_43 : decode cX6_inYears 43 = .ok (.invokevirtual 180, 3) := by decide +kernel
theorem dX6_inYears_46 : decode cX6_inYears 46 = .ok (.invokestatic 183, 3) := by decide +kernel
theorem dX6_inYears_49 : decode cX6_inYears 49 = .ok (.ireturn, 1) := by decide +kernel
theorem dX6_turn_0 : decode cX6_turn 0 = .ok (.iload_n 1, 1) := by decide +kernel
theorem dX6_turn_1 : decode cX6_turn 1 = .ok (.iconst 1, 1) := by decide +kernel
theorem dX6_turn_2 : decode cX6_turn 2 = .ok (.if_icmp .lt 18, 3) := by decide +kernel
theorem dX6_turn_5 : decode cX6_turn 5 = .ok (.iload_n 1, 1) := by decide +kernel
theorem dX6_turn_6 : decode cX6_turn 6 = .ok (.bipush 30, 2) := by decide +kernel
theorem dX6_turn_8 : decode cX6_turn 8 = .ok (.if_icmp .gt 12, 3) := by decide +kernel
theorem dX6_turn_11 : decode cX6_turn 11 = .ok (.iload_n 2, 1) := by decide +kernel
theorem dX6_turn_12 : decode cX6_turn 12 = .ok (.ifCond .lt 8, 3) := by decide +kernel
theorem dX6_turn_15 : decode cX6_turn 15 = .ok (.iload_n 2, 1) := by decide +kernel
theorem dX6_turn_16 : decode cX6_turn 16 = .ok (.iconst 2, 1) := by decide +kernel
theorem dX6_turn_17 : decode cX6_turn 17 = .ok (.if_icmp .le 5, 3) := by decide +kernel
theorem dX6_turn_20 : decode cX6_turn 20 = .ok (.iconst (-1), 1) := by decide +kernel
theorem dX6_turn_21 : decode cX6_turn 21 = .ok (.ireturn, 1) := by decide +kernel
theorem dX6_turn_22 : decode cX6_turn 22 = .ok (.iload_n 2, 1) := by decide +kernel
theorem dX6_turn_23 : decode cX6_turn 23 = .ok (.iconst 2, 1) := by decide +kernel
theorem dX6_turn_24 : decode cX6_turn 24 = .ok (.if_icmp .ne 8, 3) := by decide +kernel
theorem dX6_turn_27 : decode cX6_turn 27 = .ok (.aload_n 0, 1) := by decide +kernel
theorem dX6_turn_28 : decode cX6_turn 28 = .ok (.invokevirtual 187, 3) := by decide +kernel
theorem dX6_turn_31 : decode cX6_turn 31 = .ok (.ireturn, 1) := by decide +kernel
theorem dX6_turn_32 : decode cX6_turn 32 = .ok (.iconst 1, 1) := by decide +kernel
theorem dX6_turn_33 : decode cX6_turn 33 = .ok (.iload_n 1, 1) := by decide +kernel
theorem dX6_turn_34 : decode cX6_turn 34 = .ok (.aload_n 0, 1) := by decide +kernel
theorem dX6_turn_35 : decode cX6_turn 35 = .ok (.getfield 19, 3) := by decide +kernel
theorem dX6_turn_38 : decode cX6_turn 38 = .ok (.invokevirtual 180, 3) := by decide +kernel
theorem dX6_turn_41 : decode cX6_turn 41 = .ok (.invokestatic 183, 3) := by decide +kernel
theorem dX6_turn_44 : decode cX6_turn 44 = .ok (.istore_n 3, 1) := by decide +kernel
theorem dX6_turn_45 : decode cX6_turn 45 = .ok (.iload_n 3, 1) := by decide +kernel
theorem dX6_turn_46 : decode cX6_turn 46 = .ok (.iload_n 1, 1) := by decide +kernel
theorem dX6_turn_47 : decode cX6_turn 47 = .ok (.iload_n 2, 1) := by decide +kernel
theorem dX6_turn_48 : decode cX6_turn 48 = .ok (.invokestatic 190, 3) := by decide +kernel
theorem dX6_turn_51 : decode cX6_turn 51 = .ok (.ireturn, 1) := by decide +kernel
theorem dX6_plan_0 : decode cX6_plan 0 = .ok (.iload_n 1, 1) := by decide +kernel
theorem dX6_plan_1 : decode cX6_plan 1 = .ok (.iconst 1, 1) := by decide +kernel
theorem dX6_plan_2 : decode cX6_plan 2 = .ok (.if_icmp .lt 18, 3) := by decide +kernel
theorem dX6_plan_5 : decode cX6_plan 5 = .ok (.iload_n 1, 1) := by decide +kernel
theorem dX6_plan_6 : decode cX6_plan 6 = .ok (.iconst 4, 1) := by decide +kernel
theorem dX6_plan_7 : decode cX6_plan 7 = .ok (.if_icmp .gt 13, 3) := by decide +kernel
theorem dX6_plan_10 : decode cX6_plan 10 = .ok (.iload_n 2, 1) := by decide +kernel
theorem dX6_plan_11 : decode cX6_plan 11 = .ok (.iconst (-1), 1) := by decide +kernel
theorem dX6_plan_12 : decode cX6_plan 12 = .ok (.if_icmp .lt 8, 3) := by decide +kernel
theorem dX6_plan_15 : decode cX6_plan 15 = .ok (.iload_n 2, 1) := by decide +kernel
theorem dX6_plan_16 : decode cX6_plan 16 = .ok (.iconst 4, 1) := by decide +kernel
theorem dX6_plan_17 : decode cX6_plan 17 = .ok (.if_icmp .lt 5, 3) := by decide +kernel
theorem dX6_plan_20 : decode cX6_plan 20 = .ok (.iconst (-1), 1) := by decide +kernel
theorem dX6_plan_21 : decode cX6_plan 21 = .ok (.ireturn, 1) := by decide +kernel
theorem dX6_plan_22 : decode cX6_plan 22 = .ok (.iload_n 2, 1) := by decide +kernel
theorem dX6_plan_23 : decode cX6_plan 23 = .ok (.iload_n 1, 1) := by decide +kernel
theorem dX6_plan_24 : decode cX6_plan 24 = .ok (.if_icmp .lt 6, 3) := by decide +kernel
theorem dX6_plan_27 : decode cX6_plan 27 = .ok (.bipush (-9), 2) := by decide +kernel
theorem dX6_plan_29 : decode cX6_plan 29 = .ok (.ireturn, 1) := by decide +kernel
theorem dX6_plan_30 : decode cX6_plan 30 = .ok (.aload_n 0, 1) := by decide +kernel
theorem dX6_plan_31 : decode cX6_plan 31 = .ok (.getfield 69, 3) := by decide +kernel
theorem dX6_plan_34 : decode cX6_plan 34 = .ok (.aload_n 0, 1) := by decide +kernel
theorem dX6_plan_35 : decode cX6_plan 35 = .ok (.getfield 19, 3) := by decide +kernel
theorem dX6_plan_38 : decode cX6_plan 38 = .ok (.aload_n 0, 1) := by decide +kernel
theorem dX6_plan_39 : decode cX6_plan 39 = .ok (.getfield 29, 3) := by decide +kernel
theorem dX6_plan_42 : decode cX6_plan 42 = .ok (.iload_n 1, 1) := by decide +kernel
theorem dX6_plan_43 : decode cX6_plan 43 = .ok (.invokevirtual 193, 3) := by decide +kernel
theorem dX6_plan_46 : decode cX6_plan 46 = .ok (.iload_n 2, 1) := by decide +kernel
theorem dX6_plan_47 : decode cX6_plan 47 = .ok (.ifCond .ge 13, 3) := by decide +kernel
theorem dX6_plan_50 : decode cX6_plan 50 = .ok (.aload_n 0, 1) := by decide +kernel
theorem dX6_plan_51 : decode cX6_plan 51 = .ok (.getfield 69, 3) := by decide +kernel
theorem dX6_plan_54 : decode cX6_plan 54 = .ok (.invokevirtual 197, 3) := by decide +kernel
theorem dX6_plan_57 : decode cX6_plan 57 = .ok (.goto 11, 3) := by decide +kernel
theorem dX6_plan_60 : decode cX6_plan 60 = .ok (.aload_n 0, 1) := by decide +kernel
theorem dX6_plan_61 : decode cX6_plan 61 = .ok (.getfield 69, 3) := by decide +kernel
theorem dX6_plan_64 : decode cX6_plan 64 = .ok (.iload_n 2, 1) := by decide +kernel
theorem dX6_plan_65 : decode cX6_plan 65 = .ok (.invokevirtual 200, 3) := by decide +kernel
theorem dX6_plan_68 : decode cX6_plan 68 = .ok (.ireturn, 1) := by decide +kernel
theorem dX6_kept_0 : decode cX6_kept 0 = .ok (.iload_n 1, 1) := by decide +kernel
theorem dX6_kept_1 : decode cX6_kept 1 = .ok (.ifCond .lt 8, 3) := by decide +kernel
theorem dX6_kept_4 : decode cX6_kept 4 = .ok (.iload_n 1, 1) := by decide +kernel
theorem dX6_kept_5 : decode cX6_kept 5 = .ok (.iconst 1, 1) := by decide +kernel
theorem dX6_kept_6 : decode cX6_kept 6 = .ok (.if_icmp .le 5, 3) := by decide +kernel
theorem dX6_kept_9 : decode cX6_kept 9 = .ok (.iconst (-1), 1) := by decide +kernel
theorem dX6_kept_10 : decode cX6_kept 10 = .ok (.ireturn, 1) := by decide +kernel
theorem dX6_kept_11 : decode cX6_kept 11 = .ok (.iconst 1, 1) := by decide +kernel
theorem dX6_kept_12 : decode cX6_kept 12 = .ok (.aload_n 0, 1) := by decide +kernel
theorem dX6_kept_13 : decode cX6_kept 13 = .ok (.getfield 19, 3) := by decide +kernel
theorem dX6_kept_16 : decode cX6_kept 16 = .ok (.invokevirtual 203, 3) := by decide +kernel
theorem dX6_kept_19 : decode cX6_kept 19 = .ok (.ishl, 1) := by decide +kernel
theorem dX6_kept_20 : decode cX6_kept 20 = .ok (.istore_n 2, 1) := by decide +kernel
theorem dX6_kept_21 : decode cX6_kept 21 = .ok (.iconst 0, 1) := by decide +kernel
theorem dX6_kept_22 : decode cX6_kept 22 = .ok (.istore_n 3, 1) := by decide +kernel
theorem dX6_kept_23 : decode cX6_kept 23 = .ok (.iconst 0, 1) := by decide +kernel
theorem dX6_kept_24 : decode cX6_kept 24 = .ok (.istore 4, 2) := by decide +kernel
theorem dX6_kept_26 : decode cX6_kept 26 = .ok (.iconst 1, 1) := by decide +kernel
theorem dX6_kept_27 : decode cX6_kept 27 = .ok (.istore 5, 2) := by decide +kernel
theorem dX6_kept_29 : decode cX6_kept 29 = .ok (.iload 5, 2) := by decide +kernel
theorem dX6_kept_31 : decode cX6_kept 31 = .ok (.iload_n 2, 1) := by decide +kernel
theorem dX6_kept_32 : decode cX6_kept 32 = .ok (.if_icmp .ge 40, 3) := by decide +kernel
theorem dX6_kept_35 : decode cX6_kept 35 = .ok (.aload_n 0, 1) := by decide +kernel
theorem dX6_kept_36 : decode cX6_kept 36 = .ok (.iload 5, 2) := by decide +kernel
theorem dX6_kept_38 : decode cX6_kept 38 = .ok (.invokevirtual 206, 3) := by decide +kernel
theorem dX6_kept_41 : decode cX6_kept 41 = .ok (.istore 6, 2) := by decide +kernel
theorem dX6_kept_43 : decode cX6_kept 43 = .ok (.iload 6, 2) := by decide +kernel
theorem dX6_kept_45 : decode cX6_kept 45 = .ok (.iload 4, 2) := by decide +kernel
theorem dX6_kept_47 : decode cX6_kept 47 = .ok (.if_icmp .le 19, 3) := by decide +kernel
theorem dX6_kept_50 : decode cX6_kept 50 = .ok (.aload_n 0, 1) := by decide +kernel
theorem dX6_kept_51 : decode cX6_kept 51 = .ok (.iload 5, 2) := by decide +kernel
theorem dX6_kept_53 : decode cX6_kept 53 = .ok (.invokevirtual 209, 3) := by decide +kernel
theorem dX6_kept_56 : decode cX6_kept 56 = .ok (.ifCond .eq 10, 3) := by decide +kernel
theorem dX6_kept_59 : decode cX6_kept 59 = .ok (.iload 5, 2) := by decide +kernel
theorem dX6_kept_61 : decode cX6_kept 61 = .ok (.istore_n 3, 1) := by decide +kernel
theorem dX6_kept_62 : decode cX6_kept 62 = .ok (.iload 6, 2) := by decide +kernel
theorem dX6_kept_64 : decode cX6_kept 64 = .ok (.istore 4, 2) := by decide +kernel
theorem dX6_kept_66 : decode cX6_kept 66 = .ok (.iinc 5 1, 3) := by decide +kernel
theorem dX6_kept_69 : decode cX6_kept 69 = .ok (.goto (-40), 3) := by decide +kernel
theorem dX6_kept_72 : decode cX6_kept 72 = .ok (.iload_n 1, 1) := by decide +kernel
theorem dX6_kept_73 : decode cX6_kept 73 = .ok (.ifCond .ne 7, 3) := by decide +kernel
theorem dX6_kept_76 : decode cX6_kept 76 = .ok (.iload_n 3, 1) := by decide +kernel
theorem dX6_kept_77 : decode cX6_kept 77 = .ok (.goto 5, 3) := by decide +kernel
theorem dX6_kept_80 : decode cX6_kept 80 = .ok (.iload 4, 2) := by decide +kernel
theorem dX6_kept_82 : decode cX6_kept 82 = .ok (.ireturn, 1) := by decide +kernel
theorem dX6_next_0 : decode cX6_next 0 = .ok (.iload_n 1, 1) := by decide +kernel
theorem dX6_next_1 : decode cX6_next 1 = .ok (.ifCond .lt 8, 3) := by decide +kernel
theorem dX6_next_4 : decode cX6_next 4 = .ok (.iload_n 1, 1) := by decide +kernel
theorem dX6_next_5 : decode cX6_next 5 = .ok (.iconst 1, 1) := by decide +kernel
theorem dX6_next_6 : decode cX6_next 6 = .ok (.if_icmp .le 5, 3) := by decide +kernel
theorem dX6_next_9 : decode cX6_next 9 = .ok (.iconst (-1), 1) := by decide +kernel
theorem dX6_next_10 : decode cX6_next 10 = .ok (.ireturn, 1) := by decide +kernel
theorem dX6_next_11 : decode cX6_next 11 = .ok (.bipush (-9), 2) := by decide +kernel
theorem dX6_next_13 : decode cX6_next 13 = .ok (.istore_n 2, 1) := by decide +kernel
theorem dX6_next_14 : decode cX6_next 14 = .ok (.iconst 0, 1) := by decide +kernel
theorem dX6_next_15 : decode cX6_next 15 = .ok (.istore_n 3, 1) := by decide +kernel
theorem dX6_next_16 : decode cX6_next 16 = .ok (.iload_n 3, 1) := by decide +kernel
theorem dX6_next_17 : decode cX6_next 17 = .ok (.aload_n 0, 1) := by decide +kernel
theorem dX6_next_18 : decode cX6_next 18 = .ok (.getfield 19, 3) := by decide +kernel
theorem dX6_next_21 : decode cX6_next 21 = .ok (.invokevirtual 203, 3) := by decide +kernel
theorem dX6_next_24 : decode cX6_next 24 = .ok (.if_icmp .ge 36, 3) := by decide +kernel
theorem dX6_next_27 : decode cX6_next 27 = .ok (.aload_n 0, 1) := by decide +kernel
theorem dX6_next_28 : decode cX6_next 28 = .ok (.getfield 29, 3) := by decide +kernel
theorem dX6_next_31 : decode cX6_next 31 = .ok (.iload_n 3, 1) := by decide +kernel
theorem dX6_next_32 : decode cX6_next 32 = .ok (.invokevirtual 109, 3) := by decide +kernel
theorem dX6_next_35 : decode cX6_next 35 = .ok (.ifCond .ne 19, 3) := by decide +kernel
theorem dX6_next_38 : decode cX6_next 38 = .ok (.iload_n 2, 1) := by decide +kernel
theorem dX6_next_39 : decode cX6_next 39 = .ok (.ifCond .lt 13, 3) := by decide +kernel
theorem dX6_next_42 : decode cX6_next 42 = .ok (.aload_n 0, 1) := by decide +kernel
theorem dX6_next_43 : decode cX6_next 43 = .ok (.iload_n 3, 1) := by decide +kernel
theorem dX6_next_44 : decode cX6_next 44 = .ok (.iload_n 2, 1) := by decide +kernel
theorem dX6_next_45 : decode cX6_next 45 = .ok (.iload_n 1, 1) := by decide +kernel
theorem dX6_next_46 : decode cX6_next 46 = .ok (.invokevirtual 212, 3) := by decide +kernel
theorem dX6_next_49 : decode cX6_next 49 = .ok (.ifCond .eq 5, 3) := by decide +kernel
theorem dX6_next_52 : decode cX6_next 52 = .ok (.iload_n 3, 1) := by decide +kernel
theorem dX6_next_53 : decode cX6_next 53 = .ok (.istore_n 2, 1) := by decide +kernel
theorem dX6_next_54 : decode cX6_next 54 = .ok (.iinc 3 1, 3) := by decide +kernel
theorem dX6_next_57 : decode cX6_next 57 = .ok (.goto (-41), 3) := by decide +kernel
theorem dX6_next_60 : decode cX6_next 60 = .ok (.iload_n 2, 1) := by decide +kernel
theorem dX6_next_61 : decode cX6_next 61 = .ok (.ireturn, 1) := by decide +kernel
theorem dX6_lack_0 : decode cX6_lack 0 = .ok (.aload_n 0, 1) := by decide +kernel
theorem dX6_lack_1 : decode cX6_lack 1 = .ok (.invokevirtual 216, 3) := by decide +kernel
theorem dX6_lack_4 : decode cX6_lack 4 = .ok (.ireturn, 1) := by decide +kernel
theorem dX6_cutFor_0 : decode cX6_cutFor 0 = .ok (.aload_n 0, 1) := by decide +kernel
theorem dX6_cutFor_1 : decode cX6_cutFor 1 = .ok (.invokevirtual 216, 3) := by decide +kernel
theorem dX6_cutFor_4 : decode cX6_cutFor 4 = .ok (.istore_n 1, 1) := by decide +kernel
theorem dX6_cutFor_5 : decode cX6_cutFor 5 = .ok (.iconst 1, 1) := by decide +kernel
theorem dX6_cutFor_6 : decode cX6_cutFor 6 = .ok (.aload_n 0, 1) := by decide +kernel
theorem dX6_cutFor_7 : decode cX6_cutFor 7 = .ok (.getfield 19, 3) := by decide +kernel
theorem dX6_cutFor_10 : decode cX6_cutFor 10 = .ok (.invokevirtual 219, 3) := by decide +kernel
theorem dX6_cutFor_13 : decode cX6_cutFor 13 = .ok (.ishl, 1) := by decide +kernel
theorem dX6_cutFor_14 : decode cX6_cutFor 14 = .ok (.istore_n 2, 1) := by decide +kernel
theorem dX6_cutFor_15 : decode cX6_cutFor 15 = .ok (.bipush (-9), 2) := by decide +kernel
theorem dX6_cutFor_17 : decode cX6_cutFor 17 = .ok (.istore_n 3, 1) := by decide +kernel
theorem dX6_cutFor_18 : decode cX6_cutFor 18 = .ok (.bipush 7, 2) := by decide +kernel
theorem dX6_cutFor_20 : decode cX6_cutFor 20 = .ok (.istore 4, 2) := by decide +kernel
theorem dX6_cutFor_22 : decode cX6_cutFor 22 = .ok (.iconst 0, 1) := by decide +kernel
theorem dX6_cutFor_23 : decode cX6_cutFor 23 = .ok (.istore 5, 2) := by decide +kernel
theorem dX6_cutFor_25 : decode cX6_cutFor 25 = .ok (.iload 5, 2) := by decide +kernel
theorem dX6_cutFor_27 : decode cX6_cutFor 27 = .ok (.iload_n 2, 1) := by decide +kernel
theorem dX6_cutFor_28 : decode cX6_cutFor 28 = .ok (.if_icmp .ge 40, 3) := by decide +kernel
theorem dX6_cutFor_31 : decode cX6_cutFor 31 = .ok (.iload 5, 2) := by decide +kernel
theorem dX6_cutFor_33 : decode cX6_cutFor 33 = .ok (.invokestatic 222, 3) := by decide +kernel
theorem dX6_cutFor_36 : decode cX6_cutFor 36 = .ok (.istore 6, 2) := by decide +kernel
theorem dX6_cutFor_38 : decode cX6_cutFor 38 = .ok (.iload 6, 2) := by decide +kernel
theorem dX6_cutFor_40 : decode cX6_cutFor 40 = .ok (.iload 4, 2) := by decide +kernel
theorem dX6_cutFor_42 : decode cX6_cutFor 42 = .ok (.if_icmp .ge 20, 3) := by decide +kernel
theorem dX6_cutFor_45 : decode cX6_cutFor 45 = .ok (.aload_n 0, 1) := by decide +kernel
theorem dX6_cutFor_46 : decode cX6_cutFor 46 = .ok (.iload 5, 2) := by decide +kernel
theorem dX6_cutFor_48 : decode cX6_cutFor 48 = .ok (.invokevirtual 227, 3) := by decide +kernel
theorem dX6_cutFor_51 : decode cX6_cutFor 51 = .ok (.iload_n 1, 1) := by decide +kernel
theorem dX6_cutFor_52 : decode cX6_cutFor 52 = .ok (.if_icmp .lt 10, 3) := by decide +kernel
theorem dX6_cutFor_55 : decode cX6_cutFor 55 = .ok (.iload 5, 2) := by decide +kernel
theorem dX6_cutFor_57 : decode cX6_cutFor 57 = .ok (.istore_n 3, 1) := by decide +kernel
theorem dX6_cutFor_58 : decode cX6_cutFor 58 = .ok (.iload 6, 2) := by decide +kernel
theorem dX6_cutFor_60 : decode cX6_cutFor 60 = .ok (.istore 4, 2) := by decide +kernel
theorem dX6_cutFor_62 : decode cX6_cutFor 62 = .ok (.iinc 5 1, 3) := by decide +kernel
theorem dX6_cutFor_65 : decode cX6_cutFor 65 = .ok (.goto (-40), 3) := by decide +kernel
theorem dX6_cutFor_68 : decode cX6_cutFor 68 = .ok (.iload_n 3, 1) := by decide +kernel
theorem dX6_cutFor_69 : decode cX6_cutFor 69 = .ok (.ireturn, 1) := by decide +kernel
theorem dX6_allBy_0 : decode cX6_allBy 0 = .ok (.aload_n 0, 1) := by decide +kernel
theorem dX6_allBy_1 : decode cX6_allBy 1 = .ok (.getfield 29, 3) := by decide +kernel
theorem dX6_allBy_4 : decode cX6_allBy 4 = .ok (.getfield 121, 3) := by decide +kernel
theorem dX6_allBy_7 : decode cX6_allBy 7 = .ok (.aload_n 0, 1) := by decide +kernel
theorem dX6_allBy_8 : decode cX6_allBy 8 = .ok (.invokevirtual 230, 3) := by decide +kernel
theorem dX6_allBy_11 : decode cX6_allBy 11 = .ok (.aload_n 0, 1) := by decide +kernel
theorem dX6_allBy_12 : decode cX6_allBy 12 = .ok (.getfield 19, 3) := by decide +kernel
theorem dX6_allBy_15 : decode cX6_allBy 15 = .ok (.invokevirtual 158, 3) := by decide +kernel
theorem dX6_allBy_18 : decode cX6_allBy 18 = .ok (.invokestatic 161, 3) := by decide +kernel
theorem dX6_allBy_21 : decode cX6_allBy 21 = .ok (.iadd, 1) := by decide +kernel
theorem dX6_allBy_22 : decode cX6_allBy 22 = .ok (.ireturn, 1) := by decide +kernel
theorem dX6_lasts_0 : decode cX6_lasts 0 = .ok (.iload_n 1, 1) := by decide +kernel
theorem dX6_lasts_1 : decode cX6_lasts 1 = .ok (.invokestatic 112, 3) := by decide +kernel
theorem dX6_lasts_4 : decode cX6_lasts 4 = .ok (.ifCond .eq 11, 3) := by decide +kernel
theorem dX6_lasts_7 : decode cX6_lasts 7 = .ok (.aload_n 0, 1) := by decide +kernel
theorem dX6_lasts_8 : decode cX6_lasts 8 = .ok (.iload_n 1, 1) := by decide +kernel
theorem dX6_lasts_9 : decode cX6_lasts 9 = .ok (.invokevirtual 233, 3) := by decide +kernel
theorem dX6_lasts_12 : decode cX6_lasts 12 = .ok (.goto 4, 3) := by decide +kernel
theorem dX6_lasts_15 : decode cX6_lasts 15 = .ok (.iconst (-1), 1) := by decide +kernel
theorem dX6_lasts_16 : decode cX6_lasts 16 = .ok (.ireturn, 1) := by decide +kernel
theorem dX6_latest_0 : decode cX6_latest 0 = .ok (.iconst 0, 1) := by decide +kernel
theorem dX6_latest_1 : decode cX6_latest 1 = .ok (.istore_n 1, 1) := by decide +kernel
theorem dX6_latest_2 : decode cX6_latest 2 = .ok (.iconst (-1), 1) := by decide +kernel
theorem dX6_latest_3 : decode cX6_latest 3 = .ok (.istore_n 2, 1) := by decide +kernel
theorem dX6_latest_4 : decode cX6_latest 4 = .ok (.iconst 0, 1) := by decide +kernel
theorem dX6_latest_5 : decode cX6_latest 5 = .ok (.istore_n 3, 1) := by decide +kernel
theorem dX6_latest_6 : decode cX6_latest 6 = .ok (.iload_n 3, 1) := by decide +kernel
theorem dX6_latest_7 : decode cX6_latest 7 = .ok (.bipush 8, 2) := by decide +kernel
theorem dX6_latest_9 : decode cX6_latest 9 = .ok (.if_icmp .ge 27, 3) := by decide +kernel
theorem dX6_latest_12 : decode cX6_latest 12 = .ok (.aload_n 0, 1) := by decide +kernel
theorem dX6_latest_13 : decode cX6_latest 13 = .ok (.iload_n 3, 1) := by decide +kernel
theorem dX6_latest_14 : decode cX6_latest 14 = .ok (.invokevirtual 233, 3) := by decide +kernel
theorem dX6_latest_17 : decode cX6_latest 17 = .ok (.istore 4, 2) := by decide +kernel
theorem dX6_latest_19 : decode cX6_latest 19 = .ok (.iload 4, 2) := by decide +kernel
theorem dX6_latest_21 : decode cX6_latest 21 = .ok (.iload_n 2, 1) := by decide +kernel
theorem dX6_latest_22 : decode cX6_latest 22 = .ok (.if_icmp .le 8, 3) := by decide +kernel
theorem dX6_latest_25 : decode cX6_latest 25 = .ok (.iload_n 3, 1) := by decide +kernel
theorem dX6_latest_26 : decode cX6_latest 26 = .ok (.istore_n 1, 1) := by decide +kernel
theorem dX6_latest_27 : decode cX6_latest 27 = .ok (.iload 4, 2) := by decide +kernel
theorem dX6_latest_29 : decode cX6_latest 29 = .ok (.istore_n 2, 1) := by decide +kernel
theorem dX6_latest_30 : decode cX6_latest 30 = .ok (.iinc 3 1, 3) := by decide +kernel
theorem dX6_latest_33 : decode cX6_latest 33 = .ok (.goto (-27), 3) := by decide +kernel
theorem dX6_latest_36 : decode cX6_latest 36 = .ok (.iload_n 1, 1) := by decide +kernel
theorem dX6_latest_37 : decode cX6_latest 37 = .ok (.ireturn, 1) := by decide +kernel
theorem dX6_saw_0 : decode cX6_saw 0 = .ok (.iload_n 1, 1) := by decide +kernel
theorem dX6_saw_1 : decode cX6_saw 1 = .ok (.ifCond .lt 26, 3) := by decide +kernel
theorem dX6_saw_4 : decode cX6_saw 4 = .ok (.iload_n 1, 1) := by decide +kernel
theorem dX6_saw_5 : decode cX6_saw 5 = .ok (.bipush 40, 2) := by decide +kernel
theorem dX6_saw_7 : decode cX6_saw 7 = .ok (.if_icmp .gt 20, 3) := by decide +kernel
theorem dX6_saw_10 : decode cX6_saw 10 = .ok (.iload_n 2, 1) := by decide +kernel
theorem dX6_saw_11 : decode cX6_saw 11 = .ok (.invokestatic 112, 3) := by decide +kernel
theorem dX6_saw_14 : decode cX6_saw 14 = .ok (.ifCond .eq 13, 3) := by decide +kernel
theorem dX6_saw_17 : decode cX6_saw 17 = .ok (.iload_n 3, 1) := by decide +kernel
theorem dX6_saw_18 : decode cX6_saw 18 = .ok (.ifCond .lt 9, 3) := by decide +kernel
theorem dX6_saw_21 : decode cX6_saw 21 = .ok (.iload_n 3, 1) := by decide +kernel
theorem dX6_saw_22 : decode cX6_saw 22 = .ok (.bipush 15, 2) := by decide +kernel
theorem dX6_saw_24 : decode cX6_saw 24 = .ok (.if_icmp .le 5, 3) := by decide +kernel
theorem dX6_saw_27 : decode cX6_saw 27 = .ok (.iconst (-1), 1) := by decide +kernel
theorem dX6_saw_28 : decode cX6_saw 28 = .ok (.ireturn, 1) := by decide +kernel
theorem dX6_saw_29 : decode cX6_saw 29 = .ok (.aload_n 0, 1) := by decide +kernel
theorem dX6_saw_30 : decode cX6_saw 30 = .ok (.getfield 236, 3) := by decide +kernel
theorem dX6_saw_33 : decode cX6_saw 33 = .ok (.ifCond .lt 11, 3) := by decide +kernel
theorem dX6_saw_36 : decode cX6_saw 36 = .ok (.aload_n 0, 1) := by decide +kernel
theorem dX6_saw_37 : decode cX6_saw 37 = .ok (.getfield 236, 3) := by decide +kernel
theorem dX6_saw_40 : decode cX6_saw 40 = .ok (.iconst 5, 1) := by decide +kernel
theorem dX6_saw_41 : decode cX6_saw 41 = .ok (.if_icmp .lt 6, 3) := by decide +kernel
theorem dX6_saw_44 : decode cX6_saw 44 = .ok (.bipush (-3), 2) := by decide +kernel
theorem dX6_saw_46 : decode cX6_saw 46 = .ok (.ireturn, 1) := by decide +kernel
theorem dX6_saw_47 : decode cX6_saw 47 = .ok (.aload_n 0, 1) := by decide +kernel
theorem dX6_saw_48 : decode cX6_saw 48 = .ok (.getfield 49, 3) := by decide +kernel
theorem dX6_saw_51 : decode cX6_saw 51 = .ok (.aload_n 0, 1) := by decide +kernel
theorem dX6_saw_52 : decode cX6_saw 52 = .ok (.getfield 236, 3) := by decide +kernel
theorem dX6_saw_55 : decode cX6_saw 55 = .ok (.iload_n 1, 1) := by decide +kernel
theorem dX6_saw_56 : decode cX6_saw 56 = .ok (.iastore, 1) := by decide +kernel
theorem dX6_saw_57 : decode cX6_saw 57 = .ok (.aload_n 0, 1) := by decide +kernel
theorem dX6_saw_58 : decode cX6_saw 58 = .ok (.getfield 53, 3) := by decide +kernel
theorem dX6_saw_61 : decode cX6_saw 61 = .ok (.aload_n 0, 1) := by decide +kernel
theorem dX6_saw_62 : decode cX6_saw 62 = .ok (.getfield 236, 3) := by decide +kernel
theorem dX6_saw_65 : decode cX6_saw 65 = .ok (.iload_n 2, 1) := by decide +kernel
theorem dX6_saw_66 : decode cX6_saw 66 = .ok (.iastore, 1) := by decide +kernel
theorem dX6_saw_67 : decode cX6_saw 67 = .ok (.aload_n 0, 1) := by decide +kernel
theorem dX6_saw_68 : decode cX6_saw 68 = .ok (.getfield 56, 3) := by decide +kernel
theorem dX6_saw_71 : decode cX6_saw 71 = .ok (.aload_n 0, 1) := by decide +kernel
theorem dX6_saw_72 : decode cX6_saw 72 = .ok (.getfield 236, 3) := by decide +kernel
theorem dX6_saw_75 : decode cX6_saw 75 = .ok (.iload_n 3, 1) := by decide +kernel
theorem dX6_saw_76 : decode cX6_saw 76 = .ok (.iastore, 1) := by decide +kernel
theorem dX6_saw_77 : decode cX6_saw 77 = .ok (.aload_n 0, 1) := by decide +kernel
theorem dX6_saw_78 : decode cX6_saw 78 = .ok (.dup, 1) := by decide +kernel
theorem dX6_saw_79 : decode cX6_saw 79 = .ok (.getfield 236, 3) := by decide +kernel
theorem dX6_saw_82 : decode cX6_saw 82 = .ok (.iconst 1, 1) := by decide +kernel
theorem dX6_saw_83 : decode cX6_saw 83 = .ok (.iadd, 1) := by decide +kernel
theorem dX6_saw_84 : decode cX6_saw 84 = .ok (.putfield 236, 3) := by decide +kernel
theorem dX6_saw_87 : decode cX6_saw 87 = .ok (.aload_n 0, 1) := by decide +kernel
theorem dX6_saw_88 : decode cX6_saw 88 = .ok (.getfield 236, 3) := by decide +kernel
theorem dX6_saw_91 : decode cX6_saw 91 = .ok (.ireturn, 1) := by decide +kernel
theorem dX6_forget_0 : decode cX6_forget 0 = .ok (.aload_n 0, 1) := by decide +kernel
theorem dX6_forget_1 : decode cX6_forget 1 = .ok (.getfield 236, 3) := by decide +kernel
theorem dX6_forget_4 : decode cX6_forget 4 = .ok (.istore_n 1, 1) := by decide +kernel
theorem dX6_forget_5 : decode cX6_forget 5 = .ok (.aload_n 0, 1) := by decide +kernel
theorem dX6_forget_6 : decode cX6_forget 6 = .ok (.iconst 0, 1) := by decide +kernel
theorem dX6_forget_7 : decode cX6_forget 7 = .ok (.putfield 236, 3) := by decide +kernel
theorem dX6_forget_10 : decode cX6_forget 10 = .ok (.iload_n 1, 1) := by decide +kernel
theorem dX6_forget_11 : decode cX6_forget 11 = .ok (.ireturn, 1) := by decide +kernel
theorem dX6_which_0 : decode cX6_which 0 = .ok (.iconst 0, 1) := by decide +kernel
theorem dX6_which_1 : decode cX6_which 1 = .ok (.istore_n 1, 1) := by decide +kernel
theorem dX6_which_2 : decode cX6_which 2 = .ok (.iconst 0, 1) := by decide +kernel
theorem dX6_which_3 : decode cX6_which 3 = .ok (.istore_n 2, 1) := by decide +kernel
theorem dX6_which_4 : decode cX6_which 4 = .ok (.iload_n 2, 1) := by decide +kernel
theorem dX6_which_5 : decode cX6_which 5 = .ok (.bipush 8, 2) := by decide +kernel
theorem dX6_which_7 : decode cX6_which 7 = .ok (.if_icmp .ge 23, 3) := by decide +kernel
theorem dX6_which_10 : decode cX6_which 10 = .ok (.aload_n 0, 1) := by decide +kernel
theorem dX6_which_11 : decode cX6_which 11 = .ok (.iload_n 2, 1) := by decide +kernel
theorem dX6_which_12 : decode cX6_which 12 = .ok (.invokevirtual 239, 3) := by decide +kernel
theorem dX6_which_15 : decode cX6_which 15 = .ok (.ifCond .eq 9, 3) := by decide +kernel
theorem dX6_which_18 : decode cX6_which 18 = .ok (.iload_n 1, 1) := by decide +kernel
theorem dX6_which_19 : decode cX6_which 19 = .ok (.iconst 1, 1) := by decide +kernel
theorem dX6_which_20 : decode cX6_which 20 = .ok (.iload_n 2, 1) := by decide +kernel
theorem dX6_which_21 : decode cX6_which 21 = .ok (.ishl, 1) := by decide +kernel
theorem dX6_which_22 : decode cX6_which 22 = .ok (.ior, 1) := by decide +kernel
theorem dX6_which_23 : decode cX6_which 23 = .ok (.istore_n 1, 1) := by decide +kernel
theorem dX6_which_24 : decode cX6_which 24 = .ok (.iinc 2 1, 3) := by decide +kernel
theorem dX6_which_27 : decode cX6_which 27 = .ok (.goto (-23), 3) := by decide +kernel
theorem dX6_which_30 : decode cX6_which 30 = .ok (.iload_n 1, 1) := by decide +kernel
theorem dX6_which_31 : decode cX6_which 31 = .ok (.ireturn, 1) := by decide +kernel
theorem dX6_odds_0 : decode cX6_odds 0 = .ok (.iload_n 1, 1) := by decide +kernel
theorem dX6_odds_1 : decode cX6_odds 1 = .ok (.ifCond .lt 40, 3) := by decide +kernel
theorem dX6_odds_4 : decode cX6_odds 4 = .ok (.iload_n 1, 1) := by decide +kernel
theorem dX6_odds_5 : decode cX6_odds 5 = .ok (.bipush 10, 2) := by decide +kernel
theorem dX6_odds_7 : decode cX6_odds 7 = .ok (.if_icmp .gt 34, 3) := by decide +kernel
theorem dX6_odds_10 : decode cX6_odds 10 = .ok (.iload_n 2, 1) := by decide +kernel
theorem dX6_odds_11 : decode cX6_odds 11 = .ok (.ifCond .lt 30, 3) := by decide +kernel
theorem dX6_odds_14 : decode cX6_odds 14 = .ok (.iload_n 2, 1) := by decide +kernel
theorem dX6_odds_15 : decode cX6_odds 15 = .ok (.bipush 6, 2) := by decide +kernel
theorem dX6_odds_17 : decode cX6_odds 17 = .ok (.if_icmp .gt 24, 3) := by decide +kernel
theorem dX6_odds_20 : decode cX6_odds 20 = .ok (.iload_n 3, 1) := by decide +kernel
theorem dX6_odds_21 : decode cX6_odds 21 = .ok (.ifCond .lt 20, 3) := by decide +kernel
theorem dX6_odds_24 : decode cX6_odds 24 = .ok (.iload_n 3, 1) := by decide +kernel
theorem dX6_odds_25 : decode cX6_odds 25 = .ok (.bipush 6, 2) := by decide +kernel
theorem dX6_odds_27 : decode cX6_odds 27 = .ok (.if_icmp .gt 14, 3) := by decide +kernel
theorem dX6_odds_30 : decode cX6_odds 30 = .ok (.iload 4, 2) := by decide +kernel
theorem dX6_odds_32 : decode cX6_odds 32 = .ok (.ifCond .lt 9, 3) := by decide +kernel
theorem dX6_odds_35 : decode cX6_odds 35 = .ok (.iload 4, 2) := by decide +kernel
theorem dX6_odds_37 : decode cX6_odds 37 = .ok (.iconst 1, 1) := by decide +kernel
theorem dX6_odds_38 : decode cX6_odds 38 = .ok (.if_icmp .le 5, 3) := by decide +kernel
theorem dX6_odds_41 : decode cX6_odds 41 = .ok (.iconst (-1), 1) := by decide +kernel
theorem dX6_odds_42 : decode cX6_odds 42 = .ok (.ireturn, 1) := by decide +kernel
theorem dX6_odds_43 : decode cX6_odds 43 = .ok (.iconst 0, 1) := by decide +kernel
theorem dX6_odds_44 : decode cX6_odds 44 = .ok (.istore 5, 2) := by decide +kernel
theorem dX6_odds_46 : decode cX6_odds 46 = .ok (.iload_n 3, 1) := by decide +kernel
theorem dX6_odds_47 : decode cX6_odds 47 = .ok (.istore 6, 2) := by decide +kernel
theorem dX6_odds_49 : decode cX6_odds 49 = .ok (.iload 6, 2) := by decide +kernel
theorem dX6_odds_51 : decode cX6_odds 51 = .ok (.iload_n 2, 1) := by decide +kernel
theorem dX6_odds_52 : decode cX6_odds 52 = .ok (.if_icmp .gt 39, 3) := by decide +kernel
theorem dX6_odds_55 : decode cX6_odds 55 = .ok (.iload 5, 2) := by decide +kernel
theorem dX6_odds_57 : decode cX6_odds 57 = .ok (.iload_n 2, 1) := by decide +kernel
theorem dX6_odds_58 : decode cX6_odds 58 = .ok (.iload 6, 2) := by decide +kernel
theorem dX6_odds_60 : decode cX6_odds 60 = .ok (.invokestatic 242, 3) := by decide +kernel
theorem dX6_odds_63 : decode cX6_odds 63 = .ok (.bipush 10, 2) := by decide +kernel
theorem dX6_odds_65 : decode cX6_odds 65 = .ok (.iload_n 1, 1) := by decide +kernel
theorem dX6_odds_66 : decode cX6_odds 66 = .ok (.isub, 1) := by decide +kernel
theorem dX6_odds_67 : decode cX6_odds 67 = .ok (.iload 6, 2) := by decide +kernel
theorem dX6_odds_69 : decode cX6_odds 69 = .ok (.invokestatic 245, 3) := by decide +kernel
theorem dX6_odds_72 : decode cX6_odds 72 = .ok (.imul, 1) := by decide +kernel
theorem dX6_odds_73 : decode cX6_odds 73 = .ok (.iload_n 1, 1) := by decide +kernel
theorem dX6_odds_74 : decode cX6_odds 74 = .ok (.iload_n 2, 1) := by decide +kernel
theorem dX6_odds_75 : decode cX6_odds 75 = .ok (.iload 6, 2) := by decide +kernel
theorem dX6_odds_77 : decode cX6_odds 77 = .ok (.isub, 1) := by decide +kernel
theorem dX6_odds_78 : decode cX6_odds 78 = .ok (.invokestatic 245, 3) := by decide +kernel
theorem dX6_odds_81 : decode cX6_odds 81 = .ok (.imul, 1) := by decide +kernel
theorem dX6_odds_82 : decode cX6_odds 82 = .ok (.iadd, 1) := by decide +kernel
theorem dX6_odds_83 : decode cX6_odds 83 = .ok (.istore 5, 2) := by decide +kernel
theorem dX6_odds_85 : decode cX6_odds 85 = .ok (.iinc 6 1, 3) := by decide +kernel
theorem dX6_odds_88 : decode cX6_odds 88 = .ok (.goto (-39), 3) := by decide +kernel
theorem dX6_odds_91 : decode cX6_odds 91 = .ok (.iload 5, 2) := by decide +kernel
theorem dX6_odds_93 : decode cX6_odds 93 = .ok (.bipush 10, 2) := by decide +kernel
theorem dX6_odds_95 : decode cX6_odds 95 = .ok (.iload_n 2, 1) := by decide +kernel
theorem dX6_odds_96 : decode cX6_odds 96 = .ok (.invokestatic 245, 3) := by decide +kernel
theorem dX6_odds_99 : decode cX6_odds 99 = .ok (.iload 4, 2) := by decide +kernel
theorem dX6_odds_101 : decode cX6_odds 101 = .ok (.invokestatic 190, 3) := by decide +kernel
theorem dX6_odds_104 : decode cX6_odds 104 = .ok (.ireturn, 1) := by decide +kernel
theorem dX6_rate_0 : decode cX6_rate 0 = .ok (.aload_n 0, 1) := by decide +kernel
theorem dX6_rate_1 : decode cX6_rate 1 = .ok (.iload_n 2, 1) := by decide +kernel
theorem dX6_rate_2 : decode cX6_rate 2 = .ok (.invokevirtual 91, 3) := by decide +kernel
theorem dX6_rate_5 : decode cX6_rate 5 = .ok (.ifCond .ne 6, 3) := by decide +kernel
theorem dX6_rate_8 : decode cX6_rate 8 = .ok (.ldc 248, 2) := by decide +kernel
theorem dX6_rate_10 : decode cX6_rate 10 = .ok (.ireturn, 1) := by decide +kernel
theorem dX6_rate_11 : decode cX6_rate 11 = .ok (.iload_n 1, 1) := by decide +kernel
theorem dX6_rate_12 : decode cX6_rate 12 = .ok (.tableswitch 76 0 5 #[40, 46, 52, 58, 64, 70], 40) := by decide +kernel
theorem dX6_rate_52 : decode cX6_rate 52 = .ok (.aload_n 0, 1) := by decide +kernel
theorem dX6_rate_53 : decode cX6_rate 53 = .ok (.iload_n 2, 1) := by decide +kernel
theorem dX6_rate_54 : decode cX6_rate 54 = .ok (.invokevirtual 249, 3) := by decide +kernel
theorem dX6_rate_57 : decode cX6_rate 57 = .ok (.ireturn, 1) := by decide +kernel
theorem dX6_rate_58 : decode cX6_rate 58 = .ok (.aload_n 0, 1) := by decide +kernel
theorem dX6_rate_59 : decode cX6_rate 59 = .ok (.iload_n 2, 1) := by decide +kernel
theorem dX6_rate_60 : decode cX6_rate 60 = .ok (.invokevirtual 252, 3) := by decide +kernel
theorem dX6_rate_63 : decode cX6_rate 63 = .ok (.ireturn, 1) := by decide +kernel
theorem dX6_rate_64 : decode cX6_rate 64 = .ok (.aload_n 0, 1) := by decide +kernel
theorem dX6_rate_65 : decode cX6_rate 65 = .ok (.iload_n 2, 1) := by decide +kernel
theorem dX6_rate_66 : decode cX6_rate 66 = .ok (.invokevirtual 255, 3) := by decide +kernel
theorem dX6_rate_69 : decode cX6_rate 69 = .ok (.ireturn, 1) := by decide +kernel
theorem dX6_rate_70 : decode cX6_rate 70 = .ok (.aload_n 0, 1) := by decide +kernel
theorem dX6_rate_71 : decode cX6_rate 71 = .ok (.iload_n 2, 1) := by decide +kernel
theorem dX6_rate_72 : decode cX6_rate 72 = .ok (.invokevirtual 258, 3) := by decide +kernel
theorem dX6_rate_75 : decode cX6_rate 75 = .ok (.ireturn, 1) := by decide +kernel
theorem dX6_rate_76 : decode cX6_rate 76 = .ok (.aload_n 0, 1) := by decide +kernel
theorem dX6_rate_77 : decode cX6_rate 77 = .ok (.iload_n 2, 1) := by decide +kernel
theorem dX6_rate_78 : decode cX6_rate 78 = .ok (.invokevirtual 261, 3) := by decide +kernel
theorem dX6_rate_81 : decode cX6_rate 81 = .ok (.ireturn, 1) := by decide +kernel
theorem dX6_rate_82 : decode cX6_rate 82 = .ok (.aload_n 0, 1) := by decide +kernel
theorem dX6_rate_83 : decode cX6_rate 83 = .ok (.iload_n 2, 1) := by decide +kernel
theorem dX6_rate_84 : decode cX6_rate 84 = .ok (.invokevirtual 264, 3) := by decide +kernel
theorem dX6_rate_87 : decode cX6_rate 87 = .ok (.ireturn, 1) := by decide +kernel
theorem dX6_rate_88 : decode cX6_rate 88 = .ok (.ldc 248, 2) := by decide +kernel
theorem dX6_rate_90 : decode cX6_rate 90 = .ok (.ireturn, 1) := by decide +kernel
theorem dX6_keep_0 : decode cX6_keep 0 = .ok (.iload_n 1, 1) := by decide +kernel
theorem dX6_keep_1 : decode cX6_keep 1 = .ok (.invokestatic 267, 3) := by decide +kernel
theorem dX6_keep_4 : decode cX6_keep 4 = .ok (.ifCond .ne 5, 3) := by decide +kernel
theorem dX6_keep_7 : decode cX6_keep 7 = .ok (.iconst (-1), 1) := by decide +kernel
theorem dX6_keep_8 : decode cX6_keep 8 = .ok (.ireturn, 1) := by decide +kernel
theorem dX6_keep_9 : decode cX6_keep 9 = .ok (.aload_n 0, 1) := by decide +kernel
theorem dX6_keep_10 : decode cX6_keep 10 = .ok (.getfield 42, 3) := by decide +kernel
theorem dX6_keep_13 : decode cX6_keep 13 = .ok (.iload_n 1, 1) := by decide +kernel
theorem dX6_keep_14 : decode cX6_keep 14 = .ok (.aload_n 0, 1) := by decide +kernel
theorem dX6_keep_15 : decode cX6_keep 15 = .ok (.getfield 29, 3) := by decide +kernel
theorem dX6_keep_18 : decode cX6_keep 18 = .ok (.invokevirtual 270, 3) := by decide +kernel
theorem dX6_keep_21 : decode cX6_keep 21 = .ok (.aload_n 0, 1) := by decide +kernel
theorem dX6_keep_22 : decode cX6_keep 22 = .ok (.getfield 45, 3) := by decide +kernel
theorem dX6_keep_25 : decode cX6_keep 25 = .ok (.iload_n 1, 1) := by decide +kernel
theorem dX6_keep_26 : decode cX6_keep 26 = .ok (.iconst 1, 1) := by decide +kernel
theorem dX6_keep_27 : decode cX6_keep 27 = .ok (.bastore, 1) := by decide +kernel
theorem dX6_keep_28 : decode cX6_keep 28 = .ok (.aload_n 0, 1) := by decide +kernel
theorem dX6_keep_29 : decode cX6_keep 29 = .ok (.getfield 29, 3) := by decide +kernel
theorem dX6_keep_32 : decode cX6_keep 32 = .ok (.getfield 121, 3) := by decide +kernel
theorem dX6_keep_35 : decode cX6_keep 35 = .ok (.ireturn, 1) := by decide +kernel
theorem dX6_back_0 : decode cX6_back 0 = .ok (.iload_n 1, 1) := by decide +kernel
theorem dX6_back_1 : decode cX6_back 1 = .ok (.invokestatic 267, 3) := by decide +kernel
theorem dX6_back_4 : decode cX6_back 4 = .ok (.ifCond .ne 5, 3) := by decide +kernel
theorem dX6_back_7 : decode cX6_back 7 = .ok (.iconst (-1), 1) := by decide +kernel
theorem dX6_back_8 : decode cX6_back 8 = .ok (.ireturn, 1) := by decide +kernel
theorem dX6_back_9 : decode cX6_back 9 = .ok (.aload_n 0, 1) := by decide +kernel
theorem dX6_back_10 : decode cX6_back 10 = .ok (.getfield 45, 3) := by decide +kernel
theorem dX6_back_13 : decode cX6_back 13 = .ok (.iload_n 1, 1) := by decide +kernel
theorem dX6_back_14 : decode cX6_back 14 = .ok (.baload, 1) := by decide +kernel
theorem dX6_back_15 : decode cX6_back 15 = .ok (.ifCond .ne 6, 3) := by decide +kernel
theorem dX6_back_18 : decode cX6_back 18 = .ok (.bipush (-2), 2) := by decide +kernel
theorem dX6_back_20 : decode cX6_back 20 = .ok (.ireturn, 1) := by decide +kernel
theorem dX6_back_21 : decode cX6_back 21 = .ok (.aload_n 0, 1) := by decide +kernel
theorem dX6_back_22 : decode cX6_back 22 = .ok (.getfield 42, 3) := by decide +kernel
theorem dX6_back_25 : decode cX6_back 25 = .ok (.iload_n 1, 1) := by decide +kernel
theorem dX6_back_26 : decode cX6_back 26 = .ok (.aload_n 0, 1) := by decide +kernel
theorem dX6_back_27 : decode cX6_back 27 = .ok (.getfield 29, 3) := by decide +kernel
theorem dX6_back_30 : decode cX6_back 30 = .ok (.invokevirtual 176, 3) := by decide +kernel
theorem dX6_back_33 : decode cX6_back 33 = .ok (.aload_n 0, 1) := by decide +kernel
theorem dX6_back_34 : decode cX6_back 34 = .ok (.invokevirtual 273, 3) := by decide +kernel
theorem dX6_back_37 : decode cX6_back 37 = .ok (.aload_n 0, 1) := by decide +kernel
theorem dX6_back_38 : decode cX6_back 38 = .ok (.getfield 29, 3) := by decide +kernel
theorem dX6_back_41 : decode cX6_back 41 = .ok (.getfield 121, 3) := by decide +kernel
theorem dX6_back_44 : decode cX6_back 44 = .ok (.ireturn, 1) := by decide +kernel
theorem dX6_count_0 : decode cX6_count 0 = .ok (.iload_n 1, 1) := by decide +kernel
theorem dX6_count_1 : decode cX6_count 1 = .ok (.tableswitch 108 0 7 #[47, 55, 63, 71, 79, 87, 95, 100], 47) := by decide +kernel
theorem dX6_count_48 : decode cX6_count 48 = .ok (.aload_n 0, 1) := by decide +kernel
theorem dX6_count_49 : decode cX6_count 49 = .ok (.getfield 19, 3) := by decide +kernel
theorem dX6_count_52 : decode cX6_count 52 = .ok (.invokevirtual 219, 3) := by decide +kernel
theorem dX6_count_55 : decode cX6_count 55 = .ok (.ireturn, 1) := by decide +kernel
theorem dX6_count_56 : decode cX6_count 56 = .ok (.aload_n 0, 1) := by decide +kernel
theorem dX6_count_57 : decode cX6_count 57 = .ok (.getfield 19, 3) := by decide +kernel
theorem dX6_count_60 : decode cX6_count 60 = .ok (.invokevirtual 203, 3) := by decide +kernel
theorem dX6_count_63 : decode cX6_count 63 = .ok (.ireturn, 1) := by decide +kernel
theorem dX6_count_64 : decode cX6_count 64 = .ok (.aload_n 0, 1) := by decide +kernel
theorem dX6_count_65 : decode cX6_count 65 = .ok (.getfield 19, 3) := by decide +kernel
theorem dX6_count_68 : decode cX6_count 68 = .ok (.invokevirtual 180, 3) := by decide +kernel
theorem dX6_count_71 : decode cX6_count 71 = .ok (.ireturn, 1) := by decide +kernel
theorem dX6_count_72 : decode cX6_count 72 = .ok (.aload_n 0, 1) := by decide +kernel
theorem dX6_count_73 : decode cX6_count 73 = .ok (.getfield 19, 3) := by decide +kernel
theorem dX6_count_76 : decode cX6_count 76 = .ok (.invokevirtual 155, 3) := by decide +kernel
theorem dX6_count_79 : decode cX6_count 79 = .ok (.ireturn, 1) := by decide +kernel
theorem dX6_count_80 : decode cX6_count 80 = .ok (.aload_n 0, 1) := by decide +kernel
theorem dX6_count_81 : decode cX6_count 81 = .ok (.getfield 19, 3) := by decide +kernel
theorem dX6_count_84 : decode cX6_count 84 = .ok (.invokevirtual 158, 3) := by decide +kernel
theorem dX6_count_87 : decode cX6_count 87 = .ok (.ireturn, 1) := by decide +kernel
theorem dX6_count_88 : decode cX6_count 88 = .ok (.aload_n 0, 1) := by decide +kernel
theorem dX6_count_89 : decode cX6_count 89 = .ok (.getfield 19, 3) := by decide +kernel
theorem dX6_count_92 : decode cX6_count 92 = .ok (.invokevirtual 276, 3) := by decide +kernel
theorem dX6_count_95 : decode cX6_count 95 = .ok (.ireturn, 1) := by decide +kernel
theorem dX6_count_96 : decode cX6_count 96 = .ok (.aload_n 0, 1) := by decide +kernel
theorem dX6_count_97 : decode cX6_count 97 = .ok (.getfield 236, 3) := by decide +kernel
theorem dX6_count_100 : decode cX6_count 100 = .ok (.ireturn, 1) := by decide +kernel
theorem dX6_count_101 : decode cX6_count 101 = .ok (.aload_n 0, 1) := by decide +kernel
theorem dX6_count_102 : decode cX6_count 102 = .ok (.getfield 10, 3) := by decide +kernel
theorem dX6_count_105 : decode cX6_count 105 = .ok (.invokevirtual 80, 3) := by decide +kernel
theorem dX6_count_108 : decode cX6_count 108 = .ok (.ireturn, 1) := by decide +kernel
theorem dX6_count_109 : decode cX6_count 109 = .ok (.iconst (-1), 1) := by decide +kernel
theorem dX6_count_110 : decode cX6_count 110 = .ok (.ireturn, 1) := by decide +kernel
theorem dX6_trace_0 : decode cX6_trace 0 = .ok (.aload_n 0, 1) := by decide +kernel
theorem dX6_trace_1 : decode cX6_trace 1 = .ok (.getfield 279, 3) := by decide +kernel
theorem dX6_trace_4 : decode cX6_trace 4 = .ok (.lreturn, 1) := by decide +kernel
theorem dX6_isPart_0 : decode cX6_isPart 0 = .ok (.iload_n 1, 1) := by decide +kernel
theorem dX6_isPart_1 : decode cX6_isPart 1 = .ok (.ifCond .lt 18, 3) := by decide +kernel
theorem dX6_isPart_4 : decode cX6_isPart 4 = .ok (.iload_n 1, 1) := by decide +kernel
theorem dX6_isPart_5 : decode cX6_isPart 5 = .ok (.aload_n 0, 1) := by decide +kernel
theorem dX6_isPart_6 : decode cX6_isPart 6 = .ok (.getfield 19, 3) := by decide +kernel
theorem dX6_isPart_9 : decode cX6_isPart 9 = .ok (.invokevirtual 219, 3) := by decide +kernel
theorem dX6_isPart_12 : decode cX6_isPart 12 = .ok (.if_icmp .ge 7, 3) := by decide +kernel
theorem dX6_isPart_15 : decode cX6_isPart 15 = .ok (.iconst 1, 1) := by decide +kernel
theorem dX6_isPart_16 : decode cX6_isPart 16 = .ok (.goto 4, 3) := by decide +kernel
theorem dX6_isPart_19 : decode cX6_isPart 19 = .ok (.iconst 0, 1) := by decide +kernel
theorem dX6_isPart_20 : decode cX6_isPart 20 = .ok (.ireturn, 1) := by decide +kernel
theorem dX6_isOrder_0 : decode cX6_isOrder 0 = .ok (.iload_n 1, 1) := by decide +kernel
theorem dX6_isOrder_1 : decode cX6_isOrder 1 = .ok (.ifCond .lt 18, 3) := by decide +kernel
theorem dX6_isOrder_4 : decode cX6_isOrder 4 = .ok (.iload_n 1, 1) := by decide +kernel
theorem dX6_isOrder_5 : decode cX6_isOrder 5 = .ok (.aload_n 0, 1) := by decide +kernel
theorem dX6_isOrder_6 : decode cX6_isOrder 6 = .ok (.getfield 19, 3) := by decide +kernel
theorem dX6_isOrder_9 : decode cX6_isOrder 9 = .ok (.invokevirtual 203, 3) := by decide +kernel
theorem dX6_isOrder_12 : decode cX6_isOrder 12 = .ok (.if_icmp .ge 7, 3) := by decide +kernel
theorem dX6_isOrder_15 : decode cX6_isOrder 15 = .ok (.iconst 1, 1) := by decide +kernel
theorem dX6_isOrder_16 : decode cX6_isOrder 16 = .ok (.goto 4, 3) := by decide +kernel
theorem dX6_isOrder_19 : decode cX6_isOrder 19 = .ok (.iconst 0, 1) := by decide +kernel
theorem dX6_isOrder_20 : decode cX6_isOrder 20 = .ok (.ireturn, 1) := by decide +kernel
theorem dX6_isSide_0 : decode cX6_isSide 0 = .ok (.iload_n 0, 1) := by decide +kernel
theorem dX6_isSide_1 : decode cX6_isSide 1 = .ok (.ifCond .lt 13, 3) := by decide +kernel
theorem dX6_isSide_4 : decode cX6_isSide 4 = .ok (.iload_n 0, 1) := by decide +kernel
theorem dX6_isSide_5 : decode cX6_isSide 5 = .ok (.bipush 8, 2) := by decide +kernel
theorem dX6_isSide_7 : decode cX6_isSide 7 = .ok (.if_icmp .ge 7, 3) := by decide +kernel
theorem dX6_isSide_10 : decode cX6_isSide 10 = .ok (.iconst 1, 1) := by decide +kernel
theorem dX6_isSide_11 : decode cX6_isSide 11 = .ok (.goto 4, 3) := by decide +kernel
theorem dX6_isSide_14 : decode cX6_isSide 14 = .ok (.iconst 0, 1) := by decide +kernel
theorem dX6_isSide_15 : decode cX6_isSide 15 = .ok (.ireturn, 1) := by decide +kernel
theorem dX6_isImage_0 : decode cX6_isImage 0 = .ok (.iload_n 0, 1) := by decide +kernel
theorem dX6_isImage_1 : decode cX6_isImage 1 = .ok (.ifCond .lt 12, 3) := by decide +kernel
theorem dX6_isImage_4 : decode cX6_isImage 4 = .ok (.iload_n 0, 1) := by decide +kernel
theorem dX6_isImage_5 : decode cX6_isImage 5 = .ok (.iconst 2, 1) := by decide +kernel
theorem dX6_isImage_6 : decode cX6_isImage 6 = .ok (.if_icmp .ge 7, 3) := by decide +kernel
theorem dX6_isImage_9 : decode cX6_isImage 9 = .ok (.iconst 1, 1) := by decide +kernel
theorem dX6_isImage_10 : decode cX6_isImage 10 = .ok (.goto 4, 3) := by decide +kernel
theorem dX6_isImage_13 : decode cX6_isImage 13 = .ok (.iconst 0, 1) := by decide +kernel
theorem dX6_isImage_14 : decode cX6_isImage 14 = .ok (.ireturn, 1) := by decide +kernel
theorem dX6_isLate_0 : decode cX6_isLate 0 = .ok (.aload_n 0, 1) := by decide +kernel
theorem dX6_isLate_1 : decode cX6_isLate 1 = .ok (.getfield 29, 3) := by decide +kernel
theorem dX6_isLate_4 : decode cX6_isLate 4 = .ok (.getfield 121, 3) := by decide +kernel
theorem dX6_isLate_7 : decode cX6_isLate 7 = .ok (.aload_n 0, 1) := by decide +kernel
theorem dX6_isLate_8 : decode cX6_isLate 8 = .ok (.getfield 19, 3) := by decide +kernel
theorem dX6_isLate_11 : decode cX6_isLate 11 = .ok (.iconst 2, 1) := by decide +kernel
theorem dX6_isLate_12 : decode cX6_isLate 12 = .ok (.iload_n 1, 1) := by decide +kernel
theorem dX6_isLate_13 : decode cX6_isLate 13 = .ok (.invokevirtual 95, 3) := by decide +kernel
theorem dX6_isLate_16 : decode cX6_isLate 16 = .ok (.if_icmp .le 7, 3) := by decide +kernel
theorem dX6_isLate_19 : decode cX6_isLate 19 = .ok (.iconst 1, 1) := by decide +kernel
theorem dX6_isLate_20 : decode cX6_isLate 20 = .ok (.goto 4, 3) := by decide +kernel
theorem dX6_isLate_23 : decode cX6_isLate 23 = .ok (.iconst 0, 1) := by decide +kernel
theorem dX6_isLate_24 : decode cX6_isLate 24 = .ok (.ireturn, 1) := by decide +kernel
theorem dX6_startAnew_0 : decode cX6_startAnew 0 = .ok (.aload_n 0, 1) := by decide +kernel
theorem dX6_startAnew_1 : decode cX6_startAnew 1 = .ok (.getfield 29, 3) := by decide +kernel
theorem dX6_startAnew_4 : decode cX6_startAnew 4 = .ok (.aload_n 0, 1) := by decide +kernel
theorem dX6_startAnew_5 : decode cX6_startAnew 5 = .ok (.getfield 19, 3) := by decide +kernel
theorem dX6_startAnew_8 : decode cX6_startAnew 8 = .ok (.invokevirtual 283, 3) := by decide +kernel
theorem dX6_startAnew_11 : decode cX6_startAnew 11 = .ok (.aload_n 0, 1) := by decide +kernel
theorem dX6_startAnew_12 : decode cX6_startAnew 12 = .ok (.invokevirtual 273, 3) := by decide +kernel
theorem dX6_startAnew_15 : decode cX6_startAnew 15 = .ok (.aload_n 0, 1) := by decide +kernel
theorem dX6_startAnew_16 : decode cX6_startAnew 16 = .ok (.iconst 0, 1) := by decide +kernel
theorem dX6_startAnew_17 : decode cX6_startAnew 17 = .ok (.putfield 236, 3) := by decide +kernel
theorem dX6_startAnew_20 : decode cX6_startAnew 20 = .ok (.iconst 0, 1) := by decide +kernel
theorem dX6_startAnew_21 : decode cX6_startAnew 21 = .ok (.istore_n 1, 1) := by decide +kernel
theorem dX6_startAnew_22 : decode cX6_startAnew 22 = .ok (.iload_n 1, 1) := by decide +kernel
theorem dX6_startAnew_23 : decode cX6_startAnew 23 = .ok (.aload_n 0, 1) := by decide +kernel
theorem dX6_startAnew_24 : decode cX6_startAnew 24 = .ok (.getfield 45, 3) := by decide +kernel
theorem dX6_startAnew_27 : decode cX6_startAnew 27 = .ok (.arraylength, 1) := by decide +kernel
theorem dX6_startAnew_28 : decode cX6_startAnew 28 = .ok (.if_icmp .ge 16, 3) := by decide +kernel
theorem dX6_startAnew_31 : decode cX6_startAnew 31 = .ok (.aload_n 0, 1) := by decide +kernel
theorem dX6_startAnew_32 : decode cX6_startAnew 32 = .ok (.getfield 45, 3) := by decide +kernel
theorem dX6_startAnew_35 : decode cX6_startAnew 35 = .ok (.iload_n 1, 1) := by decide +kernel
theorem dX6_startAnew_36 : decode cX6_startAnew 36 = .ok (.iconst 0, 1) := by decide +kernel
theorem dX6_startAnew_37 : decode cX6_startAnew 37 = .ok (.bastore, 1) := by decide +kernel
theorem dX6_startAnew_38 : decode cX6_startAnew 38 = .ok (.iinc 1 1, 3) := by decide +kernel
theorem dX6_startAnew_41 : decode cX6_startAnew 41 = .ok (.goto (-19), 3) := by decide +kernel
theorem dX6_startAnew_44 : decode cX6_startAnew 44 = .ok (.return_, 1) := by decide +kernel
theorem dX6_forgetPast_0 : decode cX6_forgetPast 0 = .ok (.aload_n 0, 1) := by decide +kernel
theorem dX6_forgetPast_1 : decode cX6_forgetPast 1 = .ok (.iconst 0, 1) := by decide +kernel
theorem dX6_forgetPast_2 : decode cX6_forgetPast 2 = .ok (.putfield 143, 3) := by decide +kernel
theorem dX6_forgetPast_5 : decode cX6_forgetPast 5 = .ok (.aload_n 0, 1) := by decide +kernel
theorem dX6_forgetPast_6 : decode cX6_forgetPast 6 = .ok (.iconst 0, 1) := by decide +kernel
theorem dX6_forgetPast_7 : decode cX6_forgetPast 7 = .ok (.putfield 173, 3) := by decide +kernel
theorem dX6_forgetPast_10 : decode cX6_forgetPast 10 = .ok (.return_, 1) := by decide +kernel
theorem dX6_remember_0 : decode cX6_remember 0 = .ok (.aload_n 0, 1) := by decide +kernel
theorem dX6_remember_1 : decode cX6_remember 1 = .ok (.getfield 38, 3) := by decide +kernel
theorem dX6_remember_4 : decode cX6_remember 4 = .ok (.aload_n 0, 1) := by decide +kernel
theorem dX6_remember_5 : decode cX6_remember 5 = .ok (.getfield 173, 3) := by decide +kernel
theorem dX6_remember_8 : decode cX6_remember 8 = .ok (.aload_n 0, 1) := by decide +kernel
theorem dX6_remember_9 : decode cX6_remember 9 = .ok (.getfield 29, 3) := by decide +kernel
theorem dX6_remember_12 : decode cX6_remember 12 = .ok (.invokevirtual 270, 3) := by decide +kernel
theorem dX6_remember_15 : decode cX6_remember 15 = .ok (.aload_n 0, 1) := by decide +kernel
theorem dX6_remember_16 : decode cX6_remember 16 = .ok (.aload_n 0, 1) := by decide +kernel
theorem dX6_remember_17 : decode cX6_remember 17 = .ok (.getfield 173, 3) := by decide +kernel
theorem dX6_remember_20 : decode cX6_remember 20 = .ok (.iconst 1, 1) := by decide +kernel
theorem dX6_remember_21 : decode cX6_remember 21 = .ok (.iadd, 1) := by decide +kernel
theorem dX6_remember_22 : decode cX6_remember 22 = .ok (.bipush 10, 2) := by decide +kernel
theorem dX6_remember_24 : decode cX6_remember 24 = .ok (.if_icmp .ge 12, 3) := by decide +kernel
theorem dX6_remember_27 : decode cX6_remember 27 = .ok (.aload_n 0, 1) := by decide +kernel
theorem dX6_remember_28 : decode cX6_remember 28 = .ok (.getfield 173, 3) := by decide +kernel
theorem dX6_remember_31 : decode cX6_remember 31 = .ok (.iconst 1, 1) := by decide +kernel
theorem dX6_remember_32 : decode cX6_remember 32 = .ok (.iadd, 1) := by decide +kernel
theorem dX6_remember_33 : decode cX6_remember 33 = .ok (.goto 4, 3) := by decide +kernel
theorem dX6_remember_36 : decode cX6_remember 36 = .ok (.iconst 0, 1) := by decide +kernel
theorem dX6_remember_37 : decode cX6_remember 37 = .ok (.putfield 173, 3) := by decide +kernel
theorem dX6_remember_40 : decode cX6_remember 40 = .ok (.aload_n 0, 1) := by decide +kernel
theorem dX6_remember_41 : decode cX6_remember 41 = .ok (.bipush 10, 2) := by decide +kernel
theorem dX6_remember_43 : decode cX6_remember 43 = .ok (.aload_n 0, 1) := by decide +kernel
theorem dX6_remember_44 : decode cX6_remember 44 = .ok (.getfield 143, 3) := by decide +kernel
theorem dX6_remember_47 : decode cX6_remember 47 = .ok (.iconst 1, 1) := by decide +kernel
theorem dX6_remember_48 : decode cX6_remember 48 = .ok (.iadd, 1) := by decide +kernel
theorem dX6_remember_49 : decode cX6_remember 49 = .ok (.invokestatic 287, 3) := by decide +kernel
theorem dX6_remember_52 : decode cX6_remember 52 = .ok (.putfield 143, 3) := by decide +kernel
theorem dX6_remember_55 : decode cX6_remember 55 = .ok (.return_, 1) := by decide +kernel
theorem dX6_giftOf_0 : decode cX6_giftOf 0 = .ok (.aload_n 0, 1) := by decide +kernel
theorem dX6_giftOf_1 : decode cX6_giftOf 1 = .ok (.getfield 19, 3) := by decide +kernel
theorem dX6_giftOf_4 : decode cX6_giftOf 4 = .ok (.iconst 0, 1) := by decide +kernel
theorem dX6_giftOf_5 : decode cX6_giftOf 5 = .ok (.iload_n 1, 1) := by decide +kernel
theorem dX6_giftOf_6 : decode cX6_giftOf 6 = .ok (.invokevirtual 95, 3) := by decide +kernel
theorem dX6_giftOf_9 : decode cX6_giftOf 9 = .ok (.aload_n 0, 1) := by decide +kernel
theorem dX6_giftOf_10 : decode cX6_giftOf 10 = .ok (.getfield 29, 3) := by decide +kernel
theorem dX6_giftOf_13 : decode cX6_giftOf 13 = .ok (.iload_n 1, 1) := by decide +kernel
theorem dX6_giftOf_14 : decode cX6_giftOf 14 = .ok (.invokevirtual 99, 3) := by decide +kernel
theorem dX6_giftOf_17 : decode cX6_giftOf 17 = .ok (.aload_n 0, 1) := by decide +kernel
theorem dX6_giftOf_18 : decode cX6_giftOf 18 = .ok (.getfield 19, 3) := by decide +kernel
theorem dX6_giftOf_21 : decode cX6_giftOf 21 = .ok (.invokevirtual 180, 3) := by decide +kernel
theorem dX6_giftOf_24 : decode cX6_giftOf 24 = .ok (.invokestatic 183, 3) := by decide +kernel
theorem dX6_giftOf_27 : decode cX6_giftOf 27 = .ok (.ireturn, 1) := by decide +kernel
theorem dX6_gift_0 : decode cX6_gift 0 = .ok (.iload_n 1, 1) := by decide +kernel
theorem dX6_gift_1 : decode cX6_gift 1 = .ok (.iload_n 2, 1) := by decide +kernel
theorem dX6_gift_2 : decode cX6_gift 2 = .ok (.if_icmp .gt 9, 3) := by decide +kernel
theorem dX6_gift_5 : decode cX6_gift 5 = .ok (.iload_n 1, 1) := by decide +kernel
theorem dX6_gift_6 : decode cX6_gift 6 = .ok (.iconst 2, 1) := by decide +kernel
theorem dX6_gift_7 : decode cX6_gift 7 = .ok (.isub, 1) := by decide +kernel
theorem dX6_gift_8 : decode cX6_gift 8 = .ok (.goto 10, 3) := by decide +kernel
theorem dX6_gift_11 : decode cX6_gift 11 = .ok (.iload_n 2, 1) := by decide +kernel
theorem dX6_gift_12 : decode cX6_gift 12 = .ok (.iconst 2, 1) := by decide +kernel
theorem dX6_gift_13 : decode cX6_gift 13 = .ok (.isub, 1) := by decide +kernel
theorem dX6_gift_14 : decode cX6_gift 14 = .ok (.iload_n 1, 1) := by decide +kernel
theorem dX6_gift_15 : decode cX6_gift 15 = .ok (.iload_n 2, 1) := by decide +kernel
theorem dX6_gift_16 : decode cX6_gift 16 = .ok (.isub, 1) := by decide +kernel
theorem dX6_gift_17 : decode cX6_gift 17 = .ok (.isub, 1) := by decide +kernel
theorem dX6_gift_18 : decode cX6_gift 18 = .ok (.istore_n 3, 1) := by decide +kernel
theorem dX6_gift_19 : decode cX6_gift 19 = .ok (.iload_n 3, 1) := by decide +kernel
theorem dX6_gift_20 : decode cX6_gift 20 = .ok (.ifCond .le 9, 3) := by decide +kernel
theorem dX6_gift_23 : decode cX6_gift 23 = .ok (.iload_n 0, 1) := by decide +kernel
theorem dX6_gift_24 : decode cX6_gift 24 = .ok (.iload_n 3, 1) := by decide +kernel
theorem dX6_gift_25 : decode cX6_gift 25 = .ok (.imul, 1) := by decide +kernel
theorem dX6_gift_26 : decode cX6_gift 26 = .ok (.goto 4, 3) := by decide +kernel
theorem dX6_gift_29 : decode cX6_gift 29 = .ok (.iconst 0, 1) := by decide +kernel
theorem dX6_gift_30 : decode cX6_gift 30 = .ok (.ireturn, 1) := by decide +kernel
theorem dX6_giftsOf_0 : decode cX6_giftsOf 0 = .ok (.iconst 0, 1) := by decide +kernel
theorem dX6_giftsOf_1 : decode cX6_giftsOf 1 = .ok (.istore_n 2, 1) := by decide +kernel
theorem dX6_giftsOf_2 : decode cX6_giftsOf 2 = .ok (.iconst 0, 1) := by decide +kernel
theorem dX6_giftsOf_3 : decode cX6_giftsOf 3 = .ok (.istore_n 3, 1) := by decide +kernel
theorem dX6_giftsOf_4 : decode cX6_giftsOf 4 = .ok (.iload_n 3, 1) := by decide +kernel
theorem dX6_giftsOf_5 : decode cX6_giftsOf 5 = .ok (.aload_n 0, 1) := by decide +kernel
theorem dX6_giftsOf_6 : decode cX6_giftsOf 6 = .ok (.getfield 19, 3) := by decide +kernel
theorem dX6_giftsOf_9 : decode cX6_giftsOf 9 = .ok (.invokevirtual 219, 3) := by decide +kernel
theorem dX6_giftsOf_12 : decode cX6_giftsOf 12 = .ok (.if_icmp .ge 26, 3) := by decide +kernel
theorem dX6_giftsOf_15 : decode cX6_giftsOf 15 = .ok (.iload_n 1, 1) := by decide +kernel
theorem dX6_giftsOf_16 : decode cX6_giftsOf 16 = .ok (.iload_n 3, 1) := by decide +kernel
theorem dX6_giftsOf_17 : decode cX6_giftsOf 17 = .ok (.ishr, 1) := by decide +kernel
theorem dX6_giftsOf_18 : decode cX6_giftsOf 18 = .ok (.iconst 1, 1) := by decide +kernel
theorem dX6_giftsOf_19 : decode cX6_giftsOf 19 = .ok (.iand, 1) := by decide +kernel
theorem dX6_giftsOf_20 : decode cX6_giftsOf 20 = .ok (.iconst 1, 1) := by decide +kernel
theorem dX6_giftsOf_21 : decode cX6_giftsOf 21 = .ok (.if_icmp .ne 11, 3) := by decide +kernel
theorem dX6_giftsOf_24 : decode cX6_giftsOf 24 = .ok (.iload_n 2, 1) := by decide +kernel
theorem dX6_giftsOf_25 : decode cX6_giftsOf 25 = .ok (.aload_n 0, 1) := by decide +kernel
theorem dX6_giftsOf_26 : decode cX6_giftsOf 26 = .ok (.iload_n 3, 1) := by decide +kernel
theorem dX6_giftsOf_27 : decode cX6_giftsOf 27 = .ok (.invokevirtual 103, 3) := by decide +kernel
theorem dX6_giftsOf_30 : decode cX6_giftsOf 30 = .ok (.iadd, 1) := by decide +kernel
theorem dX6_giftsOf_31 : decode cX6_giftsOf 31 = .ok (.istore_n 2, 1) := by decide +kernel
theorem dX6_giftsOf_32 : decode cX6_giftsOf 32 = .ok (.iinc 3 1, 3) := by decide +kernel
theorem dX6_giftsOf_35 : decode cX6_giftsOf 35 = .ok (.goto (-31), 3) := by decide +kernel
theorem dX6_giftsOf_38 : decode cX6_giftsOf 38 = .ok (.iload_n 2, 1) := by decide +kernel
theorem dX6_giftsOf_39 : decode cX6_giftsOf 39 = .ok (.ireturn, 1) := by decide +kernel
theorem dX6_bestTurn_0 : decode cX6_bestTurn 0 = .ok (.iconst 1, 1) := by decide +kernel
theorem dX6_bestTurn_1 : decode cX6_bestTurn 1 = .ok (.istore_n 1, 1) := by decide +kernel
theorem dX6_bestTurn_2 : decode cX6_bestTurn 2 = .ok (.iconst 1, 1) := by decide +kernel
theorem dX6_bestTurn_3 : decode cX6_bestTurn 3 = .ok (.iconst 1, 1) := by decide +kernel
theorem dX6_bestTurn_4 : decode cX6_bestTurn 4 = .ok (.aload_n 0, 1) := by decide +kernel
theorem dX6_bestTurn_5 : decode cX6_bestTurn 5 = .ok (.getfield 19, 3) := by decide +kernel
theorem dX6_bestTurn_8 : decode cX6_bestTurn 8 = .ok (.invokevirtual 180, 3) := by decide +kernel
theorem dX6_bestTurn_11 : decode cX6_bestTurn 11 = .ok (.invokestatic 183, 3) := by decide +kernel
theorem dX6_bestTurn_14 : decode cX6_bestTurn 14 = .ok (.istore_n 2, 1) := by decide +kernel
theorem dX6_bestTurn_15 : decode cX6_bestTurn 15 = .ok (.iconst 2, 1) := by decide +kernel
theorem dX6_bestTurn_16 : decode cX6_bestTurn 16 = .ok (.istore_n 3, 1) := by decide +kernel
theorem dX6_bestTurn_17 : decode cX6_bestTurn 17 = .ok (.iload_n 3, 1) := by decide +kernel
theorem dX6_bestTurn_18 : decode cX6_bestTurn 18 = .ok (.bipush 30, 2) := by decide +kernel
theorem dX6_bestTurn_20 : decode cX6_bestTurn 20 = .ok (.if_icmp .gt 38, 3) := by decide +kernel
theorem dX6_bestTurn_23 : decode cX6_bestTurn 23 = .ok (.iconst 1, 1) := by decide +kernel
theorem dX6_bestTurn_24 : decode cX6_bestTurn 24 = .ok (.iload_n 3, 1) := by decide +kernel
theorem dX6_bestTurn_25 : decode cX6_bestTurn 25 = .ok (.aload_n 0, 1) := by decide +kernel
theorem dX6_bestTurn_26 : decode cX6_bestTurn 26 = .ok (.getfield 19, 3) := by decide +kernel
theorem dX6_bestTurn_29 : decode cX6_bestTurn 29 = .ok (.invokevirtual 180, 3) := by decide +kernel
theorem dX6_bestTurn_32 : decode cX6_bestTurn 32 = .ok (.invokestatic 183, 3) := by decide +kernel
theorem dX6_bestTurn_35 : decode cX6_bestTurn 35 = .ok (.istore 4, 2) := by decide +kernel
theorem dX6_bestTurn_37 : decode cX6_bestTurn 37 = .ok (.iload 4, 2) := by decide +kernel
theorem dX6_bestTurn_39 : decode cX6_bestTurn 39 = .ok (.iload_n 1, 1) := by decide +kernel
theorem dX6_bestTurn_40 : decode cX6_bestTurn 40 = .ok (.imul, 1) := by decide +kernel
theorem dX6_bestTurn_41 : decode cX6_bestTurn 41 = .ok (.iload_n 2, 1) := by decide +kernel
theorem dX6_bestTurn_42 : decode cX6_bestTurn 42 = .ok (.iload_n 3, 1) := by decide +kernel
theorem dX6_bestTurn_43 : decode cX6_bestTurn 43 = .ok (.imul, 1) := by decide +kernel
theorem dX6_bestTurn_44 : decode cX6_bestTurn 44 = .ok (.if_icmp .le 8, 3) := by decide +kernel
theorem dX6_bestTurn_47 : decode cX6_bestTurn 47 = .ok (.iload_n 3, 1) := by decide +kernel
theorem dX6_bestTurn_48 : decode cX6_bestTurn 48 = .ok (.istore_n 1, 1) := by decide +kernel
theorem dX6_bestTurn_49 : decode cX6_bestTurn 49 = .ok (.iload 4, 2) := by decide +kernel
theorem dX6_bestTurn_51 : decode cX6_bestTurn 51 = .ok (.istore_n 2, 1) := by decide +kernel
theorem dX6_bestTurn_52 : decode cX6_bestTurn 52 = .ok (.iinc 3 1, 3) := by decide +kernel
theorem dX6_bestTurn_55 : decode cX6_bestTurn 55 = .ok (.goto (-38), 3) := by decide +kernel
theorem dX6_bestTurn_58 : decode cX6_bestTurn 58 = .ok (.iload_n 1, 1) := by decide +kernel
theorem dX6_bestTurn_59 : decode cX6_bestTurn 59 = .ok (.ireturn, 1) := by decide +kernel
theorem dX6_coinsOf_0 : decode cX6_coinsOf 0 = .ok (.iconst 0, 1) := by decide +kernel
theorem dX6_coinsOf_1 : decode cX6_coinsOf 1 = .ok (.istore_n 2, 1) := by decide +kernel
theorem dX6_coinsOf_2 : decode cX6_coinsOf 2 = .ok (.iconst 0, 1) := by decide +kernel
theorem dX6_coinsOf_3 : decode cX6_coinsOf 3 = .ok (.istore_n 3, 1) := by decide +kernel
theorem dX6_coinsOf_4 : decode cX6_coinsOf 4 = .ok (.iload_n 3, 1) := by decide +kernel
theorem dX6_coinsOf_5 : decode cX6_coinsOf 5 = .ok (.aload_n 0, 1) := by decide +kernel
theorem dX6_coinsOf_6 : decode cX6_coinsOf 6 = .ok (.getfield 19, 3) := by decide +kernel
theorem dX6_coinsOf_9 : decode cX6_coinsOf 9 = .ok (.invokevirtual 203, 3) := by decide +kernel
theorem dX6_coinsOf_12 : decode cX6_coinsOf 12 = .ok (.if_icmp .ge 30, 3) := by decide +kernel
theorem dX6_coinsOf_15 : decode cX6_coinsOf 15 = .ok (.iload_n 1, 1) := by decide +kernel
theorem dX6_coinsOf_16 : decode cX6_coinsOf 16 = .ok (.iload_n 3, 1) := by decide +kernel
theorem dX6_coinsOf_17 : decode cX6_coinsOf 17 = .ok (.ishr, 1) := by decide +kernel
theorem dX6_coinsOf_18 : decode cX6_coinsOf 18 = .ok (.iconst 1, 1) := by decide +kernel
theorem dX6_coinsOf_19 : decode cX6_coinsOf 19 = .ok (.iand, 1) := by decide +kernel
theorem dX6_coinsOf_20 : decode cX6_coinsOf 20 = .ok (.iconst 1, 1) := by decide +kernel
theorem dX6_coinsOf_21 : decode cX6_coinsOf 21 = .ok (.if_icmp .ne 15, 3) := by decide +kernel
theorem dX6_coinsOf_24 : decode cX6_coinsOf 24 = .ok (.iload_n 2, 1) := by decide +kernel
theorem dX6_coinsOf_25 : decode cX6_coinsOf 25 = .ok (.aload_n 0, 1) := by decide +kernel
theorem dX6_coinsOf_26 : decode cX6_coinsOf 26 = .ok (.getfield 19, 3) := by decide +kernel
theorem dX6_coinsOf_29 : decode cX6_coinsOf 29 = .ok (.iconst 4, 1) := by decide +kernel
theorem dX6_coinsOf_30 : decode cX6_coinsOf 30 = .ok (.iload_n 3, 1) := by decide +kernel
theorem dX6_coinsOf_31 : decode cX6_coinsOf 31 = .ok (.invokevirtual 95, 3) := by decide +kernel
theorem dX6_coinsOf_34 : decode cX6_coinsOf 34 = .ok (.iadd, 1) := by decide +kernel
theorem dX6_coinsOf_35 : decode cX6_coinsOf 35 = .ok (.istore_n 2, 1) := by decide +kernel
theorem dX6_coinsOf_36 : decode cX6_coinsOf 36 = .ok (.iinc 3 1, 3) := by decide +kernel
theorem dX6_coinsOf_39 : decode cX6_coinsOf 39 = .ok (.goto (-35), 3) := by decide +kernel
theorem dX6_coinsOf_42 : decode cX6_coinsOf 42 = .ok (.iload_n 2, 1) := by decide +kernel
theorem dX6_coinsOf_43 : decode cX6_coinsOf 43 = .ok (.ireturn, 1) := by decide +kernel
theorem dX6_besomsDueBy_0 : decode cX6_besomsDueBy 0 = .ok (.iconst 0, 1) := by decide +kernel
theorem dX6_besomsDueBy_1 : decode cX6_besomsDueBy 1 = .ok (.istore_n 3, 1) := by decide +kernel
theorem dX6_besomsDueBy_2 : decode cX6_besomsDueBy 2 = .ok (.iconst 0, 1) := by decide +kernel
theorem dX6_besomsDueBy_3 : decode cX6_besomsDueBy 3 = .ok (.istore 4, 2) := by decide +kernel
theorem dX6_besomsDueBy_5 : decode cX6_besomsDueBy 5 = .ok (.iload 4, 2) := by decide +kernel
theorem dX6_besomsDueBy_7 : decode cX6_besomsDueBy 7 = .ok (.aload_n 0, 1) := by decide +kernel
theorem dX6_besomsDueBy_8 : decode cX6_besomsDueBy 8 = .ok (.getfield 19, 3) := by decide +kernel
theorem dX6_besomsDueBy_11 : decode cX6_besomsDueBy 11 = .ok (.invokevirtual 203, 3) := by decide +kernel
theorem dX6_besomsDueBy_14 : decode cX6_besomsDueBy 14 = .ok (.if_icmp .ge 46, 3) := by decide +kernel
theorem dX6_besomsDueBy_17 : decode cX6_besomsDueBy 17 = .ok (.iload_n 1, 1) := by decide +kernel
theorem dX6_besomsDueBy_18 : decode cX6_besomsDueBy 18 = .ok (.iload 4, 2) := by decide +kernel
theorem dX6_besomsDueBy_20 : decode cX6_besomsDueBy 20 = .ok (.ishr, 1) := by decide +kernel
theorem dX6_besomsDueBy_21 : decode cX6_besomsDueBy 21 = .ok (.iconst 1, 1) := by decide +kernel
theorem dX6_besomsDueBy_22 : decode cX6_besomsDueBy 22 = .ok (.iand, 1) := by decide +kernel
theorem dX6_besomsDueBy_23 : decode cX6_besomsDueBy 23 = .ok (.iconst 1, 1) := by decide +kernel
theorem dX6_besomsDueBy_24 : decode cX6_besomsDueBy 24 = .ok (.if_icmp .ne 30, 3) := by decide +kernel
theorem dX6_besomsDueBy_27 : decode cX6_besomsDueBy 27 = .ok (.aload_n 0, 1) := by decide +kernel
theorem dX6_besomsDueBy_28 : decode cX6_besomsDueBy 28 = .ok (.getfield 19, 3) := by decide +kernel
theorem dX6_besomsDueBy_31 : decode cX6_besomsDueBy 31 = .ok (.iconst 2, 1) := by decide +kernel
theorem dX6_besomsDueBy_32 : decode cX6_besomsDueBy 32 = .ok (.iload 4, 2) := by decide +kernel
theorem dX6_besomsDueBy_34 : decode cX6_besomsDueBy 34 = .ok (.invokevirtual 95, 3) := by decide +kernel
theorem dX6_besomsDueBy_37 : decode cX6_besomsDueBy 37 = .ok (.iload_n 2, 1) := by decide +kernel
theorem dX6_besomsDueBy_38 : decode cX6_besomsDueBy 38 = .ok (.if_icmp .gt 16, 3) := by decide +kernel
theorem dX6_besomsDueBy_41 : decode cX6_besomsDueBy 41 = .ok (.iload_n 3, 1) := by decide +kernel
theorem dX6_besomsDueBy_42 : decode cX6_besomsDueBy 42 = .ok (.aload_n 0, 1) := by decide +kernel
theorem dX6_besomsDueBy_43 : decode cX6_besomsDueBy 43 = .ok (.getfield 19, 3) := by decide +kernel
theorem dX6_besomsDueBy_46 : decode cX6_besomsDueBy 46 = .ok (.iconst 3, 1) := by decide +kernel
theorem dX6_besomsDueBy_47 : decode cX6_besomsDueBy 47 = .ok (.iload 4, 2) := by decide +kernel
theorem dX6_besomsDueBy_49 : decode cX6_besomsDueBy 49 = .ok (.invokevirtual 95, 3) := by decide +kernel
theorem dX6_besomsDueBy_52 : decode cX6_besomsDueBy 52 = .ok (.iadd, 1) := by decide +kernel
theorem dX6_besomsDueBy_53 : decode cX6_besomsDueBy 53 = .ok (.istore_n 3, 1) := by decide +kernel
theorem dX6_besomsDueBy_54 : decode cX6_besomsDueBy 54 = .ok (.iinc 4 1, 3) := by decide +kernel
theorem dX6_besomsDueBy_57 : decode cX6_besomsDueBy 57 = .ok (.goto (-52), 3) := by decide +kernel
theorem dX6_besomsDueBy_60 : decode cX6_besomsDueBy 60 = .ok (.iload_n 3, 1) := by decide +kernel
theorem dX6_besomsDueBy_61 : decode cX6_besomsDueBy 61 = .ok (.ireturn, 1) := by decide +kernel
theorem dX6_canBeKept_0 : decode cX6_canBeKept 0 = .ok (.aload_n 0, 1) := by decide +kernel
theorem dX6_canBeKept_1 : decode cX6_canBeKept 1 = .ok (.getfield 29, 3) := by decide +kernel
theorem dX6_canBeKept_4 : decode cX6_canBeKept 4 = .ok (.getfield 128, 3) := by decide +kernel
theorem dX6_canBeKept_7 : decode cX6_canBeKept 7 = .ok (.aload_n 0, 1) := by decide +kernel
theorem dX6_canBeKept_8 : decode cX6_canBeKept 8 = .ok (.getfield 19, 3) := by decide +kernel
theorem dX6_canBeKept_11 : decode cX6_canBeKept 11 = .ok (.invokevirtual 155, 3) := by decide +kernel
theorem dX6_canBeKept_14 : decode cX6_canBeKept 14 = .ok (.invokestatic 292, 3) := by decide +kernel
theorem dX6_canBeKept_17 : decode cX6_canBeKept 17 = .ok (.istore_n 2, 1) := by decide +kernel
theorem dX6_canBeKept_18 : decode cX6_canBeKept 18 = .ok (.iconst 0, 1) := by decide +kernel
theorem dX6_canBeKept_19 : decode cX6_canBeKept 19 = .ok (.istore_n 3, 1) := by decide +kernel
theorem dX6_canBeKept_20 : decode cX6_canBeKept 20 = .ok (.iload_n 3, 1) := by decide +kernel
theorem dX6_canBeKept_21 : decode cX6_canBeKept 21 = .ok (.aload_n 0, 1) := by decide +kernel
theorem dX6_canBeKept_22 : decode cX6_canBeKept 22 = .ok (.getfield 19, 3) := by decide +kernel
theorem dX6_canBeKept_25 : decode cX6_canBeKept 25 = .ok (.invokevirtual 203, 3) := by decide +kernel
theorem dX6_canBeKept_28 : decode cX6_canBeKept 28 = .ok (.if_icmp .ge 100, 3) := by decide +kernel
theorem dX6_canBeKept_31 : decode cX6_canBeKept 31 = .ok (.iload_n 1, 1) := by decide +kernel
theorem dX6_canBeKept_32 : decode cX6_canBeKept 32 = .ok (.iload_n 3, 1) := by decide +kernel
theorem dX6_canBeKept_33 : decode cX6_canBeKept 33 = .ok (.ishr, 1) := by decide +kernel
theorem dX6_canBeKept_34 : decode cX6_canBeKept 34 = .ok (.iconst 1, 1) := by decide +kernel
theorem dX6_canBeKept_35 : decode cX6_canBeKept 35 = .ok (.iand, 1) := by decide +kernel
theorem dX6_canBeKept_36 : decode cX6_canBeKept 36 = .ok (.ifCond .ne 6, 3) := by decide +kernel
theorem dX6_canBeKept_39 : decode cX6_canBeKept 39 = .ok (.goto 83, 3) := by decide +kernel
theorem dX6_canBeKept_42 : decode cX6_canBeKept 42 = .ok (.aload_n 0, 1) := by decide +kernel
theorem dX6_canBeKept_43 : decode cX6_canBeKept 43 = .ok (.getfield 19, 3) := by decide +kernel
theorem dX6_canBeKept_46 : decode cX6_canBeKept 46 = .ok (.iconst 2, 1) := by decide +kernel
theorem dX6_canBeKept_47 : decode cX6_canBeKept 47 = .ok (.iload_n 3, 1) := by decide +kernel
theorem dX6_canBeKept_48 : decode cX6_canBeKept 48 = .ok (.invokevirtual 95, 3) := by decide +kernel
theorem dX6_canBeKept_51 : decode cX6_canBeKept 51 = .ok (.istore 4, 2) := by decide +kernel
theorem dX6_canBeKept_53 : decode cX6_canBeKept 53 = .ok (.iload_n 2, 1) := by decide +kernel
theorem dX6_canBeKept_54 : decode cX6_canBeKept 54 = .ok (.aload_n 0, 1) := by decide +kernel
theorem dX6_canBeKept_55 : decode cX6_canBeKept 55 = .ok (.getfield 19, 3) := by decide +kernel
theorem dX6_canBeKept_58 : decode cX6_canBeKept 58 = .ok (.invokevirtual 158, 3) := by decide +kernel
theorem dX6_canBeKept_61 : decode cX6_canBeKept 61 = .ok (.iconst 0, 1) := by decide +kernel
theorem dX6_canBeKept_62 : decode cX6_canBeKept 62 = .ok (.iload 4, 2) := by decide +kernel
theorem dX6_canBeKept_64 : decode cX6_canBeKept 64 = .ok (.aload_n 0, 1) := by decide +kernel
theorem dX6_canBeKept_65 : decode cX6_canBeKept 65 = .ok (.getfield 29, 3) := by decide +kernel
theorem dX6_canBeKept_68 : decode cX6_canBeKept 68 = .ok (.getfield 121, 3) := by decide +kernel
theorem dX6_canBeKept_71 : decode cX6_canBeKept 71 = .ok (.isub, 1) := by decide +kernel
theorem dX6_canBeKept_72 : decode cX6_canBeKept 72 = .ok (.invokestatic 295, 3) := by decide +kernel
theorem dX6_canBeKept_75 : decode cX6_canBeKept 75 = .ok (.imul, 1) := by decide +kernel
theorem dX6_canBeKept_76 : decode cX6_canBeKept 76 = .ok (.invokestatic 287, 3) := by decide +kernel
theorem dX6_canBeKept_79 : decode cX6_canBeKept 79 = .ok (.istore 5, 2) := by decide +kernel
theorem dX6_canBeKept_81 : decode cX6_canBeKept 81 = .ok (.aload_n 0, 1) := by decide +kernel
theorem dX6_canBeKept_82 : decode cX6_canBeKept 82 = .ok (.getfield 29, 3) := by decide +kernel
theorem dX6_canBeKept_85 : decode cX6_canBeKept 85 = .ok (.iload_n 3, 1) := by decide +kernel
theorem dX6_canBeKept_86 : decode cX6_canBeKept 86 = .ok (.invokevirtual 109, 3) := by decide +kernel
theorem dX6_canBeKept_89 : decode cX6_canBeKept 89 = .ok (.ifCond .ne 31, 3) := by decide +kernel
theorem dX6_canBeKept_92 : decode cX6_canBeKept 92 = .ok (.aload_n 0, 1) := by decide +kernel
theorem dX6_canBeKept_93 : decode cX6_canBeKept 93 = .ok (.iload_n 3, 1) := by decide +kernel
theorem dX6_canBeKept_94 : decode cX6_canBeKept 94 = .ok (.invokevirtual 164, 3) := by decide +kernel
theorem dX6_canBeKept_97 : decode cX6_canBeKept 97 = .ok (.ifCond .ne 23, 3) := by decide +kernel
theorem dX6_canBeKept_100 : decode cX6_canBeKept 100 = .ok (.aload_n 0, 1) := by decide +kernel
theorem dX6_canBeKept_101 : decode cX6_canBeKept 101 = .ok (.iload_n 1, 1) := by decide +kernel
theorem dX6_canBeKept_102 : decode cX6_canBeKept 102 = .ok (.iload 4, 2) := by decide +kernel
theorem dX6_canBeKept_104 : decode cX6_canBeKept 104 = .ok (.invokevirtual 298, 3) := by decide +kernel
theorem dX6_canBeKept_107 : decode cX6_canBeKept 107 = .ok (.aload_n 0, 1) := by decide +kernel
theorem dX6_canBeKept_108 : decode cX6_canBeKept 108 = .ok (.getfield 29, 3) := by decide +kernel
theorem dX6_canBeKept_111 : decode cX6_canBeKept 111 = .ok (.getfield 131, 3) := by decide +kernel
theorem dX6_canBeKept_114 : decode cX6_canBeKept 114 = .ok (.iload 5, 2) := by decide +kernel
theorem dX6_canBeKept_116 : decode cX6_canBeKept 116 = .ok (.iadd, 1) := by decide +kernel
theorem dX6_canBeKept_117 : decode cX6_canBeKept 117 = .ok (.if_icmp .le 5, 3) := by decide +kernel
theorem dX6_canBeKept_120 : decode cX6_canBeKept 120 = .ok (.iconst 0, 1) := by decide +kernel
theorem dX6_canBeKept_121 : decode cX6_canBeKept 121 = .ok (.ireturn, 1) := by decide +kernel
theorem dX6_canBeKept_122 : decode cX6_canBeKept 122 = .ok (.iinc 3 1, 3) := by decide +kernel
theorem dX6_canBeKept_125 : decode cX6_canBeKept 125 = .ok (.goto (-105), 3) := by decide +kernel
theorem dX6_canBeKept_128 : decode cX6_canBeKept 128 = .ok (.iconst 1, 1) := by decide +kernel
theorem dX6_canBeKept_129 : decode cX6_canBeKept 129 = .ok (.ireturn, 1) := by decide +kernel
theorem dX6_goesAhead_0 : decode cX6_goesAhead 0 = .ok (.iload_n 3, 1) := by decide +kernel
theorem dX6_goesAhead_1 : decode cX6_goesAhead 1 = .ok (.ifCond .ne 30, 3) := by decide +kernel
theorem dX6_goesAhead_4 : decode cX6_goesAhead 4 = .ok (.aload_n 0, 1) := by decide +kernel
theorem dX6_goesAhead_5 : decode cX6_goesAhead 5 = .ok (.getfield 19, 3) := by decide +kernel
theorem dX6_goesAhead_8 : decode cX6_goesAhead 8 = .ok (.iconst 2, 1) := by decide +kernel
theorem dX6_goesAhead_9 : decode cX6_goesAhead 9 = .ok (.iload_n 1, 1) := by decide +kernel
theorem dX6_goesAhead_10 : decode cX6_goesAhead 10 = .ok (.invokevirtual 95, 3) := by decide +kernel
theorem dX6_goesAhead_13 : decode cX6_goesAhead 13 = .ok (.aload_n 0, 1) := by decide +kernel
theorem dX6_goesAhead_14 : decode cX6_goesAhead 14 = .ok (.getfield 19, 3) := by decide +kernel
theorem dX6_goesAhead_17 : decode cX6_goesAhead 17 = .ok (.iconst 2, 1) := by decide +kernel
theorem dX6_goesAhead_18 : decode cX6_goesAhead 18 = .ok (.iload_n 2, 1) := by decide +kernel
theorem dX6_goesAhead_19 : decode cX6_goesAhead 19 = .ok (.invokevirtual 95, 3) := by decide +kernel
theorem dX6_goesAhead_22 : decode cX6_goesAhead 22 = .ok (.if_icmp .ge 7, 3) := by decide +kernel
theorem dX6_goesAhead_25 : decode cX6_goesAhead 25 = .ok (.iconst 1, 1) := by decide +kernel
theorem dX6_goesAhead_26 : decode cX6_goesAhead 26 = .ok (.goto 4, 3) := by decide +kernel
theorem dX6_goesAhead_29 : decode cX6_goesAhead 29 = .ok (.iconst 0, 1) := by decide +kernel
theorem dX6_goesAhead_30 : decode cX6_goesAhead 30 = .ok (.ireturn, 1) := by decide +kernel
theorem dX6_goesAhead_31 : decode cX6_goesAhead 31 = .ok (.aload_n 0, 1) := by decide +kernel
theorem dX6_goesAhead_32 : decode cX6_goesAhead 32 = .ok (.getfield 19, 3) := by decide +kernel
theorem dX6_goesAhead_35 : decode cX6_goesAhead 35 = .ok (.iconst 4, 1) := by decide +kernel
theorem dX6_goesAhead_36 : decode cX6_goesAhead 36 = .ok (.iload_n 1, 1) := by decide +kernel
theorem dX6_goesAhead_37 : decode cX6_goesAhead 37 = .ok (.invokevirtual 95, 3) := by decide +kernel
theorem dX6_goesAhead_40 : decode cX6_goesAhead 40 = .ok (.aload_n 0, 1) := by decide +kernel
theorem dX6_goesAhead_41 : decode cX6_goesAhead 41 = .ok (.getfield 19, 3) := by decide +kernel
theorem dX6_goesAhead_44 : decode cX6_goesAhead 44 = .ok (.iconst 3, 1) := by decide +kernel
theorem dX6_goesAhead_45 : decode cX6_goesAhead 45 = .ok (.iload_n 2, 1) := by decide +kernel
theorem dX6_goesAhead_46 : decode cX6_goesAhead 46 = .ok (.invokevirtual 95, 3) := by decide +kernel
theorem dX6_goesAhead_49 : decode cX6_goesAhead 49 = .ok (.imul, 1) := by decide +kernel
theorem dX6_goesAhead_50 : decode cX6_goesAhead 50 = .ok (.aload_n 0, 1) := by decide +kernel
theorem dX6_goesAhead_51 : decode cX6_goesAhead 51 = .ok (.getfield 19, 3) := by decide +kernel
theorem dX6_goesAhead_54 : decode cX6_goesAhead 54 = .ok (.iconst 4, 1) := by decide +kernel
theorem dX6_goesAhead_55 : decode cX6_goesAhead 55 = .ok (.iload_n 2, 1) := by decide +kernel
theorem dX6_goesAhead_56 : decode cX6_goesAhead 56 = .ok (.invokevirtual 95, 3) := by decide +kernel
theorem dX6_goesAhead_59 : decode cX6_goesAhead 59 = .ok (.aload_n 0, 1) := by decide +kernel
theorem dX6_goesAhead_60 : decode cX6_goesAhead 60 = .ok (.getfield 19, 3) := by decide +kernel
theorem dX6_goesAhead_63 : decode cX6_goesAhead 63 = .ok (.iconst 3, 1) := by decide +kernel
theorem dX6_goesAhead_64 : decode cX6_goesAhead 64 = .ok (.iload_n 1, 1) := by decide +kernel
theorem dX6_goesAhead_65 : decode cX6_goesAhead 65 = .ok (.invokevirtual 95, 3) := by decide +kernel
theorem dX6_goesAhead_68 : decode cX6_goesAhead 68 = .ok (.imul, 1) := by decide +kernel
theorem dX6_goesAhead_69 : decode cX6_goesAhead 69 = .ok (.if_icmp .le 7, 3) := by decide +kernel
theorem dX6_goesAhead_72 : decode cX6_goesAhead 72 = .ok (.iconst 1, 1) := by decide +kernel
theorem dX6_goesAhead_73 : decode cX6_goesAhead 73 = .ok (.goto 4, 3) := by decide +kernel
theorem dX6_goesAhead_76 : decode cX6_goesAhead 76 = .ok (.iconst 0, 1) := by decide +kernel
theorem dX6_goesAhead_77 : decode cX6_goesAhead 77 = .ok (.ireturn, 1) := by decide +kernel
theorem dX6_besomsToBind_0 : decode cX6_besomsToBind 0 = .ok (.iconst 0, 1) := by decide +kernel
theorem dX6_besomsToBind_1 : decode cX6_besomsToBind 1 = .ok (.istore_n 1, 1) := by decide +kernel
theorem dX6_besomsToBind_2 : decode cX6_besomsToBind 2 = .ok (.iconst 0, 1) := by decide +kernel
theorem dX6_besomsToBind_3 : decode cX6_besomsToBind 3 = .ok (.istore_n 2, 1) := by decide +kernel
theorem dX6_besomsToBind_4 : decode cX6_besomsToBind 4 = .ok (.iload_n 2, 1) := by decide +kernel
theorem dX6_besomsToBind_5 : decode cX6_besomsToBind 5 = .ok (.aload_n 0, 1) := by decide +kernel
theorem dX6_besomsToBind_6 : decode cX6_besomsToBind 6 = .ok (.getfield 19, 3) := by decide +kernel
theorem dX6_besomsToBind_9 : decode cX6_besomsToBind 9 = .ok (.invokevirtual 203, 3) := by decide +kernel
theorem dX6_besomsToBind_12 : decode cX6_besomsToBind 12 = .ok (.if_icmp .ge 32, 3) := by decide +kernel
theorem dX6_besomsToBind_15 : decode cX6_besomsToBind 15 = .ok (.aload_n 0, 1) := by decide +kernel
theorem dX6_besomsToBind_16 : decode cX6_besomsToBind 16 = .ok (.getfield 29, 3) := by decide +kernel
theorem dX6_besomsToBind_19 : decode cX6_besomsToBind 19 = .ok (.iload_n 2, 1) := by decide +kernel
theorem dX6_besomsToBind_20 : decode cX6_besomsToBind 20 = .ok (.invokevirtual 109, 3) := by decide +kernel
theorem dX6_besomsToBind_23 : decode cX6_besomsToBind 23 = .ok (.ifCond .ne 15, 3) := by decide +kernel
theorem dX6_besomsToBind_26 : decode cX6_besomsToBind 26 = .ok (.iload_n 1, 1) := by decide +kernel
theorem dX6_besomsToBind_27 : decode cX6_besomsToBind 27 = .ok (.aload_n 0, 1) := by decide +kernel
theorem dX6_besomsToBind_28 : decode cX6_besomsToBind 28 = .ok (.getfield 19, 3) := by decide +kernel
theorem dX6_besomsToBind_31 : decode cX6_besomsToBind 31 = .ok (.iconst 3, 1) := by decide +kernel
theorem dX6_besomsToBind_32 : decode cX6_besomsToBind 32 = .ok (.iload_n 2, 1) := by decide +kernel
theorem dX6_besomsToBind_33 : decode cX6_besomsToBind 33 = .ok (.invokevirtual 95, 3) := by decide +kernel
theorem dX6_besomsToBind_36 : decode cX6_besomsToBind 36 = .ok (.iadd, 1) := by decide +kernel
theorem dX6_besomsToBind_37 : decode cX6_besomsToBind 37 = .ok (.istore_n 1, 1) := by decide +kernel
theorem dX6_besomsToBind_38 : decode cX6_besomsToBind 38 = .ok (.iinc 2 1, 3) := by decide +kernel
theorem dX6_besomsToBind_41 : decode cX6_besomsToBind 41 = .ok (.goto (-37), 3) := by decide +kernel
theorem dX6_besomsToBind_44 : decode cX6_besomsToBind 44 = .ok (.iconst 0, 1) := by decide +kernel
theorem dX6_besomsToBind_45 : decode cX6_besomsToBind 45 = .ok (.iload_n 1, 1) := by decide +kernel
theorem dX6_besomsToBind_46 : decode cX6_besomsToBind 46 = .ok (.aload_n 0, 1) := by decide +kernel
theorem dX6_besomsToBind_47 : decode cX6_besomsToBind 47 = .ok (.getfield 29, 3) := by decide +kernel
theorem dX6_besomsToBind_50 : decode cX6_besomsToBind 50 = .ok (.getfield 131, 3) := by decide +kernel
theorem dX6_besomsToBind_53 : decode cX6_besomsToBind 53 = .ok (.isub, 1) := by decide +kernel
theorem dX6_besomsToBind_54 : decode cX6_besomsToBind 54 = .ok (.invokestatic 295, 3) := by decide +kernel
theorem dX6_besomsToBind_57 : decode cX6_besomsToBind 57 = .ok (.ireturn, 1) := by decide +kernel
theorem dX6_lackingTwigs_0 : decode cX6_lackingTwigs 0 = .ok (.iconst 0, 1) := by decide +kernel
theorem dX6_lackingTwigs_1 : decode cX6_lackingTwigs 1 = .ok (.aload_n 0, 1) := by decide +kernel
theorem dX6_lackingTwigs_2 : decode cX6_lackingTwigs 2 = .ok (.invokevirtual 230, 3) := by decide +kernel
theorem dX6_lackingTwigs_5 : decode cX6_lackingTwigs 5 = .ok (.aload_n 0, 1) := by decide +kernel
theorem dX6_lackingTwigs_6 : decode cX6_lackingTwigs 6 = .ok (.getfield 19, 3) := by decide +kernel
theorem dX6_lackingTwigs_9 : decode cX6_lackingTwigs 9 = .ok (.invokevirtual 155, 3) := by decide +kernel
theorem dX6_lackingTwigs_12 : decode cX6_lackingTwigs 12 = .ok (.imul, 1) := by decide +kernel
theorem dX6_lackingTwigs_13 : decode cX6_lackingTwigs 13 = .ok (.aload_n 0, 1) := by decide +kernel
theorem dX6_lackingTwigs_14 : decode cX6_lackingTwigs 14 = .ok (.getfield 29, 3) := by decide +kernel
theorem dX6_lackingTwigs_17 : decode cX6_lackingTwigs 17 = .ok (.getfield 128, 3) := by decide +kernel
theorem dX6_lackingTwigs_20 : decode cX6_lackingTwigs 20 = .ok (.isub, 1) := by decide +kernel
theorem dX6_lackingTwigs_21 : decode cX6_lackingTwigs 21 = .ok (.invokestatic 295, 3) := by decide +kernel
theorem dX6_lackingTwigs_24 : decode cX6_lackingTwigs 24 = .ok (.ireturn, 1) := by decide +kernel
theorem dX6_sweepingsBy_0 : decode cX6_sweepingsBy 0 = .ok (.aload_n 0, 1) := by decide +kernel
theorem dX6_sweepingsBy_1 : decode cX6_sweepingsBy 1 = .ok (.getfield 62, 3) := by decide +kernel
theorem dX6_sweepingsBy_4 : decode cX6_sweepingsBy 4 = .ok (.aload_n 0, 1) := by decide +kernel
theorem dX6_sweepingsBy_5 : decode cX6_sweepingsBy 5 = .ok (.getfield 29, 3) := by decide +kernel
theorem dX6_sweepingsBy_8 : decode cX6_sweepingsBy 8 = .ok (.getfield 115, 3) := by decide +kernel
theorem dX6_sweepingsBy_11 : decode cX6_sweepingsBy 11 = .ok (.invokevirtual 301, 3) := by decide +kernel
theorem dX6_sweepingsBy_14 : decode cX6_sweepingsBy 14 = .ok (.iconst 0, 1) := by decide +kernel
theorem dX6_sweepingsBy_15 : decode cX6_sweepingsBy 15 = .ok (.istore_n 2, 1) := by decide +kernel
theorem dX6_sweepingsBy_16 : decode cX6_sweepingsBy 16 = .ok (.iload_n 2, 1) := by decide +kernel
theorem dX6_sweepingsBy_17 : decode cX6_sweepingsBy 17 = .ok (.sipush 200, 3) := by decide +kernel
theorem dX6_sweepingsBy_20 : decode cX6_sweepingsBy 20 = .ok (.if_icmp .ge 34, 3) := by decide +kernel
theorem dX6_sweepingsBy_23 : decode cX6_sweepingsBy 23 = .ok (.aload_n 0, 1) := by decide +kernel
theorem dX6_sweepingsBy_24 : decode cX6_sweepingsBy 24 = .ok (.getfield 62, 3) := by decide +kernel
theorem dX6_sweepingsBy_27 : decode cX6_sweepingsBy 27 = .ok (.invokevirtual 305, 3) := by decide +kernel
theorem dX6_sweepingsBy_30 : decode cX6_sweepingsBy 30 = .ok (.ifCond .ne 24, 3) := by decide +kernel
theorem dX6_sweepingsBy_33 : decode cX6_sweepingsBy 33 = .ok (.aload_n 0, 1) := by decide +kernel
theorem dX6_sweepingsBy_34 : decode cX6_sweepingsBy 34 = .ok (.getfield 62, 3) := by decide +kernel
theorem dX6_sweepingsBy_37 : decode cX6_sweepingsBy 37 = .ok (.invokevirtual 167, 3) := by decide +kernel
theorem dX6_sweepingsBy_40 : decode cX6_sweepingsBy 40 = .ok (.aload_n 0, 1) := by decide +kernel
theorem dX6_sweepingsBy_41 : decode cX6_sweepingsBy 41 = .ok (.getfield 62, 3) := by decide +kernel
theorem dX6_sweepingsBy_44 : decode cX6_sweepingsBy 44 = .ok (.iload_n 1, 1) := by decide +kernel
theorem dX6_sweepingsBy_45 : decode cX6_sweepingsBy 45 = .ok (.invokevirtual 170, 3) := by decide +kernel
theorem dX6_sweepingsBy_48 : decode cX6_sweepingsBy 48 = .ok (.iinc 2 1, 3) := by decide +kernel
theorem dX6_sweepingsBy_51 : decode cX6_sweepingsBy 51 = .ok (.goto (-35), 3) := by decide +kernel
theorem dX6_sweepingsBy_54 : decode cX6_sweepingsBy 54 = .ok (.iload_n 2, 1) := by decide +kernel
theorem dX6_sweepingsBy_55 : decode cX6_sweepingsBy 55 = .ok (.ireturn, 1) := by decide +kernel
theorem dX6_allSeenIsSoBy_0 : decode cX6_allSeenIsSoBy 0 = .ok (.aload_n 0, 1) := by decide +kernel
theorem dX6_allSeenIsSoBy_1 : decode cX6_allSeenIsSoBy 1 = .ok (.getfield 62, 3) := by decide +kernel
theorem dX6_allSeenIsSoBy_4 : decode cX6_allSeenIsSoBy 4 = .ok (.aload_n 0, 1) := by decide +kernel
theorem dX6_allSeenIsSoBy_5 : decode cX6_allSeenIsSoBy 5 = .ok (.getfield 29, 3) := by decide +kernel
theorem dX6_allSeenIsSoBy_8 : decode cX6_allSeenIsSoBy 8 = .ok (.getfield 115, 3) := by decide +kernel
theorem dX6_allSeenIsSoBy_11 : decode cX6_allSeenIsSoBy 11 = .ok (.invokevirtual 301, 3) := by decide +kernel
theorem dX6_allSeenIsSoBy_14 : decode cX6_allSeenIsSoBy 14 = .ok (.iconst 0, 1) := by decide +kernel
theorem dX6_allSeenIsSoBy_15 : decode cX6_allSeenIsSoBy 15 = .ok (.istore_n 2, 1) := by decide +kernel
theorem dX6_allSeenIsSoBy_16 : decode cX6_allSeenIsSoBy 16 = .ok (.iload_n 2, 1) := by decide +kernel
theorem dX6_allSeenIsSoBy_17 : decode cX6_allSeenIsSoBy 17 = .ok (.bipush 40, 2) := by decide +kernel
theorem dX6_allSeenIsSoBy_19 : decode cX6_allSeenIsSoBy 19 = .ok (.if_icmp .gt 34, 3) := by decide +kernel
theorem dX6_allSeenIsSoBy_22 : decode cX6_allSeenIsSoBy 22 = .ok (.aload_n 0, 1) := by decide +kernel
theorem dX6_allSeenIsSoBy_23 : decode cX6_allSeenIsSoBy 23 = .ok (.iload_n 2, 1) := by decide +kernel
theorem dX6_allSeenIsSoBy_24 : decode cX6_allSeenIsSoBy 24 = .ok (.invokevirtual 309, 3) := by decide +kernel
theorem dX6_allSeenIsSoBy_27 : decode cX6_allSeenIsSoBy 27 = .ok (.ifCond .ne 5, 3) := by decide +kernel
theorem dX6_allSeenIsSoBy_30 : decode cX6_allSeenIsSoBy 30 = .ok (.iconst 0, 1) := by decide +kernel
theorem dX6_allSeenIsSoBy_31 : decode cX6_allSeenIsSoBy 31 = .ok (.ireturn, 1) := by decide +kernel
theorem dX6_allSeenIsSoBy_32 : decode cX6_allSeenIsSoBy 32 = .ok (.aload_n 0, 1) := by decide +kernel
theorem dX6_allSeenIsSoBy_33 : decode cX6_allSeenIsSoBy 33 = .ok (.getfield 62, 3) := by decide +kernel
theorem dX6_allSeenIsSoBy_36 : decode cX6_allSeenIsSoBy 36 = .ok (.invokevirtual 167, 3) := by decide +kernel
theorem dX6_allSeenIsSoBy_39 : decode cX6_allSeenIsSoBy 39 = .ok (.aload_n 0, 1) := by decide +kernel
theorem dX6_allSeenIsSoBy_40 : decode cX6_allSeenIsSoBy 40 = .ok (.getfield 62, 3) := by decide +kernel
theorem dX6_allSeenIsSoBy_43 : decode cX6_allSeenIsSoBy 43 = .ok (.iload_n 1, 1) := by decide +kernel
theorem dX6_allSeenIsSoBy_44 : decode cX6_allSeenIsSoBy 44 = .ok (.invokevirtual 170, 3) := by decide +kernel
theorem dX6_allSeenIsSoBy_47 : decode cX6_allSeenIsSoBy 47 = .ok (.iinc 2 1, 3) := by decide +kernel
theorem dX6_allSeenIsSoBy_50 : decode cX6_allSeenIsSoBy 50 = .ok (.goto (-34), 3) := by decide +kernel
theorem dX6_allSeenIsSoBy_53 : decode cX6_allSeenIsSoBy 53 = .ok (.iconst 1, 1) := by decide +kernel
theorem dX6_allSeenIsSoBy_54 : decode cX6_allSeenIsSoBy 54 = .ok (.ireturn, 1) := by decide +kernel
theorem dX6_seenFits_0 : decode cX6_seenFits 0 = .ok (.iconst 0, 1) := by decide +kernel
theorem dX6_seenFits_1 : decode cX6_seenFits 1 = .ok (.istore_n 2, 1) := by decide +kernel
theorem dX6_seenFits_2 : decode cX6_seenFits 2 = .ok (.iload_n 2, 1) := by decide +kernel
theorem dX6_seenFits_3 : decode cX6_seenFits 3 = .ok (.aload_n 0, 1) := by decide +kernel
theorem dX6_seenFits_4 : decode cX6_seenFits 4 = .ok (.getfield 236, 3) := by decide +kernel
theorem dX6_seenFits_7 : decode cX6_seenFits 7 = .ok (.if_icmp .ge 48, 3) := by decide +kernel
theorem dX6_seenFits_10 : decode cX6_seenFits 10 = .ok (.iload_n 2, 1) := by decide +kernel
theorem dX6_seenFits_11 : decode cX6_seenFits 11 = .ok (.iconst 5, 1) := by decide +kernel
theorem dX6_seenFits_12 : decode cX6_seenFits 12 = .ok (.if_icmp .ge 43, 3) := by decide +kernel
theorem dX6_seenFits_15 : decode cX6_seenFits 15 = .ok (.aload_n 0, 1) := by decide +kernel
theorem dX6_seenFits_16 : decode cX6_seenFits 16 = .ok (.getfield 49, 3) := by decide +kernel
theorem dX6_seenFits_19 : decode cX6_seenFits 19 = .ok (.iload_n 2, 1) := by decide +kernel
theorem dX6_seenFits_20 : decode cX6_seenFits 20 = .ok (.iaload, 1) := by decide +kernel
theorem dX6_seenFits_21 : decode cX6_seenFits 21 = .ok (.iload_n 1, 1) := by decide +kernel
theorem dX6_seenFits_22 : decode cX6_seenFits 22 = .ok (.if_icmp .ne 27, 3) := by decide +kernel
theorem dX6_seenFits_25 : decode cX6_seenFits 25 = .ok (.aload_n 0, 1) := by decide +kernel
theorem dX6_seenFits_26 : decode cX6_seenFits 26 = .ok (.getfield 62, 3) := by decide +kernel
theorem dX6_seenFits_29 : decode cX6_seenFits 29 = .ok (.aload_n 0, 1) := by decide +kernel
theorem dX6_seenFits_30 : decode cX6_seenFits 30 = .ok (.getfield 53, 3) := by decide +kernel
theorem dX6_seenFits_33 : decode cX6_seenFits 33 = .ok (.iload_n 2, 1) := by decide +kernel
theorem dX6_seenFits_34 : decode cX6_seenFits 34 = .ok (.iaload, 1) := by decide +kernel
theorem dX6_seenFits_35 : decode cX6_seenFits 35 = .ok (.invokevirtual 118, 3) := by decide +kernel
theorem dX6_seenFits_38 : decode cX6_seenFits 38 = .ok (.aload_n 0, 1) := by decide +kernel
theorem dX6_seenFits_39 : decode cX6_seenFits 39 = .ok (.getfield 56, 3) := by decide +kernel
theorem dX6_seenFits_42 : decode cX6_seenFits 42 = .ok (.iload_n 2, 1) := by decide +kernel
theorem dX6_seenFits_43 : decode cX6_seenFits 43 = .ok (.iaload, 1) := by decide +kernel
theorem dX6_seenFits_44 : decode cX6_seenFits 44 = .ok (.if_icmp .eq 5, 3) := by decide +kernel
theorem dX6_seenFits_47 : decode cX6_seenFits 47 = .ok (.iconst 0, 1) := by decide +kernel
theorem dX6_seenFits_48 : decode cX6_seenFits 48 = .ok (.ireturn, 1) := by decide +kernel
theorem dX6_seenFits_49 : decode cX6_seenFits 49 = .ok (.iinc 2 1, 3) := by decide +kernel
theorem dX6_seenFits_52 : decode cX6_seenFits 52 = .ok (.goto (-50), 3) := by decide +kernel
theorem dX6_seenFits_55 : decode cX6_seenFits 55 = .ok (.iconst 1, 1) := by decide +kernel
theorem dX6_seenFits_56 : decode cX6_seenFits 56 = .ok (.ireturn, 1) := by decide +kernel
theorem dX6_rateAsPart_0 : decode cX6_rateAsPart 0 = .ok (.aload_n 0, 1) := by decide +kernel
theorem dX6_rateAsPart_1 : decode cX6_rateAsPart 1 = .ok (.dup, 1) := by decide +kernel
theorem dX6_rateAsPart_2 : decode cX6_rateAsPart 2 = .ok (.getfield 279, 3) := by decide +kernel
theorem dX6_rateAsPart_5 : decode cX6_rateAsPart 5 = .ok (.lconst 1, 1) := by decide +kernel
theorem dX6_rateAsPart_6 : decode cX6_rateAsPart 6 = .ok (.ladd, 1) := by decide +kernel
theorem dX6_rateAsPart_7 : decode cX6_rateAsPart 7 = .ok (.putfield 279, 3) := by decide +kernel
theorem dX6_rateAsPart_10 : decode cX6_rateAsPart 10 = .ok (.aload_n 0, 1) := by decide +kernel
theorem dX6_rateAsPart_11 : decode cX6_rateAsPart 11 = .ok (.iload_n 1, 1) := by decide +kernel
theorem dX6_rateAsPart_12 : decode cX6_rateAsPart 12 = .ok (.invokevirtual 103, 3) := by decide +kernel
theorem dX6_rateAsPart_15 : decode cX6_rateAsPart 15 = .ok (.ireturn, 1) := by decide +kernel
theorem dX6_rateAsBirch_0 : decode cX6_rateAsBirch 0 = .ok (.aload_n 0, 1) := by decide +kernel
theorem dX6_rateAsBirch_1 : decode cX6_rateAsBirch 1 = .ok (.dup, 1) := by decide +kernel
theorem dX6_rateAsBirch_2 : decode cX6_rateAsBirch 2 = .ok (.getfield 279, 3) := by decide +kernel
theorem dX6_rateAsBirch_5 : decode cX6_rateAsBirch 5 = .ok (.ldc2_w 312, 3) := by decide +kernel
theorem dX6_rateAsBirch_8 : decode cX6_rateAsBirch 8 = .ok (.ladd, 1) := by decide +kernel
theorem dX6_rateAsBirch_9 : decode cX6_rateAsBirch 9 = .ok (.putfield 279, 3) := by decide +kernel
theorem dX6_rateAsBirch_12 : decode cX6_rateAsBirch 12 = .ok (.aload_n 0, 1) := by decide +kernel
theorem dX6_rateAsBirch_13 : decode cX6_rateAsBirch 13 = .ok (.iload_n 1, 1) := by decide +kernel
theorem dX6_rateAsBirch_14 : decode cX6_rateAsBirch 14 = .ok (.invokevirtual 249, 3) := by decide +kernel
theorem dX6_rateAsBirch_17 : decode cX6_rateAsBirch 17 = .ok (.aload_n 0, 1) := by decide +kernel
theorem dX6_rateAsBirch_18 : decode cX6_rateAsBirch 18 = .ok (.getfield 19, 3) := by decide +kernel
theorem dX6_rateAsBirch_21 : decode cX6_rateAsBirch 21 = .ok (.iconst 0, 1) := by decide +kernel
theorem dX6_rateAsBirch_22 : decode cX6_rateAsBirch 22 = .ok (.iload_n 1, 1) := by decide +kernel
theorem dX6_rateAsBirch_23 : decode cX6_rateAsBirch 23 = .ok (.invokevirtual 95, 3) := by decide +kernel
theorem dX6_rateAsBirch_26 : decode cX6_rateAsBirch 26 = .ok (.iadd, 1) := by decide +kernel
theorem dX6_rateAsBirch_27 : decode cX6_rateAsBirch 27 = .ok (.ireturn, 1) := by decide +kernel
theorem dX6_rateAsHeather_0 : decode cX6_rateAsHeather 0 = .ok (.aload_n 0, 1) := by decide +kernel
theorem dX6_rateAsHeather_1 : decode cX6_rateAsHeather 1 = .ok (.dup, 1) := by decide +kernel
theorem dX6_rateAsHeather_2 : decode cX6_rateAsHeather 2 = .ok (.getfield 279, 3) := by decide +kernel
theorem dX6_rateAsHeather_5 : decode cX6_rateAsHeather 5 = .ok (.ldc2_w 314, 3) := by decide +kernel
theorem dX6_rateAsHeather_8 : decode cX6_rateAsHeather 8 = .ok (.ladd, 1) := by decide +kernel
theorem dX6_rateAsHeather_9 : decode cX6_rateAsHeather 9 = .ok (.putfield 279, 3) := by decide +kernel
theorem dX6_rateAsHeather_12 : decode cX6_rateAsHeather 12 = .ok (.aload_n 0, 1) := by decide +kernel
theorem dX6_rateAsHeather_13 : decode cX6_rateAsHeather 13 = .ok (.iload_n 1, 1) := by decide +kernel
theorem dX6_rateAsHeather_14 : decode cX6_rateAsHeather 14 = .ok (.invokevirtual 249, 3) := by decide +kernel
theorem dX6_rateAsHeather_17 : decode cX6_rateAsHeather 17 = .ok (.aload_n 0, 1) := by decide +kernel
theorem dX6_rateAsHeather_18 : decode cX6_rateAsHeather 18 = .ok (.getfield 29, 3) := by decide +kernel
theorem dX6_rateAsHeather_21 : decode cX6_rateAsHeather 21 = .ok (.iload_n 1, 1) := by decide +kernel
theorem dX6_rateAsHeather_22 : decode cX6_rateAsHeather 22 = .ok (.invokevirtual 99, 3) := by decide +kernel
theorem dX6_rateAsHeather_25 : decode cX6_rateAsHeather 25 = .ok (.isub, 1) := by decide +kernel
theorem dX6_rateAsHeather_26 : decode cX6_rateAsHeather 26 = .ok (.ireturn, 1) := by decide +kernel
theorem dX6_rateAsStake_0 : decode cX6_rateAsStake 0 = .ok (.aload_n 0, 1) := by decide +kernel
theorem dX6_rateAsStake_1 : decode cX6_rateAsStake 1 = .ok (.dup, 1) := by decide +kernel
theorem dX6_rateAsStake_2 : decode cX6_rateAsStake 2 = .ok (.getfield 279, 3) := by decide +kernel
theorem dX6_rateAsStake_5 : decode cX6_rateAsStake 5 = .ok (.ldc2_w 316, 3) := by decide +kernel
theorem dX6_rateAsStake_8 : decode cX6_rateAsStake 8 = .ok (.ladd, 1) := by decide +kernel
theorem dX6_rateAsStake_9 : decode cX6_rateAsStake 9 = .ok (.putfield 279, 3) := by decide +kernel
theorem dX6_rateAsStake_12 : decode cX6_rateAsStake 12 = .ok (.iconst 2, 1) := by decide +kernel
theorem dX6_rateAsStake_13 : decode cX6_rateAsStake 13 = .ok (.aload_n 0, 1) := by decide +kernel
theorem dX6_rateAsStake_14 : decode cX6_rateAsStake 14 = .ok (.iload_n 1, 1) := by decide +kernel
theorem dX6_rateAsStake_15 : decode cX6_rateAsStake 15 = .ok (.invokevirtual 252, 3) := by decide +kernel
theorem dX6_rateAsStake_18 : decode cX6_rateAsStake 18 = .ok (.imul, 1) := by decide +kernel
theorem dX6_rateAsStake_19 : decode cX6_rateAsStake 19 = .ok (.ireturn, 1) := by decide +kernel
theorem dX6_rateAsKnot_0 : decode cX6_rateAsKnot 0 = .ok (.aload_n 0, 1) := by decide +kernel
theorem dX6_rateAsKnot_1 : decode cX6_rateAsKnot 1 = .ok (.dup, 1) := by decide +kernel
theorem dX6_rateAsKnot_2 : decode cX6_rateAsKnot 2 = .ok (.getfield 279, 3) := by decide +kernel
theorem dX6_rateAsKnot_5 : decode cX6_rateAsKnot 5 = .ok (.ldc2_w 318, 3) := by decide +kernel
theorem dX6_rateAsKnot_8 : decode cX6_rateAsKnot 8 = .ok (.ladd, 1) := by decide +kernel
theorem dX6_rateAsKnot_9 : decode cX6_rateAsKnot 9 = .ok (.putfield 279, 3) := by decide +kernel
theorem dX6_rateAsKnot_12 : decode cX6_rateAsKnot 12 = .ok (.aload_n 0, 1) := by decide +kernel
theorem dX6_rateAsKnot_13 : decode cX6_rateAsKnot 13 = .ok (.iload_n 1, 1) := by decide +kernel
theorem dX6_rateAsKnot_14 : decode cX6_rateAsKnot 14 = .ok (.invokevirtual 255, 3) := by decide +kernel
theorem dX6_rateAsKnot_17 : decode cX6_rateAsKnot 17 = .ok (.iload_n 1, 1) := by decide +kernel
theorem dX6_rateAsKnot_18 : decode cX6_rateAsKnot 18 = .ok (.iadd, 1) := by decide +kernel
theorem dX6_rateAsKnot_19 : decode cX6_rateAsKnot 19 = .ok (.ireturn, 1) := by decide +kernel
theorem dX6_rateAsBramble_0 : decode cX6_rateAsBramble 0 = .ok (.aload_n 0, 1) := by decide +kernel
theorem dX6_rateAsBramble_1 : decode cX6_rateAsBramble 1 = .ok (.dup, 1) := by decide +kernel
theorem dX6_rateAsBramble_2 : decode cX6_rateAsBramble 2 = .ok (.getfield 279, 3) := by decide +kernel
theorem dX6_rateAsBramble_5 : decode cX6_rateAsBramble 5 = .ok (.ldc2_w 320, 3) := by decide +kernel
theorem dX6_rateAsBramble_8 : decode cX6_rateAsBramble 8 = .ok (.ladd, 1) := by decide +kernel
theorem dX6_rateAsBramble_9 : decode cX6_rateAsBramble 9 = .ok (.putfield 279, 3) := by decide +kernel
theorem dX6_rateAsBramble_12 : decode cX6_rateAsBramble 12 = .ok (.aload_n 0, 1) := by decide +kernel
theorem dX6_rateAsBramble_13 : decode cX6_rateAsBramble 13 = .ok (.iload_n 1, 1) := by decide +kernel
theorem dX6_rateAsBramble_14 : decode cX6_rateAsBramble 14 = .ok (.invokevirtual 249, 3) := by decide +kernel
theorem dX6_rateAsBramble_17 : decode cX6_rateAsBramble 17 = .ok (.aload_n 0, 1) := by decide +kernel
theorem dX6_rateAsBramble_18 : decode cX6_rateAsBramble 18 = .ok (.getfield 29, 3) := by decide +kernel
theorem dX6_rateAsBramble_21 : decode cX6_rateAsBramble 21 = .ok (.getfield 125, 3) := by decide +kernel
theorem dX6_rateAsBramble_24 : decode cX6_rateAsBramble 24 = .ok (.iadd, 1) := by decide +kernel
theorem dX6_rateAsBramble_25 : decode cX6_rateAsBramble 25 = .ok (.ireturn, 1) := by decide +kernel
theorem dX6_cutUpwards_0 : decode cX6_cutUpwards 0 = .ok (.iload_n 1, 1) := by decide +kernel
theorem dX6_cutUpwards_1 : decode cX6_cutUpwards 1 = .ok (.iconst 1, 1) := by decide +kernel
theorem dX6_cutUpwards_2 : decode cX6_cutUpwards 2 = .ok (.if_icmp .ge 7, 3) := by decide +kernel
theorem dX6_cutUpwards_5 : decode cX6_cutUpwards 5 = .ok (.iconst 0, 1) := by decide +kernel
theorem dX6_cutUpwards_6 : decode cX6_cutUpwards 6 = .ok (.goto 10, 3) := by decide +kernel
theorem dX6_cutUpwards_9 : decode cX6_cutUpwards 9 = .ok (.iload_n 0, 1) := by decide +kernel
theorem dX6_cutUpwards_10 : decode cX6_cutUpwards 10 = .ok (.iload_n 1, 1) := by decide +kernel
theorem dX6_cutUpwards_11 : decode cX6_cutUpwards 11 = .ok (.iadd, 1) := by decide +kernel
theorem dX6_cutUpwards_12 : decode cX6_cutUpwards 12 = .ok (.iconst 1, 1) := by decide +kernel
theorem dX6_cutUpwards_13 : decode cX6_cutUpwards 13 = .ok (.isub, 1) := by decide +kernel
theorem dX6_cutUpwards_14 : decode cX6_cutUpwards 14 = .ok (.iload_n 1, 1) := by decide +kernel
theorem dX6_cutUpwards_15 : decode cX6_cutUpwards 15 = .ok (.idiv, 1) := by decide +kernel
theorem dX6_cutUpwards_16 : decode cX6_cutUpwards 16 = .ok (.ireturn, 1) := by decide +kernel
theorem dX6_cutDownwards_0 : decode cX6_cutDownwards 0 = .ok (.iload_n 1, 1) := by decide +kernel
theorem dX6_cutDownwards_1 : decode cX6_cutDownwards 1 = .ok (.iconst 1, 1) := by decide +kernel
theorem dX6_cutDownwards_2 : decode cX6_cutDownwards 2 = .ok (.if_icmp .ge 7, 3) := by decide +kernel
theorem dX6_cutDownwards_5 : decode cX6_cutDownwards 5 = .ok (.iconst 0, 1) := by decide +kernel
theorem dX6_cutDownwards_6 : decode cX6_cutDownwards 6 = .ok (.goto 6, 3) := by decide +kernel
theorem dX6_cutDownwards_9 : decode cX6_cutDownwards 9 = .ok (.iload_n 0, 1) := by decide +kernel
theorem dX6_cutDownwards_10 : decode cX6_cutDownwards 10 = .ok (.iload_n 1, 1) := by decide +kernel
theorem dX6_cutDownwards_11 : decode cX6_cutDownwards 11 = .ok (.idiv, 1) := by decide +kernel
theorem dX6_cutDownwards_12 : decode cX6_cutDownwards 12 = .ok (.ireturn, 1) := by decide +kernel
theorem dX6_inLeastTerms_0 : decode cX6_inLeastTerms 0 = .ok (.iload_n 0, 1) := by decide +kernel
theorem dX6_inLeastTerms_1 : decode cX6_inLeastTerms 1 = .ok (.iload_n 1, 1) := by decide +kernel
theorem dX6_inLeastTerms_2 : decode cX6_inLeastTerms 2 = .ok (.invokestatic 322, 3) := by decide +kernel
theorem dX6_inLeastTerms_5 : decode cX6_inLeastTerms 5 = .ok (.istore_n 3, 1) := by decide +kernel
theorem dX6_inLeastTerms_6 : decode cX6_inLeastTerms 6 = .ok (.iload_n 2, 1) := by decide +kernel
theorem dX6_inLeastTerms_7 : decode cX6_inLeastTerms 7 = .ok (.ifCond .ne 7, 3) := by decide +kernel
theorem dX6_inLeastTerms_10 : decode cX6_inLeastTerms 10 = .ok (.iload_n 0, 1) := by decide +kernel
theorem dX6_inLeastTerms_11 : decode cX6_inLeastTerms 11 = .ok (.goto 4, 3) := by decide +kernel
theorem dX6_inLeastTerms_14 : decode cX6_inLeastTerms 14 = .ok (.iload_n 1, 1) := by decide +kernel
theorem dX6_inLeastTerms_15 : decode cX6_inLeastTerms 15 = .ok (.istore 4, 2) := by decide +kernel
theorem dX6_inLeastTerms_17 : decode cX6_inLeastTerms 17 = .ok (.iload_n 3, 1) := by decide +kernel
theorem dX6_inLeastTerms_18 : decode cX6_inLeastTerms 18 = .ok (.iconst 1, 1) := by decide +kernel
theorem dX6_inLeastTerms_19 : decode cX6_inLeastTerms 19 = .ok (.if_icmp .ge 8, 3) := by decide +kernel
theorem dX6_inLeastTerms_22 : decode cX6_inLeastTerms 22 = .ok (.iload 4, 2) := by decide +kernel
theorem dX6_inLeastTerms_24 : decode cX6_inLeastTerms 24 = .ok (.goto 7, 3) := by decide +kernel
theorem dX6_inLeastTerms_27 : decode cX6_inLeastTerms 27 = .ok (.iload 4, 2) := by decide +kernel
theorem dX6_inLeastTerms_29 : decode cX6_inLeastTerms 29 = .ok (.iload_n 3, 1) := by decide +kernel
theorem dX6_inLeastTerms_30 : decode cX6_inLeastTerms 30 = .ok (.idiv, 1) := by decide +kernel
theorem dX6_inLeastTerms_31 : decode cX6_inLeastTerms 31 = .ok (.ireturn, 1) := by decide +kernel
theorem dX6_commonDivisor_0 : decode cX6_commonDivisor 0 = .ok (.iload_n 0, 1) := by decide +kernel
theorem dX6_commonDivisor_1 : decode cX6_commonDivisor 1 = .ok (.istore_n 2, 1) := by decide +kernel
theorem dX6_commonDivisor_2 : decode cX6_commonDivisor 2 = .ok (.iload_n 1, 1) := by decide +kernel
theorem dX6_commonDivisor_3 : decode cX6_commonDivisor 3 = .ok (.istore_n 3, 1) := by decide +kernel
theorem dX6_commonDivisor_4 : decode cX6_commonDivisor 4 = .ok (.iconst 0, 1) := by decide +kernel
theorem dX6_commonDivisor_5 : decode cX6_commonDivisor 5 = .ok (.istore 4, 2) := by decide +kernel
theorem dX6_commonDivisor_7 : decode cX6_commonDivisor 7 = .ok (.iload 4, 2) := by decide +kernel
theorem dX6_commonDivisor_9 : decode cX6_commonDivisor 9 = .ok (.bipush 64, 2) := by decide +kernel
theorem dX6_commonDivisor_11 : decode cX6_commonDivisor 11 = .ok (.if_icmp .ge 23, 3) := by decide +kernel
theorem dX6_commonDivisor_14 : decode cX6_commonDivisor 14 = .ok (.iload_n 3, 1) := by decide +kernel
theorem dX6_commonDivisor_15 : decode cX6_commonDivisor 15 = .ok (.ifCond .eq 19, 3) := by decide +kernel
theorem dX6_commonDivisor_18 : decode cX6_commonDivisor 18 = .ok (.iload_n 2, 1) := by decide +kernel
theorem dX6_commonDivisor_19 : decode cX6_commonDivisor 19 = .ok (.iload_n 3, 1) := by decide +kernel
theorem dX6_commonDivisor_20 : decode cX6_commonDivisor 20 = .ok (.irem, 1) := by decide +kernel
theorem dX6_commonDivisor_21 : decode cX6_commonDivisor 21 = .ok (.istore 5, 2) := by decide +kernel
theorem dX6_commonDivisor_23 : decode cX6_commonDivisor 23 = .ok (.iload_n 3, 1) := by decide +kernel
theorem dX6_commonDivisor_24 : decode cX6_commonDivisor 24 = .ok (.istore_n 2, 1) := by decide +kernel
theorem dX6_commonDivisor_25 : decode cX6_commonDivisor 25 = .ok (.iload 5, 2) := by decide +kernel
theorem dX6_commonDivisor_27 : decode cX6_commonDivisor 27 = .ok (.istore_n 3, 1) := by decide +kernel
theorem dX6_commonDivisor_28 : decode cX6_commonDivisor 28 = .ok (.iinc 4 1, 3) := by decide +kernel
theorem dX6_commonDivisor_31 : decode cX6_commonDivisor 31 = .ok (.goto (-24), 3) := by decide +kernel
theorem dX6_commonDivisor_34 : decode cX6_commonDivisor 34 = .ok (.iload_n 2, 1) := by decide +kernel
theorem dX6_commonDivisor_35 : decode cX6_commonDivisor 35 = .ok (.ireturn, 1) := by decide +kernel
theorem dX6_power_0 : decode cX6_power 0 = .ok (.iconst 1, 1) := by decide +kernel
theorem dX6_power_1 : decode cX6_power 1 = .ok (.istore_n 2, 1) := by decide +kernel
theorem dX6_power_2 : decode cX6_power 2 = .ok (.iconst 0, 1) := by decide +kernel
theorem dX6_power_3 : decode cX6_power 3 = .ok (.istore_n 3, 1) := by decide +kernel
theorem dX6_power_4 : decode cX6_power 4 = .ok (.iload_n 3, 1) := by decide +kernel
theorem dX6_power_5 : decode cX6_power 5 = .ok (.iload_n 1, 1) := by decide +kernel
theorem dX6_power_6 : decode cX6_power 6 = .ok (.if_icmp .ge 13, 3) := by decide +kernel
theorem dX6_power_9 : decode cX6_power 9 = .ok (.iload_n 2, 1) := by decide +kernel
theorem dX6_power_10 : decode cX6_power 10 = .ok (.iload_n 0, 1) := by decide +kernel
theorem dX6_power_11 : decode cX6_power 11 = .ok (.imul, 1) := by decide +kernel
theorem dX6_power_12 : decode cX6_power 12 = .ok (.istore_n 2, 1) := by decide +kernel
theorem dX6_power_13 : decode cX6_power 13 = .ok (.iinc 3 1, 3) := by decide +kernel
theorem dX6_power_16 : decode cX6_power 16 = .ok (.goto (-12), 3) := by decide +kernel
theorem dX6_power_19 : decode cX6_power 19 = .ok (.iload_n 2, 1) := by decide +kernel
theorem dX6_power_20 : decode cX6_power 20 = .ok (.ireturn, 1) := by decide +kernel
theorem dX6_waysToChoose_0 : decode cX6_waysToChoose 0 = .ok (.iconst 1, 1) := by decide +kernel
theorem dX6_waysToChoose_1 : decode cX6_waysToChoose 1 = .ok (.istore_n 2, 1) := by decide +kernel
theorem dX6_waysToChoose_2 : decode cX6_waysToChoose 2 = .ok (.iconst 1, 1) := by decide +kernel
theorem dX6_waysToChoose_3 : decode cX6_waysToChoose 3 = .ok (.istore_n 3, 1) := by decide +kernel
theorem dX6_waysToChoose_4 : decode cX6_waysToChoose 4 = .ok (.iload_n 3, 1) := by decide +kernel
theorem dX6_waysToChoose_5 : decode cX6_waysToChoose 5 = .ok (.iload_n 1, 1) := by decide +kernel
theorem dX6_waysToChoose_6 : decode cX6_waysToChoose 6 = .ok (.if_icmp .gt 19, 3) := by decide +kernel
theorem dX6_waysToChoose_9 : decode cX6_waysToChoose 9 = .ok (.iload_n 2, 1) := by decide +kernel
theorem dX6_waysToChoose_10 : decode cX6_waysToChoose 10 = .ok (.iload_n 0, 1) := by decide +kernel
theorem dX6_waysToChoose_11 : decode cX6_waysToChoose 11 = .ok (.iload_n 1, 1) := by decide +kernel
theorem dX6_waysToChoose_12 : decode cX6_waysToChoose 12 = .ok (.isub, 1) := by decide +kernel
theorem dX6_waysToChoose_13 : decode cX6_waysToChoose 13 = .ok (.iload_n 3, 1) := by decide +kernel
theorem dX6_waysToChoose_14 : decode cX6_waysToChoose 14 = .ok (.iadd, 1) := by decide +kernel
theorem dX6_waysToChoose_15 : decode cX6_waysToChoose 15 = .ok (.imul, 1) := by decide +kernel
theorem dX6_waysToChoose_16 : decode cX6_waysToChoose 16 = .ok (.iload_n 3, 1) := by decide +kernel
theorem dX6_waysToChoose_17 : decode cX6_waysToChoose 17 = .ok (.idiv, 1) := by decide +kernel
theorem dX6_waysToChoose_18 : decode cX6_waysToChoose 18 = .ok (.istore_n 2, 1) := by decide +kernel
theorem dX6_waysToChoose_19 : decode cX6_waysToChoose 19 = .ok (.iinc 3 1, 3) := by decide +kernel
theorem dX6_waysToChoose_22 : decode cX6_waysToChoose 22 = .ok (.goto (-18), 3) := by decide +kernel
theorem dX6_waysToChoose_25 : decode cX6_waysToChoose 25 = .ok (.iload_n 2, 1) := by decide +kernel
theorem dX6_waysToChoose_26 : decode cX6_waysToChoose 26 = .ok (.ireturn, 1) := by decide +kernel
end
section
theorem dX7_init_0 : decode cX7_init 0 = .ok (.aload_n 0, 1) := by decide +kernel
theorem dX7_init_1 : decode cX7_init 1 = .ok (.invokespecial 1, 3) := by decide +kernel
theorem dX7_init_4 : decode cX7_init 4 = .ok (.aload_n 0, 1) := by decide +kernel
theorem dX7_init_5 : decode cX7_init 5 = .ok (.sipush 200, 3) := by decide +kernel
theorem dX7_init_8 : decode cX7_init 8 = .ok (.newarray .int, 2) := by decide +kernel
theorem dX7_init_10 : decode cX7_init 10 = .ok (.putfield 7, 3) := by decide +kernel
theorem dX7_init_13 : decode cX7_init 13 = .ok (.aload_n 0, 1) := by decide +kernel
theorem dX7_init_14 : decode cX7_init 14 = .ok (.bipush 12, 2) := by decide +kernel
theorem dX7_init_16 : decode cX7_init 16 = .ok (.newarray .int, 2) := by decide +kernel
theorem dX7_init_18 : decode cX7_init 18 = .ok (.putfield 13, 3) := by decide +kernel
theorem dX7_init_21 : decode cX7_init 21 = .ok (.aload_n 0, 1) := by decide +kernel
theorem dX7_init_22 : decode cX7_init 22 = .ok (.bipush 12, 2) := by decide +kernel
theorem dX7_init_24 : decode cX7_init 24 = .ok (.newarray .int, 2) := by decide +kernel
theorem dX7_init_26 : decode cX7_init 26 = .ok (.putfield 16, 3) := by decide +kernel
theorem dX7_init_29 : decode cX7_init 29 = .ok (.aload_n 0, 1) := by decide +kernel
theorem dX7_init_30 : decode cX7_init 30 = .ok (.bipush 6, 2) := by decide +kernel
theorem dX7_init_32 : decode cX7_init 32 = .ok (.newarray .int, 2) := by decide +kernel
theorem dX7_init_34 : decode cX7_init 34 = .ok (.putfield 19, 3) := by decide +kernel
theorem dX7_init_37 : decode cX7_init 37 = .ok (.aload_n 0, 1) := by decide +kernel
theorem dX7_init_38 : decode cX7_init 38 = .ok (.bipush 12, 2) := by decide +kernel
theorem dX7_init_40 : decode cX7_init 40 = .ok (.newarray .int, 2) := by decide +kernel
theorem dX7_init_42 : decode cX7_init 42 = .ok (.putfield 22, 3) := by decide +kernel
theorem dX7_init_45 : decode cX7_init 45 = .ok (.aload_n 0, 1) := by decide +kernel
theorem dX7_init_46 : decode cX7_init 46 = .ok (.bipush 12, 2) := by decide +kernel
theorem dX7_init_48 : decode cX7_init 48 = .ok (.newarray .int, 2) := by decide +kernel
theorem dX7_init_50 : decode cX7_init 50 = .ok (.putfield 25, 3) := by decide +kernel
theorem dX7_init_53 : decode cX7_init 53 = .ok (.aload_n 0, 1) := by decide +kernel
theorem dX7_init_54 : decode cX7_init 54 = .ok (.bipush 12, 2) := by decide +kernel
theorem dX7_init_56 : decode cX7_init 56 = .ok (.newarray .int, 2) := by decide +kernel
theorem dX7_init_58 : decode cX7_init 58 = .ok (.putfield 28, 3) := by decide +kernel
theorem dX7_init_61 : decode cX7_init 61 = .ok (.aload_n 0, 1) := by decide +kernel
theorem dX7_init_62 : decode cX7_init 62 = .ok (.bipush 21, 2) := by decide +kernel
theorem dX7_init_64 : decode cX7_init 64 = .ok (.newarray .int, 2) := by decide +kernel
theorem dX7_init_66 : decode cX7_init 66 = .ok (.putfield 31, 3) := by decide +kernel
theorem dX7_init_69 : decode cX7_init 69 = .ok (.aload_n 0, 1) := by decide +kernel
theorem dX7_init_70 : decode cX7_init 70 = .ok (.bipush 21, 2) := by decide +kernel
theorem dX7_init_72 : decode cX7_init 72 = .ok (.newarray .int, 2) := by decide +kernel
theorem dX7_init_74 : decode cX7_init 74 = .ok (.putfield 34, 3) := by decide +kernel
theorem dX7_init_77 : decode cX7_init 77 = .ok (.aload_n 0, 1) := by decide +kernel
theorem dX7_init_78 : decode cX7_init 78 = .ok (.bipush 42, 2) := by decide +kernel
theorem dX7_init_80 : decode cX7_init 80 = .ok (.newarray .int, 2) := by decide +kernel
theorem dX7_init_82 : decode cX7_init 82 = .ok (.putfield 37, 3) := by decide +kernel
theorem dX7_init_85 : decode cX7_init 85 = .ok (.aload_n 0, 1) := by decide +kernel
theorem dX7_init_86 : decode cX7_init 86 = .ok (.iconst 2, 1) := by decide +kernel
theorem dX7_init_87 : decode cX7_init 87 = .ok (.newarray .boolean, 2) := by decide +kernel
theorem dX7_init_89 : decode cX7_init 89 = .ok (.putfield 40, 3) := by decide +kernel
theorem dX7_init_92 : decode cX7_init 92 = .ok (.aload_n 0, 1) := by decide +kernel
theorem dX7_init_93 : decode cX7_init 93 = .ok (.sipush 210, 3) := by decide +kernel
theorem dX7_init_96 : decode cX7_init 96 = .ok (.newarray .int, 2) := by decide +kernel
theorem dX7_init_98 : decode cX7_init 98 = .ok (.putfield 44, 3) := by decide +kernel
theorem dX7_init_101 : decode cX7_init 101 = .ok (.aload_n 0, 1) := by decide +kernel
theorem dX7_init_102 : decode cX7_init 102 = .ok (.iconst 5, 1) := by decide +kernel
theorem dX7_init_103 : decode cX7_init 103 = .ok (.newarray .int, 2) := by decide +kernel
theorem dX7_init_105 : decode cX7_init 105 = .ok (.putfield 47, 3) := by decide +kernel
theorem dX7_init_108 : decode cX7_init 108 = .ok (.aload_n 0, 1) := by decide +kernel
theorem dX7_init_109 : decode cX7_init 109 = .ok (.iconst 5, 1) := by decide +kernel
theorem dX7_init_110 : decode cX7_init 110 = .ok (.newarray .int, 2) := by decide +kernel
theorem dX7_init_112 : decode cX7_init 112 = .ok (.putfield 50, 3) := by decide +kernel
theorem dX7_init_115 : decode cX7_init 115 = .ok (.aload_n 0, 1) := by decide +kernel
theorem dX7_init_116 : decode cX7_init 116 = .ok (.iconst 5, 1) := by decide +kernel
theorem dX7_init_117 : decode cX7_init 117 = .ok (.newarray .int, 2) := by decide +kernel
theorem dX7_init_119 : decode cX7_init 119 = .ok (.putfield 53, 3) := by decide +kernel
theorem dX7_init_122 : decode cX7_init 122 = .ok (.aload_n 0, 1) := by decide +kernel
theorem dX7_init_123 : decode cX7_init 123 = .ok (.iconst 4, 1) := by decide +kernel
theorem dX7_init_124 : decode cX7_init 124 = .ok (.newarray .int, 2) := by decide +kernel
theorem dX7_init_126 : decode cX7_init 126 = .ok (.putfield 56, 3) := by decide +kernel
theorem dX7_init_129 : decode cX7_init 129 = .ok (.aload_n 0, 1) := by decide +kernel
theorem dX7_init_130 : decode cX7_init 130 = .ok (.iconst 4, 1) := by decide +kernel
theorem dX7_init_131 : decode cX7_init 131 = .ok (.newarray .int, 2) := by decide +kernel
theorem dX7_init_133 : decode cX7_init 133 = .ok (.putfield 59, 3) := by decide +kernel
theorem dX7_init_136 : decode cX7_init 136 = .ok (.aload_n 0, 1) := by decide +kernel
theorem dX7_init_137 : decode cX7_init 137 = .ok (.invokevirtual 62, 3) := by decide +kernel
theorem dX7_init_140 : decode cX7_init 140 = .ok (.aload_n 0, 1) := by decide +kernel
theorem dX7_init_141 : decode cX7_init 141 = .ok (.invokevirtual 65, 3) := by decide +kernel
theorem dX7_init_144 : decode cX7_init 144 = .ok (.return_, 1) := by decide +kernel
theorem dX7_in_0 : decode cX7_in 0 = .ok (.iload_n 0, 1) := by decide +kernel
theorem dX7_in_1 : decode cX7_in 1 = .ok (.iload_n 1, 1) := by decide +kernel
theorem dX7_in_2 : decode cX7_in 2 = .ok (.if_icmp .lt 12, 3) := by decide +kernel
theorem dX7_in_5 : decode cX7_in 5 = .ok (.iload_n 0, 1) := by decide +kernel
theorem dX7_in_6 : decode cX7_in 6 = .ok (.iload_n 2, 1) := by decide +kernel
theorem dX7_in_7 : decode cX7_in 7 = .ok (.if_icmp .gt 7, 3) := by decide +kernel
theorem dX7_in_10 : decode cX7_in 10 = .ok (.iconst 1, 1) := by decide +kernel
theorem dX7_in_11 : decode cX7_in 11 = .ok (.goto 4, 3) := by decide +kernel
theorem dX7_in_14 : decode cX7_in 14 = .ok (.iconst 0, 1) := by decide +kernel
theorem dX7_in_15 : decode cX7_in 15 = .ok (.ireturn, 1) := by decide +kernel
theorem dX7_ones_0 : decode cX7_ones 0 = .ok (.iconst 0, 1) := by decide +kernel
theorem dX7_ones_1 : decode cX7_ones 1 = .ok (.istore_n 1, 1) := by decide +kernel
theorem dX7_ones_2 : decode cX7_ones 2 = .ok (.iconst 0, 1) := by decide +kernel
theorem dX7_ones_3 : decode cX7_ones 3 = .ok (.istore_n 2, 1) := by decide +kernel
theorem dX7_ones_4 : decode cX7_ones 4 = .ok (.iload_n 2, 1) := by decide +kernel
theorem dX7_ones_5 : decode cX7_ones 5 = .ok (.bipush 8, 2) := by decide +kernel
theorem dX7_ones_7 : decode cX7_ones 7 = .ok (.if_icmp .ge 17, 3) := by decide +kernel
theorem dX7_ones_10 : decode cX7_ones 10 = .ok (.iload_n 1, 1) := by decide +kernel
theorem dX7_ones_11 : decode cX7_ones 11 = .ok (.iload_n 0, 1) := by decide +kernel
theorem dX7_ones_12 : decode cX7_ones 12 = .ok (.iload_n 2, 1) := by decide +kernel
theorem dX7_ones_13 : decode cX7_ones 13 = .ok (.ishr, 1) := by decide +kernel
theorem dX7_ones_14 : decode cX7_ones 14 = .ok (.iconst 1, 1) := by decide +kernel
theorem dX7_ones_15 : decode cX7_ones 15 = .ok (.iand, 1) := by decide +kernel
theorem dX7_ones_16 : decode cX7_ones 16 = .ok (.iadd, 1) := by decide +kernel
theorem dX7_ones_17 : decode cX7_ones 17 = .ok (.istore_n 1, 1) := by decide +kernel
theorem dX7_ones_18 : decode cX7_ones 18 = .ok (.iinc 2 1, 3) := by decide +kernel
theorem dX7_ones_21 : decode cX7_ones 21 = .ok (.goto (-17), 3) := by decide +kernel
theorem dX7_ones_24 : decode cX7_ones 24 = .ok (.iload_n 1, 1) := by decide +kernel
theorem dX7_ones_25 : decode cX7_ones 25 = .ok (.ireturn, 1) := by decide +kernel
theorem dX7_type_0 : decode cX7_type 0 = .ok (.aload_n 0, 1) := by decide +kernel
theorem dX7_type_1 : decode cX7_type 1 = .ok (.iconst 0, 1) := by decide +kernel
theorem dX7_type_2 : decode cX7_type 2 = .ok (.putfield 68, 3) := by decide +kernel
theorem dX7_type_5 : decode cX7_type 5 = .ok (.iload_n 1, 1) := by decide +kernel
theorem dX7_type_6 : decode cX7_type 6 = .ok (.iconst 0, 1) := by decide +kernel
theorem dX7_type_7 : decode cX7_type 7 = .ok (.sipush 255, 3) := by decide +kernel
theorem dX7_type_10 : decode cX7_type 10 = .ok (.invokestatic 72, 3) := by decide +kernel
theorem dX7_type_13 : decode cX7_type 13 = .ok (.ifCond .ne 5, 3) := by decide +kernel
theorem dX7_type_16 : decode cX7_type 16 = .ok (.iconst (-1), 1) := by decide +kernel
theorem dX7_type_17 : decode cX7_type 17 = .ok (.ireturn, 1) := by decide +kernel
theorem dX7_type_18 : decode cX7_type 18 = .ok (.aload_n 0, 1) := by decide +kernel
theorem dX7_type_19 : decode cX7_type 19 = .ok (.getfield 76, 3) := by decide +kernel
theorem dX7_type_22 : decode cX7_type 22 = .ok (.sipush 200, 3) := by decide +kernel
theorem dX7_type_25 : decode cX7_type 25 = .ok (.if_icmp .ne 6, 3) := by decide +kernel
theorem dX7_type_28 : decode cX7_type 28 = .ok (.bipush (-3), 2) := by decide +kernel
theorem dX7_type_30 : decode cX7_type 30 = .ok (.ireturn, 1) := by decide +kernel
theorem dX7_type_31 : decode cX7_type 31 = .ok (.aload_n 0, 1) := by decide +kernel
theorem dX7_type_32 : decode cX7_type 32 = .ok (.getfield 7, 3) := by decide +kernel
theorem dX7_type_35 : decode cX7_type 35 = .ok (.aload_n 0, 1) := by decide +kernel
theorem dX7_type_36 : decode cX7_type 36 = .ok (.getfield 76, 3) := by decide +kernel
theorem dX7_type_39 : decode cX7_type 39 = .ok (.iload_n 1, 1) := by decide +kernel
theorem dX7_type_40 : decode cX7_type 40 = .ok (.iastore, 1) := by decide +kernel
theorem dX7_type_41 : decode cX7_type 41 = .ok (.aload_n 0, 1) := by decide +kernel
theorem dX7_type_42 : decode cX7_type 42 = .ok (.dup, 1) := by decide +kernel
theorem dX7_type_43 : decode cX7_type 43 = .ok (.getfield 76, 3) := by decide +kernel
theorem dX7_type_46 : decode cX7_type 46 = .ok (.iconst 1, 1) := by decide +kernel
theorem dX7_type_47 : decode cX7_type 47 = .ok (.iadd, 1) := by decide +kernel
theorem dX7_type_48 : decode cX7_type 48 = .ok (.putfield 76, 3) := by decide +kernel
theorem dX7_type_51 : decode cX7_type 51 = .ok (.aload_n 0, 1) := by decide +kernel
theorem dX7_type_52 : decode cX7_type 52 = .ok (.getfield 76, 3) := by decide +kernel
theorem dX7_type_55 : decode cX7_type 55 = .ok (.ireturn, 1) := by decide +kernel
theorem dX7_clear_0 : decode cX7_clear 0 = .ok (.aload_n 0, 1) := by decide +kernel
theorem dX7_clear_1 : decode cX7_clear 1 = .ok (.iconst 0, 1) := by decide +kernel
theorem dX7_clear_2 : decode cX7_clear 2 = .ok (.putfield 68, 3) := by decide +kernel
theorem dX7_clear_5 : decode cX7_clear 5 = .ok (.aload_n 0, 1) := by decide +kernel
theorem dX7_clear_6 : decode cX7_clear 6 = .ok (.getfield 76, 3) := by decide +kernel
theorem dX7_clear_9 : decode cX7_clear 9 = .ok (.istore_n 1, 1) := by decide +kernel
theorem dX7_clear_10 : decode cX7_clear 10 = .ok (.aload_n 0, 1) := by decide +kernel
theorem dX7_clear_11 : decode cX7_clear 11 = .ok (.iconst 0, 1) := by decide +kernel
theorem dX7_clear_12 : decode cX7_clear 12 = .ok (.putfield 76, 3) := by decide +kernel
theorem dX7_clear_15 : decode cX7_clear 15 = .ok (.iload_n 1, 1) := by decide +kernel
theorem dX7_clear_16 : decode cX7_clear 16 = .ok (.ireturn, 1) := by decide +kernel
theorem dX7_letterAt_0 : decode cX7_letterAt 0 = .ok (.iload_n 1, 1) := by decide +kernel
theorem dX7_letterAt_1 : decode cX7_letterAt 1 = .ok (.aload_n 0, 1) := by decide +kernel
theorem dX7_letterAt_2 : decode cX7_letterAt 2 = .ok (.getfield 76, 3) := by decide +kernel
theorem dX7_letterAt_5 : decode cX7_letterAt 5 = .ok (.if_icmp .ge 12, 3) := by decide +kernel
theorem dX7_letterAt_8 : decode cX7_letterAt 8 = .ok (.aload_n 0, 1) := by decide +kernel
theorem dX7_letterAt_9 : decode cX7_letterAt 9 = .ok (.getfield 7, 3) := by decide +kernel
theorem dX7_letterAt_12 : decode cX7_letterAt 12 = .ok (.iload_n 1, 1) := by decide +kernel
theorem dX7_letterAt_13 : decode cX7_letterAt 13 = .ok (.iaload, 1) := by decide +kernel
theorem dX7_letterAt_14 : decode cX7_letterAt 14 = .ok (.goto 4, 3) := by decide +kernel
theorem dX7_letterAt_17 : decode cX7_letterAt 17 = .ok (.iconst (-1), 1) := by decide +kernel
theorem dX7_letterAt_18 : decode cX7_letterAt 18 = .ok (.ireturn, 1) := by decide +kernel
theorem dX7_isLetter_0 : decode cX7_isLetter 0 = .ok (.iload_n 0, 1) := by decide +kernel
theorem dX7_isLetter_1 : decode cX7_isLetter 1 = .ok (.bipush 119, 2) := by decide +kernel
theorem dX7_isLetter_3 : decode cX7_isLetter 3 = .ok (.if_icmp .eq 33, 3) := by decide +kernel
theorem dX7_isLetter_6 : decode cX7_isLetter 6 = .ok (.iload_n 0, 1) := by decide +kernel
theorem dX7_isLetter_7 : decode cX7_isLetter 7 = .ok (.bipush 111, 2) := by decide +kernel
theorem dX7_isLetter_9 : decode cX7_isLetter 9 = .ok (.if_icmp .eq 27, 3) := by decide +kernel
theorem dX7_isLetter_12 : decode cX7_isLetter 12 = .ok (.iload_n 0, 1) := by decide +kernel
theorem dX7_isLetter_13 : decode cX7_isLetter 13 = .ok (.bipush 114, 2) := by decide +kernel
theorem dX7_isLetter_15 : decode cX7_isLetter 15 = .ok (.if_icmp .eq 21, 3) := by decide +kernel
theorem dX7_isLetter_18 : decode cX7_isLetter 18 = .ok (.iload_n 0, 1) := by decide +kernel
theorem dX7_isLetter_19 : decode cX7_isLetter 19 = .ok (.bipush 116, 2) := by decide +kernel
theorem dX7_isLetter_21 : decode cX7_isLetter 21 = .ok (.if_icmp .eq 15, 3) := by decide +kernel
theorem dX7_isLetter_24 : decode cX7_isLetter 24 = .ok (.iload_n 0, 1) := by decide +kernel
theorem dX7_isLetter_25 : decode cX7_isLetter 25 = .ok (.bipush 112, 2) := by decide +kernel
theorem dX7_isLetter_27 : decode cX7_isLetter 27 = .ok (.if_icmp .eq 9, 3) := by decide +kernel
theorem dX7_isLetter_30 : decode cX7_isLetter 30 = .ok (.iload_n 0, 1) := by decide +kernel
theorem dX7_isLetter_31 : decode cX7_isLetter 31 = .ok (.bipush 108, 2) := by decide +kernel
theorem dX7_isLetter_33 : decode cX7_isLetter 33 = .ok (.if_icmp .ne 7, 3) := by decide +kernel
theorem dX7_isLetter_36 : decode cX7_isLetter 36 = .ok (.iconst 1, 1) := by decide +kernel
theorem dX7_isLetter_37 : decode cX7_isLetter 37 = .ok (.goto 4, 3) := by decide +kernel
theorem dX7_isLetter_40 : decode cX7_isLetter 40 = .ok (.iconst 0, 1) := by decide +kernel
theorem dX7_isLetter_41 : decode cX7_isLetter 41 = .ok (.ireturn, 1) := by decide +kernel
theorem dX7_advances_0 : decode cX7_advances 0 = .ok (.aload_n 0, 1) := by decide +kernel
theorem dX7_advances_1 : decode cX7_advances 1 = .ok (.aload_n 0, 1) := by decide +kernel
theorem dX7_advances_2 : decode cX7_advances 2 = .ok (.getfield 79, 3) := by decide +kernel
theorem dX7_advances_5 : decode cX7_advances 5 = .ok (.invokevirtual 82, 3) := by decide +kernel
theorem dX7_advances_8 : decode cX7_advances 8 = .ok (.bipush 32, 2) := by decide +kernel
theorem dX7_advances_10 : decode cX7_advances 10 = .ok (.if_icmp .ne 16, 3) := by decide +kernel
theorem dX7_advances_13 : decode cX7_advances 13 = .ok (.aload_n 0, 1) := by decide +kernel
theorem dX7_advances_14 : decode cX7_advances 14 = .ok (.dup, 1) := by decide +kernel
theorem dX7_advances_15 : decode cX7_advances 15 = .ok (.getfield 79, 3) := by decide +kernel
theorem dX7_advances_18 : decode cX7_advances 18 = .ok (.iconst 1, 1) := by decide +kernel
theorem dX7_advances_19 : decode cX7_advances 19 = .ok (.iadd, 1) := by decide +kernel
theorem dX7_advances_20 : decode cX7_advances 20 = .ok (.putfield 79, 3) := by decide +kernel
theorem dX7_advances_23 : decode cX7_advances 23 = .ok (.goto (-23), 3) := by decide +kernel
theorem dX7_advances_26 : decode cX7_advances 26 = .ok (.aload_n 0, 1) := by decide +kernel
theorem dX7_advances_27 : decode cX7_advances 27 = .ok (.aload_n 0, 1) := by decide +kernel
theorem dX7_advances_28 : decode cX7_advances 28 = .ok (.getfield 79, 3) := by decide +kernel
theorem dX7_advances_31 : decode cX7_advances 31 = .ok (.putfield 86, 3) := by decide +kernel
theorem dX7_advances_34 : decode cX7_advances 34 = .ok (.aload_n 0, 1) := by decide +kernel
theorem dX7_advances_35 : decode cX7_advances 35 = .ok (.aload_n 0, 1) := by decide +kernel
theorem dX7_advances_36 : decode cX7_advances 36 = .ok (.getfield 79, 3) := by decide +kernel
theorem dX7_advances_39 : decode cX7_advances 39 = .ok (.invokevirtual 82, 3) := by decide +kernel
theorem dX7_advances_42 : decode cX7_advances 42 = .ok (.istore_n 1, 1) := by decide +kernel
theorem dX7_advances_43 : decode cX7_advances 43 = .ok (.iload_n 1, 1) := by decide +kernel
theorem dX7_advances_44 : decode cX7_advances 44 = .ok (.ifCond .ge 11, 3) := by decide +kernel
theorem dX7_advances_47 : decode cX7_advances 47 = .ok (.aload_n 0, 1) := by decide +kernel
theorem dX7_advances_48 : decode cX7_advances 48 = .ok (.iconst 0, 1) := by decide +kernel
theorem dX7_advances_49 : decode cX7_advances 49 = .ok (.putfield 89, 3) := by decide +kernel
theorem dX7_advances_52 : decode cX7_advances 52 = .ok (.goto 170, 3) := by decide +kernel
theorem dX7_advances_55 : decode cX7_advances 55 = .ok (.iload_n 1, 1) := by decide +kernel
theorem dX7_advances_56 : decode cX7_advances 56 = .ok (.bipush 48, 2) := by decide +kernel
theorem dX7_advances_58 : decode cX7_advances 58 = .ok (.bipush 57, 2) := by decide +kernel
theorem dX7_advances_60 : decode cX7_advances 60 = .ok (.invokestatic 72, 3) := by decide +kernel
theorem dX7_advances_63 : decode cX7_advances 63 = .ok (.ifCond .eq 118, 3) := by decide +kernel
theorem dX7_advances_66 : decode cX7_advances 66 = .ok (.aload_n 0, 1) := by decide +kernel
theorem dX7_advances_67 : decode cX7_advances 67 = .ok (.iconst 0, 1) := by decide +kernel
theorem dX7_advances_68 : decode cX7_advances 68 = .ok (.putfield 92, 3) := by decide +kernel
theorem dX7_advances_71 : decode cX7_advances 71 = .ok (.aload_n 0, 1) := by decide +kernel
theorem dX7_advances_72 : decode cX7_advances 72 = .ok (.aload_n 0, 1) := by decide +kernel
theorem dX7_advances_73 : decode cX7_advances 73 = .ok (.getfield 79, 3) := by decide +kernel
theorem dX7_advances_76 : decode cX7_advances 76 = .ok (.invokevirtual 82, 3) := by decide +kernel
theorem dX7_advances_79 : decode cX7_advances 79 = .ok (.bipush 48, 2) := by decide +kernel
theorem dX7_advances_81 : decode cX7_advances 81 = .ok (.bipush 57, 2) := by decide +kernel
theorem dX7_advances_83 : decode cX7_advances 83 = .ok (.invokestatic 72, 3) := by decide +kernel
theorem dX7_advances_86 : decode cX7_advances 86 = .ok (.ifCond .eq 55, 3) := by decide +kernel
theorem dX7_advances_89 : decode cX7_advances 89 = .ok (.aload_n 0, 1) := by decide +kernel
theorem dX7_advances_90 : decode cX7_advances 90 = .ok (.aload_n 0, 1) := by decide +kernel
theorem dX7_advances_91 : decode cX7_advances 91 = .ok (.getfield 92, 3) := by decide +kernel
theorem dX7_advances_94 : decode cX7_advances 94 = .ok (.bipush 99, 2) := by decide +kernel
theorem dX7_advances_96 : decode cX7_advances 96 = .ok (.if_icmp .le 10, 3) := by decide +kernel
theorem dX7_advances_99 : decode cX7_advances 99 = .ok (.aload_n 0, 1) := by decide +kernel
theorem dX7_advances_100 : decode cX7_advances 100 = .ok (.getfield 92, 3) := by decide +kernel
theorem dX7_advances_103 : decode cX7_advances 103 = .ok (.goto 22, 3) := by decide +kernel
theorem dX7_advances_106 : decode cX7_advances 106 = .ok (.bipush 10, 2) := by decide +kernel
theorem dX7_advances_108 : decode cX7_advances 108 = .ok (.aload_n 0, 1) := by decide +kernel
theorem dX7_advances_109 : decode cX7_advances 109 = .ok (.getfield 92, 3) := by decide +kernel
theorem dX7_advances_112 : decode cX7_advances 112 = .ok (.imul, 1) := by decide +kernel
theorem dX7_advances_113 : decode cX7_advances 113 = .ok (.aload_n 0, 1) := by decide +kernel
theorem dX7_advances_114 : decode cX7_advances 114 = .ok (.aload_n 0, 1) := by decide +kernel
theorem dX7_advances_115 : decode cX7_advances 115 = .ok (.getfield 79, 3) := by decide +kernel
theorem dX7_advances_118 : decode cX7_advances 118 = .ok (.invokevirtual 82, 3) := by decide +kernel
theorem dX7_advances_121 : decode cX7_advances 121 = .ok (.iadd, 1) := by decide +kernel
theorem dX7_advances_122 : decode cX7_advances 122 = .ok (.bipush 48, 2) := by decide +kernel
theorem dX7_advances_124 : decode cX7_advances 124 = .ok (.isub, 1) := by decide +kernel
theorem dX7_advances_125 : decode cX7_advances 125 = .ok (.putfield 92, 3) := by decide +kernel
theorem dX7_advances_128 : decode cX7_advances 128 = .ok (.aload_n 0, 1) := by decide +kernel
theorem dX7_advances_129 : decode cX7_advances 129 = .ok (.dup, 1) := by decide +kernel
theorem dX7_advances_130 : decode cX7_advances 130 = .ok (.getfield 79, 3) := by decide +kernel
theorem dX7_advances_133 : decode cX7_advances 133 = .ok (.iconst 1, 1) := by decide +kernel
theorem dX7_advances_134 : decode cX7_advances 134 = .ok (.iadd, 1) := by decide +kernel
theorem dX7_advances_135 : decode cX7_advances 135 = .ok (.putfield 79, 3) := by decide +kernel
theorem dX7_advances_138 : decode cX7_advances 138 = .ok (.goto (-67), 3) := by decide +kernel
theorem dX7_advances_141 : decode cX7_advances 141 = .ok (.aload_n 0, 1) := by decide +kernel
theorem dX7_advances_142 : decode cX7_advances 142 = .ok (.aload_n 0, 1) := by decide +kernel
theorem dX7_advances_143 : decode cX7_advances 143 = .ok (.getfield 92, 3) := by decide +kernel
theorem dX7_advances_146 : decode cX7_advances 146 = .ok (.bipush 99, 2) := by decide +kernel
theorem dX7_advances_148 : decode cX7_advances 148 = .ok (.if_icmp .gt 22, 3) := by decide +kernel
theorem dX7_advances_151 : decode cX7_advances 151 = .ok (.iload_n 1, 1) := by decide +kernel
theorem dX7_advances_152 : decode cX7_advances 152 = .ok (.bipush 48, 2) := by decide +kernel
theorem dX7_advances_154 : decode cX7_advances 154 = .ok (.if_icmp .ne 20, 3) := by decide +kernel
theorem dX7_advances_157 : decode cX7_advances 157 = .ok (.aload_n 0, 1) := by decide +kernel
theorem dX7_advances_158 : decode cX7_advances 158 = .ok (.getfield 79, 3) := by decide +kernel
theorem dX7_advances_161 : decode cX7_advances 161 = .ok (.aload_n 0, 1) := by decide +kernel
theorem dX7_advances_162 : decode cX7_advances 162 = .ok (.getfield 86, 3) := by decide +kernel
theorem dX7_advances_165 : decode cX7_advances 165 = .ok (.isub, 1) := by decide +kernel
theorem dX7_advances_166 : decode cX7_advances 166 = .ok (.iconst 1, 1) := by decide +kernel
theorem dX7_advances_167 : decode cX7_advances 167 = .ok (.if_icmp .le 7, 3) := by decide +kernel
theorem dX7_advances_170 : decode cX7_advances 170 = .ok (.iconst 4, 1) := by decide +kernel
theorem dX7_advances_171 : decode cX7_advances 171 = .ok (.goto 4, 3) := by decide +kernel
theorem dX7_advances_174 : decode cX7_advances 174 = .ok (.iconst 2, 1) := by decide +kernel
theorem dX7_advances_175 : decode cX7_advances 175 = .ok (.putfield 89, 3) := by decide +kernel
theorem dX7_advances_178 : decode cX7_advances 178 = .ok (.goto 44, 3) := by decide +kernel
theorem dX7_advances_181 : decode cX7_advances 181 = .ok (.aload_n 0, 1) := by decide +kernel
theorem dX7_advances_182 : decode cX7_advances 182 = .ok (.dup, 1) := by decide +kernel
theorem dX7_advances_183 : decode cX7_advances 183 = .ok (.getfield 79, 3) := by decide +kernel
theorem dX7_advances_186 : decode cX7_advances 186 = .ok (.iconst 1, 1) := by decide +kernel
theorem dX7_advances_187 : decode cX7_advances 187 = .ok (.iadd, 1) := by decide +kernel
theorem dX7_advances_188 : decode cX7_advances 188 = .ok (.putfield 79, 3) := by decide +kernel
theorem dX7_advances_191 : decode cX7_advances 191 = .ok (.aload_n 0, 1) := by decide +kernel
theorem dX7_advances_192 : decode cX7_advances 192 = .ok (.iload_n 1, 1) := by decide +kernel
theorem dX7_advances_193 : decode cX7_advances 193 = .ok (.putfield 92, 3) := by decide +kernel
theorem dX7_advances_196 : decode cX7_advances 196 = .ok (.aload_n 0, 1) := by decide +kernel
theorem dX7_advances_197 : decode cX7_advances 197 = .ok (.iload_n 1, 1) := by decide +kernel
theorem dX7_advances_198 : decode cX7_advances 198 = .ok (.bipush 59, 2) := by decide +kernel
theorem dX7_advances_200 : decode cX7_advances 200 = .ok (.if_icmp .ne 7, 3) := by decide +kernel
theorem dX7_advances_203 : decode cX7_advances 203 = .ok (.iconst 3, 1) := by decide +kernel
theorem dX7_advances_204 : decode cX7_advances 204 = .ok (.goto 15, 3) := by decide +kernel
theorem dX7_advances_207 : decode cX7_advances 207 = .ok (.iload_n 1, 1) := by decide +kernel
theorem dX7_advances_208 : decode cX7_advances 208 = .ok (.invokestatic 95, 3) := by decide +kernel
theorem dX7_advances_211 : decode cX7_advances 211 = .ok (.ifCond .eq 7, 3) := by decide +kernel
theorem dX7_advances_214 : decode cX7_advances 214 = .ok (.iconst 1, 1) := by decide +kernel
theorem dX7_advances_215 : decode cX7_advances 215 = .ok (.goto 4, 3) := by decide +kernel
theorem dX7_advances_218 : decode cX7_advances 218 = .ok (.iconst 4, 1) := by decide +kernel
theorem dX7_advances_219 : decode cX7_advances 219 = .ok (.putfield 89, 3) := by decide +kernel
theorem dX7_advances_222 : decode cX7_advances 222 = .ok (.return_, 1) := by decide +kernel
theorem dX7_isWell_0 : decode cX7_isWell 0 = .ok (.aload_n 0, 1) := by decide +kernel
theorem dX7_isWell_1 : decode cX7_isWell 1 = .ok (.getfield 99, 3) := by decide +kernel
theorem dX7_isWell_4 : decode cX7_isWell 4 = .ok (.ifCond .ge 7, 3) := by decide +kernel
theorem dX7_isWell_7 : decode cX7_isWell 7 = .ok (.iconst 1, 1) := by decide +kernel
theorem dX7_isWell_8 : decode cX7_isWell 8 = .ok (.goto 4, 3) := by decide +kernel
theorem dX7_isWell_11 : decode cX7_isWell 11 = .ok (.iconst 0, 1) := by decide +kernel
theorem dX7_isWell_12 : decode cX7_isWell 12 = .ok (.ireturn, 1) := by decide +kernel
theorem dX7_takes_0 : decode cX7_takes 0 = .ok (.aload_n 0, 1) := by decide +kernel
theorem dX7_takes_1 : decode cX7_takes 1 = .ok (.invokevirtual 102, 3) := by decide +kernel
theorem dX7_takes_4 : decode cX7_takes 4 = .ok (.ifCond .ne 5, 3) := by decide +kernel
theorem dX7_takes_7 : decode cX7_takes 7 = .ok (.iconst 0, 1) := by decide +kernel
theorem dX7_takes_8 : decode cX7_takes 8 = .ok (.ireturn, 1) := by decide +kernel
theorem dX7_takes_9 : decode cX7_takes 9 = .ok (.iload_n 1, 1) := by decide +kernel
theorem dX7_takes_10 : decode cX7_takes 10 = .ok (.ifCond .ne 13, 3) := by decide +kernel
theorem dX7_takes_13 : decode cX7_takes 13 = .ok (.aload_n 0, 1) := by decide +kernel
theorem dX7_takes_14 : decode cX7_takes 14 = .ok (.aload_n 0, 1) := by decide +kernel
theorem dX7_takes_15 : decode cX7_takes 15 = .ok (.getfield 86, 3) := by decide +kernel
theorem dX7_takes_18 : decode cX7_takes 18 = .ok (.putfield 99, 3) := by decide +kernel
theorem dX7_takes_21 : decode cX7_takes 21 = .ok (.iconst 0, 1) := by decide +kernel
theorem dX7_takes_22 : decode cX7_takes 22 = .ok (.ireturn, 1) := by decide +kernel
theorem dX7_takes_23 : decode cX7_takes 23 = .ok (.aload_n 0, 1) := by decide +kernel
theorem dX7_takes_24 : decode cX7_takes 24 = .ok (.getfield 92, 3) := by decide +kernel
theorem dX7_takes_27 : decode cX7_takes 27 = .ok (.istore_n 2, 1) := by decide +kernel
theorem dX7_takes_28 : decode cX7_takes 28 = .ok (.aload_n 0, 1) := by decide +kernel
theorem dX7_takes_29 : decode cX7_takes 29 = .ok (.invokevirtual 106, 3) := by decide +kernel
theorem dX7_takes_32 : decode cX7_takes 32 = .ok (.iload_n 2, 1) := by decide +kernel
theorem dX7_takes_33 : decode cX7_takes 33 = .ok (.ireturn, 1) := by decide +kernel
theorem dX7_number_0 : decode cX7_number 0 = .ok (.aload_n 0, 1) := by decide +kernel
theorem dX7_number_1 : decode cX7_number 1 = .ok (.aload_n 0, 1) := by decide +kernel
theorem dX7_number_2 : decode cX7_number 2 = .ok (.getfield 89, 3) := by decide +kernel
theorem dX7_number_5 : decode cX7_number 5 = .ok (.iconst 2, 1) := by decide +kernel
theorem dX7_number_6 : decode cX7_number 6 = .ok (.if_icmp .ne 19, 3) := by decide +kernel
theorem dX7_number_9 : decode cX7_number 9 = .ok (.aload_n 0, 1) := by decide +kernel
theorem dX7_number_10 : decode cX7_number 10 = .ok (.getfield 92, 3) := by decide +kernel
theorem dX7_number_13 : decode cX7_number 13 = .ok (.iload_n 1, 1) := by decide +kernel
theorem dX7_number_14 : decode cX7_number 14 = .ok (.iload_n 2, 1) := by decide +kernel
theorem dX7_number_15 : decode cX7_number 15 = .ok (.invokestatic 72, 3) := by decide +kernel
theorem dX7_number_18 : decode cX7_number 18 = .ok (.ifCond .eq 7, 3) := by decide +kernel
theorem dX7_number_21 : decode cX7_number 21 = .ok (.iconst 1, 1) := by decide +kernel
theorem dX7_number_22 : decode cX7_number 22 = .ok (.goto 4, 3) := by decide +kernel
theorem dX7_number_25 : decode cX7_number 25 = .ok (.iconst 0, 1) := by decide +kernel
theorem dX7_number_26 : decode cX7_number 26 = .ok (.invokevirtual 109, 3) := by decide +kernel
theorem dX7_number_29 : decode cX7_number 29 = .ok (.ireturn, 1) := by decide +kernel
theorem dX7_begins_0 : decode cX7_begins 0 = .ok (.aload_n 0, 1) := by decide +kernel
theorem dX7_begins_1 : decode cX7_begins 1 = .ok (.iconst 0, 1) := by decide +kernel
theorem dX7_begins_2 : decode cX7_begins 2 = .ok (.putfield 113, 3) := by decide +kernel
theorem dX7_begins_5 : decode cX7_begins 5 = .ok (.aload_n 0, 1) := by decide +kernel
theorem dX7_begins_6 : decode cX7_begins 6 = .ok (.getfield 13, 3) := by decide +kernel
theorem dX7_begins_9 : decode cX7_begins 9 = .ok (.bipush 6, 2) := by decide +kernel
theorem dX7_begins_11 : decode cX7_begins 11 = .ok (.iconst 0, 1) := by decide +kernel
theorem dX7_begins_12 : decode cX7_begins 12 = .ok (.iastore, 1) := by decide +kernel
theorem dX7_begins_13 : decode cX7_begins 13 = .ok (.aload_n 0, 1) := by decide +kernel
theorem dX7_begins_14 : decode cX7_begins 14 = .ok (.getfield 13, 3) := by decide +kernel
theorem dX7_begins_17 : decode cX7_begins 17 = .ok (.bipush 7, 2) := by decide +kernel
theorem dX7_begins_19 : decode cX7_begins 19 = .ok (.iconst 0, 1) := by decide +kernel
theorem dX7_begins_20 : decode cX7_begins 20 = .ok (.iastore, 1) := by decide +kernel
theorem dX7_begins_21 : decode cX7_begins 21 = .ok (.aload_n 0, 1) := by decide +kernel
theorem dX7_begins_22 : decode cX7_begins 22 = .ok (.getfield 13, 3) := by decide +kernel
theorem dX7_begins_25 : decode cX7_begins 25 = .ok (.bipush 8, 2) := by decide +kernel
theorem dX7_begins_27 : decode cX7_begins 27 = .ok (.bipush 9, 2) := by decide +kernel
theorem dX7_begins_29 : decode cX7_begins 29 = .ok (.iastore, 1) := by decide +kernel
theorem dX7_begins_30 : decode cX7_begins 30 = .ok (.aload_n 0, 1) := by decide +kernel
theorem dX7_begins_31 : decode cX7_begins 31 = .ok (.getfield 13, 3) := by decide +kernel
theorem dX7_begins_34 : decode cX7_begins 34 = .ok (.bipush 9, 2) := by decide +kernel
theorem dX7_begins_36 : decode cX7_begins 36 = .ok (.iconst 3, 1) := by decide +kernel
theorem dX7_begins_37 : decode cX7_begins 37 = .ok (.iastore, 1) := by decide +kernel
theorem dX7_begins_38 : decode cX7_begins 38 = .ok (.aload_n 0, 1) := by decide +kernel
theorem dX7_begins_39 : decode cX7_begins 39 = .ok (.getfield 13, 3) := by decide +kernel
theorem dX7_begins_42 : decode cX7_begins 42 = .ok (.bipush 10, 2) := by decide +kernel
theorem dX7_begins_44 : decode cX7_begins 44 = .ok (.bipush 11, 2) := by decide +kernel
theorem dX7_begins_46 : decode cX7_begins 46 = .ok (.iastore, 1) := by decide +kernel
theorem dX7_begins_47 : decode cX7_begins 47 = .ok (.aload_n 0, 1) := by decide +kernel
theorem dX7_begins_48 : decode cX7_begins 48 = .ok (.getfield 13, 3) := by decide +kernel
theorem dX7_begins_51 : decode cX7_begins 51 = .ok (.bipush 11, 2) := by decide +kernel
theorem dX7_begins_53 : decode cX7_begins 53 = .ok (.bipush 9, 2) := by decide +kernel
theorem dX7_begins_55 : decode cX7_begins 55 = .ok (.iastore, 1) := by decide +kernel
theorem dX7_begins_56 : decode cX7_begins 56 = .ok (.return_, 1) := by decide +kernel
theorem dX7_fixed_0 : decode cX7_fixed 0 = .ok (.iload_n 0, 1) := by decide +kernel
theorem dX7_fixed_1 : decode cX7_fixed 1 = .ok (.bipush 114, 2) := by decide +kernel
theorem dX7_fixed_3 : decode cX7_fixed 3 = .ok (.if_icmp .ne 7, 3) := by decide +kernel
theorem dX7_fixed_6 : decode cX7_fixed 6 = .ok (.iconst 2, 1) := by decide +kernel
theorem dX7_fixed_7 : decode cX7_fixed 7 = .ok (.goto 24, 3) := by decide +kernel
theorem dX7_fixed_10 : decode cX7_fixed 10 = .ok (.iload_n 0, 1) := by decide +kernel
theorem dX7_fixed_11 : decode cX7_fixed 11 = .ok (.bipush 116, 2) := by decide +kernel
theorem dX7_fixed_13 : decode cX7_fixed 13 = .ok (.if_icmp .ne 7, 3) := by decide +kernel
theorem dX7_fixed_16 : decode cX7_fixed 16 = .ok (.iconst 3, 1) := by decide +kernel
theorem dX7_fixed_17 : decode cX7_fixed 17 = .ok (.goto 14, 3) := by decide +kernel
theorem dX7_fixed_20 : decode cX7_fixed 20 = .ok (.iload_n 0, 1) := by decide +kernel
theorem dX7_fixed_21 : decode cX7_fixed 21 = .ok (.bipush 112, 2) := by decide +kernel
theorem dX7_fixed_23 : decode cX7_fixed 23 = .ok (.if_icmp .ne 7, 3) := by decide +kernel
theorem dX7_fixed_26 : decode cX7_fixed 26 = .ok (.iconst 4, 1) := by decide +kernel
theorem dX7_fixed_27 : decode cX7_fixed 27 = .ok (.goto 4, 3) := by decide +kernel
theorem dX7_fixed_30 : decode cX7_fixed 30 = .ok (.iconst 5, 1) := by decide +kernel
theorem dX7_fixed_31 : decode cX7_fixed 31 = .ok (.ireturn, 1) := by decide +kernel
theorem dX7_mayBegin_0 : decode cX7_mayBegin 0 = .ok (.aload_n 0, 1) := by decide +kernel
theorem dX7_mayBegin_1 : decode cX7_mayBegin 1 = .ok (.getfield 92, 3) := by decide +kernel
theorem dX7_mayBegin_4 : decode cX7_mayBegin 4 = .ok (.bipush 119, 2) := by decide +kernel
theorem dX7_mayBegin_6 : decode cX7_mayBegin 6 = .ok (.if_icmp .eq 12, 3) := by decide +kernel
theorem dX7_mayBegin_9 : decode cX7_mayBegin 9 = .ok (.aload_n 0, 1) := by decide +kernel
theorem dX7_mayBegin_10 : decode cX7_mayBegin 10 = .ok (.getfield 92, 3) := by decide +kernel
theorem dX7_mayBegin_13 : decode cX7_mayBegin 13 = .ok (.bipush 111, 2) := by decide +kernel
theorem dX7_mayBegin_15 : decode cX7_mayBegin 15 = .ok (.if_icmp .ne 36, 3) := by decide +kernel
theorem dX7_mayBegin_18 : decode cX7_mayBegin 18 = .ok (.aload_n 0, 1) := by decide +kernel
theorem dX7_mayBegin_19 : decode cX7_mayBegin 19 = .ok (.getfield 13, 3) := by decide +kernel
theorem dX7_mayBegin_22 : decode cX7_mayBegin 22 = .ok (.bipush 6, 2) := by decide +kernel
theorem dX7_mayBegin_24 : decode cX7_mayBegin 24 = .ok (.aload_n 0, 1) := by decide +kernel
theorem dX7_mayBegin_25 : decode cX7_mayBegin 25 = .ok (.getfield 92, 3) := by decide +kernel
theorem dX7_mayBegin_28 : decode cX7_mayBegin 28 = .ok (.bipush 119, 2) := by decide +kernel
theorem dX7_mayBegin_30 : decode cX7_mayBegin 30 = .ok (.if_icmp .ne 7, 3) := by decide +kernel
theorem dX7_mayBegin_33 : decode cX7_mayBegin 33 = .ok (.iconst 0, 1) := by decide +kernel
theorem dX7_mayBegin_34 : decode cX7_mayBegin 34 = .ok (.goto 4, 3) := by decide +kernel
theorem dX7_mayBegin_37 : decode cX7_mayBegin 37 = .ok (.iconst 1, 1) := by decide +kernel
theorem dX7_mayBegin_38 : decode cX7_mayBegin 38 = .ok (.iadd, 1) := by decide +kernel
theorem dX7_mayBegin_39 : decode cX7_mayBegin 39 = .ok (.iaload, 1) := by decide +kernel
theorem dX7_mayBegin_40 : decode cX7_mayBegin 40 = .ok (.bipush 6, 2) := by decide +kernel
theorem dX7_mayBegin_42 : decode cX7_mayBegin 42 = .ok (.if_icmp .ge 7, 3) := by decide +kernel
theorem dX7_mayBegin_45 : decode cX7_mayBegin 45 = .ok (.iconst 1, 1) := by decide +kernel
theorem dX7_mayBegin_46 : decode cX7_mayBegin 46 = .ok (.goto 4, 3) := by decide +kernel
theorem dX7_mayBegin_49 : decode cX7_mayBegin 49 = .ok (.iconst 0, 1) := by decide +kernel
theorem dX7_mayBegin_50 : decode cX7_mayBegin 50 = .ok (.ireturn, 1) := by decide +kernel
theorem dX7_mayBegin_51 : decode cX7_mayBegin 51 = .ok (.aload_n 0, 1) := by decide +kernel
theorem dX7_mayBegin_52 : decode cX7_mayBegin 52 = .ok (.getfield 113, 3) := by decide +kernel
theorem dX7_mayBegin_55 : decode cX7_mayBegin 55 = .ok (.aload_n 0, 1) := by decide +kernel
theorem dX7_mayBegin_56 : decode cX7_mayBegin 56 = .ok (.getfield 92, 3) := by decide +kernel
theorem dX7_mayBegin_59 : decode cX7_mayBegin 59 = .ok (.invokestatic 116, 3) := by decide +kernel
theorem dX7_mayBegin_62 : decode cX7_mayBegin 62 = .ok (.ishr, 1) := by decide +kernel
theorem dX7_mayBegin_63 : decode cX7_mayBegin 63 = .ok (.iconst 1, 1) := by decide +kernel
theorem dX7_mayBegin_64 : decode cX7_mayBegin 64 = .ok (.iand, 1) := by decide +kernel
theorem dX7_mayBegin_65 : decode cX7_mayBegin 65 = .ok (.ifCond .ne 7, 3) := by decide +kernel
theorem dX7_mayBegin_68 : decode cX7_mayBegin 68 = .ok (.iconst 1, 1) := by decide +kernel
theorem dX7_mayBegin_69 : decode cX7_mayBegin 69 = .ok (.goto 4, 3) := by decide +kernel
theorem dX7_mayBegin_72 : decode cX7_mayBegin 72 = .ok (.iconst 0, 1) := by decide +kernel
theorem dX7_mayBegin_73 : decode cX7_mayBegin 73 = .ok (.ireturn, 1) := by decide +kernel
theorem dX7_readsItem_0 : decode cX7_readsItem 0 = .ok (.iload_n 1, 1) := by decide +kernel
theorem dX7_readsItem_1 : decode cX7_readsItem 1 = .ok (.bipush 119, 2) := by decide +kernel
theorem dX7_readsItem_3 : decode cX7_readsItem 3 = .ok (.if_icmp .ne 54, 3) := by decide +kernel
theorem dX7_readsItem_6 : decode cX7_readsItem 6 = .ok (.aload_n 0, 1) := by decide +kernel
theorem dX7_readsItem_7 : decode cX7_readsItem 7 = .ok (.getfield 13, 3) := by decide +kernel
theorem dX7_readsItem_10 : decode cX7_readsItem 10 = .ok (.bipush 6, 2) := by decide +kernel
theorem dX7_readsItem_12 : decode cX7_readsItem 12 = .ok (.iaload, 1) := by decide +kernel
theorem dX7_readsItem_13 : decode cX7_readsItem 13 = .ok (.istore_n 2, 1) := by decide +kernel
theorem dX7_readsItem_14 : decode cX7_readsItem 14 = .ok (.aload_n 0, 1) := by decide +kernel
theorem dX7_readsItem_15 : decode cX7_readsItem 15 = .ok (.getfield 16, 3) := by decide +kernel
theorem dX7_readsItem_18 : decode cX7_readsItem 18 = .ok (.bipush 6, 2) := by decide +kernel
theorem dX7_readsItem_20 : decode cX7_readsItem 20 = .ok (.iload_n 2, 1) := by decide +kernel
theorem dX7_readsItem_21 : decode cX7_readsItem 21 = .ok (.iadd, 1) := by decide +kernel
theorem dX7_readsItem_22 : decode cX7_readsItem 22 = .ok (.aload_n 0, 1) := by decide +kernel
theorem dX7_readsItem_23 : decode cX7_readsItem 23 = .ok (.iconst 1, 1) := by decide +kernel
theorem dX7_readsItem_24 : decode cX7_readsItem 24 = .ok (.bipush 9, 2) := by decide +kernel
theorem dX7_readsItem_26 : decode cX7_readsItem 26 = .ok (.invokevirtual 119, 3) := by decide +kernel
theorem dX7_readsItem_29 : decode cX7_readsItem 29 = .ok (.iastore, 1) := by decide +kernel
theorem dX7_readsItem_30 : decode cX7_readsItem 30 = .ok (.aload_n 0, 1) := by decide +kernel
theorem dX7_readsItem_31 : decode cX7_readsItem 31 = .ok (.getfield 19, 3) := by decide +kernel
theorem dX7_readsItem_34 : decode cX7_readsItem 34 = .ok (.iload_n 2, 1) := by decide +kernel
theorem dX7_readsItem_35 : decode cX7_readsItem 35 = .ok (.aload_n 0, 1) := by decide +kernel
theorem dX7_readsItem_36 : decode cX7_readsItem 36 = .ok (.iconst 0, 1) := by decide +kernel
theorem dX7_readsItem_37 : decode cX7_readsItem 37 = .ok (.bipush 30, 2) := by decide +kernel
theorem dX7_readsItem_39 : decode cX7_readsItem 39 = .ok (.invokevirtual 119, 3) := by decide +kernel
theorem dX7_readsItem_42 : decode cX7_readsItem 42 = .ok (.iastore, 1) := by decide +kernel
theorem dX7_readsItem_43 : decode cX7_readsItem 43 = .ok (.aload_n 0, 1) := by decide +kernel
theorem dX7_readsItem_44 : decode cX7_readsItem 44 = .ok (.getfield 13, 3) := by decide +kernel
theorem dX7_readsItem_47 : decode cX7_readsItem 47 = .ok (.bipush 6, 2) := by decide +kernel
theorem dX7_readsItem_49 : decode cX7_readsItem 49 = .ok (.dup2, 1) := by decide +kernel
theorem dX7_readsItem_50 : decode cX7_readsItem 50 = .ok (.iaload, 1) := by decide +kernel
theorem dX7_readsItem_51 : decode cX7_readsItem 51 = .ok (.iconst 1, 1) := by decide +kernel
theorem dX7_readsItem_52 : decode cX7_readsItem 52 = .ok (.iadd, 1) := by decide +kernel
theorem dX7_readsItem_53 : decode cX7_readsItem 53 = .ok (.iastore, 1) := by decide +kernel
theorem dX7_readsItem_54 : decode cX7_readsItem 54 = .ok (.goto 136, 3) := by decide +kernel
theorem dX7_readsItem_57 : decode cX7_readsItem 57 = .ok (.iload_n 1, 1) := by decide +kernel
theorem dX7_readsItem_58 : decode cX7_readsItem 58 = .ok (.bipush 111, 2) := by decide +kernel
theorem dX7_readsItem_60 : decode cX7_readsItem 60 = .ok (.if_icmp .ne 67, 3) := by decide +kernel
theorem dX7_readsItem_63 : decode cX7_readsItem 63 = .ok (.bipush 6, 2) := by decide +kernel
theorem dX7_readsItem_65 : decode cX7_readsItem 65 = .ok (.aload_n 0, 1) := by decide +kernel
theorem dX7_readsItem_66 : decode cX7_readsItem 66 = .ok (.getfield 13, 3) := by decide +kernel
theorem dX7_readsItem_69 : decode cX7_readsItem 69 = .ok (.bipush 7, 2) := by decide +kernel
theorem dX7_readsItem_71 : decode cX7_readsItem 71 = .ok (.iaload, 1) := by decide +kernel
theorem dX7_readsItem_72 : decode cX7_readsItem 72 = .ok (.iadd, 1) := by decide +kernel
theorem dX7_readsItem_73 : decode cX7_readsItem 73 = .ok (.istore_n 2, 1) := by decide +kernel
theorem dX7_readsItem_74 : decode cX7_readsItem 74 = .ok (.aload_n 0, 1) := by decide +kernel
theorem dX7_readsItem_75 : decode cX7_readsItem 75 = .ok (.getfield 22, 3) := by decide +kernel
theorem dX7_readsItem_78 : decode cX7_readsItem 78 = .ok (.iload_n 2, 1) := by decide +kernel
theorem dX7_readsItem_79 : decode cX7_readsItem 79 = .ok (.aload_n 0, 1) := by decide +kernel
theorem dX7_readsItem_80 : decode cX7_readsItem 80 = .ok (.iconst 1, 1) := by decide +kernel
theorem dX7_readsItem_81 : decode cX7_readsItem 81 = .ok (.bipush 60, 2) := by decide +kernel
theorem dX7_readsItem_83 : decode cX7_readsItem 83 = .ok (.invokevirtual 119, 3) := by decide +kernel
theorem dX7_readsItem_86 : decode cX7_readsItem 86 = .ok (.iastore, 1) := by decide +kernel
theorem dX7_readsItem_87 : decode cX7_readsItem 87 = .ok (.aload_n 0, 1) := by decide +kernel
theorem dX7_readsItem_88 : decode cX7_readsItem 88 = .ok (.getfield 25, 3) := by decide +kernel
theorem dX7_readsItem_91 : decode cX7_readsItem 91 = .ok (.iload_n 2, 1) := by decide +kernel
theorem dX7_readsItem_92 : decode cX7_readsItem 92 = .ok (.aload_n 0, 1) := by decide +kernel
theorem dX7_readsItem_93 : decode cX7_readsItem 93 = .ok (.iconst 1, 1) := by decide +kernel
theorem dX7_readsItem_94 : decode cX7_readsItem 94 = .ok (.bipush 60, 2) := by decide +kernel
theorem dX7_readsItem_96 : decode cX7_readsItem 96 = .ok (.invokevirtual 119, 3) := by decide +kernel
theorem dX7_readsItem_99 : decode cX7_readsItem 99 = .ok (.iastore, 1) := by decide +kernel
theorem dX7_readsItem_100 : decode cX7_readsItem 100 = .ok (.aload_n 0, 1) := by decide +kernel
theorem dX7_readsItem_101 : decode cX7_readsItem 101 = .ok (.getfield 28, 3) := by decide +kernel
theorem dX7_readsItem_104 : decode cX7_readsItem 104 = .ok (.iload_n 2, 1) := by decide +kernel
theorem dX7_readsItem_105 : decode cX7_readsItem 105 = .ok (.aload_n 0, 1) := by decide +kernel
theorem dX7_readsItem_106 : decode cX7_readsItem 106 = .ok (.iconst 0, 1) := by decide +kernel
theorem dX7_readsItem_107 : decode cX7_readsItem 107 = .ok (.bipush 99, 2) := by decide +kernel
theorem dX7_readsItem_109 : decode cX7_readsItem 109 = .ok (.invokevirtual 119, 3) := by decide +kernel
theorem dX7_readsItem_112 : decode cX7_readsItem 112 = .ok (.iastore, 1) := by decide +kernel
theorem dX7_readsItem_113 : decode cX7_readsItem 113 = .ok (.aload_n 0, 1) := by decide +kernel
theorem dX7_readsItem_114 : decode cX7_readsItem 114 = .ok (.getfield 13, 3) := by decide +kernel
theorem dX7_readsItem_117 : decode cX7_readsItem 117 = .ok (.bipush 7, 2) := by decide +kernel
theorem dX7_readsItem_119 : decode cX7_readsItem 119 = .ok (.dup2, 1) := by decide +kernel
theorem dX7_readsItem_120 : decode cX7_readsItem 120 = .ok (.iaload, 1) := by decide +kernel
theorem dX7_readsItem_121 : decode cX7_readsItem 121 = .ok (.iconst 1, 1) := by decide +kernel
theorem dX7_readsItem_122 : decode cX7_readsItem 122 = .ok (.iadd, 1) := by decide +kernel
theorem dX7_readsItem_123 : decode cX7_readsItem 123 = .ok (.iastore, 1) := by decide +kernel
theorem dX7_readsItem_124 : decode cX7_readsItem 124 = .ok (.goto 66, 3) := by decide +kernel
theorem dX7_readsItem_127 : decode cX7_readsItem 127 = .ok (.iload_n 1, 1) := by decide +kernel
theorem dX7_readsItem_128 : decode cX7_readsItem 128 = .ok (.invokestatic 116, 3) := by decide +kernel
theorem dX7_readsItem_131 : decode cX7_readsItem 131 = .ok (.istore_n 2, 1) := by decide +kernel
theorem dX7_readsItem_132 : decode cX7_readsItem 132 = .ok (.aload_n 0, 1) := by decide +kernel
theorem dX7_readsItem_133 : decode cX7_readsItem 133 = .ok (.getfield 13, 3) := by decide +kernel
theorem dX7_readsItem_136 : decode cX7_readsItem 136 = .ok (.bipush 6, 2) := by decide +kernel
theorem dX7_readsItem_138 : decode cX7_readsItem 138 = .ok (.iload_n 2, 1) := by decide +kernel
theorem dX7_readsItem_139 : decode cX7_readsItem 139 = .ok (.iadd, 1) := by decide +kernel
theorem dX7_readsItem_140 : decode cX7_readsItem 140 = .ok (.iload_n 2, 1) := by decide +kernel
theorem dX7_readsItem_141 : decode cX7_readsItem 141 = .ok (.iconst 2, 1) := by decide +kernel
theorem dX7_readsItem_142 : decode cX7_readsItem 142 = .ok (.if_icmp .ne 13, 3) := by decide +kernel
theorem dX7_readsItem_145 : decode cX7_readsItem 145 = .ok (.aload_n 0, 1) := by decide +kernel
theorem dX7_readsItem_146 : decode cX7_readsItem 146 = .ok (.iconst 3, 1) := by decide +kernel
theorem dX7_readsItem_147 : decode cX7_readsItem 147 = .ok (.bipush 15, 2) := by decide +kernel
theorem dX7_readsItem_149 : decode cX7_readsItem 149 = .ok (.invokevirtual 119, 3) := by decide +kernel
theorem dX7_readsItem_152 : decode cX7_readsItem 152 = .ok (.goto 25, 3) := by decide +kernel
theorem dX7_readsItem_155 : decode cX7_readsItem 155 = .ok (.iload_n 2, 1) := by decide +kernel
theorem dX7_readsItem_156 : decode cX7_readsItem 156 = .ok (.iconst 5, 1) := by decide +kernel
theorem dX7_readsItem_157 : decode cX7_readsItem 157 = .ok (.if_icmp .ne 13, 3) := by decide +kernel
theorem dX7_readsItem_160 : decode cX7_readsItem 160 = .ok (.aload_n 0, 1) := by decide +kernel
theorem dX7_readsItem_161 : decode cX7_readsItem 161 = .ok (.iconst 1, 1) := by decide +kernel
theorem dX7_readsItem_162 : decode cX7_readsItem 162 = .ok (.bipush 15, 2) := by decide +kernel
theorem dX7_readsItem_164 : decode cX7_readsItem 164 = .ok (.invokevirtual 119, 3) := by decide +kernel
theorem dX7_readsItem_167 : decode cX7_readsItem 167 = .ok (.goto 10, 3) := by decide +kernel
theorem dX7_readsItem_170 : decode cX7_readsItem 170 = .ok (.aload_n 0, 1) := by decide +kernel
theorem dX7_readsItem_171 : decode cX7_readsItem 171 = .ok (.iconst 1, 1) := by decide +kernel
theorem dX7_readsItem_172 : decode cX7_readsItem 172 = .ok (.bipush 20, 2) := by decide +kernel
theorem dX7_readsItem_174 : decode cX7_readsItem 174 = .ok (.invokevirtual 119, 3) := by decide +kernel
theorem dX7_readsItem_177 : decode cX7_readsItem 177 = .ok (.iastore, 1) := by decide +kernel
theorem dX7_readsItem_178 : decode cX7_readsItem 178 = .ok (.aload_n 0, 1) := by decide +kernel
theorem dX7_readsItem_179 : decode cX7_readsItem 179 = .ok (.dup, 1) := by decide +kernel
theorem dX7_readsItem_180 : decode cX7_readsItem 180 = .ok (.getfield 113, 3) := by decide +kernel
theorem dX7_readsItem_183 : decode cX7_readsItem 183 = .ok (.iconst 1, 1) := by decide +kernel
theorem dX7_readsItem_184 : decode cX7_readsItem 184 = .ok (.iload_n 2, 1) := by decide +kernel
theorem dX7_readsItem_185 : decode cX7_readsItem 185 = .ok (.ishl, 1) := by decide +kernel
theorem dX7_readsItem_186 : decode cX7_readsItem 186 = .ok (.ior, 1) := by decide +kernel
theorem dX7_readsItem_187 : decode cX7_readsItem 187 = .ok (.putfield 113, 3) := by decide +kernel
theorem dX7_readsItem_190 : decode cX7_readsItem 190 = .ok (.return_, 1) := by decide +kernel
theorem dX7_yard_0 : decode cX7_yard 0 = .ok (.aload_n 0, 1) := by decide +kernel
theorem dX7_yard_1 : decode cX7_yard 1 = .ok (.iconst 0, 1) := by decide +kernel
theorem dX7_yard_2 : decode cX7_yard 2 = .ok (.putfield 68, 3) := by decide +kernel
theorem dX7_yard_5 : decode cX7_yard 5 = .ok (.aload_n 0, 1) := by decide +kernel
theorem dX7_yard_6 : decode cX7_yard 6 = .ok (.iconst (-1), 1) := by decide +kernel
theorem dX7_yard_7 : decode cX7_yard 7 = .ok (.putfield 99, 3) := by decide +kernel
theorem dX7_yard_10 : decode cX7_yard 10 = .ok (.aload_n 0, 1) := by decide +kernel
theorem dX7_yard_11 : decode cX7_yard 11 = .ok (.iconst 0, 1) := by decide +kernel
theorem dX7_yard_12 : decode cX7_yard 12 = .ok (.putfield 79, 3) := by decide +kernel
theorem dX7_yard_15 : decode cX7_yard 15 = .ok (.aload_n 0, 1) := by decide +kernel
theorem dX7_yard_16 : decode cX7_yard 16 = .ok (.invokevirtual 62, 3) := by decide +kernel
theorem dX7_yard_19 : decode cX7_yard 19 = .ok (.iconst 0, 1) := by decide +kernel
theorem dX7_yard_20 : decode cX7_yard 20 = .ok (.istore_n 1, 1) := by decide +kernel
theorem dX7_yard_21 : decode cX7_yard 21 = .ok (.aload_n 0, 1) := by decide +kernel
theorem dX7_yard_22 : decode cX7_yard 22 = .ok (.invokevirtual 106, 3) := by decide +kernel
theorem dX7_yard_25 : decode cX7_yard 25 = .ok (.aload_n 0, 1) := by decide +kernel
theorem dX7_yard_26 : decode cX7_yard 26 = .ok (.invokevirtual 102, 3) := by decide +kernel
theorem dX7_yard_29 : decode cX7_yard 29 = .ok (.ifCond .eq 71, 3) := by decide +kernel
theorem dX7_yard_32 : decode cX7_yard 32 = .ok (.aload_n 0, 1) := by decide +kernel
theorem dX7_yard_33 : decode cX7_yard 33 = .ok (.getfield 89, 3) := by decide +kernel
theorem dX7_yard_36 : decode cX7_yard 36 = .ok (.ifCond .eq 64, 3) := by decide +kernel
theorem dX7_yard_39 : decode cX7_yard 39 = .ok (.aload_n 0, 1) := by decide +kernel
theorem dX7_yard_40 : decode cX7_yard 40 = .ok (.aload_n 0, 1) := by decide +kernel
theorem dX7_yard_41 : decode cX7_yard 41 = .ok (.getfield 89, 3) := by decide +kernel
theorem dX7_yard_44 : decode cX7_yard 44 = .ok (.iconst 1, 1) := by decide +kernel
theorem dX7_yard_45 : decode cX7_yard 45 = .ok (.if_icmp .ne 14, 3) := by decide +kernel
theorem dX7_yard_48 : decode cX7_yard 48 = .ok (.aload_n 0, 1) := by decide +kernel
theorem dX7_yard_49 : decode cX7_yard 49 = .ok (.invokevirtual 123, 3) := by decide +kernel
theorem dX7_yard_52 : decode cX7_yard 52 = .ok (.ifCond .eq 7, 3) := by decide +kernel
theorem dX7_yard_55 : decode cX7_yard 55 = .ok (.iconst 1, 1) := by decide +kernel
theorem dX7_yard_56 : decode cX7_yard 56 = .ok (.goto 4, 3) := by decide +kernel
theorem dX7_yard_59 : decode cX7_yard 59 = .ok (.iconst 0, 1) := by decide +kernel
theorem dX7_yard_60 : decode cX7_yard 60 = .ok (.invokevirtual 109, 3) := by decide +kernel
theorem dX7_yard_63 : decode cX7_yard 63 = .ok (.istore_n 2, 1) := by decide +kernel
theorem dX7_yard_64 : decode cX7_yard 64 = .ok (.aload_n 0, 1) := by decide +kernel
theorem dX7_yard_65 : decode cX7_yard 65 = .ok (.invokevirtual 102, 3) := by decide +kernel
theorem dX7_yard_68 : decode cX7_yard 68 = .ok (.ifCond .eq 8, 3) := by decide +kernel
theorem dX7_yard_71 : decode cX7_yard 71 = .ok (.aload_n 0, 1) := by decide +kernel
theorem dX7_yard_72 : decode cX7_yard 72 = .ok (.iload_n 2, 1) := by decide +kernel
theorem dX7_yard_73 : decode cX7_yard 73 = .ok (.invokevirtual 126, 3) := by decide +kernel
theorem dX7_yard_76 : decode cX7_yard 76 = .ok (.aload_n 0, 1) := by decide +kernel
theorem dX7_yard_77 : decode cX7_yard 77 = .ok (.aload_n 0, 1) := by decide +kernel
theorem dX7_yard_78 : decode cX7_yard 78 = .ok (.getfield 89, 3) := by decide +kernel
theorem dX7_yard_81 : decode cX7_yard 81 = .ok (.iconst 3, 1) := by decide +kernel
theorem dX7_yard_82 : decode cX7_yard 82 = .ok (.if_icmp .ne 7, 3) := by decide +kernel
theorem dX7_yard_85 : decode cX7_yard 85 = .ok (.iconst 1, 1) := by decide +kernel
theorem dX7_yard_86 : decode cX7_yard 86 = .ok (.goto 4, 3) := by decide +kernel
theorem dX7_yard_89 : decode cX7_yard 89 = .ok (.iconst 0, 1) := by decide +kernel
theorem dX7_yard_90 : decode cX7_yard 90 = .ok (.invokevirtual 109, 3) := by decide +kernel
theorem dX7_yard_93 : decode cX7_yard 93 = .ok (.pop, 1) := by decide +kernel
theorem dX7_yard_94 : decode cX7_yard 94 = .ok (.iinc 1 1, 3) := by decide +kernel
theorem dX7_yard_97 : decode cX7_yard 97 = .ok (.goto (-72), 3) := by decide +kernel
theorem dX7_yard_100 : decode cX7_yard 100 = .ok (.aload_n 0, 1) := by decide +kernel
theorem dX7_yard_101 : decode cX7_yard 101 = .ok (.invokevirtual 102, 3) := by decide +kernel
theorem dX7_yard_104 : decode cX7_yard 104 = .ok (.ifCond .ne 11, 3) := by decide +kernel
theorem dX7_yard_107 : decode cX7_yard 107 = .ok (.bipush (-10), 2) := by decide +kernel
theorem dX7_yard_109 : decode cX7_yard 109 = .ok (.aload_n 0, 1) := by decide +kernel
theorem dX7_yard_110 : decode cX7_yard 110 = .ok (.getfield 99, 3) := by decide +kernel
theorem dX7_yard_113 : decode cX7_yard 113 = .ok (.isub, 1) := by decide +kernel
theorem dX7_yard_114 : decode cX7_yard 114 = .ok (.ireturn, 1) := by decide +kernel
theorem dX7_yard_115 : decode cX7_yard 115 = .ok (.aload_n 0, 1) := by decide +kernel
theorem dX7_yard_116 : decode cX7_yard 116 = .ok (.invokevirtual 65, 3) := by decide +kernel
theorem dX7_yard_119 : decode cX7_yard 119 = .ok (.iload_n 1, 1) := by decide +kernel
theorem dX7_yard_120 : decode cX7_yard 120 = .ok (.ireturn, 1) := by decide +kernel
theorem dX7_settles_0 : decode cX7_settles 0 = .ok (.iconst 0, 1) := by decide +kernel
theorem dX7_settles_1 : decode cX7_settles 1 = .ok (.istore_n 1, 1) := by decide +kernel
theorem dX7_settles_2 : decode cX7_settles 2 = .ok (.iload_n 1, 1) := by decide +kernel
theorem dX7_settles_3 : decode cX7_settles 3 = .ok (.bipush 6, 2) := by decide +kernel
theorem dX7_settles_5 : decode cX7_settles 5 = .ok (.if_icmp .ge 24, 3) := by decide +kernel
theorem dX7_settles_8 : decode cX7_settles 8 = .ok (.aload_n 0, 1) := by decide +kernel
theorem dX7_settles_9 : decode cX7_settles 9 = .ok (.getfield 13, 3) := by decide +kernel
theorem dX7_settles_12 : decode cX7_settles 12 = .ok (.iload_n 1, 1) := by decide +kernel
theorem dX7_settles_13 : decode cX7_settles 13 = .ok (.aload_n 0, 1) := by decide +kernel
theorem dX7_settles_14 : decode cX7_settles 14 = .ok (.getfield 13, 3) := by decide +kernel
theorem dX7_settles_17 : decode cX7_settles 17 = .ok (.bipush 6, 2) := by decide +kernel
theorem dX7_settles_19 : decode cX7_settles 19 = .ok (.iload_n 1, 1) := by decide +kernel
theorem dX7_settles_20 : decode cX7_settles 20 = .ok (.iadd, 1) := by decide +kernel
theorem dX7_settles_21 : decode cX7_settles 21 = .ok (.iaload, 1) := by decide +kernel
theorem dX7_settles_22 : decode cX7_settles 22 = .ok (.iastore, 1) := by decide +kernel
theorem dX7_settles_23 : decode cX7_settles 23 = .ok (.iinc 1 1, 3) := by decide +kernel
theorem dX7_settles_26 : decode cX7_settles 26 = .ok (.goto (-24), 3) := by decide +kernel
theorem dX7_settles_29 : decode cX7_settles 29 = .ok (.iconst 0, 1) := by decide +kernel
theorem dX7_settles_30 : decode cX7_settles 30 = .ok (.istore_n 1, 1) := by decide +kernel
theorem dX7_settles_31 : decode cX7_settles 31 = .ok (.iload_n 1, 1) := by decide +kernel
theorem dX7_settles_32 : decode cX7_settles 32 = .ok (.bipush 21, 2) := by decide +kernel
theorem dX7_settles_34 : decode cX7_settles 34 = .ok (.if_icmp .ge 16, 3) := by decide +kernel
theorem dX7_settles_37 : decode cX7_settles 37 = .ok (.aload_n 0, 1) := by decide +kernel
theorem dX7_settles_38 : decode cX7_settles 38 = .ok (.getfield 31, 3) := by decide +kernel
theorem dX7_settles_41 : decode cX7_settles 41 = .ok (.iload_n 1, 1) := by decide +kernel
theorem dX7_settles_42 : decode cX7_settles 42 = .ok (.iconst 0, 1) := by decide +kernel
theorem dX7_settles_43 : decode cX7_settles 43 = .ok (.iastore, 1) := by decide +kernel
theorem dX7_settles_44 : decode cX7_settles 44 = .ok (.iinc 1 1, 3) := by decide +kernel
theorem dX7_settles_47 : decode cX7_settles 47 = .ok (.goto (-16), 3) := by decide +kernel
theorem dX7_settles_50 : decode cX7_settles 50 = .ok (.iconst 0, 1) := by decide +kernel
theorem dX7_settles_51 : decode cX7_settles 51 = .ok (.istore_n 1, 1) := by decide +kernel
theorem dX7_settles_52 : decode cX7_settles 52 = .ok (.iload_n 1, 1) := by decide +kernel
theorem dX7_settles_53 : decode cX7_settles 53 = .ok (.bipush 6, 2) := by decide +kernel
theorem dX7_settles_55 : decode cX7_settles 55 = .ok (.if_icmp .ge 98, 3) := by decide +kernel
theorem dX7_settles_58 : decode cX7_settles 58 = .ok (.aload_n 0, 1) := by decide +kernel
theorem dX7_settles_59 : decode cX7_settles 59 = .ok (.getfield 16, 3) := by decide +kernel
theorem dX7_settles_62 : decode cX7_settles 62 = .ok (.iload_n 1, 1) := by decide +kernel
theorem dX7_settles_63 : decode cX7_settles 63 = .ok (.aload_n 0, 1) := by decide +kernel
theorem dX7_settles_64 : decode cX7_settles 64 = .ok (.getfield 16, 3) := by decide +kernel
theorem dX7_settles_67 : decode cX7_settles 67 = .ok (.bipush 6, 2) := by decide +kernel
theorem dX7_settles_69 : decode cX7_settles 69 = .ok (.iload_n 1, 1) := by decide +kernel
theorem dX7_settles_70 : decode cX7_settles 70 = .ok (.iadd, 1) := by decide +kernel
theorem dX7_settles_71 : decode cX7_settles 71 = .ok (.iaload, 1) := by decide +kernel
theorem dX7_settles_72 : decode cX7_settles 72 = .ok (.iastore, 1) := by decide +kernel
theorem dX7_settles_73 : decode cX7_settles 73 = .ok (.aload_n 0, 1) := by decide +kernel
theorem dX7_settles_74 : decode cX7_settles 74 = .ok (.getfield 22, 3) := by decide +kernel
theorem dX7_settles_77 : decode cX7_settles 77 = .ok (.iload_n 1, 1) := by decide +kernel
theorem dX7_settles_78 : decode cX7_settles 78 = .ok (.aload_n 0, 1) := by decide +kernel
theorem dX7_settles_79 : decode cX7_settles 79 = .ok (.getfield 22, 3) := by decide +kernel
theorem dX7_settles_82 : decode cX7_settles 82 = .ok (.bipush 6, 2) := by decide +kernel
theorem dX7_settles_84 : decode cX7_settles 84 = .ok (.iload_n 1, 1) := by decide +kernel
theorem dX7_settles_85 : decode cX7_settles 85 = .ok (.iadd, 1) := by decide +kernel
theorem dX7_settles_86 : decode cX7_settles 86 = .ok (.iaload, 1) := by decide +kernel
theorem dX7_settles_87 : decode cX7_settles 87 = .ok (.iastore, 1) := by decide +kernel
theorem dX7_settles_88 : decode cX7_settles 88 = .ok (.aload_n 0, 1) := by decide +kernel
theorem dX7_settles_89 : decode cX7_settles 89 = .ok (.getfield 25, 3) := by decide +kernel
theorem dX7_settles_92 : decode cX7_settles 92 = .ok (.iload_n 1, 1) := by decide +kernel
theorem dX7_settles_93 : decode cX7_settles 93 = .ok (.aload_n 0, 1) := by decide +kernel
theorem dX7_settles_94 : decode cX7_settles 94 = .ok (.getfield 25, 3) := by decide +kernel
theorem dX7_settles_97 : decode cX7_settles 97 = .ok (.bipush 6, 2) := by decide +kernel
theorem dX7_settles_99 : decode cX7_settles 99 = .ok (.iload_n 1, 1) := by decide +kernel
theorem dX7_settles_100 : decode cX7_settles 100 = .ok (.iadd, 1) := by decide +kernel
theorem dX7_settles_101 : decode cX7_settles 101 = .ok (.iaload, 1) := by decide +kernel
theorem dX7_settles_102 : decode cX7_settles 102 = .ok (.iastore, 1) := by decide +kernel
theorem dX7_settles_103 : decode cX7_settles 103 = .ok (.aload_n 0, 1) := by decide +kernel
theorem dX7_settles_104 : decode cX7_settles 104 = .ok (.getfield 28, 3) := by decide +kernel
theorem dX7_settles_107 : decode cX7_settles 107 = .ok (.iload_n 1, 1) := by decide +kernel
theorem dX7_settles_108 : decode cX7_settles 108 = .ok (.aload_n 0, 1) := by decide +kernel
theorem dX7_settles_109 : decode cX7_settles 109 = .ok (.getfield 28, 3) := by decide +kernel
theorem dX7_settles_112 : decode cX7_settles 112 = .ok (.bipush 6, 2) := by decide +kernel
theorem dX7_settles_114 : decode cX7_settles 114 = .ok (.iload_n 1, 1) := by decide +kernel
theorem dX7_settles_115 : decode cX7_settles 115 = .ok (.iadd, 1) := by decide +kernel
theorem dX7_settles_116 : decode cX7_settles 116 = .ok (.iaload, 1) := by decide +kernel
theorem dX7_settles_117 : decode cX7_settles 117 = .ok (.iastore, 1) := by decide +kernel
theorem dX7_settles_118 : decode cX7_settles 118 = .ok (.aload_n 0, 1) := by decide +kernel
theorem dX7_settles_119 : decode cX7_settles 119 = .ok (.getfield 31, 3) := by decide +kernel
theorem dX7_settles_122 : decode cX7_settles 122 = .ok (.bipush 15, 2) := by decide +kernel
theorem dX7_settles_124 : decode cX7_settles 124 = .ok (.iload_n 1, 1) := by decide +kernel
theorem dX7_settles_125 : decode cX7_settles 125 = .ok (.iadd, 1) := by decide +kernel
theorem dX7_settles_126 : decode cX7_settles 126 = .ok (.iload_n 1, 1) := by decide +kernel
theorem dX7_settles_127 : decode cX7_settles 127 = .ok (.aload_n 0, 1) := by decide +kernel
theorem dX7_settles_128 : decode cX7_settles 128 = .ok (.getfield 13, 3) := by decide +kernel
theorem dX7_settles_131 : decode cX7_settles 131 = .ok (.iconst 0, 1) := by decide +kernel
theorem dX7_settles_132 : decode cX7_settles 132 = .ok (.iaload, 1) := by decide +kernel
theorem dX7_settles_133 : decode cX7_settles 133 = .ok (.if_icmp .ge 12, 3) := by decide +kernel
theorem dX7_settles_136 : decode cX7_settles 136 = .ok (.aload_n 0, 1) := by decide +kernel
theorem dX7_settles_137 : decode cX7_settles 137 = .ok (.getfield 19, 3) := by decide +kernel
theorem dX7_settles_140 : decode cX7_settles 140 = .ok (.iload_n 1, 1) := by decide +kernel
theorem dX7_settles_141 : decode cX7_settles 141 = .ok (.iaload, 1) := by decide +kernel
theorem dX7_settles_142 : decode cX7_settles 142 = .ok (.goto 4, 3) := by decide +kernel
theorem dX7_settles_145 : decode cX7_settles 145 = .ok (.iconst 0, 1) := by decide +kernel
theorem dX7_settles_146 : decode cX7_settles 146 = .ok (.iastore, 1) := by decide +kernel
theorem dX7_settles_147 : decode cX7_settles 147 = .ok (.iinc 1 1, 3) := by decide +kernel
theorem dX7_settles_150 : decode cX7_settles 150 = .ok (.goto (-98), 3) := by decide +kernel
theorem dX7_settles_153 : decode cX7_settles 153 = .ok (.iconst 0, 1) := by decide +kernel
theorem dX7_settles_154 : decode cX7_settles 154 = .ok (.istore_n 1, 1) := by decide +kernel
theorem dX7_settles_155 : decode cX7_settles 155 = .ok (.iload_n 1, 1) := by decide +kernel
theorem dX7_settles_156 : decode cX7_settles 156 = .ok (.bipush 8, 2) := by decide +kernel
theorem dX7_settles_158 : decode cX7_settles 158 = .ok (.if_icmp .ge 24, 3) := by decide +kernel
theorem dX7_settles_161 : decode cX7_settles 161 = .ok (.aload_n 0, 1) := by decide +kernel
theorem dX7_settles_162 : decode cX7_settles 162 = .ok (.getfield 31, 3) := by decide +kernel
theorem dX7_settles_165 : decode cX7_settles 165 = .ok (.bipush 7, 2) := by decide +kernel
theorem dX7_settles_167 : decode cX7_settles 167 = .ok (.iload_n 1, 1) := by decide +kernel
theorem dX7_settles_168 : decode cX7_settles 168 = .ok (.iadd, 1) := by decide +kernel
theorem dX7_settles_169 : decode cX7_settles 169 = .ok (.aload_n 0, 1) := by decide +kernel
theorem dX7_settles_170 : decode cX7_settles 170 = .ok (.getfield 13, 3) := by decide +kernel
theorem dX7_settles_173 : decode cX7_settles 173 = .ok (.iconst 5, 1) := by decide +kernel
theorem dX7_settles_174 : decode cX7_settles 174 = .ok (.iaload, 1) := by decide +kernel
theorem dX7_settles_175 : decode cX7_settles 175 = .ok (.iastore, 1) := by decide +kernel
theorem dX7_settles_176 : decode cX7_settles 176 = .ok (.iinc 1 1, 3) := by decide +kernel
theorem dX7_settles_179 : decode cX7_settles 179 = .ok (.goto (-24), 3) := by decide +kernel
theorem dX7_settles_182 : decode cX7_settles 182 = .ok (.aload_n 0, 1) := by decide +kernel
theorem dX7_settles_183 : decode cX7_settles 183 = .ok (.iconst 0, 1) := by decide +kernel
theorem dX7_settles_184 : decode cX7_settles 184 = .ok (.putfield 76, 3) := by decide +kernel
theorem dX7_settles_187 : decode cX7_settles 187 = .ok (.aload_n 0, 1) := by decide +kernel
theorem dX7_settles_188 : decode cX7_settles 188 = .ok (.iconst 0, 1) := by decide +kernel
theorem dX7_settles_189 : decode cX7_settles 189 = .ok (.putfield 130, 3) := by decide +kernel
theorem dX7_settles_192 : decode cX7_settles 192 = .ok (.aload_n 0, 1) := by decide +kernel
theorem dX7_settles_193 : decode cX7_settles 193 = .ok (.iconst 0, 1) := by decide +kernel
theorem dX7_settles_194 : decode cX7_settles 194 = .ok (.putfield 133, 3) := by decide +kernel
theorem dX7_settles_197 : decode cX7_settles 197 = .ok (.aload_n 0, 1) := by decide +kernel
theorem dX7_settles_198 : decode cX7_settles 198 = .ok (.getfield 40, 3) := by decide +kernel
theorem dX7_settles_201 : decode cX7_settles 201 = .ok (.iconst 0, 1) := by decide +kernel
theorem dX7_settles_202 : decode cX7_settles 202 = .ok (.iconst 0, 1) := by decide +kernel
theorem dX7_settles_203 : decode cX7_settles 203 = .ok (.bastore, 1) := by decide +kernel
theorem dX7_settles_204 : decode cX7_settles 204 = .ok (.aload_n 0, 1) := by decide +kernel
theorem dX7_settles_205 : decode cX7_settles 205 = .ok (.getfield 40, 3) := by decide +kernel
theorem dX7_settles_208 : decode cX7_settles 208 = .ok (.iconst 1, 1) := by decide +kernel
theorem dX7_settles_209 : decode cX7_settles 209 = .ok (.iconst 0, 1) := by decide +kernel
theorem dX7_settles_210 : decode cX7_settles 210 = .ok (.bastore, 1) := by decide +kernel
theorem dX7_settles_211 : decode cX7_settles 211 = .ok (.return_, 1) := by decide +kernel
theorem dX7_isPart_0 : decode cX7_isPart 0 = .ok (.iload_n 1, 1) := by decide +kernel
theorem dX7_isPart_1 : decode cX7_isPart 1 = .ok (.iconst 0, 1) := by decide +kernel
theorem dX7_isPart_2 : decode cX7_isPart 2 = .ok (.aload_n 0, 1) := by decide +kernel
theorem dX7_isPart_3 : decode cX7_isPart 3 = .ok (.getfield 13, 3) := by decide +kernel
theorem dX7_isPart_6 : decode cX7_isPart 6 = .ok (.iconst 0, 1) := by decide +kernel
theorem dX7_isPart_7 : decode cX7_isPart 7 = .ok (.iaload, 1) := by decide +kernel
theorem dX7_isPart_8 : decode cX7_isPart 8 = .ok (.iconst 1, 1) := by decide +kernel
theorem dX7_isPart_9 : decode cX7_isPart 9 = .ok (.isub, 1) := by decide +kernel
theorem dX7_isPart_10 : decode cX7_isPart 10 = .ok (.invokestatic 72, 3) := by decide +kernel
theorem dX7_isPart_13 : decode cX7_isPart 13 = .ok (.ireturn, 1) := by decide +kernel
theorem dX7_isOrder_0 : decode cX7_isOrder 0 = .ok (.iload_n 1, 1) := by decide +kernel
theorem dX7_isOrder_1 : decode cX7_isOrder 1 = .ok (.iconst 0, 1) := by decide +kernel
theorem dX7_isOrder_2 : decode cX7_isOrder 2 = .ok (.aload_n 0, 1) := by decide +kernel
theorem dX7_isOrder_3 : decode cX7_isOrder 3 = .ok (.getfield 13, 3) := by decide +kernel
theorem dX7_isOrder_6 : decode cX7_isOrder 6 = .ok (.iconst 1, 1) := by decide +kernel
theorem dX7_isOrder_7 : decode cX7_isOrder 7 = .ok (.iaload, 1) := by decide +kernel
theorem dX7_isOrder_8 : decode cX7_isOrder 8 = .ok (.iconst 1, 1) := by decide +kernel
theorem dX7_isOrder_9 : decode cX7_isOrder 9 = .ok (.isub, 1) := by decide +kernel
theorem dX7_isOrder_10 : decode cX7_isOrder 10 = .ok (.invokestatic 72, 3) := by decide +kernel
theorem dX7_isOrder_13 : decode cX7_isOrder 13 = .ok (.ireturn, 1) := by decide +kernel
theorem dX7_givesAt_0 : decode cX7_givesAt 0 = .ok (.iload_n 2, 1) := by decide +kernel
theorem dX7_givesAt_1 : decode cX7_givesAt 1 = .ok (.aload_n 0, 1) := by decide +kernel
theorem dX7_givesAt_2 : decode cX7_givesAt 2 = .ok (.getfield 13, 3) := by decide +kernel
theorem dX7_givesAt_5 : decode cX7_givesAt 5 = .ok (.iconst 2, 1) := by decide +kernel
theorem dX7_givesAt_6 : decode cX7_givesAt 6 = .ok (.iaload, 1) := by decide +kernel
theorem dX7_givesAt_7 : decode cX7_givesAt 7 = .ok (.if_icmp .gt 9, 3) := by decide +kernel
theorem dX7_givesAt_10 : decode cX7_givesAt 10 = .ok (.iload_n 2, 1) := by decide +kernel
theorem dX7_givesAt_11 : decode cX7_givesAt 11 = .ok (.iconst 2, 1) := by decide +kernel
theorem dX7_givesAt_12 : decode cX7_givesAt 12 = .ok (.isub, 1) := by decide +kernel
theorem dX7_givesAt_13 : decode cX7_givesAt 13 = .ok (.goto 15, 3) := by decide +kernel
theorem dX7_givesAt_16 : decode cX7_givesAt 16 = .ok (.iconst 2, 1) := by decide +kernel
theorem dX7_givesAt_17 : decode cX7_givesAt 17 = .ok (.aload_n 0, 1) := by decide +kernel
theorem dX7_givesAt_18 : decode cX7_givesAt 18 = .ok (.getfield 13, 3) := by decide +kernel
theorem dX7_givesAt_21 : decode cX7_givesAt 21 = .ok (.iconst 2, 1) := by decide +kernel
theorem dX7_givesAt_22 : decode cX7_givesAt 22 = .ok (.iaload, 1) := by decide +kernel
theorem dX7_givesAt_23 : decode cX7_givesAt 23 = .ok (.imul, 1) := by decide +kernel
theorem dX7_givesAt_24 : decode cX7_givesAt 24 = .ok (.iconst 2, 1) := by decide +kernel
theorem dX7_givesAt_25 : decode cX7_givesAt 25 = .ok (.isub, 1) := by decide +kernel
theorem dX7_givesAt_26 : decode cX7_givesAt 26 = .ok (.iload_n 2, 1) := by decide +kernel
theorem dX7_givesAt_27 : decode cX7_givesAt 27 = .ok (.isub, 1) := by decide +kernel
theorem dX7_givesAt_28 : decode cX7_givesAt 28 = .ok (.istore_n 3, 1) := by decide +kernel
theorem dX7_givesAt_29 : decode cX7_givesAt 29 = .ok (.iload_n 3, 1) := by decide +kernel
theorem dX7_givesAt_30 : decode cX7_givesAt 30 = .ok (.ifCond .ge 7, 3) := by decide +kernel
theorem dX7_givesAt_33 : decode cX7_givesAt 33 = .ok (.iconst 0, 1) := by decide +kernel
theorem dX7_givesAt_34 : decode cX7_givesAt 34 = .ok (.goto 6, 3) := by decide +kernel
theorem dX7_givesAt_37 : decode cX7_givesAt 37 = .ok (.iload_n 1, 1) := by decide +kernel
theorem dX7_givesAt_38 : decode cX7_givesAt 38 = .ok (.iload_n 3, 1) := by decide +kernel
theorem dX7_givesAt_39 : decode cX7_givesAt 39 = .ok (.imul, 1) := by decide +kernel
theorem dX7_givesAt_40 : decode cX7_givesAt 40 = .ok (.ireturn, 1) := by decide +kernel
theorem dX7_gives_0 : decode cX7_gives 0 = .ok (.aload_n 0, 1) := by decide +kernel
theorem dX7_gives_1 : decode cX7_gives 1 = .ok (.aload_n 0, 1) := by decide +kernel
theorem dX7_gives_2 : decode cX7_gives 2 = .ok (.getfield 16, 3) := by decide +kernel
theorem dX7_gives_5 : decode cX7_gives 5 = .ok (.iload_n 2, 1) := by decide +kernel
theorem dX7_gives_6 : decode cX7_gives 6 = .ok (.iaload, 1) := by decide +kernel
theorem dX7_gives_7 : decode cX7_gives 7 = .ok (.aload_n 1, 1) := by decide +kernel
theorem dX7_gives_8 : decode cX7_gives 8 = .ok (.bipush 15, 2) := by decide +kernel
theorem dX7_gives_10 : decode cX7_gives 10 = .ok (.iload_n 2, 1) := by decide +kernel
theorem dX7_gives_11 : decode cX7_gives 11 = .ok (.iadd, 1) := by decide +kernel
theorem dX7_gives_12 : decode cX7_gives 12 = .ok (.iaload, 1) := by decide +kernel
theorem dX7_gives_13 : decode cX7_gives 13 = .ok (.invokevirtual 136, 3) := by decide +kernel
theorem dX7_gives_16 : decode cX7_gives 16 = .ok (.ireturn, 1) := by decide +kernel
theorem dX7_isSent_0 : decode cX7_isSent 0 = .ok (.aload_n 0, 1) := by decide +kernel
theorem dX7_isSent_1 : decode cX7_isSent 1 = .ok (.getfield 31, 3) := by decide +kernel
theorem dX7_isSent_4 : decode cX7_isSent 4 = .ok (.iconst 5, 1) := by decide +kernel
theorem dX7_isSent_5 : decode cX7_isSent 5 = .ok (.iaload, 1) := by decide +kernel
theorem dX7_isSent_6 : decode cX7_isSent 6 = .ok (.iload_n 1, 1) := by decide +kernel
theorem dX7_isSent_7 : decode cX7_isSent 7 = .ok (.ishr, 1) := by decide +kernel
theorem dX7_isSent_8 : decode cX7_isSent 8 = .ok (.iconst 1, 1) := by decide +kernel
theorem dX7_isSent_9 : decode cX7_isSent 9 = .ok (.iand, 1) := by decide +kernel
theorem dX7_isSent_10 : decode cX7_isSent 10 = .ok (.iconst 1, 1) := by decide +kernel
theorem dX7_isSent_11 : decode cX7_isSent 11 = .ok (.if_icmp .ne 7, 3) := by decide +kernel
theorem dX7_isSent_14 : decode cX7_isSent 14 = .ok (.iconst 1, 1) := by decide +kernel
theorem dX7_isSent_15 : decode cX7_isSent 15 = .ok (.goto 4, 3) := by decide +kernel
theorem dX7_isSent_18 : decode cX7_isSent 18 = .ok (.iconst 0, 1) := by decide +kernel
theorem dX7_isSent_19 : decode cX7_isSent 19 = .ok (.ireturn, 1) := by decide +kernel
theorem dX7_part_0 : decode cX7_part 0 = .ok (.aload_n 0, 1) := by decide +kernel
theorem dX7_part_1 : decode cX7_part 1 = .ok (.iconst 0, 1) := by decide +kernel
theorem dX7_part_2 : decode cX7_part 2 = .ok (.putfield 68, 3) := by decide +kernel
theorem dX7_part_5 : decode cX7_part 5 = .ok (.aload_n 0, 1) := by decide +kernel
theorem dX7_part_6 : decode cX7_part 6 = .ok (.iload_n 1, 1) := by decide +kernel
theorem dX7_part_7 : decode cX7_part 7 = .ok (.invokevirtual 139, 3) := by decide +kernel
theorem dX7_part_10 : decode cX7_part 10 = .ok (.ifCond .eq 12, 3) := by decide +kernel
theorem dX7_part_13 : decode cX7_part 13 = .ok (.iload_n 2, 1) := by decide +kernel
theorem dX7_part_14 : decode cX7_part 14 = .ok (.iconst 0, 1) := by decide +kernel
theorem dX7_part_15 : decode cX7_part 15 = .ok (.iconst 2, 1) := by decide +kernel
theorem dX7_part_16 : decode cX7_part 16 = .ok (.invokestatic 72, 3) := by decide +kernel
theorem dX7_part_19 : decode cX7_part 19 = .ok (.ifCond .ne 5, 3) := by decide +kernel
theorem dX7_part_22 : decode cX7_part 22 = .ok (.iconst (-1), 1) := by decide +kernel
theorem dX7_part_23 : decode cX7_part 23 = .ok (.ireturn, 1) := by decide +kernel
theorem dX7_part_24 : decode cX7_part 24 = .ok (.iload_n 2, 1) := by decide +kernel
theorem dX7_part_25 : decode cX7_part 25 = .ok (.ifCond .ne 12, 3) := by decide +kernel
theorem dX7_part_28 : decode cX7_part 28 = .ok (.aload_n 0, 1) := by decide +kernel
theorem dX7_part_29 : decode cX7_part 29 = .ok (.getfield 16, 3) := by decide +kernel
theorem dX7_part_32 : decode cX7_part 32 = .ok (.iload_n 1, 1) := by decide +kernel
theorem dX7_part_33 : decode cX7_part 33 = .ok (.iaload, 1) := by decide +kernel
theorem dX7_part_34 : decode cX7_part 34 = .ok (.goto 29, 3) := by decide +kernel
theorem dX7_part_37 : decode cX7_part 37 = .ok (.iload_n 2, 1) := by decide +kernel
theorem dX7_part_38 : decode cX7_part 38 = .ok (.iconst 1, 1) := by decide +kernel
theorem dX7_part_39 : decode cX7_part 39 = .ok (.if_icmp .ne 15, 3) := by decide +kernel
theorem dX7_part_42 : decode cX7_part 42 = .ok (.aload_n 0, 1) := by decide +kernel
theorem dX7_part_43 : decode cX7_part 43 = .ok (.getfield 31, 3) := by decide +kernel
theorem dX7_part_46 : decode cX7_part 46 = .ok (.bipush 15, 2) := by decide +kernel
theorem dX7_part_48 : decode cX7_part 48 = .ok (.iload_n 1, 1) := by decide +kernel
theorem dX7_part_49 : decode cX7_part 49 = .ok (.iadd, 1) := by decide +kernel
theorem dX7_part_50 : decode cX7_part 50 = .ok (.iaload, 1) := by decide +kernel
theorem dX7_part_51 : decode cX7_part 51 = .ok (.goto 12, 3) := by decide +kernel
theorem dX7_part_54 : decode cX7_part 54 = .ok (.aload_n 0, 1) := by decide +kernel
theorem dX7_part_55 : decode cX7_part 55 = .ok (.aload_n 0, 1) := by decide +kernel
theorem dX7_part_56 : decode cX7_part 56 = .ok (.getfield 31, 3) := by decide +kernel
theorem dX7_part_59 : decode cX7_part 59 = .ok (.iload_n 1, 1) := by decide +kernel
theorem dX7_part_60 : decode cX7_part 60 = .ok (.invokevirtual 142, 3) := by decide +kernel
theorem dX7_part_63 : decode cX7_part 63 = .ok (.ireturn, 1) := by decide +kernel
theorem dX7_order_0 : decode cX7_order 0 = .ok (.aload_n 0, 1) := by decide +kernel
theorem dX7_order_1 : decode cX7_order 1 = .ok (.iconst 0, 1) := by decide +kernel
theorem dX7_order_2 : decode cX7_order 2 = .ok (.putfield 68, 3) := by decide +kernel
theorem dX7_order_5 : decode cX7_order 5 = .ok (.aload_n 0, 1) := by decide +kernel
theorem dX7_order_6 : decode cX7_order 6 = .ok (.iload_n 1, 1) := by decide +kernel
theorem dX7_order_7 : decode cX7_order 7 = .ok (.invokevirtual 146, 3) := by decide +kernel
theorem dX7_order_10 : decode cX7_order 10 = .ok (.ifCond .eq 12, 3) := by decide +kernel
theorem dX7_order_13 : decode cX7_order 13 = .ok (.iload_n 2, 1) := by decide +kernel
theorem dX7_order_14 : decode cX7_order 14 = .ok (.iconst 0, 1) := by decide +kernel
theorem dX7_order_15 : decode cX7_order 15 = .ok (.iconst 3, 1) := by decide +kernel
theorem dX7_order_16 : decode cX7_order 16 = .ok (.invokestatic 72, 3) := by decide +kernel
theorem dX7_order_19 : decode cX7_order 19 = .ok (.ifCond .ne 5, 3) := by decide +kernel
theorem dX7_order_22 : decode cX7_order 22 = .ok (.iconst (-1), 1) := by decide +kernel
theorem dX7_order_23 : decode cX7_order 23 = .ok (.ireturn, 1) := by decide +kernel
theorem dX7_order_24 : decode cX7_order 24 = .ok (.iload_n 2, 1) := by decide +kernel
theorem dX7_order_25 : decode cX7_order 25 = .ok (.ifCond .ne 12, 3) := by decide +kernel
theorem dX7_order_28 : decode cX7_order 28 = .ok (.aload_n 0, 1) := by decide +kernel
theorem dX7_order_29 : decode cX7_order 29 = .ok (.getfield 22, 3) := by decide +kernel
theorem dX7_order_32 : decode cX7_order 32 = .ok (.iload_n 1, 1) := by decide +kernel
theorem dX7_order_33 : decode cX7_order 33 = .ok (.iaload, 1) := by decide +kernel
theorem dX7_order_34 : decode cX7_order 34 = .ok (.goto 44, 3) := by decide +kernel
theorem dX7_order_37 : decode cX7_order 37 = .ok (.iload_n 2, 1) := by decide +kernel
theorem dX7_order_38 : decode cX7_order 38 = .ok (.iconst 1, 1) := by decide +kernel
theorem dX7_order_39 : decode cX7_order 39 = .ok (.if_icmp .ne 12, 3) := by decide +kernel
theorem dX7_order_42 : decode cX7_order 42 = .ok (.aload_n 0, 1) := by decide +kernel
theorem dX7_order_43 : decode cX7_order 43 = .ok (.getfield 25, 3) := by decide +kernel
theorem dX7_order_46 : decode cX7_order 46 = .ok (.iload_n 1, 1) := by decide +kernel
theorem dX7_order_47 : decode cX7_order 47 = .ok (.iaload, 1) := by decide +kernel
theorem dX7_order_48 : decode cX7_order 48 = .ok (.goto 30, 3) := by decide +kernel
theorem dX7_order_51 : decode cX7_order 51 = .ok (.iload_n 2, 1) := by decide +kernel
theorem dX7_order_52 : decode cX7_order 52 = .ok (.iconst 2, 1) := by decide +kernel
theorem dX7_order_53 : decode cX7_order 53 = .ok (.if_icmp .ne 12, 3) := by decide +kernel
theorem dX7_order_56 : decode cX7_order 56 = .ok (.aload_n 0, 1) := by decide +kernel
theorem dX7_order_57 : decode cX7_order 57 = .ok (.getfield 28, 3) := by decide +kernel
theorem dX7_order_60 : decode cX7_order 60 = .ok (.iload_n 1, 1) := by decide +kernel
theorem dX7_order_61 : decode cX7_order 61 = .ok (.iaload, 1) := by decide +kernel
theorem dX7_order_62 : decode cX7_order 62 = .ok (.goto 16, 3) := by decide +kernel
theorem dX7_order_65 : decode cX7_order 65 = .ok (.aload_n 0, 1) := by decide +kernel
theorem dX7_order_66 : decode cX7_order 66 = .ok (.iload_n 1, 1) := by decide +kernel
theorem dX7_order_67 : decode cX7_order 67 = .ok (.invokevirtual 149, 3) := by decide +kernel
theorem dX7_order_70 : decode cX7_order 70 = .ok (.ifCond .eq 7, 3) := by decide +kernel
theorem dX7_order_73 : decode cX7_order 73 = .ok (.iconst 1, 1) := by decide +kernel
theorem dX7_order_74 : decode cX7_order 74 = .ok (.goto 4, 3) := by decide +kernel
theorem dX7_order_77 : decode cX7_order 77 = .ok (.iconst 0, 1) := by decide +kernel
theorem dX7_order_78 : decode cX7_order 78 = .ok (.ireturn, 1) := by decide +kernel
theorem dX7_side_0 : decode cX7_side 0 = .ok (.aload_n 0, 1) := by decide +kernel
theorem dX7_side_1 : decode cX7_side 1 = .ok (.iconst 0, 1) := by decide +kernel
theorem dX7_side_2 : decode cX7_side 2 = .ok (.putfield 68, 3) := by decide +kernel
theorem dX7_side_5 : decode cX7_side 5 = .ok (.iload_n 1, 1) := by decide +kernel
theorem dX7_side_6 : decode cX7_side 6 = .ok (.iconst 0, 1) := by decide +kernel
theorem dX7_side_7 : decode cX7_side 7 = .ok (.bipush 7, 2) := by decide +kernel
theorem dX7_side_9 : decode cX7_side 9 = .ok (.invokestatic 72, 3) := by decide +kernel
theorem dX7_side_12 : decode cX7_side 12 = .ok (.ifCond .eq 15, 3) := by decide +kernel
theorem dX7_side_15 : decode cX7_side 15 = .ok (.aload_n 0, 1) := by decide +kernel
theorem dX7_side_16 : decode cX7_side 16 = .ok (.getfield 31, 3) := by decide +kernel
theorem dX7_side_19 : decode cX7_side 19 = .ok (.bipush 7, 2) := by decide +kernel
theorem dX7_side_21 : decode cX7_side 21 = .ok (.iload_n 1, 1) := by decide +kernel
theorem dX7_side_22 : decode cX7_side 22 = .ok (.iadd, 1) := by decide +kernel
theorem dX7_side_23 : decode cX7_side 23 = .ok (.iaload, 1) := by decide +kernel
theorem dX7_side_24 : decode cX7_side 24 = .ok (.goto 4, 3) := by decide +kernel
theorem dX7_side_27 : decode cX7_side 27 = .ok (.iconst (-1), 1) := by decide +kernel
theorem dX7_side_28 : decode cX7_side 28 = .ok (.ireturn, 1) := by decide +kernel
theorem dX7_now_0 : decode cX7_now 0 = .ok (.aload_n 0, 1) := by decide +kernel
theorem dX7_now_1 : decode cX7_now 1 = .ok (.iconst 0, 1) := by decide +kernel
theorem dX7_now_2 : decode cX7_now 2 = .ok (.putfield 68, 3) := by decide +kernel
theorem dX7_now_5 : decode cX7_now 5 = .ok (.iload_n 1, 1) := by decide +kernel
theorem dX7_now_6 : decode cX7_now 6 = .ok (.iconst 0, 1) := by decide +kernel
theorem dX7_now_7 : decode cX7_now 7 = .ok (.bipush 6, 2) := by decide +kernel
theorem dX7_now_9 : decode cX7_now 9 = .ok (.invokestatic 72, 3) := by decide +kernel
theorem dX7_now_12 : decode cX7_now 12 = .ok (.ifCond .eq 12, 3) := by decide +kernel
theorem dX7_now_15 : decode cX7_now 15 = .ok (.aload_n 0, 1) := by decide +kernel
theorem dX7_now_16 : decode cX7_now 16 = .ok (.getfield 31, 3) := by decide +kernel
theorem dX7_now_19 : decode cX7_now 19 = .ok (.iload_n 1, 1) := by decide +kernel
theorem dX7_now_20 : decode cX7_now 20 = .ok (.iaload, 1) := by decide +kernel
theorem dX7_now_21 : decode cX7_now 21 = .ok (.goto 17, 3) := by decide +kernel
theorem dX7_now_24 : decode cX7_now 24 = .ok (.iload_n 1, 1) := by decide +kernel
theorem dX7_now_25 : decode cX7_now 25 = .ok (.bipush 7, 2) := by decide +kernel
theorem dX7_now_27 : decode cX7_now 27 = .ok (.if_icmp .ne 10, 3) := by decide +kernel
theorem dX7_now_30 : decode cX7_now 30 = .ok (.aload_n 0, 1) := by decide +kernel
theorem dX7_now_31 : decode cX7_now 31 = .ok (.getfield 133, 3) := by decide +kernel
theorem dX7_now_34 : decode cX7_now 34 = .ok (.goto 4, 3) := by decide +kernel
theorem dX7_now_37 : decode cX7_now 37 = .ok (.iconst (-1), 1) := by decide +kernel
theorem dX7_now_38 : decode cX7_now 38 = .ok (.ireturn, 1) := by decide +kernel
theorem dX7_notes_0 : decode cX7_notes 0 = .ok (.aload_n 0, 1) := by decide +kernel
theorem dX7_notes_1 : decode cX7_notes 1 = .ok (.getfield 133, 3) := by decide +kernel
theorem dX7_notes_4 : decode cX7_notes 4 = .ok (.bipush 10, 2) := by decide +kernel
theorem dX7_notes_6 : decode cX7_notes 6 = .ok (.if_icmp .ne 39, 3) := by decide +kernel
theorem dX7_notes_9 : decode cX7_notes 9 = .ok (.iconst 0, 1) := by decide +kernel
theorem dX7_notes_10 : decode cX7_notes 10 = .ok (.istore_n 1, 1) := by decide +kernel
theorem dX7_notes_11 : decode cX7_notes 11 = .ok (.iload_n 1, 1) := by decide +kernel
theorem dX7_notes_12 : decode cX7_notes 12 = .ok (.sipush 189, 3) := by decide +kernel
theorem dX7_notes_15 : decode cX7_notes 15 = .ok (.if_icmp .ge 24, 3) := by decide +kernel
theorem dX7_notes_18 : decode cX7_notes 18 = .ok (.aload_n 0, 1) := by decide +kernel
theorem dX7_notes_19 : decode cX7_notes 19 = .ok (.getfield 44, 3) := by decide +kernel
theorem dX7_notes_22 : decode cX7_notes 22 = .ok (.iload_n 1, 1) := by decide +kernel
theorem dX7_notes_23 : decode cX7_notes 23 = .ok (.aload_n 0, 1) := by decide +kernel
theorem dX7_notes_24 : decode cX7_notes 24 = .ok (.getfield 44, 3) := by decide +kernel
theorem dX7_notes_27 : decode cX7_notes 27 = .ok (.iload_n 1, 1) := by decide +kernel
theorem dX7_notes_28 : decode cX7_notes 28 = .ok (.bipush 21, 2) := by decide +kernel
theorem dX7_notes_30 : decode cX7_notes 30 = .ok (.iadd, 1) := by decide +kernel
theorem dX7_notes_31 : decode cX7_notes 31 = .ok (.iaload, 1) := by decide +kernel
theorem dX7_notes_32 : decode cX7_notes 32 = .ok (.iastore, 1) := by decide +kernel
theorem dX7_notes_33 : decode cX7_notes 33 = .ok (.iinc 1 1, 3) := by decide +kernel
theorem dX7_notes_36 : decode cX7_notes 36 = .ok (.goto (-25), 3) := by decide +kernel
theorem dX7_notes_39 : decode cX7_notes 39 = .ok (.aload_n 0, 1) := by decide +kernel
theorem dX7_notes_40 : decode cX7_notes 40 = .ok (.bipush 9, 2) := by decide +kernel
theorem dX7_notes_42 : decode cX7_notes 42 = .ok (.putfield 133, 3) := by decide +kernel
theorem dX7_notes_45 : decode cX7_notes 45 = .ok (.iconst 0, 1) := by decide +kernel
theorem dX7_notes_46 : decode cX7_notes 46 = .ok (.istore_n 1, 1) := by decide +kernel
theorem dX7_notes_47 : decode cX7_notes 47 = .ok (.iload_n 1, 1) := by decide +kernel
theorem dX7_notes_48 : decode cX7_notes 48 = .ok (.bipush 21, 2) := by decide +kernel
theorem dX7_notes_50 : decode cX7_notes 50 = .ok (.if_icmp .ge 29, 3) := by decide +kernel
theorem dX7_notes_53 : decode cX7_notes 53 = .ok (.aload_n 0, 1) := by decide +kernel
theorem dX7_notes_54 : decode cX7_notes 54 = .ok (.getfield 44, 3) := by decide +kernel
theorem dX7_notes_57 : decode cX7_notes 57 = .ok (.bipush 21, 2) := by decide +kernel
theorem dX7_notes_59 : decode cX7_notes 59 = .ok (.aload_n 0, 1) := by decide +kernel
theorem dX7_notes_60 : decode cX7_notes 60 = .ok (.getfield 133, 3) := by decide +kernel
theorem dX7_notes_63 : decode cX7_notes 63 = .ok (.imul, 1) := by decide +kernel
theorem dX7_notes_64 : decode cX7_notes 64 = .ok (.iload_n 1, 1) := by decide +kernel
theorem dX7_notes_65 : decode cX7_notes 65 = .ok (.iadd, 1) := by decide +kernel
theorem dX7_notes_66 : decode cX7_notes 66 = .ok (.aload_n 0, 1) := by decide +kernel
theorem dX7_notes_67 : decode cX7_notes 67 = .ok (.getfield 31, 3) := by decide +kernel
theorem dX7_notes_70 : decode cX7_notes 70 = .ok (.iload_n 1, 1) := by decide +kernel
theorem dX7_notes_71 : decode cX7_notes 71 = .ok (.iaload, 1) := by decide +kernel
theorem dX7_notes_72 : decode cX7_notes 72 = .ok (.iastore, 1) := by decide +kernel
theorem dX7_notes_73 : decode cX7_notes 73 = .ok (.iinc 1 1, 3) := by decide +kernel
theorem dX7_notes_76 : decode cX7_notes 76 = .ok (.goto (-29), 3) := by decide +kernel
theorem dX7_notes_79 : decode cX7_notes 79 = .ok (.aload_n 0, 1) := by decide +kernel
theorem dX7_notes_80 : decode cX7_notes 80 = .ok (.dup, 1) := by decide +kernel
theorem dX7_notes_81 : decode cX7_notes 81 = .ok (.getfield 133, 3) := by decide +kernel
theorem dX7_notes_84 : decode cX7_notes 84 = .ok (.iconst 1, 1) := by decide +kernel
theorem dX7_notes_85 : decode cX7_notes 85 = .ok (.iadd, 1) := by decide +kernel
theorem dX7_notes_86 : decode cX7_notes 86 = .ok (.putfield 133, 3) := by decide +kernel
theorem dX7_notes_89 : decode cX7_notes 89 = .ok (.return_, 1) := by decide +kernel
theorem dX7_fells_0 : decode cX7_fells 0 = .ok (.aload_n 0, 1) := by decide +kernel
theorem dX7_fells_1 : decode cX7_fells 1 = .ok (.aload_n 1, 1) := by decide +kernel
theorem dX7_fells_2 : decode cX7_fells 2 = .ok (.iload_n 2, 1) := by decide +kernel
theorem dX7_fells_3 : decode cX7_fells 3 = .ok (.invokevirtual 142, 3) := by decide +kernel
theorem dX7_fells_6 : decode cX7_fells 6 = .ok (.istore_n 3, 1) := by decide +kernel
theorem dX7_fells_7 : decode cX7_fells 7 = .ok (.aload_n 1, 1) := by decide +kernel
theorem dX7_fells_8 : decode cX7_fells 8 = .ok (.iconst 2, 1) := by decide +kernel
theorem dX7_fells_9 : decode cX7_fells 9 = .ok (.dup2, 1) := by decide +kernel
theorem dX7_fells_10 : decode cX7_fells 10 = .ok (.iaload, 1) := by decide +kernel
theorem dX7_fells_11 : decode cX7_fells 11 = .ok (.iload_n 3, 1) := by decide +kernel
theorem dX7_fells_12 : decode cX7_fells 12 = .ok (.iadd, 1) := by decide +kernel
theorem dX7_fells_13 : decode cX7_fells 13 = .ok (.iastore, 1) := by decide +kernel
theorem dX7_fells_14 : decode cX7_fells 14 = .ok (.aload_n 1, 1) := by decide +kernel
theorem dX7_fells_15 : decode cX7_fells 15 = .ok (.bipush 15, 2) := by decide +kernel
theorem dX7_fells_17 : decode cX7_fells 17 = .ok (.iload_n 2, 1) := by decide +kernel
theorem dX7_fells_18 : decode cX7_fells 18 = .ok (.iadd, 1) := by decide +kernel
theorem dX7_fells_19 : decode cX7_fells 19 = .ok (.iconst 0, 1) := by decide +kernel
theorem dX7_fells_20 : decode cX7_fells 20 = .ok (.iastore, 1) := by decide +kernel
theorem dX7_fells_21 : decode cX7_fells 21 = .ok (.iload_n 3, 1) := by decide +kernel
theorem dX7_fells_22 : decode cX7_fells 22 = .ok (.ireturn, 1) := by decide +kernel
theorem dX7_grows_0 : decode cX7_grows 0 = .ok (.iconst 0, 1) := by decide +kernel
theorem dX7_grows_1 : decode cX7_grows 1 = .ok (.istore_n 2, 1) := by decide +kernel
theorem dX7_grows_2 : decode cX7_grows 2 = .ok (.iload_n 2, 1) := by decide +kernel
theorem dX7_grows_3 : decode cX7_grows 3 = .ok (.aload_n 0, 1) := by decide +kernel
theorem dX7_grows_4 : decode cX7_grows 4 = .ok (.getfield 13, 3) := by decide +kernel
theorem dX7_grows_7 : decode cX7_grows 7 = .ok (.iconst 0, 1) := by decide +kernel
theorem dX7_grows_8 : decode cX7_grows 8 = .ok (.iaload, 1) := by decide +kernel
theorem dX7_grows_9 : decode cX7_grows 9 = .ok (.if_icmp .ge 34, 3) := by decide +kernel
theorem dX7_grows_12 : decode cX7_grows 12 = .ok (.aload_n 1, 1) := by decide +kernel
theorem dX7_grows_13 : decode cX7_grows 13 = .ok (.bipush 15, 2) := by decide +kernel
theorem dX7_grows_15 : decode cX7_grows 15 = .ok (.iload_n 2, 1) := by decide +kernel
theorem dX7_grows_16 : decode cX7_grows 16 = .ok (.iadd, 1) := by decide +kernel
theorem dX7_grows_17 : decode cX7_grows 17 = .ok (.dup2, 1) := by decide +kernel
theorem dX7_grows_18 : decode cX7_grows 18 = .ok (.iaload, 1) := by decide +kernel
theorem dX7_grows_19 : decode cX7_grows 19 = .ok (.aload_n 1, 1) := by decide +kernel
theorem dX7_grows_20 : decode cX7_grows 20 = .ok (.bipush 15, 2) := by decide +kernel
theorem dX7_grows_22 : decode cX7_grows 22 = .ok (.iload_n 2, 1) := by decide +kernel
theorem dX7_grows_23 : decode cX7_grows 23 = .ok (.iadd, 1) := by decide +kernel
theorem dX7_grows_24 : decode cX7_grows 24 = .ok (.iaload, 1) := by decide +kernel
theorem dX7_grows_25 : decode cX7_grows 25 = .ok (.bipush 40, 2) := by decide +kernel
theorem dX7_grows_27 : decode cX7_grows 27 = .ok (.if_icmp .ge 7, 3) := by decide +kernel
theorem dX7_grows_30 : decode cX7_grows 30 = .ok (.iconst 1, 1) := by decide +kernel
theorem dX7_grows_31 : decode cX7_grows 31 = .ok (.goto 4, 3) := by decide +kernel
theorem dX7_grows_34 : decode cX7_grows 34 = .ok (.iconst 0, 1) := by decide +kernel
theorem dX7_grows_35 : decode cX7_grows 35 = .ok (.iadd, 1) := by decide +kernel
theorem dX7_grows_36 : decode cX7_grows 36 = .ok (.iastore, 1) := by decide +kernel
theorem dX7_grows_37 : decode cX7_grows 37 = .ok (.iinc 2 1, 3) := by decide +kernel
theorem dX7_grows_40 : decode cX7_grows 40 = .ok (.goto (-38), 3) := by decide +kernel
theorem dX7_grows_43 : decode cX7_grows 43 = .ok (.aload_n 1, 1) := by decide +kernel
theorem dX7_grows_44 : decode cX7_grows 44 = .ok (.iconst 1, 1) := by decide +kernel
theorem dX7_grows_45 : decode cX7_grows 45 = .ok (.dup2, 1) := by decide +kernel
theorem dX7_grows_46 : decode cX7_grows 46 = .ok (.iaload, 1) := by decide +kernel
theorem dX7_grows_47 : decode cX7_grows 47 = .ok (.iconst 1, 1) := by decide +kernel
theorem dX7_grows_48 : decode cX7_grows 48 = .ok (.iadd, 1) := by decide +kernel
theorem dX7_grows_49 : decode cX7_grows 49 = .ok (.iastore, 1) := by decide +kernel
theorem dX7_grows_50 : decode cX7_grows 50 = .ok (.return_, 1) := by decide +kernel
theorem dX7_cuts_0 : decode cX7_cuts 0 = .ok (.aload_n 0, 1) := by decide +kernel
theorem dX7_cuts_1 : decode cX7_cuts 1 = .ok (.iconst 0, 1) := by decide +kernel
theorem dX7_cuts_2 : decode cX7_cuts 2 = .ok (.putfield 68, 3) := by decide +kernel
theorem dX7_cuts_5 : decode cX7_cuts 5 = .ok (.aload_n 0, 1) := by decide +kernel
theorem dX7_cuts_6 : decode cX7_cuts 6 = .ok (.iload_n 1, 1) := by decide +kernel
theorem dX7_cuts_7 : decode cX7_cuts 7 = .ok (.invokevirtual 139, 3) := by decide +kernel
theorem dX7_cuts_10 : decode cX7_cuts 10 = .ok (.ifCond .ne 5, 3) := by decide +kernel
theorem dX7_cuts_13 : decode cX7_cuts 13 = .ok (.iconst (-1), 1) := by decide +kernel
theorem dX7_cuts_14 : decode cX7_cuts 14 = .ok (.ireturn, 1) := by decide +kernel
theorem dX7_cuts_15 : decode cX7_cuts 15 = .ok (.aload_n 0, 1) := by decide +kernel
theorem dX7_cuts_16 : decode cX7_cuts 16 = .ok (.invokevirtual 152, 3) := by decide +kernel
theorem dX7_cuts_19 : decode cX7_cuts 19 = .ok (.aload_n 0, 1) := by decide +kernel
theorem dX7_cuts_20 : decode cX7_cuts 20 = .ok (.aload_n 0, 1) := by decide +kernel
theorem dX7_cuts_21 : decode cX7_cuts 21 = .ok (.getfield 31, 3) := by decide +kernel
theorem dX7_cuts_24 : decode cX7_cuts 24 = .ok (.iload_n 1, 1) := by decide +kernel
theorem dX7_cuts_25 : decode cX7_cuts 25 = .ok (.invokevirtual 155, 3) := by decide +kernel
theorem dX7_cuts_28 : decode cX7_cuts 28 = .ok (.ireturn, 1) := by decide +kernel
theorem dX7_year_0 : decode cX7_year 0 = .ok (.aload_n 0, 1) := by decide +kernel
theorem dX7_year_1 : decode cX7_year 1 = .ok (.iconst 0, 1) := by decide +kernel
theorem dX7_year_2 : decode cX7_year 2 = .ok (.putfield 68, 3) := by decide +kernel
theorem dX7_year_5 : decode cX7_year 5 = .ok (.aload_n 0, 1) := by decide +kernel
theorem dX7_year_6 : decode cX7_year 6 = .ok (.getfield 31, 3) := by decide +kernel
theorem dX7_year_9 : decode cX7_year 9 = .ok (.iconst 1, 1) := by decide +kernel
theorem dX7_year_10 : decode cX7_year 10 = .ok (.iaload, 1) := by decide +kernel
theorem dX7_year_11 : decode cX7_year 11 = .ok (.sipush 999, 3) := by decide +kernel
theorem dX7_year_14 : decode cX7_year 14 = .ok (.if_icmp .ne 6, 3) := by decide +kernel
theorem dX7_year_17 : decode cX7_year 17 = .ok (.bipush (-2), 2) := by decide +kernel
theorem dX7_year_19 : decode cX7_year 19 = .ok (.ireturn, 1) := by decide +kernel
theorem dX7_year_20 : decode cX7_year 20 = .ok (.aload_n 0, 1) := by decide +kernel
theorem dX7_year_21 : decode cX7_year 21 = .ok (.invokevirtual 152, 3) := by decide +kernel
theorem dX7_year_24 : decode cX7_year 24 = .ok (.aload_n 0, 1) := by decide +kernel
theorem dX7_year_25 : decode cX7_year 25 = .ok (.aload_n 0, 1) := by decide +kernel
theorem dX7_year_26 : decode cX7_year 26 = .ok (.getfield 31, 3) := by decide +kernel
theorem dX7_year_29 : decode cX7_year 29 = .ok (.invokevirtual 158, 3) := by decide +kernel
theorem dX7_year_32 : decode cX7_year 32 = .ok (.aload_n 0, 1) := by decide +kernel
theorem dX7_year_33 : decode cX7_year 33 = .ok (.getfield 31, 3) := by decide +kernel
theorem dX7_year_36 : decode cX7_year 36 = .ok (.iconst 1, 1) := by decide +kernel
theorem dX7_year_37 : decode cX7_year 37 = .ok (.iaload, 1) := by decide +kernel
theorem dX7_year_38 : decode cX7_year 38 = .ok (.ireturn, 1) := by decide +kernel
theorem dX7_days_0 : decode cX7_days 0 = .ok (.iload_n 1, 1) := by decide +kernel
theorem dX7_days_1 : decode cX7_days 1 = .ok (.aload_n 0, 1) := by decide +kernel
theorem dX7_days_2 : decode cX7_days 2 = .ok (.getfield 13, 3) := by decide +kernel
theorem dX7_days_5 : decode cX7_days 5 = .ok (.iconst 4, 1) := by decide +kernel
theorem dX7_days_6 : decode cX7_days 6 = .ok (.iaload, 1) := by decide +kernel
theorem dX7_days_7 : decode cX7_days 7 = .ok (.iadd, 1) := by decide +kernel
theorem dX7_days_8 : decode cX7_days 8 = .ok (.iconst 1, 1) := by decide +kernel
theorem dX7_days_9 : decode cX7_days 9 = .ok (.isub, 1) := by decide +kernel
theorem dX7_days_10 : decode cX7_days 10 = .ok (.aload_n 0, 1) := by decide +kernel
theorem dX7_days_11 : decode cX7_days 11 = .ok (.getfield 13, 3) := by decide +kernel
theorem dX7_days_14 : decode cX7_days 14 = .ok (.iconst 4, 1) := by decide +kernel
theorem dX7_days_15 : decode cX7_days 15 = .ok (.iaload, 1) := by decide +kernel
theorem dX7_days_16 : decode cX7_days 16 = .ok (.idiv, 1) := by decide +kernel
theorem dX7_days_17 : decode cX7_days 17 = .ok (.ireturn, 1) := by decide +kernel
theorem dX7_binds_0 : decode cX7_binds 0 = .ok (.aload_n 0, 1) := by decide +kernel
theorem dX7_binds_1 : decode cX7_binds 1 = .ok (.iconst 0, 1) := by decide +kernel
theorem dX7_binds_2 : decode cX7_binds 2 = .ok (.putfield 68, 3) := by decide +kernel
theorem dX7_binds_5 : decode cX7_binds 5 = .ok (.iload_n 1, 1) := by decide +kernel
theorem dX7_binds_6 : decode cX7_binds 6 = .ok (.iconst 1, 1) := by decide +kernel
theorem dX7_binds_7 : decode cX7_binds 7 = .ok (.bipush 99, 2) := by decide +kernel
theorem dX7_binds_9 : decode cX7_binds 9 = .ok (.invokestatic 72, 3) := by decide +kernel
theorem dX7_binds_12 : decode cX7_binds 12 = .ok (.ifCond .ne 5, 3) := by decide +kernel
theorem dX7_binds_15 : decode cX7_binds 15 = .ok (.iconst (-1), 1) := by decide +kernel
theorem dX7_binds_16 : decode cX7_binds 16 = .ok (.ireturn, 1) := by decide +kernel
theorem dX7_binds_17 : decode cX7_binds 17 = .ok (.iload_n 1, 1) := by decide +kernel
theorem dX7_binds_18 : decode cX7_binds 18 = .ok (.aload_n 0, 1) := by decide +kernel
theorem dX7_binds_19 : decode cX7_binds 19 = .ok (.getfield 13, 3) := by decide +kernel
theorem dX7_binds_22 : decode cX7_binds 22 = .ok (.iconst 3, 1) := by decide +kernel
theorem dX7_binds_23 : decode cX7_binds 23 = .ok (.iaload, 1) := by decide +kernel
theorem dX7_binds_24 : decode cX7_binds 24 = .ok (.imul, 1) := by decide +kernel
theorem dX7_binds_25 : decode cX7_binds 25 = .ok (.aload_n 0, 1) := by decide +kernel
theorem dX7_binds_26 : decode cX7_binds 26 = .ok (.getfield 31, 3) := by decide +kernel
theorem dX7_binds_29 : decode cX7_binds 29 = .ok (.iconst 2, 1) := by decide +kernel
theorem dX7_binds_30 : decode cX7_binds 30 = .ok (.iaload, 1) := by decide +kernel
theorem dX7_binds_31 : decode cX7_binds 31 = .ok (.if_icmp .gt 21, 3) := by decide +kernel
theorem dX7_binds_34 : decode cX7_binds 34 = .ok (.aload_n 0, 1) := by decide +kernel
theorem dX7_binds_35 : decode cX7_binds 35 = .ok (.getfield 31, 3) := by decide +kernel
theorem dX7_binds_38 : decode cX7_binds 38 = .ok (.iconst 0, 1) := by decide +kernel
theorem dX7_binds_39 : decode cX7_binds 39 = .ok (.iaload, 1) := by decide +kernel
theorem dX7_binds_40 : decode cX7_binds 40 = .ok (.aload_n 0, 1) := by decide +kernel
theorem dX7_binds_41 : decode cX7_binds 41 = .ok (.iload_n 1, 1) := by decide +kernel
theorem dX7_binds_42 : decode cX7_binds 42 = .ok (.invokevirtual 162, 3) := by decide +kernel
theorem dX7_binds_45 : decode cX7_binds 45 = .ok (.iadd, 1) := by decide +kernel
theorem dX7_binds_46 : decode cX7_binds 46 = .ok (.sipush 9999, 3) := by decide +kernel
theorem dX7_binds_49 : decode cX7_binds 49 = .ok (.if_icmp .le 6, 3) := by decide +kernel
theorem dX7_binds_52 : decode cX7_binds 52 = .ok (.bipush (-2), 2) := by decide +kernel
theorem dX7_binds_54 : decode cX7_binds 54 = .ok (.ireturn, 1) := by decide +kernel
theorem dX7_binds_55 : decode cX7_binds 55 = .ok (.aload_n 0, 1) := by decide +kernel
theorem dX7_binds_56 : decode cX7_binds 56 = .ok (.invokevirtual 152, 3) := by decide +kernel
theorem dX7_binds_59 : decode cX7_binds 59 = .ok (.aload_n 0, 1) := by decide +kernel
theorem dX7_binds_60 : decode cX7_binds 60 = .ok (.getfield 31, 3) := by decide +kernel
theorem dX7_binds_63 : decode cX7_binds 63 = .ok (.iconst 2, 1) := by decide +kernel
theorem dX7_binds_64 : decode cX7_binds 64 = .ok (.dup2, 1) := by decide +kernel
theorem dX7_binds_65 : decode cX7_binds 65 = .ok (.iaload, 1) := by decide +kernel
theorem dX7_binds_66 : decode cX7_binds 66 = .ok (.iload_n 1, 1) := by decide +kernel
theorem dX7_binds_67 : decode cX7_binds 67 = .ok (.aload_n 0, 1) := by decide +kernel
theorem dX7_binds_68 : decode cX7_binds 68 = .ok (.getfield 13, 3) := by decide +kernel
theorem dX7_binds_71 : decode cX7_binds 71 = .ok (.iconst 3, 1) := by decide +kernel
theorem dX7_binds_72 : decode cX7_binds 72 = .ok (.iaload, 1) := by decide +kernel
theorem dX7_binds_73 : decode cX7_binds 73 = .ok (.imul, 1) := by decide +kernel
theorem dX7_binds_74 : decode cX7_binds 74 = .ok (.isub, 1) := by decide +kernel
theorem dX7_binds_75 : decode cX7_binds 75 = .ok (.iastore, 1) := by decide +kernel
theorem dX7_binds_76 : decode cX7_binds 76 = .ok (.aload_n 0, 1) := by decide +kernel
theorem dX7_binds_77 : decode cX7_binds 77 = .ok (.getfield 31, 3) := by decide +kernel
theorem dX7_binds_80 : decode cX7_binds 80 = .ok (.iconst 3, 1) := by decide +kernel
theorem dX7_binds_81 : decode cX7_binds 81 = .ok (.dup2, 1) := by decide +kernel
theorem dX7_binds_82 : decode cX7_binds 82 = .ok (.iaload, 1) := by decide +kernel
theorem dX7_binds_83 : decode cX7_binds 83 = .ok (.iload_n 1, 1) := by decide +kernel
theorem dX7_binds_84 : decode cX7_binds 84 = .ok (.iadd, 1) := by decide +kernel
theorem dX7_binds_85 : decode cX7_binds 85 = .ok (.iastore, 1) := by decide +kernel
theorem dX7_binds_86 : decode cX7_binds 86 = .ok (.aload_n 0, 1) := by decide +kernel
theorem dX7_binds_87 : decode cX7_binds 87 = .ok (.getfield 31, 3) := by decide +kernel
theorem dX7_binds_90 : decode cX7_binds 90 = .ok (.iconst 0, 1) := by decide +kernel
theorem dX7_binds_91 : decode cX7_binds 91 = .ok (.dup2, 1) := by decide +kernel
theorem dX7_binds_92 : decode cX7_binds 92 = .ok (.iaload, 1) := by decide +kernel
theorem dX7_binds_93 : decode cX7_binds 93 = .ok (.aload_n 0, 1) := by decide +kernel
theorem dX7_binds_94 : decode cX7_binds 94 = .ok (.iload_n 1, 1) := by decide +kernel
theorem dX7_binds_95 : decode cX7_binds 95 = .ok (.invokevirtual 162, 3) := by decide +kernel
theorem dX7_binds_98 : decode cX7_binds 98 = .ok (.iadd, 1) := by decide +kernel
theorem dX7_binds_99 : decode cX7_binds 99 = .ok (.iastore, 1) := by decide +kernel
theorem dX7_binds_100 : decode cX7_binds 100 = .ok (.aload_n 0, 1) := by decide +kernel
theorem dX7_binds_101 : decode cX7_binds 101 = .ok (.getfield 31, 3) := by decide +kernel
theorem dX7_binds_104 : decode cX7_binds 104 = .ok (.iconst 0, 1) := by decide +kernel
theorem dX7_binds_105 : decode cX7_binds 105 = .ok (.iaload, 1) := by decide +kernel
theorem dX7_binds_106 : decode cX7_binds 106 = .ok (.ireturn, 1) := by decide +kernel
theorem dX7_sends_0 : decode cX7_sends 0 = .ok (.aload_n 0, 1) := by decide +kernel
theorem dX7_sends_1 : decode cX7_sends 1 = .ok (.iconst 0, 1) := by decide +kernel
theorem dX7_sends_2 : decode cX7_sends 2 = .ok (.putfield 68, 3) := by decide +kernel
theorem dX7_sends_5 : decode cX7_sends 5 = .ok (.aload_n 0, 1) := by decide +kernel
theorem dX7_sends_6 : decode cX7_sends 6 = .ok (.iload_n 1, 1) := by decide +kernel
theorem dX7_sends_7 : decode cX7_sends 7 = .ok (.invokevirtual 146, 3) := by decide +kernel
theorem dX7_sends_10 : decode cX7_sends 10 = .ok (.ifCond .ne 5, 3) := by decide +kernel
theorem dX7_sends_13 : decode cX7_sends 13 = .ok (.iconst (-1), 1) := by decide +kernel
theorem dX7_sends_14 : decode cX7_sends 14 = .ok (.ireturn, 1) := by decide +kernel
theorem dX7_sends_15 : decode cX7_sends 15 = .ok (.aload_n 0, 1) := by decide +kernel
theorem dX7_sends_16 : decode cX7_sends 16 = .ok (.iload_n 1, 1) := by decide +kernel
theorem dX7_sends_17 : decode cX7_sends 17 = .ok (.invokevirtual 149, 3) := by decide +kernel
theorem dX7_sends_20 : decode cX7_sends 20 = .ok (.ifCond .ne 33, 3) := by decide +kernel
theorem dX7_sends_23 : decode cX7_sends 23 = .ok (.aload_n 0, 1) := by decide +kernel
theorem dX7_sends_24 : decode cX7_sends 24 = .ok (.getfield 31, 3) := by decide +kernel
theorem dX7_sends_27 : decode cX7_sends 27 = .ok (.iconst 3, 1) := by decide +kernel
theorem dX7_sends_28 : decode cX7_sends 28 = .ok (.iaload, 1) := by decide +kernel
theorem dX7_sends_29 : decode cX7_sends 29 = .ok (.aload_n 0, 1) := by decide +kernel
theorem dX7_sends_30 : decode cX7_sends 30 = .ok (.getfield 25, 3) := by decide +kernel
theorem dX7_sends_33 : decode cX7_sends 33 = .ok (.iload_n 1, 1) := by decide +kernel
theorem dX7_sends_34 : decode cX7_sends 34 = .ok (.iaload, 1) := by decide +kernel
theorem dX7_sends_35 : decode cX7_sends 35 = .ok (.if_icmp .lt 18, 3) := by decide +kernel
theorem dX7_sends_38 : decode cX7_sends 38 = .ok (.aload_n 0, 1) := by decide +kernel
theorem dX7_sends_39 : decode cX7_sends 39 = .ok (.getfield 31, 3) := by decide +kernel
theorem dX7_sends_42 : decode cX7_sends 42 = .ok (.iconst 0, 1) := by decide +kernel
theorem dX7_sends_43 : decode cX7_sends 43 = .ok (.iaload, 1) := by decide +kernel
theorem dX7_sends_44 : decode cX7_sends 44 = .ok (.aload_n 0, 1) := by decide +kernel
theorem dX7_sends_45 : decode cX7_sends 45 = .ok (.getfield 22, 3) := by decide +kernel
theorem dX7_sends_48 : decode cX7_sends 48 = .ok (.iload_n 1, 1) := by decide +kernel
theorem dX7_sends_49 : decode cX7_sends 49 = .ok (.iaload, 1) := by decide +kernel
theorem dX7_sends_50 : decode cX7_sends 50 = .ok (.if_icmp .le 6, 3) := by decide +kernel
theorem dX7_sends_53 : decode cX7_sends 53 = .ok (.bipush (-2), 2) := by decide +kernel
theorem dX7_sends_55 : decode cX7_sends 55 = .ok (.ireturn, 1) := by decide +kernel
theorem dX7_sends_56 : decode cX7_sends 56 = .ok (.aload_n 0, 1) := by decide +kernel
theorem dX7_sends_57 : decode cX7_sends 57 = .ok (.invokevirtual 152, 3) := by decide +kernel
theorem dX7_sends_60 : decode cX7_sends 60 = .ok (.aload_n 0, 1) := by decide +kernel
theorem dX7_sends_61 : decode cX7_sends 61 = .ok (.getfield 31, 3) := by decide +kernel
theorem dX7_sends_64 : decode cX7_sends 64 = .ok (.iconst 3, 1) := by decide +kernel
theorem dX7_sends_65 : decode cX7_sends 65 = .ok (.dup2, 1) := by decide +kernel
theorem dX7_sends_66 : decode cX7_sends 66 = .ok (.iaload, 1) := by decide +kernel
theorem dX7_sends_67 : decode cX7_sends 67 = .ok (.aload_n 0, 1) := by decide +kernel
theorem dX7_sends_68 : decode cX7_sends 68 = .ok (.getfield 25, 3) := by decide +kernel
theorem dX7_sends_71 : decode cX7_sends 71 = .ok (.iload_n 1, 1) := by decide +kernel
theorem dX7_sends_72 : decode cX7_sends 72 = .ok (.iaload, 1) := by decide +kernel
theorem dX7_sends_73 : decode cX7_sends 73 = .ok (.isub, 1) := by decide +kernel
theorem dX7_sends_74 : decode cX7_sends 74 = .ok (.iastore, 1) := by decide +kernel
theorem dX7_sends_75 : decode cX7_sends 75 = .ok (.aload_n 0, 1) := by decide +kernel
theorem dX7_sends_76 : decode cX7_sends 76 = .ok (.getfield 31, 3) := by decide +kernel
theorem dX7_sends_79 : decode cX7_sends 79 = .ok (.iconst 4, 1) := by decide +kernel
theorem dX7_sends_80 : decode cX7_sends 80 = .ok (.dup2, 1) := by decide +kernel
theorem dX7_sends_81 : decode cX7_sends 81 = .ok (.iaload, 1) := by decide +kernel
theorem dX7_sends_82 : decode cX7_sends 82 = .ok (.aload_n 0, 1) := by decide +kernel
theorem dX7_sends_83 : decode cX7_sends 83 = .ok (.getfield 28, 3) := by decide +kernel
theorem dX7_sends_86 : decode cX7_sends 86 = .ok (.iload_n 1, 1) := by decide +kernel
theorem dX7_sends_87 : decode cX7_sends 87 = .ok (.iaload, 1) := by decide +kernel
theorem dX7_sends_88 : decode cX7_sends 88 = .ok (.iadd, 1) := by decide +kernel
theorem dX7_sends_89 : decode cX7_sends 89 = .ok (.iastore, 1) := by decide +kernel
theorem dX7_sends_90 : decode cX7_sends 90 = .ok (.aload_n 0, 1) := by decide +kernel
theorem dX7_sends_91 : decode cX7_sends 91 = .ok (.getfield 31, 3) := by decide +kernel
theorem dX7_sends_94 : decode cX7_sends 94 = .ok (.iconst 5, 1) := by decide +kernel
theorem dX7_sends_95 : decode cX7_sends 95 = .ok (.dup2, 1) := by decide +kernel
theorem dX7_sends_96 : decode cX7_sends 96 = .ok (.iaload, 1) := by decide +kernel
theorem dX7_sends_97 : decode cX7_sends 97 = .ok (.iconst 1, 1) := by decide +kernel
theorem dX7_sends_98 : decode cX7_sends 98 = .ok (.iload_n 1, 1) := by decide +kernel
theorem dX7_sends_99 : decode cX7_sends 99 = .ok (.ishl, 1) := by decide +kernel
theorem dX7_sends_100 : decode cX7_sends 100 = .ok (.ior, 1) := by decide +kernel
theorem dX7_sends_101 : decode cX7_sends 101 = .ok (.iastore, 1) := by decide +kernel
theorem dX7_sends_102 : decode cX7_sends 102 = .ok (.aload_n 0, 1) := by decide +kernel
theorem dX7_sends_103 : decode cX7_sends 103 = .ok (.getfield 31, 3) := by decide +kernel
theorem dX7_sends_106 : decode cX7_sends 106 = .ok (.iconst 4, 1) := by decide +kernel
theorem dX7_sends_107 : decode cX7_sends 107 = .ok (.iaload, 1) := by decide +kernel
theorem dX7_sends_108 : decode cX7_sends 108 = .ok (.ireturn, 1) := by decide +kernel
theorem dX7_shortens_0 : decode cX7_shortens 0 = .ok (.bipush 7, 2) := by decide +kernel
theorem dX7_shortens_2 : decode cX7_shortens 2 = .ok (.iload_n 1, 1) := by decide +kernel
theorem dX7_shortens_3 : decode cX7_shortens 3 = .ok (.bipush 8, 2) := by decide +kernel
theorem dX7_shortens_5 : decode cX7_shortens 5 = .ok (.irem, 1) := by decide +kernel
theorem dX7_shortens_6 : decode cX7_shortens 6 = .ok (.iadd, 1) := by decide +kernel
theorem dX7_shortens_7 : decode cX7_shortens 7 = .ok (.istore_n 3, 1) := by decide +kernel
theorem dX7_shortens_8 : decode cX7_shortens 8 = .ok (.aload_n 0, 1) := by decide +kernel
theorem dX7_shortens_9 : decode cX7_shortens 9 = .ok (.iload_n 3, 1) := by decide +kernel
theorem dX7_shortens_10 : decode cX7_shortens 10 = .ok (.aload_n 0, 1) := by decide +kernel
theorem dX7_shortens_11 : decode cX7_shortens 11 = .ok (.iload_n 3, 1) := by decide +kernel
theorem dX7_shortens_12 : decode cX7_shortens 12 = .ok (.iaload, 1) := by decide +kernel
theorem dX7_shortens_13 : decode cX7_shortens 13 = .ok (.iload_n 2, 1) := by decide +kernel
theorem dX7_shortens_14 : decode cX7_shortens 14 = .ok (.if_icmp .ge 7, 3) := by decide +kernel
theorem dX7_shortens_17 : decode cX7_shortens 17 = .ok (.iconst 0, 1) := by decide +kernel
theorem dX7_shortens_18 : decode cX7_shortens 18 = .ok (.goto 8, 3) := by decide +kernel
theorem dX7_shortens_21 : decode cX7_shortens 21 = .ok (.aload_n 0, 1) := by decide +kernel
theorem dX7_shortens_22 : decode cX7_shortens 22 = .ok (.iload_n 3, 1) := by decide +kernel
theorem dX7_shortens_23 : decode cX7_shortens 23 = .ok (.iaload, 1) := by decide +kernel
theorem dX7_shortens_24 : decode cX7_shortens 24 = .ok (.iload_n 2, 1) := by decide +kernel
theorem dX7_shortens_25 : decode cX7_shortens 25 = .ok (.isub, 1) := by decide +kernel
theorem dX7_shortens_26 : decode cX7_shortens 26 = .ok (.iastore, 1) := by decide +kernel
theorem dX7_shortens_27 : decode cX7_shortens 27 = .ok (.return_, 1) := by decide +kernel
theorem dX7_sweep_0 : decode cX7_sweep 0 = .ok (.aload_n 0, 1) := by decide +kernel
theorem dX7_sweep_1 : decode cX7_sweep 1 = .ok (.aload_n 0, 1) := by decide +kernel
theorem dX7_sweep_2 : decode cX7_sweep 2 = .ok (.bipush 6, 2) := by decide +kernel
theorem dX7_sweep_4 : decode cX7_sweep 4 = .ok (.iaload, 1) := by decide +kernel
theorem dX7_sweep_5 : decode cX7_sweep 5 = .ok (.iconst 2, 1) := by decide +kernel
theorem dX7_sweep_6 : decode cX7_sweep 6 = .ok (.invokestatic 165, 3) := by decide +kernel
theorem dX7_sweep_9 : decode cX7_sweep 9 = .ok (.aload_n 0, 1) := by decide +kernel
theorem dX7_sweep_10 : decode cX7_sweep 10 = .ok (.aload_n 0, 1) := by decide +kernel
theorem dX7_sweep_11 : decode cX7_sweep 11 = .ok (.bipush 6, 2) := by decide +kernel
theorem dX7_sweep_13 : decode cX7_sweep 13 = .ok (.iaload, 1) := by decide +kernel
theorem dX7_sweep_14 : decode cX7_sweep 14 = .ok (.iconst 1, 1) := by decide +kernel
theorem dX7_sweep_15 : decode cX7_sweep 15 = .ok (.iadd, 1) := by decide +kernel
theorem dX7_sweep_16 : decode cX7_sweep 16 = .ok (.iconst 1, 1) := by decide +kernel
theorem dX7_sweep_17 : decode cX7_sweep 17 = .ok (.invokestatic 165, 3) := by decide +kernel
theorem dX7_sweep_20 : decode cX7_sweep 20 = .ok (.aload_n 0, 1) := by decide +kernel
theorem dX7_sweep_21 : decode cX7_sweep 21 = .ok (.aload_n 0, 1) := by decide +kernel
theorem dX7_sweep_22 : decode cX7_sweep 22 = .ok (.bipush 6, 2) := by decide +kernel
theorem dX7_sweep_24 : decode cX7_sweep 24 = .ok (.iaload, 1) := by decide +kernel
theorem dX7_sweep_25 : decode cX7_sweep 25 = .ok (.bipush 7, 2) := by decide +kernel
theorem dX7_sweep_27 : decode cX7_sweep 27 = .ok (.iadd, 1) := by decide +kernel
theorem dX7_sweep_28 : decode cX7_sweep 28 = .ok (.iconst 1, 1) := by decide +kernel
theorem dX7_sweep_29 : decode cX7_sweep 29 = .ok (.invokestatic 165, 3) := by decide +kernel
theorem dX7_sweep_32 : decode cX7_sweep 32 = .ok (.return_, 1) := by decide +kernel
theorem dX7_sweeps_0 : decode cX7_sweeps 0 = .ok (.aload_n 0, 1) := by decide +kernel
theorem dX7_sweeps_1 : decode cX7_sweeps 1 = .ok (.iconst 0, 1) := by decide +kernel
theorem dX7_sweeps_2 : decode cX7_sweeps 2 = .ok (.putfield 68, 3) := by decide +kernel
theorem dX7_sweeps_5 : decode cX7_sweeps 5 = .ok (.aload_n 0, 1) := by decide +kernel
theorem dX7_sweeps_6 : decode cX7_sweeps 6 = .ok (.invokevirtual 152, 3) := by decide +kernel
theorem dX7_sweeps_9 : decode cX7_sweeps 9 = .ok (.aload_n 0, 1) := by decide +kernel
theorem dX7_sweeps_10 : decode cX7_sweeps 10 = .ok (.getfield 31, 3) := by decide +kernel
theorem dX7_sweeps_13 : decode cX7_sweeps 13 = .ok (.invokestatic 169, 3) := by decide +kernel
theorem dX7_sweeps_16 : decode cX7_sweeps 16 = .ok (.aload_n 0, 1) := by decide +kernel
theorem dX7_sweeps_17 : decode cX7_sweeps 17 = .ok (.getfield 31, 3) := by decide +kernel
theorem dX7_sweeps_20 : decode cX7_sweeps 20 = .ok (.bipush 7, 2) := by decide +kernel
theorem dX7_sweeps_22 : decode cX7_sweeps 22 = .ok (.aload_n 0, 1) := by decide +kernel
theorem dX7_sweeps_23 : decode cX7_sweeps 23 = .ok (.getfield 31, 3) := by decide +kernel
theorem dX7_sweeps_26 : decode cX7_sweeps 26 = .ok (.bipush 6, 2) := by decide +kernel
theorem dX7_sweeps_28 : decode cX7_sweeps 28 = .ok (.iaload, 1) := by decide +kernel
theorem dX7_sweeps_29 : decode cX7_sweeps 29 = .ok (.iadd, 1) := by decide +kernel
theorem dX7_sweeps_30 : decode cX7_sweeps 30 = .ok (.iaload, 1) := by decide +kernel
theorem dX7_sweeps_31 : decode cX7_sweeps 31 = .ok (.ireturn, 1) := by decide +kernel
theorem dX7_spins_0 : decode cX7_spins 0 = .ok (.aload_n 0, 1) := by decide +kernel
theorem dX7_spins_1 : decode cX7_spins 1 = .ok (.iconst 0, 1) := by decide +kernel
theorem dX7_spins_2 : decode cX7_spins 2 = .ok (.putfield 68, 3) := by decide +kernel
theorem dX7_spins_5 : decode cX7_spins 5 = .ok (.iload_n 1, 1) := by decide +kernel
theorem dX7_spins_6 : decode cX7_spins 6 = .ok (.iconst 1, 1) := by decide +kernel
theorem dX7_spins_7 : decode cX7_spins 7 = .ok (.bipush 7, 2) := by decide +kernel
theorem dX7_spins_9 : decode cX7_spins 9 = .ok (.invokestatic 72, 3) := by decide +kernel
theorem dX7_spins_12 : decode cX7_spins 12 = .ok (.ifCond .ne 5, 3) := by decide +kernel
theorem dX7_spins_15 : decode cX7_spins 15 = .ok (.iconst (-1), 1) := by decide +kernel
theorem dX7_spins_16 : decode cX7_spins 16 = .ok (.ireturn, 1) := by decide +kernel
theorem dX7_spins_17 : decode cX7_spins 17 = .ok (.aload_n 0, 1) := by decide +kernel
theorem dX7_spins_18 : decode cX7_spins 18 = .ok (.invokevirtual 152, 3) := by decide +kernel
theorem dX7_spins_21 : decode cX7_spins 21 = .ok (.aload_n 0, 1) := by decide +kernel
theorem dX7_spins_22 : decode cX7_spins 22 = .ok (.getfield 31, 3) := by decide +kernel
theorem dX7_spins_25 : decode cX7_spins 25 = .ok (.bipush 6, 2) := by decide +kernel
theorem dX7_spins_27 : decode cX7_spins 27 = .ok (.aload_n 0, 1) := by decide +kernel
theorem dX7_spins_28 : decode cX7_spins 28 = .ok (.getfield 31, 3) := by decide +kernel
theorem dX7_spins_31 : decode cX7_spins 31 = .ok (.bipush 6, 2) := by decide +kernel
theorem dX7_spins_33 : decode cX7_spins 33 = .ok (.iaload, 1) := by decide +kernel
theorem dX7_spins_34 : decode cX7_spins 34 = .ok (.iload_n 1, 1) := by decide +kernel
theorem dX7_spins_35 : decode cX7_spins 35 = .ok (.iadd, 1) := by decide +kernel
theorem dX7_spins_36 : decode cX7_spins 36 = .ok (.bipush 8, 2) := by decide +kernel
theorem dX7_spins_38 : decode cX7_spins 38 = .ok (.irem, 1) := by decide +kernel
theorem dX7_spins_39 : decode cX7_spins 39 = .ok (.iastore, 1) := by decide +kernel
theorem dX7_spins_40 : decode cX7_spins 40 = .ok (.aload_n 0, 1) := by decide +kernel
theorem dX7_spins_41 : decode cX7_spins 41 = .ok (.getfield 31, 3) := by decide +kernel
theorem dX7_spins_44 : decode cX7_spins 44 = .ok (.bipush 6, 2) := by decide +kernel
theorem dX7_spins_46 : decode cX7_spins 46 = .ok (.iaload, 1) := by decide +kernel
theorem dX7_spins_47 : decode cX7_spins 47 = .ok (.ireturn, 1) := by decide +kernel
theorem dX7_undo_0 : decode cX7_undo 0 = .ok (.aload_n 0, 1) := by decide +kernel
theorem dX7_undo_1 : decode cX7_undo 1 = .ok (.iconst 0, 1) := by decide +kernel
theorem dX7_undo_2 : decode cX7_undo 2 = .ok (.putfield 68, 3) := by decide +kernel
theorem dX7_undo_5 : decode cX7_undo 5 = .ok (.aload_n 0, 1) := by decide +kernel
theorem dX7_undo_6 : decode cX7_undo 6 = .ok (.getfield 133, 3) := by decide +kernel
theorem dX7_undo_9 : decode cX7_undo 9 = .ok (.ifCond .ne 6, 3) := by decide +kernel
theorem dX7_undo_12 : decode cX7_undo 12 = .ok (.bipush (-2), 2) := by decide +kernel
theorem dX7_undo_14 : decode cX7_undo 14 = .ok (.ireturn, 1) := by decide +kernel
theorem dX7_undo_15 : decode cX7_undo 15 = .ok (.aload_n 0, 1) := by decide +kernel
theorem dX7_undo_16 : decode cX7_undo 16 = .ok (.dup, 1) := by decide +kernel
theorem dX7_undo_17 : decode cX7_undo 17 = .ok (.getfield 133, 3) := by decide +kernel
theorem dX7_undo_20 : decode cX7_undo 20 = .ok (.iconst 1, 1) := by decide +kernel
theorem dX7_undo_21 : decode cX7_undo 21 = .ok (.isub, 1) := by decide +kernel
theorem dX7_undo_22 : decode cX7_undo 22 = .ok (.putfield 133, 3) := by decide +kernel
theorem dX7_undo_25 : decode cX7_undo 25 = .ok (.iconst 0, 1) := by decide +kernel
theorem dX7_undo_26 : decode cX7_undo 26 = .ok (.istore_n 1, 1) := by decide +kernel
theorem dX7_undo_27 : decode cX7_undo 27 = .ok (.iload_n 1, 1) := by decide +kernel
theorem dX7_undo_28 : decode cX7_undo 28 = .ok (.bipush 21, 2) := by decide +kernel
theorem dX7_undo_30 : decode cX7_undo 30 = .ok (.if_icmp .ge 29, 3) := by decide +kernel
theorem dX7_undo_33 : decode cX7_undo 33 = .ok (.aload_n 0, 1) := by decide +kernel
theorem dX7_undo_34 : decode cX7_undo 34 = .ok (.getfield 31, 3) := by decide +kernel
theorem dX7_undo_37 : decode cX7_undo 37 = .ok (.iload_n 1, 1) := by decide +kernel
theorem dX7_undo_38 : decode cX7_undo 38 = .ok (.aload_n 0, 1) := by decide +kernel
theorem dX7_undo_39 : decode cX7_undo 39 = .ok (.getfield 44, 3) := by decide +kernel
theorem dX7_undo_42 : decode cX7_undo 42 = .ok (.bipush 21, 2) := by decide +kernel
theorem dX7_undo_44 : decode cX7_undo 44 = .ok (.aload_n 0, 1) := by decide +kernel
theorem dX7_undo_45 : decode cX7_undo 45 = .ok (.getfield 133, 3) := by decide +kernel
theorem dX7_undo_48 : decode cX7_undo 48 = .ok (.imul, 1) := by decide +kernel
theorem dX7_undo_49 : decode cX7_undo 49 = .ok (.iload_n 1, 1) := by decide +kernel
theorem dX7_undo_50 : decode cX7_undo 50 = .ok (.iadd, 1) := by decide +kernel
theorem dX7_undo_51 : decode cX7_undo 51 = .ok (.iaload, 1) := by decide +kernel
theorem dX7_undo_52 : decode cX7_undo 52 = .ok (.iastore, 1) := by decide +kernel
theorem dX7_undo_53 : decode cX7_undo 53 = .ok (.iinc 1 1, 3) := by decide +kernel
theorem dX7_undo_56 : decode cX7_undo 56 = .ok (.goto (-29), 3) := by decide +kernel
theorem dX7_undo_59 : decode cX7_undo 59 = .ok (.aload_n 0, 1) := by decide +kernel
theorem dX7_undo_60 : decode cX7_undo 60 = .ok (.getfield 133, 3) := by decide +kernel
theorem dX7_undo_63 : decode cX7_undo 63 = .ok (.ireturn, 1) := by decide +kernel
theorem dX7_asNow_0 : decode cX7_asNow 0 = .ok (.iconst 0, 1) := by decide +kernel
theorem dX7_asNow_1 : decode cX7_asNow 1 = .ok (.istore_n 1, 1) := by decide +kernel
theorem dX7_asNow_2 : decode cX7_asNow 2 = .ok (.iload_n 1, 1) := by decide +kernel
theorem dX7_asNow_3 : decode cX7_asNow 3 = .ok (.bipush 21, 2) := by decide +kernel
theorem dX7_asNow_5 : decode cX7_asNow 5 = .ok (.if_icmp .ge 21, 3) := by decide +kernel
theorem dX7_asNow_8 : decode cX7_asNow 8 = .ok (.aload_n 0, 1) := by decide +kernel
theorem dX7_asNow_9 : decode cX7_asNow 9 = .ok (.getfield 34, 3) := by decide +kernel
theorem dX7_asNow_12 : decode cX7_asNow 12 = .ok (.iload_n 1, 1) := by decide +kernel
theorem dX7_asNow_13 : decode cX7_asNow 13 = .ok (.aload_n 0, 1) := by decide +kernel
theorem dX7_asNow_14 : decode cX7_asNow 14 = .ok (.getfield 31, 3) := by decide +kernel
theorem dX7_asNow_17 : decode cX7_asNow 17 = .ok (.iload_n 1, 1) := by decide +kernel
theorem dX7_asNow_18 : decode cX7_asNow 18 = .ok (.iaload, 1) := by decide +kernel
theorem dX7_asNow_19 : decode cX7_asNow 19 = .ok (.iastore, 1) := by decide +kernel
theorem dX7_asNow_20 : decode cX7_asNow 20 = .ok (.iinc 1 1, 3) := by decide +kernel
theorem dX7_asNow_23 : decode cX7_asNow 23 = .ok (.goto (-21), 3) := by decide +kernel
theorem dX7_asNow_26 : decode cX7_asNow 26 = .ok (.return_, 1) := by decide +kernel
theorem dX7_inYears_0 : decode cX7_inYears 0 = .ok (.aload_n 0, 1) := by decide +kernel
theorem dX7_inYears_1 : decode cX7_inYears 1 = .ok (.iconst 0, 1) := by decide +kernel
theorem dX7_inYears_2 : decode cX7_inYears 2 = .ok (.putfield 68, 3) := by decide +kernel
theorem dX7_inYears_5 : decode cX7_inYears 5 = .ok (.aload_n 0, 1) := by decide +kernel
theorem dX7_inYears_6 : decode cX7_inYears 6 = .ok (.iload_n 1, 1) := by decide +kernel
theorem dX7_inYears_7 : decode cX7_inYears 7 = .ok (.invokevirtual 139, 3) := by decide +kernel
theorem dX7_inYears_10 : decode cX7_inYears 10 = .ok (.ifCond .eq 13, 3) := by decide +kernel
theorem dX7_inYears_13 : decode cX7_inYears 13 = .ok (.iload_n 2, 1) := by decide +kernel
theorem dX7_inYears_14 : decode cX7_inYears 14 = .ok (.iconst 0, 1) := by decide +kernel
theorem dX7_inYears_15 : decode cX7_inYears 15 = .ok (.bipush 30, 2) := by decide +kernel
theorem dX7_inYears_17 : decode cX7_inYears 17 = .ok (.invokestatic 72, 3) := by decide +kernel
theorem dX7_inYears_20 : decode cX7_inYears 20 = .ok (.ifCond .ne 5, 3) := by decide +kernel
theorem dX7_inYears_23 : decode cX7_inYears 23 = .ok (.iconst (-1), 1) := by decide +kernel
theorem dX7_inYears_24 : decode cX7_inYears 24 = .ok (.ireturn, 1) := by decide +kernel
theorem dX7_inYears_25 : decode cX7_inYears 25 = .ok (.aload_n 0, 1) := by decide +kernel
theorem dX7_inYears_26 : decode cX7_inYears 26 = .ok (.getfield 31, 3) := by decide +kernel
theorem dX7_inYears_29 : decode cX7_inYears 29 = .ok (.bipush 15, 2) := by decide +kernel
theorem dX7_inYears_31 : decode cX7_inYears 31 = .ok (.iload_n 1, 1) := by decide +kernel
theorem dX7_inYears_32 : decode cX7_inYears 32 = .ok (.iadd, 1) := by decide +kernel
theorem dX7_inYears_33 : decode cX7_inYears 33 = .ok (.iaload, 1) := by decide +kernel
theorem dX7_inYears_34 : decode cX7_inYears 34 = .ok (.iload_n 2, 1) := by decide +kernel
theorem dX7_inYears_35 : decode cX7_inYears 35 = .ok (.iadd, 1) := by decide +kernel
theorem dX7_inYears_36 : decode cX7_inYears 36 = .ok (.istore_n 3, 1) := by decide +kernel
theorem dX7_inYears_37 : decode cX7_inYears 37 = .ok (.aload_n 0, 1) := by decide +kernel
theorem dX7_inYears_38 : decode cX7_inYears 38 = .ok (.aload_n 0, 1) := by decide +kernel
theorem dX7_inYears_39 : decode cX7_inYears 39 = .ok (.getfield 16, 3) := by decide +kernel
theorem dX7_inYears_42 : decode cX7_inYears 42 = .ok (.iload_n 1, 1) := by decide +kernel
theorem dX7_inYears_43 : decode cX7_inYears 43 = .ok (.iaload, 1) := by decide +kernel
theorem dX7_inYears_44 : decode cX7_inYears 44 = .ok (.iload_n 3, 1) := by decide +kernel
theorem dX7_inYears_45 : decode cX7_inYears 45 = .ok (.bipush 40, 2) := by decide +kernel
theorem dX7_inYears_47 : decode cX7_inYears 47 = .ok (.if_icmp .le 8, 3) := by decide +kernel
theorem dX7_inYears_50 : decode cX7_inYears 50 = .ok (.bipush 40, 2) := by decide +kernel
theorem dX7_inYears_52 : decode cX7_inYears 52 = .ok (.goto 4, 3) := by decide +kernel
theorem dX7_inYears_55 : decode cX7_inYears 55 = .ok (.iload_n 3, 1) := by decide +kernel
theorem dX7_inYears_56 : decode cX7_inYears 56 = .ok (.invokevirtual 136, 3) := by decide +kernel
theorem dX7_inYears_59 : decode cX7_inYears 59 = .ok (.ireturn, 1) := by decide +kernel
theorem dX7_gcd_0 : decode cX7_gcd 0 = .ok (.iload_n 0, 1) := by decide +kernel
theorem dX7_gcd_1 : decode cX7_gcd 1 = .ok (.istore_n 2, 1) := by decide +kernel
theorem dX7_gcd_2 : decode cX7_gcd 2 = .ok (.iload_n 1, 1) := by decide +kernel
theorem dX7_gcd_3 : decode cX7_gcd 3 = .ok (.istore_n 3, 1) := by decide +kernel
theorem dX7_gcd_4 : decode cX7_gcd 4 = .ok (.iload_n 3, 1) := by decide +kernel
theorem dX7_gcd_5 : decode cX7_gcd 5 = .ok (.ifCond .eq 16, 3) := by decide +kernel
theorem dX7_gcd_8 : decode cX7_gcd 8 = .ok (.iload_n 2, 1) := by decide +kernel
theorem dX7_gcd_9 : decode cX7_gcd 9 = .ok (.iload_n 3, 1) := by decide +kernel
theorem dX7_gcd_10 : decode cX7_gcd 10 = .ok (.irem, 1) := by decide +kernel
theorem dX7_gcd_11 : decode cX7_gcd 11 = .ok (.istore 4, 2) := by decide +kernel
theorem dX7_gcd_13 : decode cX7_gcd 13 = .ok (.iload_n 3, 1) := by decide +kernel
theorem dX7_gcd_14 : decode cX7_gcd 14 = .ok (.istore_n 2, 1) := by decide +kernel
theorem dX7_gcd_15 : decode cX7_gcd 15 = .ok (.iload 4, 2) := by decide +kernel
theorem dX7_gcd_17 : decode cX7_gcd 17 = .ok (.istore_n 3, 1) := by decide +kernel
theorem dX7_gcd_18 : decode cX7_gcd 18 = .ok (.goto (-14), 3) := by decide +kernel
theorem dX7_gcd_21 : decode cX7_gcd 21 = .ok (.iload_n 2, 1) := by decide +kernel
theorem dX7_gcd_22 : decode cX7_gcd 22 = .ok (.ireturn, 1) := by decide +kernel
theorem dX7_turn_0 : decode cX7_turn 0 = .ok (.aload_n 0, 1) := by decide +kernel
theorem dX7_turn_1 : decode cX7_turn 1 = .ok (.iconst 0, 1) := by decide +kernel
theorem dX7_turn_2 : decode cX7_turn 2 = .ok (.putfield 68, 3) := by decide +kernel
theorem dX7_turn_5 : decode cX7_turn 5 = .ok (.iload_n 1, 1) := by decide +kernel
theorem dX7_turn_6 : decode cX7_turn 6 = .ok (.iconst 1, 1) := by decide +kernel
theorem dX7_turn_7 : decode cX7_turn 7 = .ok (.bipush 30, 2) := by decide +kernel
theorem dX7_turn_9 : decode cX7_turn 9 = .ok (.invokestatic 72, 3) := by decide +kernel
theorem dX7_turn_12 : decode cX7_turn 12 = .ok (.ifCond .eq 12, 3) := by decide +kernel
theorem dX7_turn_15 : decode cX7_turn 15 = .ok (.iload_n 2, 1) := by decide +kernel
theorem dX7_turn_16 : decode cX7_turn 16 = .ok (.iconst 0, 1) := by decide +kernel
theorem dX7_turn_17 : decode cX7_turn 17 = .ok (.iconst 2, 1) := by decide +kernel
theorem dX7_turn_18 : decode cX7_turn 18 = .ok (.invokestatic 72, 3) := by decide +kernel
theorem dX7_turn_21 : decode cX7_turn 21 = .ok (.ifCond .ne 5, 3) := by decide +kernel
theorem dX7_turn_24 : decode cX7_turn 24 = .ok (.iconst (-1), 1) := by decide +kernel
theorem dX7_turn_25 : decode cX7_turn 25 = .ok (.ireturn, 1) := by decide +kernel
theorem dX7_turn_26 : decode cX7_turn 26 = .ok (.iconst 1, 1) := by decide +kernel
theorem dX7_turn_27 : decode cX7_turn 27 = .ok (.istore_n 3, 1) := by decide +kernel
theorem dX7_turn_28 : decode cX7_turn 28 = .ok (.iconst 2, 1) := by decide +kernel
theorem dX7_turn_29 : decode cX7_turn 29 = .ok (.istore 4, 2) := by decide +kernel
theorem dX7_turn_31 : decode cX7_turn 31 = .ok (.iload 4, 2) := by decide +kernel
theorem dX7_turn_33 : decode cX7_turn 33 = .ok (.bipush 30, 2) := by decide +kernel
theorem dX7_turn_35 : decode cX7_turn 35 = .ok (.if_icmp .gt 37, 3) := by decide +kernel
theorem dX7_turn_38 : decode cX7_turn 38 = .ok (.aload_n 0, 1) := by decide +kernel
theorem dX7_turn_39 : decode cX7_turn 39 = .ok (.iconst 1, 1) := by decide +kernel
theorem dX7_turn_40 : decode cX7_turn 40 = .ok (.iload 4, 2) := by decide +kernel
theorem dX7_turn_42 : decode cX7_turn 42 = .ok (.invokevirtual 136, 3) := by decide +kernel
theorem dX7_turn_45 : decode cX7_turn 45 = .ok (.iload_n 3, 1) := by decide +kernel
theorem dX7_turn_46 : decode cX7_turn 46 = .ok (.imul, 1) := by decide +kernel
theorem dX7_turn_47 : decode cX7_turn 47 = .ok (.aload_n 0, 1) := by decide +kernel
theorem dX7_turn_48 : decode cX7_turn 48 = .ok (.iconst 1, 1) := by decide +kernel
theorem dX7_turn_49 : decode cX7_turn 49 = .ok (.iload_n 3, 1) := by decide +kernel
theorem dX7_turn_50 : decode cX7_turn 50 = .ok (.invokevirtual 136, 3) := by decide +kernel
theorem dX7_turn_53 : decode cX7_turn 53 = .ok (.iload 4, 2) := by decide +kernel
theorem dX7_turn_55 : decode cX7_turn 55 = .ok (.imul, 1) := by decide +kernel
theorem dX7_turn_56 : decode cX7_turn 56 = .ok (.if_icmp .le 8, 3) := by decide +kernel
theorem dX7_turn_59 : decode cX7_turn 59 = .ok (.iload 4, 2) := by decide +kernel
theorem dX7_turn_61 : decode cX7_turn 61 = .ok (.goto 4, 3) := by decide +kernel
theorem dX7_turn_64 : decode cX7_turn 64 = .ok (.iload_n 3, 1) := by decide +kernel
theorem dX7_turn_65 : decode cX7_turn 65 = .ok (.istore_n 3, 1) := by decide +kernel
theorem dX7_turn_66 : decode cX7_turn 66 = .ok (.iinc 4 1, 3) := by decide +kernel
theorem dX7_turn_69 : decode cX7_turn 69 = .ok (.goto (-38), 3) := by decide +kernel
theorem dX7_turn_72 : decode cX7_turn 72 = .ok (.aload_n 0, 1) := by decide +kernel
theorem dX7_turn_73 : decode cX7_turn 73 = .ok (.iconst 1, 1) := by decide +kernel
theorem dX7_turn_74 : decode cX7_turn 74 = .ok (.iload_n 1, 1) := by decide +kernel
theorem dX7_turn_75 : decode cX7_turn 75 = .ok (.invokevirtual 136, 3) := by decide +kernel
theorem dX7_turn_78 : decode cX7_turn 78 = .ok (.iload_n 1, 1) := by decide +kernel
theorem dX7_turn_79 : decode cX7_turn 79 = .ok (.invokestatic 172, 3) := by decide +kernel
theorem dX7_turn_82 : decode cX7_turn 82 = .ok (.istore 4, 2) := by decide +kernel
theorem dX7_turn_84 : decode cX7_turn 84 = .ok (.iload_n 2, 1) := by decide +kernel
theorem dX7_turn_85 : decode cX7_turn 85 = .ok (.ifCond .ne 15, 3) := by decide +kernel
theorem dX7_turn_88 : decode cX7_turn 88 = .ok (.aload_n 0, 1) := by decide +kernel
theorem dX7_turn_89 : decode cX7_turn 89 = .ok (.iconst 1, 1) := by decide +kernel
theorem dX7_turn_90 : decode cX7_turn 90 = .ok (.iload_n 1, 1) := by decide +kernel
theorem dX7_turn_91 : decode cX7_turn 91 = .ok (.invokevirtual 136, 3) := by decide +kernel
theorem dX7_turn_94 : decode cX7_turn 94 = .ok (.iload 4, 2) := by decide +kernel
theorem dX7_turn_96 : decode cX7_turn 96 = .ok (.idiv, 1) := by decide +kernel
theorem dX7_turn_97 : decode cX7_turn 97 = .ok (.goto 16, 3) := by decide +kernel
theorem dX7_turn_100 : decode cX7_turn 100 = .ok (.iload_n 2, 1) := by decide +kernel
theorem dX7_turn_101 : decode cX7_turn 101 = .ok (.iconst 1, 1) := by decide +kernel
theorem dX7_turn_102 : decode cX7_turn 102 = .ok (.if_icmp .ne 10, 3) := by decide +kernel
theorem dX7_turn_105 : decode cX7_turn 105 = .ok (.iload_n 1, 1) := by decide +kernel
theorem dX7_turn_106 : decode cX7_turn 106 = .ok (.iload 4, 2) := by decide +kernel
theorem dX7_turn_108 : decode cX7_turn 108 = .ok (.idiv, 1) := by decide +kernel
theorem dX7_turn_109 : decode cX7_turn 109 = .ok (.goto 4, 3) := by decide +kernel
theorem dX7_turn_112 : decode cX7_turn 112 = .ok (.iload_n 3, 1) := by decide +kernel
theorem dX7_turn_113 : decode cX7_turn 113 = .ok (.ireturn, 1) := by decide +kernel
theorem dX7_twigsBy_0 : decode cX7_twigsBy 0 = .ok (.aload_n 0, 1) := by decide +kernel
theorem dX7_twigsBy_1 : decode cX7_twigsBy 1 = .ok (.invokevirtual 175, 3) := by decide +kernel
theorem dX7_twigsBy_4 : decode cX7_twigsBy 4 = .ok (.iconst 0, 1) := by decide +kernel
theorem dX7_twigsBy_5 : decode cX7_twigsBy 5 = .ok (.istore_n 2, 1) := by decide +kernel
theorem dX7_twigsBy_6 : decode cX7_twigsBy 6 = .ok (.iconst 0, 1) := by decide +kernel
theorem dX7_twigsBy_7 : decode cX7_twigsBy 7 = .ok (.istore_n 3, 1) := by decide +kernel
theorem dX7_twigsBy_8 : decode cX7_twigsBy 8 = .ok (.iload_n 3, 1) := by decide +kernel
theorem dX7_twigsBy_9 : decode cX7_twigsBy 9 = .ok (.iload_n 1, 1) := by decide +kernel
theorem dX7_twigsBy_10 : decode cX7_twigsBy 10 = .ok (.if_icmp .ge 49, 3) := by decide +kernel
theorem dX7_twigsBy_13 : decode cX7_twigsBy 13 = .ok (.iload_n 2, 1) := by decide +kernel
theorem dX7_twigsBy_14 : decode cX7_twigsBy 14 = .ok (.aload_n 0, 1) := by decide +kernel
theorem dX7_twigsBy_15 : decode cX7_twigsBy 15 = .ok (.getfield 56, 3) := by decide +kernel
theorem dX7_twigsBy_18 : decode cX7_twigsBy 18 = .ok (.iload_n 3, 1) := by decide +kernel
theorem dX7_twigsBy_19 : decode cX7_twigsBy 19 = .ok (.iaload, 1) := by decide +kernel
theorem dX7_twigsBy_20 : decode cX7_twigsBy 20 = .ok (.ifCond .ne 7, 3) := by decide +kernel
theorem dX7_twigsBy_23 : decode cX7_twigsBy 23 = .ok (.iconst 0, 1) := by decide +kernel
theorem dX7_twigsBy_24 : decode cX7_twigsBy 24 = .ok (.goto 19, 3) := by decide +kernel
theorem dX7_twigsBy_27 : decode cX7_twigsBy 27 = .ok (.aload_n 0, 1) := by decide +kernel
theorem dX7_twigsBy_28 : decode cX7_twigsBy 28 = .ok (.aload_n 0, 1) := by decide +kernel
theorem dX7_twigsBy_29 : decode cX7_twigsBy 29 = .ok (.getfield 34, 3) := by decide +kernel
theorem dX7_twigsBy_32 : decode cX7_twigsBy 32 = .ok (.aload_n 0, 1) := by decide +kernel
theorem dX7_twigsBy_33 : decode cX7_twigsBy 33 = .ok (.getfield 56, 3) := by decide +kernel
theorem dX7_twigsBy_36 : decode cX7_twigsBy 36 = .ok (.iload_n 3, 1) := by decide +kernel
theorem dX7_twigsBy_37 : decode cX7_twigsBy 37 = .ok (.iaload, 1) := by decide +kernel
theorem dX7_twigsBy_38 : decode cX7_twigsBy 38 = .ok (.iconst 1, 1) := by decide +kernel
theorem dX7_twigsBy_39 : decode cX7_twigsBy 39 = .ok (.isub, 1) := by decide +kernel
theorem dX7_twigsBy_40 : decode cX7_twigsBy 40 = .ok (.invokevirtual 155, 3) := by decide +kernel
theorem dX7_twigsBy_43 : decode cX7_twigsBy 43 = .ok (.iadd, 1) := by decide +kernel
theorem dX7_twigsBy_44 : decode cX7_twigsBy 44 = .ok (.istore_n 2, 1) := by decide +kernel
theorem dX7_twigsBy_45 : decode cX7_twigsBy 45 = .ok (.aload_n 0, 1) := by decide +kernel
theorem dX7_twigsBy_46 : decode cX7_twigsBy 46 = .ok (.aload_n 0, 1) := by decide +kernel
theorem dX7_twigsBy_47 : decode cX7_twigsBy 47 = .ok (.getfield 34, 3) := by decide +kernel
theorem dX7_twigsBy_50 : decode cX7_twigsBy 50 = .ok (.invokevirtual 158, 3) := by decide +kernel
theorem dX7_twigsBy_53 : decode cX7_twigsBy 53 = .ok (.iinc 3 1, 3) := by decide +kernel
theorem dX7_twigsBy_56 : decode cX7_twigsBy 56 = .ok (.goto (-48), 3) := by decide +kernel
theorem dX7_twigsBy_59 : decode cX7_twigsBy 59 = .ok (.iload_n 2, 1) := by decide +kernel
theorem dX7_twigsBy_60 : decode cX7_twigsBy 60 = .ok (.ireturn, 1) := by decide +kernel
theorem dX7_plan_0 : decode cX7_plan 0 = .ok (.aload_n 0, 1) := by decide +kernel
theorem dX7_plan_1 : decode cX7_plan 1 = .ok (.iconst 0, 1) := by decide +kernel
theorem dX7_plan_2 : decode cX7_plan 2 = .ok (.putfield 68, 3) := by decide +kernel
theorem dX7_plan_5 : decode cX7_plan 5 = .ok (.iload_n 1, 1) := by decide +kernel
theorem dX7_plan_6 : decode cX7_plan 6 = .ok (.iconst 1, 1) := by decide +kernel
theorem dX7_plan_7 : decode cX7_plan 7 = .ok (.iconst 4, 1) := by decide +kernel
theorem dX7_plan_8 : decode cX7_plan 8 = .ok (.invokestatic 72, 3) := by decide +kernel
theorem dX7_plan_11 : decode cX7_plan 11 = .ok (.ifCond .eq 12, 3) := by decide +kernel
theorem dX7_plan_14 : decode cX7_plan 14 = .ok (.iload_n 2, 1) := by decide +kernel
theorem dX7_plan_15 : decode cX7_plan 15 = .ok (.iconst (-1), 1) := by decide +kernel
theorem dX7_plan_16 : decode cX7_plan 16 = .ok (.iconst 3, 1) := by decide +kernel
theorem dX7_plan_17 : decode cX7_plan 17 = .ok (.invokestatic 72, 3) := by decide +kernel
theorem dX7_plan_20 : decode cX7_plan 20 = .ok (.ifCond .ne 5, 3) := by decide +kernel
theorem dX7_plan_23 : decode cX7_plan 23 = .ok (.iconst (-1), 1) := by decide +kernel
theorem dX7_plan_24 : decode cX7_plan 24 = .ok (.ireturn, 1) := by decide +kernel
theorem dX7_plan_25 : decode cX7_plan 25 = .ok (.iconst 1, 1) := by decide +kernel
theorem dX7_plan_26 : decode cX7_plan 26 = .ok (.istore_n 3, 1) := by decide +kernel
theorem dX7_plan_27 : decode cX7_plan 27 = .ok (.iconst 0, 1) := by decide +kernel
theorem dX7_plan_28 : decode cX7_plan 28 = .ok (.istore 4, 2) := by decide +kernel
theorem dX7_plan_30 : decode cX7_plan 30 = .ok (.iload 4, 2) := by decide +kernel
theorem dX7_plan_32 : decode cX7_plan 32 = .ok (.iload_n 1, 1) := by decide +kernel
theorem dX7_plan_33 : decode cX7_plan 33 = .ok (.if_icmp .ge 20, 3) := by decide +kernel
theorem dX7_plan_36 : decode cX7_plan 36 = .ok (.iload_n 3, 1) := by decide +kernel
theorem dX7_plan_37 : decode cX7_plan 37 = .ok (.aload_n 0, 1) := by decide +kernel
theorem dX7_plan_38 : decode cX7_plan 38 = .ok (.getfield 13, 3) := by decide +kernel
theorem dX7_plan_41 : decode cX7_plan 41 = .ok (.iconst 0, 1) := by decide +kernel
theorem dX7_plan_42 : decode cX7_plan 42 = .ok (.iaload, 1) := by decide +kernel
theorem dX7_plan_43 : decode cX7_plan 43 = .ok (.iconst 1, 1) := by decide +kernel
theorem dX7_plan_44 : decode cX7_plan 44 = .ok (.iadd, 1) := by decide +kernel
theorem dX7_plan_45 : decode cX7_plan 45 = .ok (.imul, 1) := by decide +kernel
theorem dX7_plan_46 : decode cX7_plan 46 = .ok (.istore_n 3, 1) := by decide +kernel
theorem dX7_plan_47 : decode cX7_plan 47 = .ok (.iinc 4 1, 3) := by decide +kernel
theorem dX7_plan_50 : decode cX7_plan 50 = .ok (.goto (-20), 3) := by decide +kernel
theorem dX7_plan_53 : decode cX7_plan 53 = .ok (.bipush (-9), 2) := by decide +kernel
theorem dX7_plan_55 : decode cX7_plan 55 = .ok (.istore 4, 2) := by decide +kernel
theorem dX7_plan_57 : decode cX7_plan 57 = .ok (.iconst 0, 1) := by decide +kernel
theorem dX7_plan_58 : decode cX7_plan 58 = .ok (.istore 5, 2) := by decide +kernel
theorem dX7_plan_60 : decode cX7_plan 60 = .ok (.iload 5, 2) := by decide +kernel
theorem dX7_plan_62 : decode cX7_plan 62 = .ok (.iload_n 3, 1) := by decide +kernel
theorem dX7_plan_63 : decode cX7_plan 63 = .ok (.if_icmp .ge 107, 3) := by decide +kernel
theorem dX7_plan_66 : decode cX7_plan 66 = .ok (.iload 5, 2) := by decide +kernel
theorem dX7_plan_68 : decode cX7_plan 68 = .ok (.istore 6, 2) := by decide +kernel
theorem dX7_plan_70 : decode cX7_plan 70 = .ok (.iload_n 1, 1) := by decide +kernel
theorem dX7_plan_71 : decode cX7_plan 71 = .ok (.iconst 1, 1) := by decide +kernel
theorem dX7_plan_72 : decode cX7_plan 72 = .ok (.isub, 1) := by decide +kernel
theorem dX7_plan_73 : decode cX7_plan 73 = .ok (.istore 7, 2) := by decide +kernel
theorem dX7_plan_75 : decode cX7_plan 75 = .ok (.iload 7, 2) := by decide +kernel
theorem dX7_plan_77 : decode cX7_plan 77 = .ok (.ifCond .lt 40, 3) := by decide +kernel
theorem dX7_plan_80 : decode cX7_plan 80 = .ok (.aload_n 0, 1) := by decide +kernel
theorem dX7_plan_81 : decode cX7_plan 81 = .ok (.getfield 56, 3) := by decide +kernel
theorem dX7_plan_84 : decode cX7_plan 84 = .ok (.iload 7, 2) := by decide +kernel
theorem dX7_plan_86 : decode cX7_plan 86 = .ok (.iload 6, 2) := by decide +kernel
theorem dX7_plan_88 : decode cX7_plan 88 = .ok (.aload_n 0, 1) := by decide +kernel
theorem dX7_plan_89 : decode cX7_plan 89 = .ok (.getfield 13, 3) := by decide +kernel
theorem dX7_plan_92 : decode cX7_plan 92 = .ok (.iconst 0, 1) := by decide +kernel
theorem dX7_plan_93 : decode cX7_plan 93 = .ok (.iaload, 1) := by decide +kernel
theorem dX7_plan_94 : decode cX7_plan 94 = .ok (.iconst 1, 1) := by decide +kernel
theorem dX7_plan_95 : decode cX7_plan 95 = .ok (.iadd, 1) := by decide +kernel
theorem dX7_plan_96 : decode cX7_plan 96 = .ok (.irem, 1) := by decide +kernel
theorem dX7_plan_97 : decode cX7_plan 97 = .ok (.iastore, 1) := by decide +kernel
theorem dX7_plan_98 : decode cX7_plan 98 = .ok (.iload 6, 2) := by decide +kernel
theorem dX7_plan_100 : decode cX7_plan 100 = .ok (.aload_n 0, 1) := by decide +kernel
theorem dX7_plan_101 : decode cX7_plan 101 = .ok (.getfield 13, 3) := by decide +kernel
theorem dX7_plan_104 : decode cX7_plan 104 = .ok (.iconst 0, 1) := by decide +kernel
theorem dX7_plan_105 : decode cX7_plan 105 = .ok (.iaload, 1) := by decide +kernel
theorem dX7_plan_106 : decode cX7_plan 106 = .ok (.iconst 1, 1) := by decide +kernel
theorem dX7_plan_107 : decode cX7_plan 107 = .ok (.iadd, 1) := by decide +kernel
theorem dX7_plan_108 : decode cX7_plan 108 = .ok (.idiv, 1) := by decide +kernel
theorem dX7_plan_109 : decode cX7_plan 109 = .ok (.istore 6, 2) := by decide +kernel
theorem dX7_plan_111 : decode cX7_plan 111 = .ok (.iinc 7 (-1), 3) := by decide +kernel
theorem dX7_plan_114 : decode cX7_plan 114 = .ok (.goto (-39), 3) := by decide +kernel
theorem dX7_plan_117 : decode cX7_plan 117 = .ok (.aload_n 0, 1) := by decide +kernel
theorem dX7_plan_118 : decode cX7_plan 118 = .ok (.iload_n 1, 1) := by decide +kernel
theorem dX7_plan_119 : decode cX7_plan 119 = .ok (.invokevirtual 178, 3) := by decide +kernel
theorem dX7_plan_122 : decode cX7_plan 122 = .ok (.istore 7, 2) := by decide +kernel
theorem dX7_plan_124 : decode cX7_plan 124 = .ok (.iload 7, 2) := by decide +kernel
theorem dX7_plan_126 : decode cX7_plan 126 = .ok (.iload 4, 2) := by decide +kernel
theorem dX7_plan_128 : decode cX7_plan 128 = .ok (.if_icmp .le 36, 3) := by decide +kernel
theorem dX7_plan_131 : decode cX7_plan 131 = .ok (.iload 7, 2) := by decide +kernel
theorem dX7_plan_133 : decode cX7_plan 133 = .ok (.istore 4, 2) := by decide +kernel
theorem dX7_plan_135 : decode cX7_plan 135 = .ok (.iconst 0, 1) := by decide +kernel
theorem dX7_plan_136 : decode cX7_plan 136 = .ok (.istore 8, 2) := by decide +kernel
theorem dX7_plan_138 : decode cX7_plan 138 = .ok (.iload 8, 2) := by decide +kernel
theorem dX7_plan_140 : decode cX7_plan 140 = .ok (.iload_n 1, 1) := by decide +kernel
theorem dX7_plan_141 : decode cX7_plan 141 = .ok (.if_icmp .ge 23, 3) := by decide +kernel
theorem dX7_plan_144 : decode cX7_plan 144 = .ok (.aload_n 0, 1) := by decide +kernel
theorem dX7_plan_145 : decode cX7_plan 145 = .ok (.getfield 59, 3) := by decide +kernel
theorem dX7_plan_148 : decode cX7_plan 148 = .ok (.iload 8, 2) := by decide +kernel
theorem dX7_plan_150 : decode cX7_plan 150 = .ok (.aload_n 0, 1) := by decide +kernel
theorem dX7_plan_151 : decode cX7_plan 151 = .ok (.getfield 56, 3) := by decide +kernel
theorem dX7_plan_154 : decode cX7_plan 154 = .ok (.iload 8, 2) := by decide +kernel
theorem dX7_plan_156 : decode cX7_plan 156 = .ok (.iaload, 1) := by decide +kernel
theorem dX7_plan_157 : decode cX7_plan 157 = .ok (.iastore, 1) := by decide +kernel
theorem dX7_plan_158 : decode cX7_plan 158 = .ok (.iinc 8 1, 3) := by decide +kernel
theorem dX7_plan_161 : decode cX7_plan 161 = .ok (.goto (-23), 3) := by decide +kernel
theorem dX7_plan_164 : decode cX7_plan 164 = .ok (.iinc 5 1, 3) := by decide +kernel
theorem dX7_plan_167 : decode cX7_plan 167 = .ok (.goto (-107), 3) := by decide +kernel
theorem dX7_plan_170 : decode cX7_plan 170 = .ok (.iload_n 2, 1) := by decide +kernel
theorem dX7_plan_171 : decode cX7_plan 171 = .ok (.iconst (-1), 1) := by decide +kernel
theorem dX7_plan_172 : decode cX7_plan 172 = .ok (.if_icmp .ne 8, 3) := by decide +kernel
theorem dX7_plan_175 : decode cX7_plan 175 = .ok (.iload 4, 2) := by decide +kernel
theorem dX7_plan_177 : decode cX7_plan 177 = .ok (.goto 35, 3) := by decide +kernel
theorem dX7_plan_180 : decode cX7_plan 180 = .ok (.iload_n 2, 1) := by decide +kernel
theorem dX7_plan_181 : decode cX7_plan 181 = .ok (.iload_n 1, 1) := by decide +kernel
theorem dX7_plan_182 : decode cX7_plan 182 = .ok (.if_icmp .lt 8, 3) := by decide +kernel
theorem dX7_plan_185 : decode cX7_plan 185 = .ok (.bipush (-9), 2) := by decide +kernel
theorem dX7_plan_187 : decode cX7_plan 187 = .ok (.goto 25, 3) := by decide +kernel
theorem dX7_plan_190 : decode cX7_plan 190 = .ok (.aload_n 0, 1) := by decide +kernel
theorem dX7_plan_191 : decode cX7_plan 191 = .ok (.getfield 59, 3) := by decide +kernel
theorem dX7_plan_194 : decode cX7_plan 194 = .ok (.iload_n 2, 1) := by decide +kernel
theorem dX7_plan_195 : decode cX7_plan 195 = .ok (.iaload, 1) := by decide +kernel
theorem dX7_plan_196 : decode cX7_plan 196 = .ok (.ifCond .ne 8, 3) := by decide +kernel
theorem dX7_plan_199 : decode cX7_plan 199 = .ok (.bipush (-5), 2) := by decide +kernel
theorem dX7_plan_201 : decode cX7_plan 201 = .ok (.goto 11, 3) := by decide +kernel
theorem dX7_plan_204 : decode cX7_plan 204 = .ok (.aload_n 0, 1) := by decide +kernel
theorem dX7_plan_205 : decode cX7_plan 205 = .ok (.getfield 59, 3) := by decide +kernel
theorem dX7_plan_208 : decode cX7_plan 208 = .ok (.iload_n 2, 1) := by decide +kernel
theorem dX7_plan_209 : decode cX7_plan 209 = .ok (.iaload, 1) := by decide +kernel
theorem dX7_plan_210 : decode cX7_plan 210 = .ok (.iconst 1, 1) := by decide +kernel
theorem dX7_plan_211 : decode cX7_plan 211 = .ok (.isub, 1) := by decide +kernel
theorem dX7_plan_212 : decode cX7_plan 212 = .ok (.ireturn, 1) := by decide +kernel
theorem dX7_besomsBy_0 : decode cX7_besomsBy 0 = .ok (.iconst 0, 1) := by decide +kernel
theorem dX7_besomsBy_1 : decode cX7_besomsBy 1 = .ok (.istore_n 3, 1) := by decide +kernel
theorem dX7_besomsBy_2 : decode cX7_besomsBy 2 = .ok (.iconst 0, 1) := by decide +kernel
theorem dX7_besomsBy_3 : decode cX7_besomsBy 3 = .ok (.istore 4, 2) := by decide +kernel
theorem dX7_besomsBy_5 : decode cX7_besomsBy 5 = .ok (.iload 4, 2) := by decide +kernel
theorem dX7_besomsBy_7 : decode cX7_besomsBy 7 = .ok (.aload_n 0, 1) := by decide +kernel
theorem dX7_besomsBy_8 : decode cX7_besomsBy 8 = .ok (.getfield 13, 3) := by decide +kernel
theorem dX7_besomsBy_11 : decode cX7_besomsBy 11 = .ok (.iconst 1, 1) := by decide +kernel
theorem dX7_besomsBy_12 : decode cX7_besomsBy 12 = .ok (.iaload, 1) := by decide +kernel
theorem dX7_besomsBy_13 : decode cX7_besomsBy 13 = .ok (.if_icmp .ge 44, 3) := by decide +kernel
theorem dX7_besomsBy_16 : decode cX7_besomsBy 16 = .ok (.iload_n 3, 1) := by decide +kernel
theorem dX7_besomsBy_17 : decode cX7_besomsBy 17 = .ok (.iload_n 1, 1) := by decide +kernel
theorem dX7_besomsBy_18 : decode cX7_besomsBy 18 = .ok (.iload 4, 2) := by decide +kernel
theorem dX7_besomsBy_20 : decode cX7_besomsBy 20 = .ok (.ishr, 1) := by decide +kernel
theorem dX7_besomsBy_21 : decode cX7_besomsBy 21 = .ok (.iconst 1, 1) := by decide +kernel
theorem dX7_besomsBy_22 : decode cX7_besomsBy 22 = .ok (.iand, 1) := by decide +kernel
theorem dX7_besomsBy_23 : decode cX7_besomsBy 23 = .ok (.iconst 1, 1) := by decide +kernel
theorem dX7_besomsBy_24 : decode cX7_besomsBy 24 = .ok (.if_icmp .ne 24, 3) := by decide +kernel
theorem dX7_besomsBy_27 : decode cX7_besomsBy 27 = .ok (.aload_n 0, 1) := by decide +kernel
theorem dX7_besomsBy_28 : decode cX7_besomsBy 28 = .ok (.getfield 22, 3) := by decide +kernel
theorem dX7_besomsBy_31 : decode cX7_besomsBy 31 = .ok (.iload 4, 2) := by decide +kernel
theorem dX7_besomsBy_33 : decode cX7_besomsBy 33 = .ok (.iaload, 1) := by decide +kernel
theorem dX7_besomsBy_34 : decode cX7_besomsBy 34 = .ok (.iload_n 2, 1) := by decide +kernel
theorem dX7_besomsBy_35 : decode cX7_besomsBy 35 = .ok (.if_icmp .gt 13, 3) := by decide +kernel
theorem dX7_besomsBy_38 : decode cX7_besomsBy 38 = .ok (.aload_n 0, 1) := by decide +kernel
theorem dX7_besomsBy_39 : decode cX7_besomsBy 39 = .ok (.getfield 25, 3) := by decide +kernel
theorem dX7_besomsBy_42 : decode cX7_besomsBy 42 = .ok (.iload 4, 2) := by decide +kernel
theorem dX7_besomsBy_44 : decode cX7_besomsBy 44 = .ok (.iaload, 1) := by decide +kernel
theorem dX7_besomsBy_45 : decode cX7_besomsBy 45 = .ok (.goto 4, 3) := by decide +kernel
theorem dX7_besomsBy_48 : decode cX7_besomsBy 48 = .ok (.iconst 0, 1) := by decide +kernel
theorem dX7_besomsBy_49 : decode cX7_besomsBy 49 = .ok (.iadd, 1) := by decide +kernel
theorem dX7_besomsBy_50 : decode cX7_besomsBy 50 = .ok (.istore_n 3, 1) := by decide +kernel
theorem dX7_besomsBy_51 : decode cX7_besomsBy 51 = .ok (.iinc 4 1, 3) := by decide +kernel
theorem dX7_besomsBy_54 : decode cX7_besomsBy 54 = .ok (.goto (-49), 3) := by decide +kernel
theorem dX7_besomsBy_57 : decode cX7_besomsBy 57 = .ok (.iload_n 3, 1) := by decide +kernel
theorem dX7_besomsBy_58 : decode cX7_besomsBy 58 = .ok (.ireturn, 1) := by decide +kernel
theorem dX7_canBeKept_0 : decode cX7_canBeKept 0 = .ok (.aload_n 0, 1) := by decide +kernel
theorem dX7_canBeKept_1 : decode cX7_canBeKept 1 = .ok (.iload_n 1, 1) := by decide +kernel
theorem dX7_canBeKept_2 : decode cX7_canBeKept 2 = .ok (.bipush 60, 2) := by decide +kernel
theorem dX7_canBeKept_4 : decode cX7_canBeKept 4 = .ok (.invokevirtual 181, 3) := by decide +kernel
theorem dX7_canBeKept_7 : decode cX7_canBeKept 7 = .ok (.aload_n 0, 1) := by decide +kernel
theorem dX7_canBeKept_8 : decode cX7_canBeKept 8 = .ok (.getfield 31, 3) := by decide +kernel
theorem dX7_canBeKept_11 : decode cX7_canBeKept 11 = .ok (.iconst 3, 1) := by decide +kernel
theorem dX7_canBeKept_12 : decode cX7_canBeKept 12 = .ok (.iaload, 1) := by decide +kernel
theorem dX7_canBeKept_13 : decode cX7_canBeKept 13 = .ok (.isub, 1) := by decide +kernel
theorem dX7_canBeKept_14 : decode cX7_canBeKept 14 = .ok (.istore_n 2, 1) := by decide +kernel
theorem dX7_canBeKept_15 : decode cX7_canBeKept 15 = .ok (.iload_n 2, 1) := by decide +kernel
theorem dX7_canBeKept_16 : decode cX7_canBeKept 16 = .ok (.ifCond .le 20, 3) := by decide +kernel
theorem dX7_canBeKept_19 : decode cX7_canBeKept 19 = .ok (.iload_n 2, 1) := by decide +kernel
theorem dX7_canBeKept_20 : decode cX7_canBeKept 20 = .ok (.aload_n 0, 1) := by decide +kernel
theorem dX7_canBeKept_21 : decode cX7_canBeKept 21 = .ok (.getfield 13, 3) := by decide +kernel
theorem dX7_canBeKept_24 : decode cX7_canBeKept 24 = .ok (.iconst 3, 1) := by decide +kernel
theorem dX7_canBeKept_25 : decode cX7_canBeKept 25 = .ok (.iaload, 1) := by decide +kernel
theorem dX7_canBeKept_26 : decode cX7_canBeKept 26 = .ok (.imul, 1) := by decide +kernel
theorem dX7_canBeKept_27 : decode cX7_canBeKept 27 = .ok (.aload_n 0, 1) := by decide +kernel
theorem dX7_canBeKept_28 : decode cX7_canBeKept 28 = .ok (.getfield 31, 3) := by decide +kernel
theorem dX7_canBeKept_31 : decode cX7_canBeKept 31 = .ok (.iconst 2, 1) := by decide +kernel
theorem dX7_canBeKept_32 : decode cX7_canBeKept 32 = .ok (.iaload, 1) := by decide +kernel
theorem dX7_canBeKept_33 : decode cX7_canBeKept 33 = .ok (.if_icmp .gt 7, 3) := by decide +kernel
theorem dX7_canBeKept_36 : decode cX7_canBeKept 36 = .ok (.iconst 1, 1) := by decide +kernel
theorem dX7_canBeKept_37 : decode cX7_canBeKept 37 = .ok (.goto 4, 3) := by decide +kernel
theorem dX7_canBeKept_40 : decode cX7_canBeKept 40 = .ok (.iconst 0, 1) := by decide +kernel
theorem dX7_canBeKept_41 : decode cX7_canBeKept 41 = .ok (.istore_n 3, 1) := by decide +kernel
theorem dX7_canBeKept_42 : decode cX7_canBeKept 42 = .ok (.iconst 0, 1) := by decide +kernel
theorem dX7_canBeKept_43 : decode cX7_canBeKept 43 = .ok (.istore 4, 2) := by decide +kernel
theorem dX7_canBeKept_45 : decode cX7_canBeKept 45 = .ok (.iload 4, 2) := by decide +kernel
theorem dX7_canBeKept_47 : decode cX7_canBeKept 47 = .ok (.aload_n 0, 1) := by decide +kernel
theorem dX7_canBeKept_48 : decode cX7_canBeKept 48 = .ok (.getfield 13, 3) := by decide +kernel
theorem dX7_canBeKept_51 : decode cX7_canBeKept 51 = .ok (.iconst 1, 1) := by decide +kernel
theorem dX7_canBeKept_52 : decode cX7_canBeKept 52 = .ok (.iaload, 1) := by decide +kernel
theorem dX7_canBeKept_53 : decode cX7_canBeKept 53 = .ok (.if_icmp .ge 90, 3) := by decide +kernel
theorem dX7_canBeKept_56 : decode cX7_canBeKept 56 = .ok (.iload_n 1, 1) := by decide +kernel
theorem dX7_canBeKept_57 : decode cX7_canBeKept 57 = .ok (.iload 4, 2) := by decide +kernel
theorem dX7_canBeKept_59 : decode cX7_canBeKept 59 = .ok (.ishr, 1) := by decide +kernel
theorem dX7_canBeKept_60 : decode cX7_canBeKept 60 = .ok (.iconst 1, 1) := by decide +kernel
theorem dX7_canBeKept_61 : decode cX7_canBeKept 61 = .ok (.iand, 1) := by decide +kernel
theorem dX7_canBeKept_62 : decode cX7_canBeKept 62 = .ok (.iconst 1, 1) := by decide +kernel
theorem dX7_canBeKept_63 : decode cX7_canBeKept 63 = .ok (.if_icmp .ne 74, 3) := by decide +kernel
theorem dX7_canBeKept_66 : decode cX7_canBeKept 66 = .ok (.aload_n 0, 1) := by decide +kernel
theorem dX7_canBeKept_67 : decode cX7_canBeKept 67 = .ok (.getfield 22, 3) := by decide +kernel
theorem dX7_canBeKept_70 : decode cX7_canBeKept 70 = .ok (.iload 4, 2) := by decide +kernel
theorem dX7_canBeKept_72 : decode cX7_canBeKept 72 = .ok (.iaload, 1) := by decide +kernel
theorem dX7_canBeKept_73 : decode cX7_canBeKept 73 = .ok (.aload_n 0, 1) := by decide +kernel
theorem dX7_canBeKept_74 : decode cX7_canBeKept 74 = .ok (.getfield 31, 3) := by decide +kernel
theorem dX7_canBeKept_77 : decode cX7_canBeKept 77 = .ok (.iconst 0, 1) := by decide +kernel
theorem dX7_canBeKept_78 : decode cX7_canBeKept 78 = .ok (.iaload, 1) := by decide +kernel
theorem dX7_canBeKept_79 : decode cX7_canBeKept 79 = .ok (.isub, 1) := by decide +kernel
theorem dX7_canBeKept_80 : decode cX7_canBeKept 80 = .ok (.istore 5, 2) := by decide +kernel
theorem dX7_canBeKept_82 : decode cX7_canBeKept 82 = .ok (.iload_n 3, 1) := by decide +kernel
theorem dX7_canBeKept_83 : decode cX7_canBeKept 83 = .ok (.ifCond .eq 52, 3) := by decide +kernel
theorem dX7_canBeKept_86 : decode cX7_canBeKept 86 = .ok (.aload_n 0, 1) := by decide +kernel
theorem dX7_canBeKept_87 : decode cX7_canBeKept 87 = .ok (.iload 4, 2) := by decide +kernel
theorem dX7_canBeKept_89 : decode cX7_canBeKept 89 = .ok (.invokevirtual 149, 3) := by decide +kernel
theorem dX7_canBeKept_92 : decode cX7_canBeKept 92 = .ok (.ifCond .ne 43, 3) := by decide +kernel
theorem dX7_canBeKept_95 : decode cX7_canBeKept 95 = .ok (.iload 5, 2) := by decide +kernel
theorem dX7_canBeKept_97 : decode cX7_canBeKept 97 = .ok (.ifCond .lt 38, 3) := by decide +kernel
theorem dX7_canBeKept_100 : decode cX7_canBeKept 100 = .ok (.aload_n 0, 1) := by decide +kernel
theorem dX7_canBeKept_101 : decode cX7_canBeKept 101 = .ok (.iload_n 1, 1) := by decide +kernel
theorem dX7_canBeKept_102 : decode cX7_canBeKept 102 = .ok (.aload_n 0, 1) := by decide +kernel
theorem dX7_canBeKept_103 : decode cX7_canBeKept 103 = .ok (.getfield 22, 3) := by decide +kernel
theorem dX7_canBeKept_106 : decode cX7_canBeKept 106 = .ok (.iload 4, 2) := by decide +kernel
theorem dX7_canBeKept_108 : decode cX7_canBeKept 108 = .ok (.iaload, 1) := by decide +kernel
theorem dX7_canBeKept_109 : decode cX7_canBeKept 109 = .ok (.invokevirtual 181, 3) := by decide +kernel
theorem dX7_canBeKept_112 : decode cX7_canBeKept 112 = .ok (.aload_n 0, 1) := by decide +kernel
theorem dX7_canBeKept_113 : decode cX7_canBeKept 113 = .ok (.getfield 31, 3) := by decide +kernel
theorem dX7_canBeKept_116 : decode cX7_canBeKept 116 = .ok (.iconst 3, 1) := by decide +kernel
theorem dX7_canBeKept_117 : decode cX7_canBeKept 117 = .ok (.iaload, 1) := by decide +kernel
theorem dX7_canBeKept_118 : decode cX7_canBeKept 118 = .ok (.aload_n 0, 1) := by decide +kernel
theorem dX7_canBeKept_119 : decode cX7_canBeKept 119 = .ok (.getfield 13, 3) := by decide +kernel
theorem dX7_canBeKept_122 : decode cX7_canBeKept 122 = .ok (.iconst 4, 1) := by decide +kernel
theorem dX7_canBeKept_123 : decode cX7_canBeKept 123 = .ok (.iaload, 1) := by decide +kernel
theorem dX7_canBeKept_124 : decode cX7_canBeKept 124 = .ok (.iload 5, 2) := by decide +kernel
theorem dX7_canBeKept_126 : decode cX7_canBeKept 126 = .ok (.imul, 1) := by decide +kernel
theorem dX7_canBeKept_127 : decode cX7_canBeKept 127 = .ok (.iadd, 1) := by decide +kernel
theorem dX7_canBeKept_128 : decode cX7_canBeKept 128 = .ok (.if_icmp .gt 7, 3) := by decide +kernel
theorem dX7_canBeKept_131 : decode cX7_canBeKept 131 = .ok (.iconst 1, 1) := by decide +kernel
theorem dX7_canBeKept_132 : decode cX7_canBeKept 132 = .ok (.goto 4, 3) := by decide +kernel
theorem dX7_canBeKept_135 : decode cX7_canBeKept 135 = .ok (.iconst 0, 1) := by decide +kernel
theorem dX7_canBeKept_136 : decode cX7_canBeKept 136 = .ok (.istore_n 3, 1) := by decide +kernel
theorem dX7_canBeKept_137 : decode cX7_canBeKept 137 = .ok (.iinc 4 1, 3) := by decide +kernel
theorem dX7_canBeKept_140 : decode cX7_canBeKept 140 = .ok (.goto (-95), 3) := by decide +kernel
theorem dX7_canBeKept_143 : decode cX7_canBeKept 143 = .ok (.iload_n 3, 1) := by decide +kernel
theorem dX7_canBeKept_144 : decode cX7_canBeKept 144 = .ok (.ireturn, 1) := by decide +kernel
theorem dX7_coinsOf_0 : decode cX7_coinsOf 0 = .ok (.iconst 0, 1) := by decide +kernel
theorem dX7_coinsOf_1 : decode cX7_coinsOf 1 = .ok (.istore_n 2, 1) := by decide +kernel
theorem dX7_coinsOf_2 : decode cX7_coinsOf 2 = .ok (.iconst 0, 1) := by decide +kernel
theorem dX7_coinsOf_3 : decode cX7_coinsOf 3 = .ok (.istore_n 3, 1) := by decide +kernel
theorem dX7_coinsOf_4 : decode cX7_coinsOf 4 = .ok (.iload_n 3, 1) := by decide +kernel
theorem dX7_coinsOf_5 : decode cX7_coinsOf 5 = .ok (.aload_n 0, 1) := by decide +kernel
theorem dX7_coinsOf_6 : decode cX7_coinsOf 6 = .ok (.getfield 13, 3) := by decide +kernel
theorem dX7_coinsOf_9 : decode cX7_coinsOf 9 = .ok (.iconst 1, 1) := by decide +kernel
theorem dX7_coinsOf_10 : decode cX7_coinsOf 10 = .ok (.iaload, 1) := by decide +kernel
theorem dX7_coinsOf_11 : decode cX7_coinsOf 11 = .ok (.if_icmp .ge 31, 3) := by decide +kernel
theorem dX7_coinsOf_14 : decode cX7_coinsOf 14 = .ok (.iload_n 2, 1) := by decide +kernel
theorem dX7_coinsOf_15 : decode cX7_coinsOf 15 = .ok (.iload_n 1, 1) := by decide +kernel
theorem dX7_coinsOf_16 : decode cX7_coinsOf 16 = .ok (.iload_n 3, 1) := by decide +kernel
theorem dX7_coinsOf_17 : decode cX7_coinsOf 17 = .ok (.ishr, 1) := by decide +kernel
theorem dX7_coinsOf_18 : decode cX7_coinsOf 18 = .ok (.iconst 1, 1) := by decide +kernel
theorem dX7_coinsOf_19 : decode cX7_coinsOf 19 = .ok (.iand, 1) := by decide +kernel
theorem dX7_coinsOf_20 : decode cX7_coinsOf 20 = .ok (.iconst 1, 1) := by decide +kernel
theorem dX7_coinsOf_21 : decode cX7_coinsOf 21 = .ok (.if_icmp .ne 12, 3) := by decide +kernel
theorem dX7_coinsOf_24 : decode cX7_coinsOf 24 = .ok (.aload_n 0, 1) := by decide +kernel
theorem dX7_coinsOf_25 : decode cX7_coinsOf 25 = .ok (.getfield 28, 3) := by decide +kernel
theorem dX7_coinsOf_28 : decode cX7_coinsOf 28 = .ok (.iload_n 3, 1) := by decide +kernel
theorem dX7_coinsOf_29 : decode cX7_coinsOf 29 = .ok (.iaload, 1) := by decide +kernel
theorem dX7_coinsOf_30 : decode cX7_coinsOf 30 = .ok (.goto 4, 3) := by decide +kernel
theorem dX7_coinsOf_33 : decode cX7_coinsOf 33 = .ok (.iconst 0, 1) := by decide +kernel
theorem dX7_coinsOf_34 : decode cX7_coinsOf 34 = .ok (.iadd, 1) := by decide +kernel
theorem dX7_coinsOf_35 : decode cX7_coinsOf 35 = .ok (.istore_n 2, 1) := by decide +kernel
theorem dX7_coinsOf_36 : decode cX7_coinsOf 36 = .ok (.iinc 3 1, 3) := by decide +kernel
theorem dX7_coinsOf_39 : decode cX7_coinsOf 39 = .ok (.goto (-35), 3) := by decide +kernel
theorem dX7_coinsOf_42 : decode cX7_coinsOf 42 = .ok (.iload_n 2, 1) := by decide +kernel
theorem dX7_coinsOf_43 : decode cX7_coinsOf 43 = .ok (.ireturn, 1) := by decide +kernel
theorem dX7_kept_0 : decode cX7_kept 0 = .ok (.aload_n 0, 1) := by decide +kernel
theorem dX7_kept_1 : decode cX7_kept 1 = .ok (.iconst 0, 1) := by decide +kernel
theorem dX7_kept_2 : decode cX7_kept 2 = .ok (.putfield 68, 3) := by decide +kernel
theorem dX7_kept_5 : decode cX7_kept 5 = .ok (.iload_n 1, 1) := by decide +kernel
theorem dX7_kept_6 : decode cX7_kept 6 = .ok (.iconst 0, 1) := by decide +kernel
theorem dX7_kept_7 : decode cX7_kept 7 = .ok (.iconst 1, 1) := by decide +kernel
theorem dX7_kept_8 : decode cX7_kept 8 = .ok (.invokestatic 72, 3) := by decide +kernel
theorem dX7_kept_11 : decode cX7_kept 11 = .ok (.ifCond .ne 5, 3) := by decide +kernel
theorem dX7_kept_14 : decode cX7_kept 14 = .ok (.iconst (-1), 1) := by decide +kernel
theorem dX7_kept_15 : decode cX7_kept 15 = .ok (.ireturn, 1) := by decide +kernel
theorem dX7_kept_16 : decode cX7_kept 16 = .ok (.iconst 0, 1) := by decide +kernel
theorem dX7_kept_17 : decode cX7_kept 17 = .ok (.istore_n 2, 1) := by decide +kernel
theorem dX7_kept_18 : decode cX7_kept 18 = .ok (.iconst 1, 1) := by decide +kernel
theorem dX7_kept_19 : decode cX7_kept 19 = .ok (.istore_n 3, 1) := by decide +kernel
theorem dX7_kept_20 : decode cX7_kept 20 = .ok (.iload_n 3, 1) := by decide +kernel
theorem dX7_kept_21 : decode cX7_kept 21 = .ok (.iconst 1, 1) := by decide +kernel
theorem dX7_kept_22 : decode cX7_kept 22 = .ok (.aload_n 0, 1) := by decide +kernel
theorem dX7_kept_23 : decode cX7_kept 23 = .ok (.getfield 13, 3) := by decide +kernel
theorem dX7_kept_26 : decode cX7_kept 26 = .ok (.iconst 1, 1) := by decide +kernel
theorem dX7_kept_27 : decode cX7_kept 27 = .ok (.iaload, 1) := by decide +kernel
theorem dX7_kept_28 : decode cX7_kept 28 = .ok (.ishl, 1) := by decide +kernel
theorem dX7_kept_29 : decode cX7_kept 29 = .ok (.if_icmp .ge 36, 3) := by decide +kernel
theorem dX7_kept_32 : decode cX7_kept 32 = .ok (.aload_n 0, 1) := by decide +kernel
theorem dX7_kept_33 : decode cX7_kept 33 = .ok (.iload_n 3, 1) := by decide +kernel
theorem dX7_kept_34 : decode cX7_kept 34 = .ok (.invokevirtual 184, 3) := by decide +kernel
theorem dX7_kept_37 : decode cX7_kept 37 = .ok (.aload_n 0, 1) := by decide +kernel
theorem dX7_kept_38 : decode cX7_kept 38 = .ok (.iload_n 2, 1) := by decide +kernel
theorem dX7_kept_39 : decode cX7_kept 39 = .ok (.invokevirtual 184, 3) := by decide +kernel
theorem dX7_kept_42 : decode cX7_kept 42 = .ok (.if_icmp .le 15, 3) := by decide +kernel
theorem dX7_kept_45 : decode cX7_kept 45 = .ok (.aload_n 0, 1) := by decide +kernel
theorem dX7_kept_46 : decode cX7_kept 46 = .ok (.iload_n 3, 1) := by decide +kernel
theorem dX7_kept_47 : decode cX7_kept 47 = .ok (.invokevirtual 187, 3) := by decide +kernel
theorem dX7_kept_50 : decode cX7_kept 50 = .ok (.ifCond .eq 7, 3) := by decide +kernel
theorem dX7_kept_53 : decode cX7_kept 53 = .ok (.iload_n 3, 1) := by decide +kernel
theorem dX7_kept_54 : decode cX7_kept 54 = .ok (.goto 4, 3) := by decide +kernel
theorem dX7_kept_57 : decode cX7_kept 57 = .ok (.iload_n 2, 1) := by decide +kernel
theorem dX7_kept_58 : decode cX7_kept 58 = .ok (.istore_n 2, 1) := by decide +kernel
theorem dX7_kept_59 : decode cX7_kept 59 = .ok (.iinc 3 1, 3) := by decide +kernel
theorem dX7_kept_62 : decode cX7_kept 62 = .ok (.goto (-42), 3) := by decide +kernel
theorem dX7_kept_65 : decode cX7_kept 65 = .ok (.iload_n 1, 1) := by decide +kernel
theorem dX7_kept_66 : decode cX7_kept 66 = .ok (.ifCond .ne 7, 3) := by decide +kernel
theorem dX7_kept_69 : decode cX7_kept 69 = .ok (.iload_n 2, 1) := by decide +kernel
theorem dX7_kept_70 : decode cX7_kept 70 = .ok (.goto 8, 3) := by decide +kernel
theorem dX7_kept_73 : decode cX7_kept 73 = .ok (.aload_n 0, 1) := by decide +kernel
theorem dX7_kept_74 : decode cX7_kept 74 = .ok (.iload_n 2, 1) := by decide +kernel
theorem dX7_kept_75 : decode cX7_kept 75 = .ok (.invokevirtual 184, 3) := by decide +kernel
theorem dX7_kept_78 : decode cX7_kept 78 = .ok (.ireturn, 1) := by decide +kernel
theorem dX7_next_0 : decode cX7_next 0 = .ok (.aload_n 0, 1) := by decide +kernel
theorem dX7_next_1 : decode cX7_next 1 = .ok (.iconst 0, 1) := by decide +kernel
theorem dX7_next_2 : decode cX7_next 2 = .ok (.putfield 68, 3) := by decide +kernel
theorem dX7_next_5 : decode cX7_next 5 = .ok (.iload_n 1, 1) := by decide +kernel
theorem dX7_next_6 : decode cX7_next 6 = .ok (.iconst 0, 1) := by decide +kernel
theorem dX7_next_7 : decode cX7_next 7 = .ok (.iconst 1, 1) := by decide +kernel
theorem dX7_next_8 : decode cX7_next 8 = .ok (.invokestatic 72, 3) := by decide +kernel
theorem dX7_next_11 : decode cX7_next 11 = .ok (.ifCond .ne 5, 3) := by decide +kernel
theorem dX7_next_14 : decode cX7_next 14 = .ok (.iconst (-1), 1) := by decide +kernel
theorem dX7_next_15 : decode cX7_next 15 = .ok (.ireturn, 1) := by decide +kernel
theorem dX7_next_16 : decode cX7_next 16 = .ok (.bipush (-9), 2) := by decide +kernel
theorem dX7_next_18 : decode cX7_next 18 = .ok (.istore_n 2, 1) := by decide +kernel
theorem dX7_next_19 : decode cX7_next 19 = .ok (.iconst 0, 1) := by decide +kernel
theorem dX7_next_20 : decode cX7_next 20 = .ok (.istore_n 3, 1) := by decide +kernel
theorem dX7_next_21 : decode cX7_next 21 = .ok (.iload_n 3, 1) := by decide +kernel
theorem dX7_next_22 : decode cX7_next 22 = .ok (.aload_n 0, 1) := by decide +kernel
theorem dX7_next_23 : decode cX7_next 23 = .ok (.getfield 13, 3) := by decide +kernel
theorem dX7_next_26 : decode cX7_next 26 = .ok (.iconst 1, 1) := by decide +kernel
theorem dX7_next_27 : decode cX7_next 27 = .ok (.iaload, 1) := by decide +kernel
theorem dX7_next_28 : decode cX7_next 28 = .ok (.if_icmp .ge 92, 3) := by decide +kernel
theorem dX7_next_31 : decode cX7_next 31 = .ok (.iload_n 2, 1) := by decide +kernel
theorem dX7_next_32 : decode cX7_next 32 = .ok (.bipush (-9), 2) := by decide +kernel
theorem dX7_next_34 : decode cX7_next 34 = .ok (.if_icmp .eq 54, 3) := by decide +kernel
theorem dX7_next_37 : decode cX7_next 37 = .ok (.iload_n 1, 1) := by decide +kernel
theorem dX7_next_38 : decode cX7_next 38 = .ok (.ifCond .ne 21, 3) := by decide +kernel
theorem dX7_next_41 : decode cX7_next 41 = .ok (.aload_n 0, 1) := by decide +kernel
theorem dX7_next_42 : decode cX7_next 42 = .ok (.getfield 22, 3) := by decide +kernel
theorem dX7_next_45 : decode cX7_next 45 = .ok (.iload_n 3, 1) := by decide +kernel
theorem dX7_next_46 : decode cX7_next 46 = .ok (.iaload, 1) := by decide +kernel
theorem dX7_next_47 : decode cX7_next 47 = .ok (.aload_n 0, 1) := by decide +kernel
theorem dX7_next_48 : decode cX7_next 48 = .ok (.getfield 22, 3) := by decide +kernel
theorem dX7_next_51 : decode cX7_next 51 = .ok (.iload_n 2, 1) := by decide +kernel
theorem dX7_next_52 : decode cX7_next 52 = .ok (.iaload, 1) := by decide +kernel
theorem dX7_next_53 : decode cX7_next 53 = .ok (.if_icmp .ge 39, 3) := by decide +kernel
theorem dX7_next_56 : decode cX7_next 56 = .ok (.goto 32, 3) := by decide +kernel
theorem dX7_next_59 : decode cX7_next 59 = .ok (.aload_n 0, 1) := by decide +kernel
theorem dX7_next_60 : decode cX7_next 60 = .ok (.getfield 28, 3) := by decide +kernel
theorem dX7_next_63 : decode cX7_next 63 = .ok (.iload_n 3, 1) := by decide +kernel
theorem dX7_next_64 : decode cX7_next 64 = .ok (.iaload, 1) := by decide +kernel
theorem dX7_next_65 : decode cX7_next 65 = .ok (.aload_n 0, 1) := by decide +kernel
theorem dX7_next_66 : decode cX7_next 66 = .ok (.getfield 25, 3) := by decide +kernel
theorem dX7_next_69 : decode cX7_next 69 = .ok (.iload_n 2, 1) := by decide +kernel
theorem dX7_next_70 : decode cX7_next 70 = .ok (.iaload, 1) := by decide +kernel
theorem dX7_next_71 : decode cX7_next 71 = .ok (.imul, 1) := by decide +kernel
theorem dX7_next_72 : decode cX7_next 72 = .ok (.aload_n 0, 1) := by decide +kernel
theorem dX7_next_73 : decode cX7_next 73 = .ok (.getfield 28, 3) := by decide +kernel
theorem dX7_next_76 : decode cX7_next 76 = .ok (.iload_n 2, 1) := by decide +kernel
theorem dX7_next_77 : decode cX7_next 77 = .ok (.iaload, 1) := by decide +kernel
theorem dX7_next_78 : decode cX7_next 78 = .ok (.aload_n 0, 1) := by decide +kernel
theorem dX7_next_79 : decode cX7_next 79 = .ok (.getfield 25, 3) := by decide +kernel
theorem dX7_next_82 : decode cX7_next 82 = .ok (.iload_n 3, 1) := by decide +kernel
theorem dX7_next_83 : decode cX7_next 83 = .ok (.iaload, 1) := by decide +kernel
theorem dX7_next_84 : decode cX7_next 84 = .ok (.imul, 1) := by decide +kernel
theorem dX7_next_85 : decode cX7_next 85 = .ok (.if_icmp .le 7, 3) := by decide +kernel
theorem dX7_next_88 : decode cX7_next 88 = .ok (.iconst 1, 1) := by decide +kernel
theorem dX7_next_89 : decode cX7_next 89 = .ok (.goto 4, 3) := by decide +kernel
theorem dX7_next_92 : decode cX7_next 92 = .ok (.iconst 0, 1) := by decide +kernel
theorem dX7_next_93 : decode cX7_next 93 = .ok (.istore 4, 2) := by decide +kernel
theorem dX7_next_95 : decode cX7_next 95 = .ok (.iload 4, 2) := by decide +kernel
theorem dX7_next_97 : decode cX7_next 97 = .ok (.ifCond .eq 15, 3) := by decide +kernel
theorem dX7_next_100 : decode cX7_next 100 = .ok (.aload_n 0, 1) := by decide +kernel
theorem dX7_next_101 : decode cX7_next 101 = .ok (.iload_n 3, 1) := by decide +kernel
theorem dX7_next_102 : decode cX7_next 102 = .ok (.invokevirtual 149, 3) := by decide +kernel
theorem dX7_next_105 : decode cX7_next 105 = .ok (.ifCond .ne 7, 3) := by decide +kernel
theorem dX7_next_108 : decode cX7_next 108 = .ok (.iload_n 3, 1) := by decide +kernel
theorem dX7_next_109 : decode cX7_next 109 = .ok (.goto 4, 3) := by decide +kernel
theorem dX7_next_112 : decode cX7_next 112 = .ok (.iload_n 2, 1) := by decide +kernel
theorem dX7_next_113 : decode cX7_next 113 = .ok (.istore_n 2, 1) := by decide +kernel
theorem dX7_next_114 : decode cX7_next 114 = .ok (.iinc 3 1, 3) := by decide +kernel
theorem dX7_next_117 : decode cX7_next 117 = .ok (.goto (-96), 3) := by decide +kernel
theorem dX7_next_120 : decode cX7_next 120 = .ok (.iload_n 2, 1) := by decide +kernel
theorem dX7_next_121 : decode cX7_next 121 = .ok (.ireturn, 1) := by decide +kernel
theorem dX7_wanted_0 : decode cX7_wanted 0 = .ok (.aload_n 0, 1) := by decide +kernel
theorem dX7_wanted_1 : decode cX7_wanted 1 = .ok (.iconst 1, 1) := by decide +kernel
theorem dX7_wanted_2 : decode cX7_wanted 2 = .ok (.aload_n 0, 1) := by decide +kernel
theorem dX7_wanted_3 : decode cX7_wanted 3 = .ok (.getfield 13, 3) := by decide +kernel
theorem dX7_wanted_6 : decode cX7_wanted 6 = .ok (.iconst 1, 1) := by decide +kernel
theorem dX7_wanted_7 : decode cX7_wanted 7 = .ok (.iaload, 1) := by decide +kernel
theorem dX7_wanted_8 : decode cX7_wanted 8 = .ok (.ishl, 1) := by decide +kernel
theorem dX7_wanted_9 : decode cX7_wanted 9 = .ok (.iconst 1, 1) := by decide +kernel
theorem dX7_wanted_10 : decode cX7_wanted 10 = .ok (.isub, 1) := by decide +kernel
theorem dX7_wanted_11 : decode cX7_wanted 11 = .ok (.aload_n 0, 1) := by decide +kernel
theorem dX7_wanted_12 : decode cX7_wanted 12 = .ok (.getfield 31, 3) := by decide +kernel
theorem dX7_wanted_15 : decode cX7_wanted 15 = .ok (.iconst 5, 1) := by decide +kernel
theorem dX7_wanted_16 : decode cX7_wanted 16 = .ok (.iaload, 1) := by decide +kernel
theorem dX7_wanted_17 : decode cX7_wanted 17 = .ok (.iconst (-1), 1) := by decide +kernel
theorem dX7_wanted_18 : decode cX7_wanted 18 = .ok (.ixor, 1) := by decide +kernel
theorem dX7_wanted_19 : decode cX7_wanted 19 = .ok (.iand, 1) := by decide +kernel
theorem dX7_wanted_20 : decode cX7_wanted 20 = .ok (.bipush 60, 2) := by decide +kernel
theorem dX7_wanted_22 : decode cX7_wanted 22 = .ok (.invokevirtual 181, 3) := by decide +kernel
theorem dX7_wanted_25 : decode cX7_wanted 25 = .ok (.aload_n 0, 1) := by decide +kernel
theorem dX7_wanted_26 : decode cX7_wanted 26 = .ok (.getfield 31, 3) := by decide +kernel
theorem dX7_wanted_29 : decode cX7_wanted 29 = .ok (.iconst 3, 1) := by decide +kernel
theorem dX7_wanted_30 : decode cX7_wanted 30 = .ok (.iaload, 1) := by decide +kernel
theorem dX7_wanted_31 : decode cX7_wanted 31 = .ok (.isub, 1) := by decide +kernel
theorem dX7_wanted_32 : decode cX7_wanted 32 = .ok (.istore_n 1, 1) := by decide +kernel
theorem dX7_wanted_33 : decode cX7_wanted 33 = .ok (.iload_n 1, 1) := by decide +kernel
theorem dX7_wanted_34 : decode cX7_wanted 34 = .ok (.ifCond .ge 7, 3) := by decide +kernel
theorem dX7_wanted_37 : decode cX7_wanted 37 = .ok (.iconst 0, 1) := by decide +kernel
theorem dX7_wanted_38 : decode cX7_wanted 38 = .ok (.goto 4, 3) := by decide +kernel
theorem dX7_wanted_41 : decode cX7_wanted 41 = .ok (.iload_n 1, 1) := by decide +kernel
theorem dX7_wanted_42 : decode cX7_wanted 42 = .ok (.ireturn, 1) := by decide +kernel
theorem dX7_lacks_0 : decode cX7_lacks 0 = .ok (.aload_n 0, 1) := by decide +kernel
theorem dX7_lacks_1 : decode cX7_lacks 1 = .ok (.invokevirtual 190, 3) := by decide +kernel
theorem dX7_lacks_4 : decode cX7_lacks 4 = .ok (.aload_n 0, 1) := by decide +kernel
theorem dX7_lacks_5 : decode cX7_lacks 5 = .ok (.getfield 13, 3) := by decide +kernel
theorem dX7_lacks_8 : decode cX7_lacks 8 = .ok (.iconst 3, 1) := by decide +kernel
theorem dX7_lacks_9 : decode cX7_lacks 9 = .ok (.iaload, 1) := by decide +kernel
theorem dX7_lacks_10 : decode cX7_lacks 10 = .ok (.imul, 1) := by decide +kernel
theorem dX7_lacks_11 : decode cX7_lacks 11 = .ok (.aload_n 0, 1) := by decide +kernel
theorem dX7_lacks_12 : decode cX7_lacks 12 = .ok (.getfield 31, 3) := by decide +kernel
theorem dX7_lacks_15 : decode cX7_lacks 15 = .ok (.iconst 2, 1) := by decide +kernel
theorem dX7_lacks_16 : decode cX7_lacks 16 = .ok (.iaload, 1) := by decide +kernel
theorem dX7_lacks_17 : decode cX7_lacks 17 = .ok (.isub, 1) := by decide +kernel
theorem dX7_lacks_18 : decode cX7_lacks 18 = .ok (.istore_n 1, 1) := by decide +kernel
theorem dX7_lacks_19 : decode cX7_lacks 19 = .ok (.iload_n 1, 1) := by decide +kernel
theorem dX7_lacks_20 : decode cX7_lacks 20 = .ok (.ifCond .ge 7, 3) := by decide +kernel
theorem dX7_lacks_23 : decode cX7_lacks 23 = .ok (.iconst 0, 1) := by decide +kernel
theorem dX7_lacks_24 : decode cX7_lacks 24 = .ok (.goto 4, 3) := by decide +kernel
theorem dX7_lacks_27 : decode cX7_lacks 27 = .ok (.iload_n 1, 1) := by decide +kernel
theorem dX7_lacks_28 : decode cX7_lacks 28 = .ok (.ireturn, 1) := by decide +kernel
theorem dX7_lack_0 : decode cX7_lack 0 = .ok (.aload_n 0, 1) := by decide +kernel
theorem dX7_lack_1 : decode cX7_lack 1 = .ok (.iconst 0, 1) := by decide +kernel
theorem dX7_lack_2 : decode cX7_lack 2 = .ok (.putfield 68, 3) := by decide +kernel
theorem dX7_lack_5 : decode cX7_lack 5 = .ok (.aload_n 0, 1) := by decide +kernel
theorem dX7_lack_6 : decode cX7_lack 6 = .ok (.invokevirtual 194, 3) := by decide +kernel
theorem dX7_lack_9 : decode cX7_lack 9 = .ok (.ireturn, 1) := by decide +kernel
theorem dX7_cutFor_0 : decode cX7_cutFor 0 = .ok (.aload_n 0, 1) := by decide +kernel
theorem dX7_cutFor_1 : decode cX7_cutFor 1 = .ok (.iconst 0, 1) := by decide +kernel
theorem dX7_cutFor_2 : decode cX7_cutFor 2 = .ok (.putfield 68, 3) := by decide +kernel
theorem dX7_cutFor_5 : decode cX7_cutFor 5 = .ok (.bipush (-9), 2) := by decide +kernel
theorem dX7_cutFor_7 : decode cX7_cutFor 7 = .ok (.istore_n 1, 1) := by decide +kernel
theorem dX7_cutFor_8 : decode cX7_cutFor 8 = .ok (.iconst 0, 1) := by decide +kernel
theorem dX7_cutFor_9 : decode cX7_cutFor 9 = .ok (.istore_n 2, 1) := by decide +kernel
theorem dX7_cutFor_10 : decode cX7_cutFor 10 = .ok (.iload_n 2, 1) := by decide +kernel
theorem dX7_cutFor_11 : decode cX7_cutFor 11 = .ok (.iconst 1, 1) := by decide +kernel
theorem dX7_cutFor_12 : decode cX7_cutFor 12 = .ok (.aload_n 0, 1) := by decide +kernel
theorem dX7_cutFor_13 : decode cX7_cutFor 13 = .ok (.getfield 13, 3) := by decide +kernel
theorem dX7_cutFor_16 : decode cX7_cutFor 16 = .ok (.iconst 0, 1) := by decide +kernel
theorem dX7_cutFor_17 : decode cX7_cutFor 17 = .ok (.iaload, 1) := by decide +kernel
theorem dX7_cutFor_18 : decode cX7_cutFor 18 = .ok (.ishl, 1) := by decide +kernel
theorem dX7_cutFor_19 : decode cX7_cutFor 19 = .ok (.if_icmp .ge 89, 3) := by decide +kernel
theorem dX7_cutFor_22 : decode cX7_cutFor 22 = .ok (.iconst 0, 1) := by decide +kernel
theorem dX7_cutFor_23 : decode cX7_cutFor 23 = .ok (.istore_n 3, 1) := by decide +kernel
theorem dX7_cutFor_24 : decode cX7_cutFor 24 = .ok (.iconst 0, 1) := by decide +kernel
theorem dX7_cutFor_25 : decode cX7_cutFor 25 = .ok (.istore 4, 2) := by decide +kernel
theorem dX7_cutFor_27 : decode cX7_cutFor 27 = .ok (.iload 4, 2) := by decide +kernel
theorem dX7_cutFor_29 : decode cX7_cutFor 29 = .ok (.aload_n 0, 1) := by decide +kernel
theorem dX7_cutFor_30 : decode cX7_cutFor 30 = .ok (.getfield 13, 3) := by decide +kernel
theorem dX7_cutFor_33 : decode cX7_cutFor 33 = .ok (.iconst 0, 1) := by decide +kernel
theorem dX7_cutFor_34 : decode cX7_cutFor 34 = .ok (.iaload, 1) := by decide +kernel
theorem dX7_cutFor_35 : decode cX7_cutFor 35 = .ok (.if_icmp .ge 36, 3) := by decide +kernel
theorem dX7_cutFor_38 : decode cX7_cutFor 38 = .ok (.iload_n 3, 1) := by decide +kernel
theorem dX7_cutFor_39 : decode cX7_cutFor 39 = .ok (.iload_n 2, 1) := by decide +kernel
theorem dX7_cutFor_40 : decode cX7_cutFor 40 = .ok (.iload 4, 2) := by decide +kernel
theorem dX7_cutFor_42 : decode cX7_cutFor 42 = .ok (.ishr, 1) := by decide +kernel
theorem dX7_cutFor_43 : decode cX7_cutFor 43 = .ok (.iconst 1, 1) := by decide +kernel
theorem dX7_cutFor_44 : decode cX7_cutFor 44 = .ok (.iand, 1) := by decide +kernel
theorem dX7_cutFor_45 : decode cX7_cutFor 45 = .ok (.iconst 1, 1) := by decide +kernel
theorem dX7_cutFor_46 : decode cX7_cutFor 46 = .ok (.if_icmp .ne 16, 3) := by decide +kernel
theorem dX7_cutFor_49 : decode cX7_cutFor 49 = .ok (.aload_n 0, 1) := by decide +kernel
theorem dX7_cutFor_50 : decode cX7_cutFor 50 = .ok (.aload_n 0, 1) := by decide +kernel
theorem dX7_cutFor_51 : decode cX7_cutFor 51 = .ok (.getfield 31, 3) := by decide +kernel
theorem dX7_cutFor_54 : decode cX7_cutFor 54 = .ok (.iload 4, 2) := by decide +kernel
theorem dX7_cutFor_56 : decode cX7_cutFor 56 = .ok (.invokevirtual 142, 3) := by decide +kernel
theorem dX7_cutFor_59 : decode cX7_cutFor 59 = .ok (.goto 4, 3) := by decide +kernel
theorem dX7_cutFor_62 : decode cX7_cutFor 62 = .ok (.iconst 0, 1) := by decide +kernel
theorem dX7_cutFor_63 : decode cX7_cutFor 63 = .ok (.iadd, 1) := by decide +kernel
theorem dX7_cutFor_64 : decode cX7_cutFor 64 = .ok (.istore_n 3, 1) := by decide +kernel
theorem dX7_cutFor_65 : decode cX7_cutFor 65 = .ok (.iinc 4 1, 3) := by decide +kernel
theorem dX7_cutFor_68 : decode cX7_cutFor 68 = .ok (.goto (-41), 3) := by decide +kernel
theorem dX7_cutFor_71 : decode cX7_cutFor 71 = .ok (.iload_n 3, 1) := by decide +kernel
theorem dX7_cutFor_72 : decode cX7_cutFor 72 = .ok (.aload_n 0, 1) := by decide +kernel
theorem dX7_cutFor_73 : decode cX7_cutFor 73 = .ok (.invokevirtual 194, 3) := by decide +kernel
theorem dX7_cutFor_76 : decode cX7_cutFor 76 = .ok (.if_icmp .lt 24, 3) := by decide +kernel
theorem dX7_cutFor_79 : decode cX7_cutFor 79 = .ok (.iload_n 1, 1) := by decide +kernel
theorem dX7_cutFor_80 : decode cX7_cutFor 80 = .ok (.bipush (-9), 2) := by decide +kernel
theorem dX7_cutFor_82 : decode cX7_cutFor 82 = .ok (.if_icmp .eq 14, 3) := by decide +kernel
theorem dX7_cutFor_85 : decode cX7_cutFor 85 = .ok (.iload_n 2, 1) := by decide +kernel
theorem dX7_cutFor_86 : decode cX7_cutFor 86 = .ok (.invokestatic 197, 3) := by decide +kernel
theorem dX7_cutFor_89 : decode cX7_cutFor 89 = .ok (.iload_n 1, 1) := by decide +kernel
theorem dX7_cutFor_90 : decode cX7_cutFor 90 = .ok (.invokestatic 197, 3) := by decide +kernel
theorem dX7_cutFor_93 : decode cX7_cutFor 93 = .ok (.if_icmp .ge 7, 3) := by decide +kernel
theorem dX7_cutFor_96 : decode cX7_cutFor 96 = .ok (.iload_n 2, 1) := by decide +kernel
theorem dX7_cutFor_97 : decode cX7_cutFor 97 = .ok (.goto 4, 3) := by decide +kernel
theorem dX7_cutFor_100 : decode cX7_cutFor 100 = .ok (.iload_n 1, 1) := by decide +kernel
theorem dX7_cutFor_101 : decode cX7_cutFor 101 = .ok (.istore_n 1, 1) := by decide +kernel
theorem dX7_cutFor_102 : decode cX7_cutFor 102 = .ok (.iinc 2 1, 3) := by decide +kernel
theorem dX7_cutFor_105 : decode cX7_cutFor 105 = .ok (.goto (-95), 3) := by decide +kernel
theorem dX7_cutFor_108 : decode cX7_cutFor 108 = .ok (.iload_n 1, 1) := by decide +kernel
theorem dX7_cutFor_109 : decode cX7_cutFor 109 = .ok (.ireturn, 1) := by decide +kernel
theorem dX7_allBy_0 : decode cX7_allBy 0 = .ok (.aload_n 0, 1) := by decide +kernel
theorem dX7_allBy_1 : decode cX7_allBy 1 = .ok (.iconst 0, 1) := by decide +kernel
theorem dX7_allBy_2 : decode cX7_allBy 2 = .ok (.putfield 68, 3) := by decide +kernel
theorem dX7_allBy_5 : decode cX7_allBy 5 = .ok (.aload_n 0, 1) := by decide +kernel
theorem dX7_allBy_6 : decode cX7_allBy 6 = .ok (.getfield 31, 3) := by decide +kernel
theorem dX7_allBy_9 : decode cX7_allBy 9 = .ok (.iconst 0, 1) := by decide +kernel
theorem dX7_allBy_10 : decode cX7_allBy 10 = .ok (.iaload, 1) := by decide +kernel
theorem dX7_allBy_11 : decode cX7_allBy 11 = .ok (.aload_n 0, 1) := by decide +kernel
theorem dX7_allBy_12 : decode cX7_allBy 12 = .ok (.aload_n 0, 1) := by decide +kernel
theorem dX7_allBy_13 : decode cX7_allBy 13 = .ok (.invokevirtual 190, 3) := by decide +kernel
theorem dX7_allBy_16 : decode cX7_allBy 16 = .ok (.invokevirtual 162, 3) := by decide +kernel
theorem dX7_allBy_19 : decode cX7_allBy 19 = .ok (.iadd, 1) := by decide +kernel
theorem dX7_allBy_20 : decode cX7_allBy 20 = .ok (.ireturn, 1) := by decide +kernel
theorem dX7_isWornOut_0 : decode cX7_isWornOut 0 = .ok (.iconst 0, 1) := by decide +kernel
theorem dX7_isWornOut_1 : decode cX7_isWornOut 1 = .ok (.istore_n 1, 1) := by decide +kernel
theorem dX7_isWornOut_2 : decode cX7_isWornOut 2 = .ok (.iconst 0, 1) := by decide +kernel
theorem dX7_isWornOut_3 : decode cX7_isWornOut 3 = .ok (.istore_n 2, 1) := by decide +kernel
theorem dX7_isWornOut_4 : decode cX7_isWornOut 4 = .ok (.iload_n 2, 1) := by decide +kernel
theorem dX7_isWornOut_5 : decode cX7_isWornOut 5 = .ok (.bipush 8, 2) := by decide +kernel
theorem dX7_isWornOut_7 : decode cX7_isWornOut 7 = .ok (.if_icmp .ge 28, 3) := by decide +kernel
theorem dX7_isWornOut_10 : decode cX7_isWornOut 10 = .ok (.iload_n 1, 1) := by decide +kernel
theorem dX7_isWornOut_11 : decode cX7_isWornOut 11 = .ok (.ifCond .ne 12, 3) := by decide +kernel
theorem dX7_isWornOut_14 : decode cX7_isWornOut 14 = .ok (.aload_n 0, 1) := by decide +kernel
theorem dX7_isWornOut_15 : decode cX7_isWornOut 15 = .ok (.bipush 7, 2) := by decide +kernel
theorem dX7_isWornOut_17 : decode cX7_isWornOut 17 = .ok (.iload_n 2, 1) := by decide +kernel
theorem dX7_isWornOut_18 : decode cX7_isWornOut 18 = .ok (.iadd, 1) := by decide +kernel
theorem dX7_isWornOut_19 : decode cX7_isWornOut 19 = .ok (.iaload, 1) := by decide +kernel
theorem dX7_isWornOut_20 : decode cX7_isWornOut 20 = .ok (.ifCond .ne 7, 3) := by decide +kernel
theorem dX7_isWornOut_23 : decode cX7_isWornOut 23 = .ok (.iconst 1, 1) := by decide +kernel
theorem dX7_isWornOut_24 : decode cX7_isWornOut 24 = .ok (.goto 4, 3) := by decide +kernel
theorem dX7_isWornOut_27 : decode cX7_isWornOut 27 = .ok (.iconst 0, 1) := by decide +kernel
theorem dX7_isWornOut_28 : decode cX7_isWornOut 28 = .ok (.istore_n 1, 1) := by decide +kernel
theorem dX7_isWornOut_29 : decode cX7_isWornOut 29 = .ok (.iinc 2 1, 3) := by decide +kernel
theorem dX7_isWornOut_32 : decode cX7_isWornOut 32 = .ok (.goto (-28), 3) := by decide +kernel
theorem dX7_isWornOut_35 : decode cX7_isWornOut 35 = .ok (.iload_n 1, 1) := by decide +kernel
theorem dX7_isWornOut_36 : decode cX7_isWornOut 36 = .ok (.ireturn, 1) := by decide +kernel
theorem dX7_goes_0 : decode cX7_goes 0 = .ok (.aload_n 0, 1) := by decide +kernel
theorem dX7_goes_1 : decode cX7_goes 1 = .ok (.getfield 34, 3) := by decide +kernel
theorem dX7_goes_4 : decode cX7_goes 4 = .ok (.invokestatic 169, 3) := by decide +kernel
theorem dX7_goes_7 : decode cX7_goes 7 = .ok (.aload_n 0, 1) := by decide +kernel
theorem dX7_goes_8 : decode cX7_goes 8 = .ok (.getfield 34, 3) := by decide +kernel
theorem dX7_goes_11 : decode cX7_goes 11 = .ok (.bipush 6, 2) := by decide +kernel
theorem dX7_goes_13 : decode cX7_goes 13 = .ok (.aload_n 0, 1) := by decide +kernel
theorem dX7_goes_14 : decode cX7_goes 14 = .ok (.getfield 34, 3) := by decide +kernel
theorem dX7_goes_17 : decode cX7_goes 17 = .ok (.bipush 6, 2) := by decide +kernel
theorem dX7_goes_19 : decode cX7_goes 19 = .ok (.iaload, 1) := by decide +kernel
theorem dX7_goes_20 : decode cX7_goes 20 = .ok (.iload_n 1, 1) := by decide +kernel
theorem dX7_goes_21 : decode cX7_goes 21 = .ok (.iadd, 1) := by decide +kernel
theorem dX7_goes_22 : decode cX7_goes 22 = .ok (.bipush 8, 2) := by decide +kernel
theorem dX7_goes_24 : decode cX7_goes 24 = .ok (.irem, 1) := by decide +kernel
theorem dX7_goes_25 : decode cX7_goes 25 = .ok (.iastore, 1) := by decide +kernel
theorem dX7_goes_26 : decode cX7_goes 26 = .ok (.return_, 1) := by decide +kernel
theorem dX7_lastsBy_0 : decode cX7_lastsBy 0 = .ok (.aload_n 0, 1) := by decide +kernel
theorem dX7_lastsBy_1 : decode cX7_lastsBy 1 = .ok (.invokevirtual 175, 3) := by decide +kernel
theorem dX7_lastsBy_4 : decode cX7_lastsBy 4 = .ok (.iconst 0, 1) := by decide +kernel
theorem dX7_lastsBy_5 : decode cX7_lastsBy 5 = .ok (.istore_n 2, 1) := by decide +kernel
theorem dX7_lastsBy_6 : decode cX7_lastsBy 6 = .ok (.aload_n 0, 1) := by decide +kernel
theorem dX7_lastsBy_7 : decode cX7_lastsBy 7 = .ok (.getfield 34, 3) := by decide +kernel
theorem dX7_lastsBy_10 : decode cX7_lastsBy 10 = .ok (.invokestatic 200, 3) := by decide +kernel
theorem dX7_lastsBy_13 : decode cX7_lastsBy 13 = .ok (.ifCond .ne 14, 3) := by decide +kernel
theorem dX7_lastsBy_16 : decode cX7_lastsBy 16 = .ok (.aload_n 0, 1) := by decide +kernel
theorem dX7_lastsBy_17 : decode cX7_lastsBy 17 = .ok (.iload_n 1, 1) := by decide +kernel
theorem dX7_lastsBy_18 : decode cX7_lastsBy 18 = .ok (.invokevirtual 204, 3) := by decide +kernel
theorem dX7_lastsBy_21 : decode cX7_lastsBy 21 = .ok (.iinc 2 1, 3) := by decide +kernel
theorem dX7_lastsBy_24 : decode cX7_lastsBy 24 = .ok (.goto (-18), 3) := by decide +kernel
theorem dX7_lastsBy_27 : decode cX7_lastsBy 27 = .ok (.iload_n 2, 1) := by decide +kernel
theorem dX7_lastsBy_28 : decode cX7_lastsBy 28 = .ok (.ireturn, 1) := by decide +kernel
theorem dX7_lasts_0 : decode cX7_lasts 0 = .ok (.aload_n 0, 1) := by decide +kernel
theorem dX7_lasts_1 : decode cX7_lasts 1 = .ok (.iconst 0, 1) := by decide +kernel
theorem dX7_lasts_2 : decode cX7_lasts 2 = .ok (.putfield 68, 3) := by decide +kernel
theorem dX7_lasts_5 : decode cX7_lasts 5 = .ok (.iload_n 1, 1) := by decide +kernel
theorem dX7_lasts_6 : decode cX7_lasts 6 = .ok (.iconst 0, 1) := by decide +kernel
theorem dX7_lasts_7 : decode cX7_lasts 7 = .ok (.bipush 7, 2) := by decide +kernel
theorem dX7_lasts_9 : decode cX7_lasts 9 = .ok (.invokestatic 72, 3) := by decide +kernel
theorem dX7_lasts_12 : decode cX7_lasts 12 = .ok (.ifCond .eq 11, 3) := by decide +kernel
theorem dX7_lasts_15 : decode cX7_lasts 15 = .ok (.aload_n 0, 1) := by decide +kernel
theorem dX7_lasts_16 : decode cX7_lasts 16 = .ok (.iload_n 1, 1) := by decide +kernel
theorem dX7_lasts_17 : decode cX7_lasts 17 = .ok (.invokevirtual 207, 3) := by decide +kernel
theorem dX7_lasts_20 : decode cX7_lasts 20 = .ok (.goto 4, 3) := by decide +kernel
theorem dX7_lasts_23 : decode cX7_lasts 23 = .ok (.iconst (-1), 1) := by decide +kernel
theorem dX7_lasts_24 : decode cX7_lasts 24 = .ok (.ireturn, 1) := by decide +kernel
theorem dX7_latest_0 : decode cX7_latest 0 = .ok (.aload_n 0, 1) := by decide +kernel
theorem dX7_latest_1 : decode cX7_latest 1 = .ok (.iconst 0, 1) := by decide +kernel
theorem dX7_latest_2 : decode cX7_latest 2 = .ok (.putfield 68, 3) := by decide +kernel
theorem dX7_latest_5 : decode cX7_latest 5 = .ok (.iconst 0, 1) := by decide +kernel
theorem dX7_latest_6 : decode cX7_latest 6 = .ok (.istore_n 1, 1) := by decide +kernel
theorem dX7_latest_7 : decode cX7_latest 7 = .ok (.iconst 1, 1) := by decide +kernel
theorem dX7_latest_8 : decode cX7_latest 8 = .ok (.istore_n 2, 1) := by decide +kernel
theorem dX7_latest_9 : decode cX7_latest 9 = .ok (.iload_n 2, 1) := by decide +kernel
theorem dX7_latest_10 : decode cX7_latest 10 = .ok (.bipush 8, 2) := by decide +kernel
theorem dX7_latest_12 : decode cX7_latest 12 = .ok (.if_icmp .ge 28, 3) := by decide +kernel
theorem dX7_latest_15 : decode cX7_latest 15 = .ok (.aload_n 0, 1) := by decide +kernel
theorem dX7_latest_16 : decode cX7_latest 16 = .ok (.iload_n 2, 1) := by decide +kernel
theorem dX7_latest_17 : decode cX7_latest 17 = .ok (.invokevirtual 207, 3) := by decide +kernel
theorem dX7_latest_20 : decode cX7_latest 20 = .ok (.aload_n 0, 1) := by decide +kernel
theorem dX7_latest_21 : decode cX7_latest 21 = .ok (.iload_n 1, 1) := by decide +kernel
theorem dX7_latest_22 : decode cX7_latest 22 = .ok (.invokevirtual 207, 3) := by decide +kernel
theorem dX7_latest_25 : decode cX7_latest 25 = .ok (.if_icmp .le 7, 3) := by decide +kernel
theorem dX7_latest_28 : decode cX7_latest 28 = .ok (.iload_n 2, 1) := by decide +kernel
theorem dX7_latest_29 : decode cX7_latest 29 = .ok (.goto 4, 3) := by decide +kernel
theorem dX7_latest_32 : decode cX7_latest 32 = .ok (.iload_n 1, 1) := by decide +kernel
theorem dX7_latest_33 : decode cX7_latest 33 = .ok (.istore_n 1, 1) := by decide +kernel
theorem dX7_latest_34 : decode cX7_latest 34 = .ok (.iinc 2 1, 3) := by decide +kernel
theorem dX7_latest_37 : decode cX7_latest 37 = .ok (.goto (-28), 3) := by decide +kernel
theorem dX7_latest_40 : decode cX7_latest 40 = .ok (.iload_n 1, 1) := by decide +kernel
theorem dX7_latest_41 : decode cX7_latest 41 = .ok (.ireturn, 1) := by decide +kernel
theorem dX7_saw_0 : decode cX7_saw 0 = .ok (.aload_n 0, 1) := by decide +kernel
theorem dX7_saw_1 : decode cX7_saw 1 = .ok (.iconst 0, 1) := by decide +kernel
theorem dX7_saw_2 : decode cX7_saw 2 = .ok (.putfield 68, 3) := by decide +kernel
theorem dX7_saw_5 : decode cX7_saw 5 = .ok (.iload_n 1, 1) := by decide +kernel
theorem dX7_saw_6 : decode cX7_saw 6 = .ok (.iconst 0, 1) := by decide +kernel
theorem dX7_saw_7 : decode cX7_saw 7 = .ok (.bipush 40, 2) := by decide +kernel
theorem dX7_saw_9 : decode cX7_saw 9 = .ok (.invokestatic 72, 3) := by decide +kernel
theorem dX7_saw_12 : decode cX7_saw 12 = .ok (.ifCond .eq 23, 3) := by decide +kernel
theorem dX7_saw_15 : decode cX7_saw 15 = .ok (.iload_n 2, 1) := by decide +kernel
theorem dX7_saw_16 : decode cX7_saw 16 = .ok (.iconst 0, 1) := by decide +kernel
theorem dX7_saw_17 : decode cX7_saw 17 = .ok (.bipush 7, 2) := by decide +kernel
theorem dX7_saw_19 : decode cX7_saw 19 = .ok (.invokestatic 72, 3) := by decide +kernel
theorem dX7_saw_22 : decode cX7_saw 22 = .ok (.ifCond .eq 13, 3) := by decide +kernel
theorem dX7_saw_25 : decode cX7_saw 25 = .ok (.iload_n 3, 1) := by decide +kernel
theorem dX7_saw_26 : decode cX7_saw 26 = .ok (.iconst 0, 1) := by decide +kernel
theorem dX7_saw_27 : decode cX7_saw 27 = .ok (.bipush 15, 2) := by decide +kernel
theorem dX7_saw_29 : decode cX7_saw 29 = .ok (.invokestatic 72, 3) := by decide +kernel
theorem dX7_saw_32 : decode cX7_saw 32 = .ok (.ifCond .ne 5, 3) := by decide +kernel
theorem dX7_saw_35 : decode cX7_saw 35 = .ok (.iconst (-1), 1) := by decide +kernel
theorem dX7_saw_36 : decode cX7_saw 36 = .ok (.ireturn, 1) := by decide +kernel
theorem dX7_saw_37 : decode cX7_saw 37 = .ok (.aload_n 0, 1) := by decide +kernel
theorem dX7_saw_38 : decode cX7_saw 38 = .ok (.getfield 130, 3) := by decide +kernel
theorem dX7_saw_41 : decode cX7_saw 41 = .ok (.iconst 5, 1) := by decide +kernel
theorem dX7_saw_42 : decode cX7_saw 42 = .ok (.if_icmp .ne 6, 3) := by decide +kernel
theorem dX7_saw_45 : decode cX7_saw 45 = .ok (.bipush (-3), 2) := by decide +kernel
theorem dX7_saw_47 : decode cX7_saw 47 = .ok (.ireturn, 1) := by decide +kernel
theorem dX7_saw_48 : decode cX7_saw 48 = .ok (.aload_n 0, 1) := by decide +kernel
theorem dX7_saw_49 : decode cX7_saw 49 = .ok (.getfield 47, 3) := by decide +kernel
theorem dX7_saw_52 : decode cX7_saw 52 = .ok (.aload_n 0, 1) := by decide +kernel
theorem dX7_saw_53 : decode cX7_saw 53 = .ok (.getfield 130, 3) := by decide +kernel
theorem dX7_saw_56 : decode cX7_saw 56 = .ok (.iload_n 1, 1) := by decide +kernel
theorem dX7_saw_57 : decode cX7_saw 57 = .ok (.iastore, 1) := by decide +kernel
theorem dX7_saw_58 : decode cX7_saw 58 = .ok (.aload_n 0, 1) := by decide +kernel
theorem dX7_saw_59 : decode cX7_saw 59 = .ok (.getfield 50, 3) := by decide +kernel
theorem dX7_saw_62 : decode cX7_saw 62 = .ok (.aload_n 0, 1) := by decide +kernel
theorem dX7_saw_63 : decode cX7_saw 63 = .ok (.getfield 130, 3) := by decide +kernel
theorem dX7_saw_66 : decode cX7_saw 66 = .ok (.iload_n 2, 1) := by decide +kernel
theorem dX7_saw_67 : decode cX7_saw 67 = .ok (.iastore, 1) := by decide +kernel
theorem dX7_saw_68 : decode cX7_saw 68 = .ok (.aload_n 0, 1) := by decide +kernel
theorem dX7_saw_69 : decode cX7_saw 69 = .ok (.getfield 53, 3) := by decide +kernel
theorem dX7_saw_72 : decode cX7_saw 72 = .ok (.aload_n 0, 1) := by decide +kernel
theorem dX7_saw_73 : decode cX7_saw 73 = .ok (.getfield 130, 3) := by decide +kernel
theorem dX7_saw_76 : decode cX7_saw 76 = .ok (.iload_n 3, 1) := by decide +kernel
theorem dX7_saw_77 : decode cX7_saw 77 = .ok (.iastore, 1) := by decide +kernel
theorem dX7_saw_78 : decode cX7_saw 78 = .ok (.aload_n 0, 1) := by decide +kernel
theorem dX7_saw_79 : decode cX7_saw 79 = .ok (.dup, 1) := by decide +kernel
theorem dX7_saw_80 : decode cX7_saw 80 = .ok (.getfield 130, 3) := by decide +kernel
theorem dX7_saw_83 : decode cX7_saw 83 = .ok (.iconst 1, 1) := by decide +kernel
theorem dX7_saw_84 : decode cX7_saw 84 = .ok (.iadd, 1) := by decide +kernel
theorem dX7_saw_85 : decode cX7_saw 85 = .ok (.putfield 130, 3) := by decide +kernel
theorem dX7_saw_88 : decode cX7_saw 88 = .ok (.aload_n 0, 1) := by decide +kernel
theorem dX7_saw_89 : decode cX7_saw 89 = .ok (.getfield 130, 3) := by decide +kernel
theorem dX7_saw_92 : decode cX7_saw 92 = .ok (.ireturn, 1) := by decide +kernel
theorem dX7_forget_0 : decode cX7_forget 0 = .ok (.aload_n 0, 1) := by decide +kernel
theorem dX7_forget_1 : decode cX7_forget 1 = .ok (.iconst 0, 1) := by decide +kernel
theorem dX7_forget_2 : decode cX7_forget 2 = .ok (.putfield 68, 3) := by decide +kernel
theorem dX7_forget_5 : decode cX7_forget 5 = .ok (.aload_n 0, 1) := by decide +kernel
theorem dX7_forget_6 : decode cX7_forget 6 = .ok (.getfield 130, 3) := by decide +kernel
theorem dX7_forget_9 : decode cX7_forget 9 = .ok (.istore_n 1, 1) := by decide +kernel
theorem dX7_forget_10 : decode cX7_forget 10 = .ok (.aload_n 0, 1) := by decide +kernel
theorem dX7_forget_11 : decode cX7_forget 11 = .ok (.iconst 0, 1) := by decide +kernel
theorem dX7_forget_12 : decode cX7_forget 12 = .ok (.putfield 130, 3) := by decide +kernel
theorem dX7_forget_15 : decode cX7_forget 15 = .ok (.iload_n 1, 1) := by decide +kernel
theorem dX7_forget_16 : decode cX7_forget 16 = .ok (.ireturn, 1) := by decide +kernel
theorem dX7_which_0 : decode cX7_which 0 = .ok (.aload_n 0, 1) := by decide +kernel
theorem dX7_which_1 : decode cX7_which 1 = .ok (.iconst 0, 1) := by decide +kernel
theorem dX7_which_2 : decode cX7_which 2 = .ok (.putfield 68, 3) := by decide +kernel
theorem dX7_which_5 : decode cX7_which 5 = .ok (.iconst 0, 1) := by decide +kernel
theorem dX7_which_6 : decode cX7_which 6 = .ok (.istore_n 1, 1) := by decide +kernel
theorem dX7_which_7 : decode cX7_which 7 = .ok (.iconst 0, 1) := by decide +kernel
theorem dX7_which_8 : decode cX7_which 8 = .ok (.istore_n 2, 1) := by decide +kernel
theorem dX7_which_9 : decode cX7_which 9 = .ok (.iload_n 2, 1) := by decide +kernel
theorem dX7_which_10 : decode cX7_which 10 = .ok (.bipush 8, 2) := by decide +kernel
theorem dX7_which_12 : decode cX7_which 12 = .ok (.if_icmp .ge 115, 3) := by decide +kernel
theorem dX7_which_15 : decode cX7_which 15 = .ok (.iconst 1, 1) := by decide +kernel
theorem dX7_which_16 : decode cX7_which 16 = .ok (.istore_n 3, 1) := by decide +kernel
theorem dX7_which_17 : decode cX7_which 17 = .ok (.aload_n 0, 1) := by decide +kernel
theorem dX7_which_18 : decode cX7_which 18 = .ok (.invokevirtual 175, 3) := by decide +kernel
theorem dX7_which_21 : decode cX7_which 21 = .ok (.iconst 0, 1) := by decide +kernel
theorem dX7_which_22 : decode cX7_which 22 = .ok (.istore 4, 2) := by decide +kernel
theorem dX7_which_24 : decode cX7_which 24 = .ok (.iload 4, 2) := by decide +kernel
theorem dX7_which_26 : decode cX7_which 26 = .ok (.bipush 40, 2) := by decide +kernel
theorem dX7_which_28 : decode cX7_which 28 = .ok (.if_icmp .gt 79, 3) := by decide +kernel
theorem dX7_which_31 : decode cX7_which 31 = .ok (.iconst 0, 1) := by decide +kernel
theorem dX7_which_32 : decode cX7_which 32 = .ok (.istore 5, 2) := by decide +kernel
theorem dX7_which_34 : decode cX7_which 34 = .ok (.iload 5, 2) := by decide +kernel
theorem dX7_which_36 : decode cX7_which 36 = .ok (.aload_n 0, 1) := by decide +kernel
theorem dX7_which_37 : decode cX7_which 37 = .ok (.getfield 130, 3) := by decide +kernel
theorem dX7_which_40 : decode cX7_which 40 = .ok (.if_icmp .ge 56, 3) := by decide +kernel
theorem dX7_which_43 : decode cX7_which 43 = .ok (.iload_n 3, 1) := by decide +kernel
theorem dX7_which_44 : decode cX7_which 44 = .ok (.ifCond .eq 44, 3) := by decide +kernel
theorem dX7_which_47 : decode cX7_which 47 = .ok (.aload_n 0, 1) := by decide +kernel
theorem dX7_which_48 : decode cX7_which 48 = .ok (.getfield 47, 3) := by decide +kernel
theorem dX7_which_51 : decode cX7_which 51 = .ok (.iload 5, 2) := by decide +kernel
theorem dX7_which_53 : decode cX7_which 53 = .ok (.iaload, 1) := by decide +kernel
theorem dX7_which_54 : decode cX7_which 54 = .ok (.iload 4, 2) := by decide +kernel
theorem dX7_which_56 : decode cX7_which 56 = .ok (.if_icmp .ne 28, 3) := by decide +kernel
theorem dX7_which_59 : decode cX7_which 59 = .ok (.aload_n 0, 1) := by decide +kernel
theorem dX7_which_60 : decode cX7_which 60 = .ok (.getfield 34, 3) := by decide +kernel
theorem dX7_which_63 : decode cX7_which 63 = .ok (.bipush 7, 2) := by decide +kernel
theorem dX7_which_65 : decode cX7_which 65 = .ok (.aload_n 0, 1) := by decide +kernel
theorem dX7_which_66 : decode cX7_which 66 = .ok (.getfield 50, 3) := by decide +kernel
theorem dX7_which_69 : decode cX7_which 69 = .ok (.iload 5, 2) := by decide +kernel
theorem dX7_which_71 : decode cX7_which 71 = .ok (.iaload, 1) := by decide +kernel
theorem dX7_which_72 : decode cX7_which 72 = .ok (.iadd, 1) := by decide +kernel
theorem dX7_which_73 : decode cX7_which 73 = .ok (.iaload, 1) := by decide +kernel
theorem dX7_which_74 : decode cX7_which 74 = .ok (.aload_n 0, 1) := by decide +kernel
theorem dX7_which_75 : decode cX7_which 75 = .ok (.getfield 53, 3) := by decide +kernel
theorem dX7_which_78 : decode cX7_which 78 = .ok (.iload 5, 2) := by decide +kernel
theorem dX7_which_80 : decode cX7_which 80 = .ok (.iaload, 1) := by decide +kernel
theorem dX7_which_81 : decode cX7_which 81 = .ok (.if_icmp .ne 7, 3) := by decide +kernel
theorem dX7_which_84 : decode cX7_which 84 = .ok (.iconst 1, 1) := by decide +kernel
theorem dX7_which_85 : decode cX7_which 85 = .ok (.goto 4, 3) := by decide +kernel
theorem dX7_which_88 : decode cX7_which 88 = .ok (.iconst 0, 1) := by decide +kernel
theorem dX7_which_89 : decode cX7_which 89 = .ok (.istore_n 3, 1) := by decide +kernel
theorem dX7_which_90 : decode cX7_which 90 = .ok (.iinc 5 1, 3) := by decide +kernel
theorem dX7_which_93 : decode cX7_which 93 = .ok (.goto (-59), 3) := by decide +kernel
theorem dX7_which_96 : decode cX7_which 96 = .ok (.aload_n 0, 1) := by decide +kernel
theorem dX7_which_97 : decode cX7_which 97 = .ok (.iload_n 2, 1) := by decide +kernel
theorem dX7_which_98 : decode cX7_which 98 = .ok (.invokevirtual 204, 3) := by decide +kernel
theorem dX7_which_101 : decode cX7_which 101 = .ok (.iinc 4 1, 3) := by decide +kernel
theorem dX7_which_104 : decode cX7_which 104 = .ok (.goto (-80), 3) := by decide +kernel
theorem dX7_which_107 : decode cX7_which 107 = .ok (.iload_n 1, 1) := by decide +kernel
theorem dX7_which_108 : decode cX7_which 108 = .ok (.iload_n 3, 1) := by decide +kernel
theorem dX7_which_109 : decode cX7_which 109 = .ok (.ifCond .eq 9, 3) := by decide +kernel
theorem dX7_which_112 : decode cX7_which 112 = .ok (.iconst 1, 1) := by decide +kernel
theorem dX7_which_113 : decode cX7_which 113 = .ok (.iload_n 2, 1) := by decide +kernel
theorem dX7_which_114 : decode cX7_which 114 = .ok (.ishl, 1) := by decide +kernel
theorem dX7_which_115 : decode cX7_which 115 = .ok (.goto 4, 3) := by decide +kernel
theorem dX7_which_118 : decode cX7_which 118 = .ok (.iconst 0, 1) := by decide +kernel
theorem dX7_which_119 : decode cX7_which 119 = .ok (.ior, 1) := by decide +kernel
theorem dX7_which_120 : decode cX7_which 120 = .ok (.istore_n 1, 1) := by decide +kernel
theorem dX7_which_121 : decode cX7_which 121 = .ok (.iinc 2 1, 3) := by decide +kernel
theorem dX7_which_124 : decode cX7_which 124 = .ok (.goto (-115), 3) := by decide +kernel
theorem dX7_which_127 : decode cX7_which 127 = .ok (.iload_n 1, 1) := by decide +kernel
theorem dX7_which_128 : decode cX7_which 128 = .ok (.ireturn, 1) := by decide +kernel
theorem dX7_power_0 : decode cX7_power 0 = .ok (.iconst 1, 1) := by decide +kernel
theorem dX7_power_1 : decode cX7_power 1 = .ok (.istore_n 2, 1) := by decide +kernel
theorem dX7_power_2 : decode cX7_power 2 = .ok (.iconst 0, 1) := by decide +kernel
theorem dX7_power_3 : decode cX7_power 3 = .ok (.istore_n 3, 1) := by decide +kernel
theorem dX7_power_4 : decode cX7_power 4 = .ok (.iload_n 3, 1) := by decide +kernel
theorem dX7_power_5 : decode cX7_power 5 = .ok (.iload_n 1, 1) := by decide +kernel
theorem dX7_power_6 : decode cX7_power 6 = .ok (.if_icmp .ge 13, 3) := by decide +kernel
theorem dX7_power_9 : decode cX7_power 9 = .ok (.iload_n 2, 1) := by decide +kernel
theorem dX7_power_10 : decode cX7_power 10 = .ok (.iload_n 0, 1) := by decide +kernel
theorem dX7_power_11 : decode cX7_power 11 = .ok (.imul, 1) := by decide +kernel
theorem dX7_power_12 : decode cX7_power 12 = .ok (.istore_n 2, 1) := by decide +kernel
theorem dX7_power_13 : decode cX7_power 13 = .ok (.iinc 3 1, 3) := by decide +kernel
theorem dX7_power_16 : decode cX7_power 16 = .ok (.goto (-12), 3) := by decide +kernel
theorem dX7_power_19 : decode cX7_power 19 = .ok (.iload_n 2, 1) := by decide +kernel
theorem dX7_power_20 : decode cX7_power 20 = .ok (.ireturn, 1) := by decide +kernel
theorem dX7_odds_0 : decode cX7_odds 0 = .ok (.aload_n 0, 1) := by decide +kernel
theorem dX7_odds_1 : decode cX7_odds 1 = .ok (.iconst 0, 1) := by decide +kernel
theorem dX7_odds_2 : decode cX7_odds 2 = .ok (.putfield 68, 3) := by decide +kernel
theorem dX7_odds_5 : decode cX7_odds 5 = .ok (.iload_n 1, 1) := by decide +kernel
theorem dX7_odds_6 : decode cX7_odds 6 = .ok (.iconst 0, 1) := by decide +kernel
theorem dX7_odds_7 : decode cX7_odds 7 = .ok (.bipush 10, 2) := by decide +kernel
theorem dX7_odds_9 : decode cX7_odds 9 = .ok (.invokestatic 72, 3) := by decide +kernel
theorem dX7_odds_12 : decode cX7_odds 12 = .ok (.ifCond .eq 33, 3) := by decide +kernel
theorem dX7_odds_15 : decode cX7_odds 15 = .ok (.iload_n 2, 1) := by decide +kernel
theorem dX7_odds_16 : decode cX7_odds 16 = .ok (.iconst 0, 1) := by decide +kernel
theorem dX7_odds_17 : decode cX7_odds 17 = .ok (.bipush 6, 2) := by decide +kernel
theorem dX7_odds_19 : decode cX7_odds 19 = .ok (.invokestatic 72, 3) := by decide +kernel
theorem dX7_odds_22 : decode cX7_odds 22 = .ok (.ifCond .eq 23, 3) := by decide +kernel
theorem dX7_odds_25 : decode cX7_odds 25 = .ok (.iload_n 3, 1) := by decide +kernel
theorem dX7_odds_26 : decode cX7_odds 26 = .ok (.iconst 0, 1) := by decide +kernel
theorem dX7_odds_27 : decode cX7_odds 27 = .ok (.bipush 6, 2) := by decide +kernel
theorem dX7_odds_29 : decode cX7_odds 29 = .ok (.invokestatic 72, 3) := by decide +kernel
theorem dX7_odds_32 : decode cX7_odds 32 = .ok (.ifCond .eq 13, 3) := by decide +kernel
theorem dX7_odds_35 : decode cX7_odds 35 = .ok (.iload 4, 2) := by decide +kernel
theorem dX7_odds_37 : decode cX7_odds 37 = .ok (.iconst 0, 1) := by decide +kernel
theorem dX7_odds_38 : decode cX7_odds 38 = .ok (.iconst 1, 1) := by decide +kernel
theorem dX7_odds_39 : decode cX7_odds 39 = .ok (.invokestatic 72, 3) := by decide +kernel
theorem dX7_odds_42 : decode cX7_odds 42 = .ok (.ifCond .ne 5, 3) := by decide +kernel
theorem dX7_odds_45 : decode cX7_odds 45 = .ok (.iconst (-1), 1) := by decide +kernel
theorem dX7_odds_46 : decode cX7_odds 46 = .ok (.ireturn, 1) := by decide +kernel
theorem dX7_odds_47 : decode cX7_odds 47 = .ok (.iconst 0, 1) := by decide +kernel
theorem dX7_odds_48 : decode cX7_odds 48 = .ok (.istore 5, 2) := by decide +kernel
theorem dX7_odds_50 : decode cX7_odds 50 = .ok (.iconst 0, 1) := by decide +kernel
theorem dX7_odds_51 : decode cX7_odds 51 = .ok (.istore 6, 2) := by decide +kernel
theorem dX7_odds_53 : decode cX7_odds 53 = .ok (.iload 6, 2) := by decide +kernel
theorem dX7_odds_55 : decode cX7_odds 55 = .ok (.iconst 1, 1) := by decide +kernel
theorem dX7_odds_56 : decode cX7_odds 56 = .ok (.iload_n 2, 1) := by decide +kernel
theorem dX7_odds_57 : decode cX7_odds 57 = .ok (.ishl, 1) := by decide +kernel
theorem dX7_odds_58 : decode cX7_odds 58 = .ok (.if_icmp .ge 49, 3) := by decide +kernel
theorem dX7_odds_61 : decode cX7_odds 61 = .ok (.iload 6, 2) := by decide +kernel
theorem dX7_odds_63 : decode cX7_odds 63 = .ok (.invokestatic 197, 3) := by decide +kernel
theorem dX7_odds_66 : decode cX7_odds 66 = .ok (.istore 7, 2) := by decide +kernel
theorem dX7_odds_68 : decode cX7_odds 68 = .ok (.iload 5, 2) := by decide +kernel
theorem dX7_odds_70 : decode cX7_odds 70 = .ok (.iload 7, 2) := by decide +kernel
theorem dX7_odds_72 : decode cX7_odds 72 = .ok (.iload_n 3, 1) := by decide +kernel
theorem dX7_odds_73 : decode cX7_odds 73 = .ok (.if_icmp .lt 24, 3) := by decide +kernel
theorem dX7_odds_76 : decode cX7_odds 76 = .ok (.bipush 10, 2) := by decide +kernel
theorem dX7_odds_78 : decode cX7_odds 78 = .ok (.iload_n 1, 1) := by decide +kernel
theorem dX7_odds_79 : decode cX7_odds 79 = .ok (.isub, 1) := by decide +kernel
theorem dX7_odds_80 : decode cX7_odds 80 = .ok (.iload 7, 2) := by decide +kernel
theorem dX7_odds_82 : decode cX7_odds 82 = .ok (.invokestatic 210, 3) := by decide +kernel
theorem dX7_odds_85 : decode cX7_odds 85 = .ok (.iload_n 1, 1) := by decide +kernel
theorem dX7_odds_86 : decode cX7_odds 86 = .ok (.iload_n 2, 1) := by decide +kernel
theorem dX7_odds_87 : decode cX7_odds 87 = .ok (.iload 7, 2) := by decide +kernel
theorem dX7_odds_89 : decode cX7_odds 89 = .ok (.isub, 1) := by decide +kernel
theorem dX7_odds_90 : decode cX7_odds 90 = .ok (.invokestatic 210, 3) := by decide +kernel
theorem dX7_odds_93 : decode cX7_odds 93 = .ok (.imul, 1) := by decide +kernel
theorem dX7_odds_94 : decode cX7_odds 94 = .ok (.goto 4, 3) := by decide +kernel
theorem dX7_odds_97 : decode cX7_odds 97 = .ok (.iconst 0, 1) := by decide +kernel
theorem dX7_odds_98 : decode cX7_odds 98 = .ok (.iadd, 1) := by decide +kernel
theorem dX7_odds_99 : decode cX7_odds 99 = .ok (.istore 5, 2) := by decide +kernel
theorem dX7_odds_101 : decode cX7_odds 101 = .ok (.iinc 6 1, 3) := by decide +kernel
theorem dX7_odds_104 : decode cX7_odds 104 = .ok (.goto (-51), 3) := by decide +kernel
theorem dX7_odds_107 : decode cX7_odds 107 = .ok (.bipush 10, 2) := by decide +kernel
theorem dX7_odds_109 : decode cX7_odds 109 = .ok (.iload_n 2, 1) := by decide +kernel
theorem dX7_odds_110 : decode cX7_odds 110 = .ok (.invokestatic 210, 3) := by decide +kernel
theorem dX7_odds_113 : decode cX7_odds 113 = .ok (.istore 6, 2) := by decide +kernel
theorem dX7_odds_115 : decode cX7_odds 115 = .ok (.iload 5, 2) := by decide +kernel
theorem dX7_odds_117 : decode cX7_odds 117 = .ok (.iload 6, 2) := by decide +kernel
theorem dX7_odds_119 : decode cX7_odds 119 = .ok (.invokestatic 172, 3) := by decide +kernel
theorem dX7_odds_122 : decode cX7_odds 122 = .ok (.istore 7, 2) := by decide +kernel
theorem dX7_odds_124 : decode cX7_odds 124 = .ok (.iload 4, 2) := by decide +kernel
theorem dX7_odds_126 : decode cX7_odds 126 = .ok (.ifCond .ne 11, 3) := by decide +kernel
theorem dX7_odds_129 : decode cX7_odds 129 = .ok (.iload 5, 2) := by decide +kernel
theorem dX7_odds_131 : decode cX7_odds 131 = .ok (.iload 7, 2) := by decide +kernel
theorem dX7_odds_133 : decode cX7_odds 133 = .ok (.idiv, 1) := by decide +kernel
theorem dX7_odds_134 : decode cX7_odds 134 = .ok (.goto 8, 3) := by decide +kernel
theorem dX7_odds_137 : decode cX7_odds 137 = .ok (.iload 6, 2) := by decide +kernel
theorem dX7_odds_139 : decode cX7_odds 139 = .ok (.iload 7, 2) := by decide +kernel
theorem dX7_odds_141 : decode cX7_odds 141 = .ok (.idiv, 1) := by decide +kernel
theorem dX7_odds_142 : decode cX7_odds 142 = .ok (.ireturn, 1) := by decide +kernel
theorem dX7_rate_0 : decode cX7_rate 0 = .ok (.aload_n 0, 1) := by decide +kernel
theorem dX7_rate_1 : decode cX7_rate 1 = .ok (.iconst 0, 1) := by decide +kernel
theorem dX7_rate_2 : decode cX7_rate 2 = .ok (.putfield 68, 3) := by decide +kernel
theorem dX7_rate_5 : decode cX7_rate 5 = .ok (.iload_n 1, 1) := by decide +kernel
theorem dX7_rate_6 : decode cX7_rate 6 = .ok (.iconst 0, 1) := by decide +kernel
theorem dX7_rate_7 : decode cX7_rate 7 = .ok (.iconst 5, 1) := by decide +kernel
theorem dX7_rate_8 : decode cX7_rate 8 = .ok (.invokestatic 72, 3) := by decide +kernel
theorem dX7_rate_11 : decode cX7_rate 11 = .ok (.ifCond .eq 11, 3) := by decide +kernel
theorem dX7_rate_14 : decode cX7_rate 14 = .ok (.aload_n 0, 1) := by decide +kernel
theorem dX7_rate_15 : decode cX7_rate 15 = .ok (.iload_n 2, 1) := by decide +kernel
theorem dX7_rate_16 : decode cX7_rate 16 = .ok (.invokevirtual 139, 3) := by decide +kernel
theorem dX7_rate_19 : decode cX7_rate 19 = .ok (.ifCond .ne 6, 3) := by decide +kernel
theorem dX7_rate_22 : decode cX7_rate 22 = .ok (.ldc 213, 2) := by decide +kernel
theorem dX7_rate_24 : decode cX7_rate 24 = .ok (.ireturn, 1) := by decide +kernel
theorem dX7_rate_25 : decode cX7_rate 25 = .ok (.aload_n 0, 1) := by decide +kernel
theorem dX7_rate_26 : decode cX7_rate 26 = .ok (.aload_n 0, 1) := by decide +kernel
theorem dX7_rate_27 : decode cX7_rate 27 = .ok (.getfield 31, 3) := by decide +kernel
theorem dX7_rate_30 : decode cX7_rate 30 = .ok (.iload_n 2, 1) := by decide +kernel
theorem dX7_rate_31 : decode cX7_rate 31 = .ok (.invokevirtual 142, 3) := by decide +kernel
theorem dX7_rate_34 : decode cX7_rate 34 = .ok (.istore_n 3, 1) := by decide +kernel
theorem dX7_rate_35 : decode cX7_rate 35 = .ok (.iload_n 3, 1) := by decide +kernel
theorem dX7_rate_36 : decode cX7_rate 36 = .ok (.aload_n 0, 1) := by decide +kernel
theorem dX7_rate_37 : decode cX7_rate 37 = .ok (.getfield 31, 3) := by decide +kernel
theorem dX7_rate_40 : decode cX7_rate 40 = .ok (.bipush 15, 2) := by decide +kernel
theorem dX7_rate_42 : decode cX7_rate 42 = .ok (.iload_n 2, 1) := by decide +kernel
theorem dX7_rate_43 : decode cX7_rate 43 = .ok (.iadd, 1) := by decide +kernel
theorem dX7_rate_44 : decode cX7_rate 44 = .ok (.iaload, 1) := by decide +kernel
theorem dX7_rate_45 : decode cX7_rate 45 = .ok (.isub, 1) := by decide +kernel
theorem dX7_rate_46 : decode cX7_rate 46 = .ok (.istore 4, 2) := by decide +kernel
theorem dX7_rate_48 : decode cX7_rate 48 = .ok (.aload_n 0, 1) := by decide +kernel
theorem dX7_rate_49 : decode cX7_rate 49 = .ok (.dup, 1) := by decide +kernel
theorem dX7_rate_50 : decode cX7_rate 50 = .ok (.getfield 214, 3) := by decide +kernel
theorem dX7_rate_53 : decode cX7_rate 53 = .ok (.iload_n 1, 1) := by decide +kernel
theorem dX7_rate_54 : decode cX7_rate 54 = .ok (.ifCond .ne 7, 3) := by decide +kernel
theorem dX7_rate_57 : decode cX7_rate 57 = .ok (.lconst 1, 1) := by decide +kernel
theorem dX7_rate_58 : decode cX7_rate 58 = .ok (.goto 50, 3) := by decide +kernel
theorem dX7_rate_61 : decode cX7_rate 61 = .ok (.iload_n 1, 1) := by decide +kernel
theorem dX7_rate_62 : decode cX7_rate 62 = .ok (.iconst 1, 1) := by decide +kernel
theorem dX7_rate_63 : decode cX7_rate 63 = .ok (.if_icmp .ne 9, 3) := by decide +kernel
theorem dX7_rate_66 : decode cX7_rate 66 = .ok (.ldc2_w 218, 3) := by decide +kernel
theorem dX7_rate_69 : decode cX7_rate 69 = .ok (.goto 39, 3) := by decide +kernel
theorem dX7_rate_72 : decode cX7_rate 72 = .ok (.iload_n 1, 1) := by decide +kernel
theorem dX7_rate_73 : decode cX7_rate 73 = .ok (.iconst 2, 1) := by decide +kernel
theorem dX7_rate_74 : decode cX7_rate 74 = .ok (.if_icmp .ne 9, 3) := by decide +kernel
theorem dX7_rate_77 : decode cX7_rate 77 = .ok (.ldc2_w 220, 3) := by decide +kernel
theorem dX7_rate_80 : decode cX7_rate 80 = .ok (.goto 28, 3) := by decide +kernel
theorem dX7_rate_83 : decode cX7_rate 83 = .ok (.iload_n 1, 1) := by decide +kernel
theorem dX7_rate_84 : decode cX7_rate 84 = .ok (.iconst 3, 1) := by decide +kernel
theorem dX7_rate_85 : decode cX7_rate 85 = .ok (.if_icmp .ne 9, 3) := by decide +kernel
theorem dX7_rate_88 : decode cX7_rate 88 = .ok (.ldc2_w 222, 3) := by decide +kernel
theorem dX7_rate_91 : decode cX7_rate 91 = .ok (.goto 17, 3) := by decide +kernel
theorem dX7_rate_94 : decode cX7_rate 94 = .ok (.iload_n 1, 1) := by decide +kernel
theorem dX7_rate_95 : decode cX7_rate 95 = .ok (.iconst 4, 1) := by decide +kernel
theorem dX7_rate_96 : decode cX7_rate 96 = .ok (.if_icmp .ne 9, 3) := by decide +kernel
theorem dX7_rate_99 : decode cX7_rate 99 = .ok (.ldc2_w 224, 3) := by decide +kernel
theorem dX7_rate_102 : decode cX7_rate 102 = .ok (.goto 6, 3) := by decide +kernel
theorem dX7_rate_105 : decode cX7_rate 105 = .ok (.ldc2_w 226, 3) := by decide +kernel
theorem dX7_rate_108 : decode cX7_rate 108 = .ok (.ladd, 1) := by decide +kernel
theorem dX7_rate_109 : decode cX7_rate 109 = .ok (.putfield 214, 3) := by decide +kernel
theorem dX7_rate_112 : decode cX7_rate 112 = .ok (.iload_n 1, 1) := by decide +kernel
theorem dX7_rate_113 : decode cX7_rate 113 = .ok (.ifCond .ne 7, 3) := by decide +kernel
theorem dX7_rate_116 : decode cX7_rate 116 = .ok (.iload_n 3, 1) := by decide +kernel
theorem dX7_rate_117 : decode cX7_rate 117 = .ok (.goto 67, 3) := by decide +kernel
theorem dX7_rate_120 : decode cX7_rate 120 = .ok (.iload_n 1, 1) := by decide +kernel
theorem dX7_rate_121 : decode cX7_rate 121 = .ok (.iconst 1, 1) := by decide +kernel
theorem dX7_rate_122 : decode cX7_rate 122 = .ok (.if_icmp .ne 14, 3) := by decide +kernel
theorem dX7_rate_125 : decode cX7_rate 125 = .ok (.iload_n 3, 1) := by decide +kernel
theorem dX7_rate_126 : decode cX7_rate 126 = .ok (.aload_n 0, 1) := by decide +kernel
theorem dX7_rate_127 : decode cX7_rate 127 = .ok (.getfield 16, 3) := by decide +kernel
theorem dX7_rate_130 : decode cX7_rate 130 = .ok (.iload_n 2, 1) := by decide +kernel
theorem dX7_rate_131 : decode cX7_rate 131 = .ok (.iaload, 1) := by decide +kernel
theorem dX7_rate_132 : decode cX7_rate 132 = .ok (.iadd, 1) := by decide +kernel
theorem dX7_rate_133 : decode cX7_rate 133 = .ok (.goto 51, 3) := by decide +kernel
theorem dX7_rate_136 : decode cX7_rate 136 = .ok (.iload_n 1, 1) := by decide +kernel
theorem dX7_rate_137 : decode cX7_rate 137 = .ok (.iconst 2, 1) := by decide +kernel
theorem dX7_rate_138 : decode cX7_rate 138 = .ok (.if_icmp .ne 8, 3) := by decide +kernel
theorem dX7_rate_141 : decode cX7_rate 141 = .ok (.iload 4, 2) := by decide +kernel
theorem dX7_rate_143 : decode cX7_rate 143 = .ok (.goto 41, 3) := by decide +kernel
theorem dX7_rate_146 : decode cX7_rate 146 = .ok (.iload_n 1, 1) := by decide +kernel
theorem dX7_rate_147 : decode cX7_rate 147 = .ok (.iconst 3, 1) := by decide +kernel
theorem dX7_rate_148 : decode cX7_rate 148 = .ok (.if_icmp .ne 16, 3) := by decide +kernel
theorem dX7_rate_151 : decode cX7_rate 151 = .ok (.iconst 2, 1) := by decide +kernel
theorem dX7_rate_152 : decode cX7_rate 152 = .ok (.iload_n 3, 1) := by decide +kernel
theorem dX7_rate_153 : decode cX7_rate 153 = .ok (.aload_n 0, 1) := by decide +kernel
theorem dX7_rate_154 : decode cX7_rate 154 = .ok (.getfield 16, 3) := by decide +kernel
theorem dX7_rate_157 : decode cX7_rate 157 = .ok (.iload_n 2, 1) := by decide +kernel
theorem dX7_rate_158 : decode cX7_rate 158 = .ok (.iaload, 1) := by decide +kernel
theorem dX7_rate_159 : decode cX7_rate 159 = .ok (.iadd, 1) := by decide +kernel
theorem dX7_rate_160 : decode cX7_rate 160 = .ok (.imul, 1) := by decide +kernel
theorem dX7_rate_161 : decode cX7_rate 161 = .ok (.goto 23, 3) := by decide +kernel
theorem dX7_rate_164 : decode cX7_rate 164 = .ok (.iload_n 1, 1) := by decide +kernel
theorem dX7_rate_165 : decode cX7_rate 165 = .ok (.iconst 4, 1) := by decide +kernel
theorem dX7_rate_166 : decode cX7_rate 166 = .ok (.if_icmp .ne 10, 3) := by decide +kernel
theorem dX7_rate_169 : decode cX7_rate 169 = .ok (.iload 4, 2) := by decide +kernel
theorem dX7_rate_171 : decode cX7_rate 171 = .ok (.iload_n 2, 1) := by decide +kernel
theorem dX7_rate_172 : decode cX7_rate 172 = .ok (.iadd, 1) := by decide +kernel
theorem dX7_rate_173 : decode cX7_rate 173 = .ok (.goto 11, 3) := by decide +kernel
theorem dX7_rate_176 : decode cX7_rate 176 = .ok (.iload_n 3, 1) := by decide +kernel
theorem dX7_rate_177 : decode cX7_rate 177 = .ok (.aload_n 0, 1) := by decide +kernel
theorem dX7_rate_178 : decode cX7_rate 178 = .ok (.getfield 31, 3) := by decide +kernel
theorem dX7_rate_181 : decode cX7_rate 181 = .ok (.iconst 1, 1) := by decide +kernel
theorem dX7_rate_182 : decode cX7_rate 182 = .ok (.iaload, 1) := by decide +kernel
theorem dX7_rate_183 : decode cX7_rate 183 = .ok (.iadd, 1) := by decide +kernel
theorem dX7_rate_184 : decode cX7_rate 184 = .ok (.ireturn, 1) := by decide +kernel
theorem dX7_keep_0 : decode cX7_keep 0 = .ok (.aload_n 0, 1) := by decide +kernel
theorem dX7_keep_1 : decode cX7_keep 1 = .ok (.iconst 0, 1) := by decide +kernel
theorem dX7_keep_2 : decode cX7_keep 2 = .ok (.putfield 68, 3) := by decide +kernel
theorem dX7_keep_5 : decode cX7_keep 5 = .ok (.iload_n 1, 1) := by decide +kernel
theorem dX7_keep_6 : decode cX7_keep 6 = .ok (.iconst 0, 1) := by decide +kernel
theorem dX7_keep_7 : decode cX7_keep 7 = .ok (.iconst 1, 1) := by decide +kernel
theorem dX7_keep_8 : decode cX7_keep 8 = .ok (.invokestatic 72, 3) := by decide +kernel
theorem dX7_keep_11 : decode cX7_keep 11 = .ok (.ifCond .ne 5, 3) := by decide +kernel
theorem dX7_keep_14 : decode cX7_keep 14 = .ok (.iconst (-1), 1) := by decide +kernel
theorem dX7_keep_15 : decode cX7_keep 15 = .ok (.ireturn, 1) := by decide +kernel
theorem dX7_keep_16 : decode cX7_keep 16 = .ok (.iconst 0, 1) := by decide +kernel
theorem dX7_keep_17 : decode cX7_keep 17 = .ok (.istore_n 2, 1) := by decide +kernel
theorem dX7_keep_18 : decode cX7_keep 18 = .ok (.iload_n 2, 1) := by decide +kernel
theorem dX7_keep_19 : decode cX7_keep 19 = .ok (.bipush 21, 2) := by decide +kernel
theorem dX7_keep_21 : decode cX7_keep 21 = .ok (.if_icmp .ge 26, 3) := by decide +kernel
theorem dX7_keep_24 : decode cX7_keep 24 = .ok (.aload_n 0, 1) := by decide +kernel
theorem dX7_keep_25 : decode cX7_keep 25 = .ok (.getfield 37, 3) := by decide +kernel
theorem dX7_keep_28 : decode cX7_keep 28 = .ok (.bipush 21, 2) := by decide +kernel
theorem dX7_keep_30 : decode cX7_keep 30 = .ok (.iload_n 1, 1) := by decide +kernel
theorem dX7_keep_31 : decode cX7_keep 31 = .ok (.imul, 1) := by decide +kernel
theorem dX7_keep_32 : decode cX7_keep 32 = .ok (.iload_n 2, 1) := by decide +kernel
theorem dX7_keep_33 : decode cX7_keep 33 = .ok (.iadd, 1) := by decide +kernel
theorem dX7_keep_34 : decode cX7_keep 34 = .ok (.aload_n 0, 1) := by decide +kernel
theorem dX7_keep_35 : decode cX7_keep 35 = .ok (.getfield 31, 3) := by decide +kernel
theorem dX7_keep_38 : decode cX7_keep 38 = .ok (.iload_n 2, 1) := by decide +kernel
theorem dX7_keep_39 : decode cX7_keep 39 = .ok (.iaload, 1) := by decide +kernel
theorem dX7_keep_40 : decode cX7_keep 40 = .ok (.iastore, 1) := by decide +kernel
theorem dX7_keep_41 : decode cX7_keep 41 = .ok (.iinc 2 1, 3) := by decide +kernel
theorem dX7_keep_44 : decode cX7_keep 44 = .ok (.goto (-26), 3) := by decide +kernel
theorem dX7_keep_47 : decode cX7_keep 47 = .ok (.aload_n 0, 1) := by decide +kernel
theorem dX7_keep_48 : decode cX7_keep 48 = .ok (.getfield 40, 3) := by decide +kernel
theorem dX7_keep_51 : decode cX7_keep 51 = .ok (.iload_n 1, 1) := by decide +kernel
theorem dX7_keep_52 : decode cX7_keep 52 = .ok (.iconst 1, 1) := by decide +kernel
theorem dX7_keep_53 : decode cX7_keep 53 = .ok (.bastore, 1) := by decide +kernel
theorem dX7_keep_54 : decode cX7_keep 54 = .ok (.aload_n 0, 1) := by decide +kernel
theorem dX7_keep_55 : decode cX7_keep 55 = .ok (.getfield 31, 3) := by decide +kernel
theorem dX7_keep_58 : decode cX7_keep 58 = .ok (.iconst 0, 1) := by decide +kernel
theorem dX7_keep_59 : decode cX7_keep 59 = .ok (.iaload, 1) := by decide +kernel
theorem dX7_keep_60 : decode cX7_keep 60 = .ok (.ireturn, 1) := by decide +kernel
theorem dX7_back_0 : decode cX7_back 0 = .ok (.aload_n 0, 1) := by decide +kernel
theorem dX7_back_1 : decode cX7_back 1 = .ok (.iconst 0, 1) := by decide +kernel
theorem dX7_back_2 : decode cX7_back 2 = .ok (.putfield 68, 3) := by decide +kernel
theorem dX7_back_5 : decode cX7_back 5 = .ok (.iload_n 1, 1) := by decide +kernel
theorem dX7_back_6 : decode cX7_back 6 = .ok (.iconst 0, 1) := by decide +kernel
theorem dX7_back_7 : decode cX7_back 7 = .ok (.iconst 1, 1) := by decide +kernel
theorem dX7_back_8 : decode cX7_back 8 = .ok (.invokestatic 72, 3) := by decide +kernel
theorem dX7_back_11 : decode cX7_back 11 = .ok (.ifCond .ne 5, 3) := by decide +kernel
theorem dX7_back_14 : decode cX7_back 14 = .ok (.iconst (-1), 1) := by decide +kernel
theorem dX7_back_15 : decode cX7_back 15 = .ok (.ireturn, 1) := by decide +kernel
theorem dX7_back_16 : decode cX7_back 16 = .ok (.aload_n 0, 1) := by decide +kernel
theorem dX7_back_17 : decode cX7_back 17 = .ok (.getfield 40, 3) := by decide +kernel
theorem dX7_back_20 : decode cX7_back 20 = .ok (.iload_n 1, 1) := by decide +kernel
theorem dX7_back_21 : decode cX7_back 21 = .ok (.baload, 1) := by decide +kernel
theorem dX7_back_22 : decode cX7_back 22 = .ok (.ifCond .ne 6, 3) := by decide +kernel
theorem dX7_back_25 : decode cX7_back 25 = .ok (.bipush (-2), 2) := by decide +kernel
theorem dX7_back_27 : decode cX7_back 27 = .ok (.ireturn, 1) := by decide +kernel
theorem dX7_back_28 : decode cX7_back 28 = .ok (.iconst 0, 1) := by decide +kernel
theorem dX7_back_29 : decode cX7_back 29 = .ok (.istore_n 2, 1) := by decide +kernel
theorem dX7_back_30 : decode cX7_back 30 = .ok (.iload_n 2, 1) := by decide +kernel
theorem dX7_back_31 : decode cX7_back 31 = .ok (.bipush 21, 2) := by decide +kernel
theorem dX7_back_33 : decode cX7_back 33 = .ok (.if_icmp .ge 26, 3) := by decide +kernel
theorem dX7_back_36 : decode cX7_back 36 = .ok (.aload_n 0, 1) := by decide +kernel
theorem dX7_back_37 : decode cX7_back 37 = .ok (.getfield 31, 3) := by decide +kernel
theorem dX7_back_40 : decode cX7_back 40 = .ok (.iload_n 2, 1) := by decide +kernel
theorem dX7_back_41 : decode cX7_back 41 = .ok (.aload_n 0, 1) := by decide +kernel
theorem dX7_back_42 : decode cX7_back 42 = .ok (.getfield 37, 3) := by decide +kernel
theorem dX7_back_45 : decode cX7_back 45 = .ok (.bipush 21, 2) := by decide +kernel
theorem dX7_back_47 : decode cX7_back 47 = .ok (.iload_n 1, 1) := by decide +kernel
theorem dX7_back_48 : decode cX7_back 48 = .ok (.imul, 1) := by decide +kernel
theorem dX7_back_49 : decode cX7_back 49 = .ok (.iload_n 2, 1) := by decide +kernel
theorem dX7_back_50 : decode cX7_back 50 = .ok (.iadd, 1) := by decide +kernel
theorem dX7_back_51 : decode cX7_back 51 = .ok (.iaload, 1) := by decide +kernel
theorem dX7_back_52 : decode cX7_back 52 = .ok (.iastore, 1) := by decide +kernel
theorem dX7_back_53 : decode cX7_back 53 = .ok (.iinc 2 1, 3) := by decide +kernel
theorem dX7_back_56 : decode cX7_back 56 = .ok (.goto (-26), 3) := by decide +kernel
theorem dX7_back_59 : decode cX7_back 59 = .ok (.aload_n 0, 1) := by decide +kernel
theorem dX7_back_60 : decode cX7_back 60 = .ok (.iconst 0, 1) := by decide +kernel
theorem dX7_back_61 : decode cX7_back 61 = .ok (.putfield 133, 3) := by decide +kernel
theorem dX7_back_64 : decode cX7_back 64 = .ok (.aload_n 0, 1) := by decide +kernel
theorem dX7_back_65 : decode cX7_back 65 = .ok (.getfield 31, 3) := by decide +kernel
theorem dX7_back_68 : decode cX7_back 68 = .ok (.iconst 0, 1) := by decide +kernel
theorem dX7_back_69 : decode cX7_back 69 = .ok (.iaload, 1) := by decide +kernel
theorem dX7_back_70 : decode cX7_back 70 = .ok (.ireturn, 1) := by decide +kernel
theorem dX7_count_0 : decode cX7_count 0 = .ok (.aload_n 0, 1) := by decide +kernel
theorem dX7_count_1 : decode cX7_count 1 = .ok (.iconst 0, 1) := by decide +kernel
theorem dX7_count_2 : decode cX7_count 2 = .ok (.putfield 68, 3) := by decide +kernel
theorem dX7_count_5 : decode cX7_count 5 = .ok (.iload_n 1, 1) := by decide +kernel
theorem dX7_count_6 : decode cX7_count 6 = .ok (.iconst 0, 1) := by decide +kernel
theorem dX7_count_7 : decode cX7_count 7 = .ok (.iconst 5, 1) := by decide +kernel
theorem dX7_count_8 : decode cX7_count 8 = .ok (.invokestatic 72, 3) := by decide +kernel
theorem dX7_count_11 : decode cX7_count 11 = .ok (.ifCond .eq 12, 3) := by decide +kernel
theorem dX7_count_14 : decode cX7_count 14 = .ok (.aload_n 0, 1) := by decide +kernel
theorem dX7_count_15 : decode cX7_count 15 = .ok (.getfield 13, 3) := by decide +kernel
theorem dX7_count_18 : decode cX7_count 18 = .ok (.iload_n 1, 1) := by decide +kernel
theorem dX7_count_19 : decode cX7_count 19 = .ok (.iaload, 1) := by decide +kernel
theorem dX7_count_20 : decode cX7_count 20 = .ok (.goto 30, 3) := by decide +kernel
theorem dX7_count_23 : decode cX7_count 23 = .ok (.iload_n 1, 1) := by decide +kernel
theorem dX7_count_24 : decode cX7_count 24 = .ok (.bipush 6, 2) := by decide +kernel
theorem dX7_count_26 : decode cX7_count 26 = .ok (.if_icmp .ne 10, 3) := by decide +kernel
theorem dX7_count_29 : decode cX7_count 29 = .ok (.aload_n 0, 1) := by decide +kernel
theorem dX7_count_30 : decode cX7_count 30 = .ok (.getfield 130, 3) := by decide +kernel
theorem dX7_count_33 : decode cX7_count 33 = .ok (.goto 17, 3) := by decide +kernel
theorem dX7_count_36 : decode cX7_count 36 = .ok (.iload_n 1, 1) := by decide +kernel
theorem dX7_count_37 : decode cX7_count 37 = .ok (.bipush 7, 2) := by decide +kernel
theorem dX7_count_39 : decode cX7_count 39 = .ok (.if_icmp .ne 10, 3) := by decide +kernel
theorem dX7_count_42 : decode cX7_count 42 = .ok (.aload_n 0, 1) := by decide +kernel
theorem dX7_count_43 : decode cX7_count 43 = .ok (.getfield 76, 3) := by decide +kernel
theorem dX7_count_46 : decode cX7_count 46 = .ok (.goto 4, 3) := by decide +kernel
theorem dX7_count_49 : decode cX7_count 49 = .ok (.iconst (-1), 1) := by decide +kernel
theorem dX7_count_50 : decode cX7_count 50 = .ok (.ireturn, 1) := by decide +kernel
theorem dX7_trace_0 : decode cX7_trace 0 = .ok (.aload_n 0, 1) := by decide +kernel
theorem dX7_trace_1 : decode cX7_trace 1 = .ok (.iconst 0, 1) := by decide +kernel
theorem dX7_trace_2 : decode cX7_trace 2 = .ok (.putfield 68, 3) := by decide +kernel
theorem dX7_trace_5 : decode cX7_trace 5 = .ok (.aload_n 0, 1) := by decide +kernel
theorem dX7_trace_6 : decode cX7_trace 6 = .ok (.getfield 214, 3) := by decide +kernel
theorem dX7_trace_9 : decode cX7_trace 9 = .ok (.lreturn, 1) := by decide +kernel
end
section
theorem dL_law_0 : decode cL_law 0 = .ok (.new 7, 3) := by decide +kernel
theorem dL_law_3 : decode cL_law 3 = .ok (.dup, 1) := by decide +kernel
theorem dL_law_4 : decode cL_law 4 = .ok (.invokespecial 9, 3) := by decide +kernel
theorem dL_law_7 : decode cL_law 7 = .ok (.astore_n 1, 1) := by decide +kernel
theorem dL_law_8 : decode cL_law 8 = .ok (.new 10, 3) := by decide +kernel
theorem dL_law_11 : decode cL_law 11 = .ok (.dup, 1) := by decide +kernel
theorem dL_law_12 : decode cL_law 12 = .ok (.invokespecial 12, 3) := by decide +kernel
theorem dL_law_15 : decode cL_law 15 = .ok (.astore_n 2, 1) := by decide +kernel
theorem dL_law_16 : decode cL_law 16 = .ok (.iconst 0, 1) := by decide +kernel
theorem dL_law_17 : decode cL_law 17 = .ok (.istore_n 3, 1) := by decide +kernel
theorem dL_law_18 : decode cL_law 18 = .ok (.iload_n 3, 1) := by decide +kernel
theorem dL_law_19 : decode cL_law 19 = .ok (.aload_n 0, 1) := by decide +kernel
theorem dL_law_20 : decode cL_law 20 = .ok (.arraylength, 1) := by decide +kernel
theorem dL_law_21 : decode cL_law 21 = .ok (.iconst 5, 1) := by decide +kernel
theorem dL_law_22 : decode cL_law 22 = .ok (.isub, 1) := by decide +kernel
theorem dL_law_23 : decode cL_law 23 = .ok (.if_icmp .gt 913, 3) := by decide +kernel
theorem dL_law_26 : decode cL_law 26 = .ok (.aload_n 0, 1) := by decide +kernel
theorem dL_law_27 : decode cL_law 27 = .ok (.iload_n 3, 1) := by decide +kernel
theorem dL_law_28 : decode cL_law 28 = .ok (.iaload, 1) := by decide +kernel
theorem dL_law_29 : decode cL_law 29 = .ok (.bipush 63, 2) := by decide +kernel
theorem dL_law_31 : decode cL_law 31 = .ok (.iand, 1) := by decide +kernel
theorem dL_law_32 : decode cL_law 32 = .ok (.tableswitch 898 0 32 #[148, 171, 184, 197, 230, 263, 286, 309, 332, 345, 368, 391, 404, 427, 440, 473, 506, 539, 562, 585, 598, 611, 624, 647, 660, 703, 716, 729, 782, 815, 838, 861, 884], 148) := by decide +kernel
theorem dL_law_180 : decode cL_law 180 = .ok (.aload_n 1, 1) := by decide +kernel
theorem dL_law_181 : decode cL_law 181 = .ok (.aload_n 0, 1) := by decide +kernel
theorem dL_law_182 : decode cL_law 182 = .ok (.iload_n 3, 1) := by decide +kernel
theorem dL_law_183 : decode cL_law 183 = .ok (.iconst 1, 1) := by decide +kernel
theorem dL_law_184 : decode cL_law 184 = .ok (.iadd, 1) := by decide +kernel
theorem dL_law_185 : decode cL_law 185 = .ok (.iaload, 1) := by decide +kernel
theorem dL_law_186 : decode cL_law 186 = .ok (.invokevirtual 13, 3) := by decide +kernel
theorem dL_law_189 : decode cL_law 189 = .ok (.aload_n 2, 1) := by decide +kernel
theorem dL_law_190 : decode cL_law 190 = .ok (.aload_n 0, 1) := by decide +kernel
theorem dL_law_191 : decode cL_law 191 = .ok (.iload_n 3, 1) := by decide +kernel
theorem dL_law_192 : decode cL_law 192 = .ok (.iconst 1, 1) := by decide +kernel
theorem dL_law_193 : decode cL_law 193 = .ok (.iadd, 1) := by decide +kernel
theorem dL_law_194 : decode cL_law 194 = .ok (.iaload, 1) := by decide +kernel
theorem dL_law_195 : decode cL_law 195 = .ok (.invokevirtual 17, 3) := by decide +kernel
theorem dL_law_198 : decode cL_law 198 = .ok (.if_icmp .eq 732, 3) := by decide +kernel
theorem dL_law_201 : decode cL_law 201 = .ok (.iconst 0, 1) := by decide +kernel
theorem dL_law_202 : decode cL_law 202 = .ok (.ireturn, 1) := by decide +kernel
theorem dL_law_203 : decode cL_law 203 = .ok (.aload_n 1, 1) := by decide +kernel
theorem dL_law_204 : decode cL_law 204 = .ok (.invokevirtual 18, 3) := by decide +kernel
theorem dL_law_207 : decode cL_law 207 = .ok (.aload_n 2, 1) := by decide +kernel
theorem dL_law_208 : decode cL_law 208 = .ok (.invokevirtual 22, 3) := by decide +kernel
theorem dL_law_211 : decode cL_law 211 = .ok (.if_icmp .eq 719, 3) := by decide +kernel
theorem dL_law_214 : decode cL_law 214 = .ok (.iconst 0, 1) := by decide +kernel
theorem dL_law_215 : decode cL_law 215 = .ok (.ireturn, 1) := by decide +kernel
theorem dL_law_216 : decode cL_law 216 = .ok (.aload_n 1, 1) := by decide +kernel
theorem dL_law_217 : decode cL_law 217 = .ok (.invokevirtual 23, 3) := by decide +kernel
theorem dL_law_220 : decode cL_law 220 = .ok (.aload_n 2, 1) := by decide +kernel
theorem dL_law_221 : decode cL_law 221 = .ok (.invokevirtual 26, 3) := by decide +kernel
theorem dL_law_224 : decode cL_law 224 = .ok (.if_icmp .eq 706, 3) := by decide +kernel
theorem dL_law_227 : decode cL_law 227 = .ok (.iconst 0, 1) := by decide +kernel
theorem dL_law_228 : decode cL_law 228 = .ok (.ireturn, 1) := by decide +kernel
theorem dL_law_229 : decode cL_law 229 = .ok (.aload_n 1, 1) := by decide +kernel
theorem dL_law_230 : decode cL_law 230 = .ok (.aload_n 0, 1) := by decide +kernel
theorem dL_law_231 : decode cL_law 231 = .ok (.iload_n 3, 1) := by decide +kernel
theorem dL_law_232 : decode cL_law 232 = .ok (.iconst 1, 1) := by decide +kernel
theorem dL_law_233 : decode cL_law 233 = .ok (.iadd, 1) := by decide +kernel
theorem dL_law_234 : decode cL_law 234 = .ok (.iaload, 1) := by decide +kernel
theorem dL_law_235 : decode cL_law 235 = .ok (.aload_n 0, 1) := by decide +kernel
theorem dL_law_236 : decode cL_law 236 = .ok (.iload_n 3, 1) := by decide +kernel
theorem dL_law_237 : decode cL_law 237 = .ok (.iconst 2, 1) := by decide +kernel
theorem dL_law_238 : decode cL_law 238 = .ok (.iadd, 1) := by decide +kernel
theorem dL_law_239 : decode cL_law 239 = .ok (.iaload, 1) := by decide +kernel
theorem dL_law_240 : decode cL_law 240 = .ok (.invokevirtual 27, 3) := by decide +kernel
theorem dL_law_243 : decode cL_law 243 = .ok (.aload_n 2, 1) := by decide +kernel
theorem dL_law_244 : decode cL_law 244 = .ok (.aload_n 0, 1) := by decide +kernel
theorem dL_law_245 : decode cL_law 245 = .ok (.iload_n 3, 1) := by decide +kernel
theorem dL_law_246 : decode cL_law 246 = .ok (.iconst 1, 1) := by decide +kernel
theorem dL_law_247 : decode cL_law 247 = .ok (.iadd, 1) := by decide +kernel
theorem dL_law_248 : decode cL_law 248 = .ok (.iaload, 1) := by decide +kernel
theorem dL_law_249 : decode cL_law 249 = .ok (.aload_n 0, 1) := by decide +kernel
theorem dL_law_250 : decode cL_law 250 = .ok (.iload_n 3, 1) := by decide +kernel
theorem dL_law_251 : decode cL_law 251 = .ok (.iconst 2, 1) := by decide +kernel
theorem dL_law_252 : decode cL_law 252 = .ok (.iadd, 1) := by decide +kernel
theorem dL_law_253 : decode cL_law 253 = .ok (.iaload, 1) := by decide +kernel
theorem dL_law_254 : decode cL_law 254 = .ok (.invokevirtual 31, 3) := by decide +kernel
theorem dL_law_257 : decode cL_law 257 = .ok (.if_icmp .eq 673, 3) := by decide +kernel
theorem dL_law_260 : decode cL_law 260 = .ok (.iconst 0, 1) := by decide +kernel
theorem dL_law_261 : decode cL_law 261 = .ok (.ireturn, 1) := by decide +kernel
theorem dL_law_262 : decode cL_law 262 = .ok (.aload_n 1, 1) := by decide +kernel
theorem dL_law_263 : decode cL_law 263 = .ok (.aload_n 0, 1) := by decide +kernel
theorem dL_law_264 : decode cL_law 264 = .ok (.iload_n 3, 1) := by decide +kernel
theorem dL_law_265 : decode cL_law 265 = .ok (.iconst 1, 1) := by decide +kernel
theorem dL_law_266 : decode cL_law 266 = .ok (.iadd, 1) := by decide +kernel
theorem dL_law_267 : decode cL_law 267 = .ok (.iaload, 1) := by decide +kernel
theorem dL_law_268 : decode cL_law 268 = .ok (.aload_n 0, 1) := by decide +kernel
theorem dL_law_269 : decode cL_law 269 = .ok (.iload_n 3, 1) := by decide +kernel
theorem dL_law_270 : decode cL_law 270 = .ok (.iconst 2, 1) := by decide +kernel
theorem dL_law_271 : decode cL_law 271 = .ok (.iadd, 1) := by decide +kernel
theorem dL_law_272 : decode cL_law 272 = .ok (.iaload, 1) := by decide +kernel
theorem dL_law_273 : decode cL_law 273 = .ok (.invokevirtual 32, 3) := by decide +kernel
theorem dL_law_276 : decode cL_law 276 = .ok (.aload_n 2, 1) := by decide +kernel
theorem dL_law_277 : decode cL_law 277 = .ok (.aload_n 0, 1) := by decide +kernel
theorem dL_law_278 : decode cL_law 278 = .ok (.iload_n 3, 1) := by decide +kernel
theorem dL_law_279 : decode cL_law 279 = .ok (.iconst 1, 1) := by decide +kernel
theorem dL_law_280 : decode cL_law 280 = .ok (.iadd, 1) := by decide +kernel
theorem dL_law_281 : decode cL_law 281 = .ok (.iaload, 1) := by decide +kernel
theorem dL_law_282 : decode cL_law 282 = .ok (.aload_n 0, 1) := by decide +kernel
theorem dL_law_283 : decode cL_law 283 = .ok (.iload_n 3, 1) := by decide +kernel
theorem dL_law_284 : decode cL_law 284 = .ok (.iconst 2, 1) := by decide +kernel
theorem dL_law_285 : decode cL_law 285 = .ok (.iadd, 1) := by decide +kernel
theorem dL_law_286 : decode cL_law 286 = .ok (.iaload, 1) := by decide +kernel
theorem dL_law_287 : decode cL_law 287 = .ok (.invokevirtual 35, 3) := by decide +kernel
theorem dL_law_290 : decode cL_law 290 = .ok (.if_icmp .eq 640, 3) := by decide +kernel
theorem dL_law_293 : decode cL_law 293 = .ok (.iconst 0, 1) := by decide +kernel
theorem dL_law_294 : decode cL_law 294 = .ok (.ireturn, 1) := by decide +kernel
theorem dL_law_295 : decode cL_law 295 = .ok (.aload_n 1, 1) := by decide +kernel
theorem dL_law_296 : decode cL_law 296 = .ok (.aload_n 0, 1) := by decide +kernel
theorem dL_law_297 : decode cL_law 297 = .ok (.iload_n 3, 1) := by decide +kernel
theorem dL_law_298 : decode cL_law 298 = .ok (.iconst 1, 1) := by decide +kernel
theorem dL_law_299 : decode cL_law 299 = .ok (.iadd, 1) := by decide +kernel
theorem dL_law_300 : decode cL_law 300 = .ok (.iaload, 1) := by decide +kernel
theorem dL_law_301 : decode cL_law 301 = .ok (.invokevirtual 36, 3) := by decide +kernel
theorem dL_law_304 : decode cL_law 304 = .ok (.aload_n 2, 1) := by decide +kernel
theorem dL_law_305 : decode cL_law 305 = .ok (.aload_n 0, 1) := by decide +kernel
theorem dL_law_306 : decode cL_law 306 = .ok (.iload_n 3, 1) := by decide +kernel
theorem dL_law_307 : decode cL_law 307 = .ok (.iconst 1, 1) := by decide +kernel
theorem dL_law_308 : decode cL_law 308 = .ok (.iadd, 1) := by decide +kernel
theorem dL_law_309 : decode cL_law 309 = .ok (.iaload, 1) := by decide +kernel
theorem dL_law_310 : decode cL_law 310 = .ok (.invokevirtual 39, 3) := by decide +kernel
theorem dL_law_313 : decode cL_law 313 = .ok (.if_icmp .eq 617, 3) := by decide +kernel
theorem dL_law_316 : decode cL_law 316 = .ok (.iconst 0, 1) := by decide +kernel
theorem dL_law_317 : decode cL_law 317 = .ok (.ireturn, 1) := by decide +kernel
theorem dL_law_318 : decode cL_law 318 = .ok (.aload_n 1, 1) := by decide +kernel
theorem dL_law_319 : decode cL_law 319 = .ok (.aload_n 0, 1) := by decide +kernel
theorem dL_law_320 : decode cL_law 320 = .ok (.iload_n 3, 1) := by decide +kernel
theorem dL_law_321 : decode cL_law 321 = .ok (.iconst 1, 1) := by decide +kernel
theorem dL_law_322 : decode cL_law 322 = .ok (.iadd, 1) := by decide +kernel
theorem dL_law_323 : decode cL_law 323 = .ok (.iaload, 1) := by decide +kernel
theorem dL_law_324 : decode cL_law 324 = .ok (.invokevirtual 40, 3) := by decide +kernel
theorem dL_law_327 : decode cL_law 327 = .ok (.aload_n 2, 1) := by decide +kernel
theorem dL_law_328 : decode cL_law 328 = .ok (.aload_n 0, 1) := by decide +kernel
theorem dL_law_329 : decode cL_law 329 = .ok (.iload_n 3, 1) := by decide +kernel
theorem dL_law_330 : decode cL_law 330 = .ok (.iconst 1, 1) := by decide +kernel
theorem dL_law_331 : decode cL_law 331 = .ok (.iadd, 1) := by decide +kernel
theorem dL_law_332 : decode cL_law 332 = .ok (.iaload, 1) := by decide +kernel
theorem dL_law_333 : decode cL_law 333 = .ok (.invokevirtual 43, 3) := by decide +kernel
theorem dL_law_336 : decode cL_law 336 = .ok (.if_icmp .eq 594, 3) := by decide +kernel
theorem dL_law_339 : decode cL_law 339 = .ok (.iconst 0, 1) := by decide +kernel
theorem dL_law_340 : decode cL_law 340 = .ok (.ireturn, 1) := by decide +kernel
theorem dL_law_341 : decode cL_law 341 = .ok (.aload_n 1, 1) := by decide +kernel
theorem dL_law_342 : decode cL_law 342 = .ok (.aload_n 0, 1) := by decide +kernel
theorem dL_law_343 : decode cL_law 343 = .ok (.iload_n 3, 1) := by decide +kernel
theorem dL_law_344 : decode cL_law 344 = .ok (.iconst 1, 1) := by decide +kernel
theorem dL_law_345 : decode cL_law 345 = .ok (.iadd, 1) := by decide +kernel
theorem dL_law_346 : decode cL_law 346 = .ok (.iaload, 1) := by decide +kernel
theorem dL_law_347 : decode cL_law 347 = .ok (.invokevirtual 44, 3) := by decide +kernel
theorem dL_law_350 : decode cL_law 350 = .ok (.aload_n 2, 1) := by decide +kernel
theorem dL_law_351 : decode cL_law 351 = .ok (.aload_n 0, 1) := by decide +kernel
theorem dL_law_352 : decode cL_law 352 = .ok (.iload_n 3, 1) := by decide +kernel
theorem dL_law_353 : decode cL_law 353 = .ok (.iconst 1, 1) := by decide +kernel
theorem dL_law_354 : decode cL_law 354 = .ok (.iadd, 1) := by decide +kernel
theorem dL_law_355 : decode cL_law 355 = .ok (.iaload, 1) := by decide +kernel
theorem dL_law_356 : decode cL_law 356 = .ok (.invokevirtual 47, 3) := by decide +kernel
theorem dL_law_359 : decode cL_law 359 = .ok (.if_icmp .eq 571, 3) := by decide +kernel
theorem dL_law_362 : decode cL_law 362 = .ok (.iconst 0, 1) := by decide +kernel
theorem dL_law_363 : decode cL_law 363 = .ok (.ireturn, 1) := by decide +kernel
theorem dL_law_364 : decode cL_law 364 = .ok (.aload_n 1, 1) := by decide +kernel
theorem dL_law_365 : decode cL_law 365 = .ok (.invokevirtual 48, 3) := by decide +kernel
theorem dL_law_368 : decode cL_law 368 = .ok (.aload_n 2, 1) := by decide +kernel
theorem dL_law_369 : decode cL_law 369 = .ok (.invokevirtual 51, 3) := by decide +kernel
theorem dL_law_372 : decode cL_law 372 = .ok (.if_icmp .eq 558, 3) := by decide +kernel
theorem dL_law_375 : decode cL_law 375 = .ok (.iconst 0, 1) := by decide +kernel
theorem dL_law_376 : decode cL_law 376 = .ok (.ireturn, 1) := by decide +kernel
theorem dL_law_377 : decode cL_law 377 = .ok (.aload_n 1, 1) := by decide +kernel
theorem dL_law_378 : decode cL_law 378 = .ok (.aload_n 0, 1) := by decide +kernel
theorem dL_law_379 : decode cL_law 379 = .ok (.iload_n 3, 1) := by decide +kernel
theorem dL_law_380 : decode cL_law 380 = .ok (.iconst 1, 1) := by decide +kernel
theorem dL_law_381 : decode cL_law 381 = .ok (.iadd, 1) := by decide +kernel
theorem dL_law_382 : decode cL_law 382 = .ok (.iaload, 1) := by decide +kernel
theorem dL_law_383 : decode cL_law 383 = .ok (.invokevirtual 52, 3) := by decide +kernel
theorem dL_law_386 : decode cL_law 386 = .ok (.aload_n 2, 1) := by decide +kernel
theorem dL_law_387 : decode cL_law 387 = .ok (.aload_n 0, 1) := by decide +kernel
theorem dL_law_388 : decode cL_law 388 = .ok (.iload_n 3, 1) := by decide +kernel
theorem dL_law_389 : decode cL_law 389 = .ok (.iconst 1, 1) := by decide +kernel
theorem dL_law_390 : decode cL_law 390 = .ok (.iadd, 1) := by decide +kernel
theorem dL_law_391 : decode cL_law 391 = .ok (.iaload, 1) := by decide +kernel
theorem dL_law_392 : decode cL_law 392 = .ok (.invokevirtual 55, 3) := by decide +kernel
theorem dL_law_395 : decode cL_law 395 = .ok (.if_icmp .eq 535, 3) := by decide +kernel
theorem dL_law_398 : decode cL_law 398 = .ok (.iconst 0, 1) := by decide +kernel
theorem dL_law_399 : decode cL_law 399 = .ok (.ireturn, 1) := by decide +kernel
theorem dL_law_400 : decode cL_law 400 = .ok (.aload_n 1, 1) := by decide +kernel
theorem dL_law_401 : decode cL_law 401 = .ok (.aload_n 0, 1) := by decide +kernel
theorem dL_law_402 : decode cL_law 402 = .ok (.iload_n 3, 1) := by decide +kernel
theorem dL_law_403 : decode cL_law 403 = .ok (.iconst 1, 1) := by decide +kernel
theorem dL_law_404 : decode cL_law 404 = .ok (.iadd, 1) := by decide +kernel
theorem dL_law_405 : decode cL_law 405 = .ok (.iaload, 1) := by decide +kernel
theorem dL_law_406 : decode cL_law 406 = .ok (.invokevirtual 56, 3) := by decide +kernel
theorem dL_law_409 : decode cL_law 409 = .ok (.aload_n 2, 1) := by decide +kernel
theorem dL_law_410 : decode cL_law 410 = .ok (.aload_n 0, 1) := by decide +kernel
theorem dL_law_411 : decode cL_law 411 = .ok (.iload_n 3, 1) := by decide +kernel
theorem dL_law_412 : decode cL_law 412 = .ok (.iconst 1, 1) := by decide +kernel
theorem dL_law_413 : decode cL_law 413 = .ok (.iadd, 1) := by decide +kernel
theorem dL_law_414 : decode cL_law 414 = .ok (.iaload, 1) := by decide +kernel
theorem dL_law_415 : decode cL_law 415 = .ok (.invokevirtual 59, 3) := by decide +kernel
theorem dL_law_418 : decode cL_law 418 = .ok (.if_icmp .eq 512, 3) := by decide +kernel
theorem dL_law_421 : decode cL_law 421 = .ok (.iconst 0, 1) := by decide +kernel
theorem dL_law_422 : decode cL_law 422 = .ok (.ireturn, 1) := by decide +kernel
theorem dL_law_423 : decode cL_law 423 = .ok (.aload_n 1, 1) := by decide +kernel
theorem dL_law_424 : decode cL_law 424 = .ok (.invokevirtual 60, 3) := by decide +kernel
theorem dL_law_427 : decode cL_law 427 = .ok (.aload_n 2, 1) := by decide +kernel
theorem dL_law_428 : decode cL_law 428 = .ok (.invokevirtual 63, 3) := by decide +kernel
theorem dL_law_431 : decode cL_law 431 = .ok (.if_icmp .eq 499, 3) := by decide +kernel
theorem dL_law_434 : decode cL_law 434 = .ok (.iconst 0, 1) := by decide +kernel
theorem dL_law_435 : decode cL_law 435 = .ok (.ireturn, 1) := by decide +kernel
theorem dL_law_436 : decode cL_law 436 = .ok (.aload_n 1, 1) := by decide +kernel
theorem dL_law_437 : decode cL_law 437 = .ok (.aload_n 0, 1) := by decide +kernel
theorem dL_law_438 : decode cL_law 438 = .ok (.iload_n 3, 1) := by decide +kernel
theorem dL_law_439 : decode cL_law 439 = .ok (.iconst 1, 1) := by decide +kernel
theorem dL_law_440 : decode cL_law 440 = .ok (.iadd, 1) := by decide +kernel
theorem dL_law_441 : decode cL_law 441 = .ok (.iaload, 1) := by decide +kernel
theorem dL_law_442 : decode cL_law 442 = .ok (.invokevirtual 64, 3) := by decide +kernel
theorem dL_law_445 : decode cL_law 445 = .ok (.aload_n 2, 1) := by decide +kernel
theorem dL_law_446 : decode cL_law 446 = .ok (.aload_n 0, 1) := by decide +kernel
theorem dL_law_447 : decode cL_law 447 = .ok (.iload_n 3, 1) := by decide +kernel
theorem dL_law_448 : decode cL_law 448 = .ok (.iconst 1, 1) := by decide +kernel
theorem dL_law_449 : decode cL_law 449 = .ok (.iadd, 1) := by decide +kernel
theorem dL_law_450 : decode cL_law 450 = .ok (.iaload, 1) := by decide +kernel
theorem dL_law_451 : decode cL_law 451 = .ok (.invokevirtual 67, 3) := by decide +kernel
theorem dL_law_454 : decode cL_law 454 = .ok (.if_icmp .eq 476, 3) := by decide +kernel
theorem dL_law_457 : decode cL_law 457 = .ok (.iconst 0, 1) := by decide +kernel
theorem dL_law_458 : decode cL_law 458 = .ok (.ireturn, 1) := by decide +kernel
theorem dL_law_459 : decode cL_law 459 = .ok (.aload_n 1, 1) := by decide +kernel
theorem dL_law_460 : decode cL_law 460 = .ok (.invokevirtual 68, 3) := by decide +kernel
theorem dL_law_463 : decode cL_law 463 = .ok (.aload_n 2, 1) := by decide +kernel
theorem dL_law_464 : decode cL_law 464 = .ok (.invokevirtual 71, 3) := by decide +kernel
theorem dL_law_467 : decode cL_law 467 = .ok (.if_icmp .eq 463, 3) := by decide +kernel
theorem dL_law_470 : decode cL_law 470 = .ok (.iconst 0, 1) := by decide +kernel
theorem dL_law_471 : decode cL_law 471 = .ok (.ireturn, 1) := by decide +kernel
theorem dL_law_472 : decode cL_law 472 = .ok (.aload_n 1, 1) := by decide +kernel
theorem dL_law_473 : decode cL_law 473 = .ok (.aload_n 0, 1) := by decide +kernel
theorem dL_law_474 : decode cL_law 474 = .ok (.iload_n 3, 1) := by decide +kernel
theorem dL_law_475 : decode cL_law 475 = .ok (.iconst 1, 1) := by decide +kernel
theorem dL_law_476 : decode cL_law 476 = .ok (.iadd, 1) := by decide +kernel
theorem dL_law_477 : decode cL_law 477 = .ok (.iaload, 1) := by decide +kernel
theorem dL_law_478 : decode cL_law 478 = .ok (.aload_n 0, 1) := by decide +kernel
theorem dL_law_479 : decode cL_law 479 = .ok (.iload_n 3, 1) := by decide +kernel
theorem dL_law_480 : decode cL_law 480 = .ok (.iconst 2, 1) := by decide +kernel
theorem dL_law_481 : decode cL_law 481 = .ok (.iadd, 1) := by decide +kernel
theorem dL_law_482 : decode cL_law 482 = .ok (.iaload, 1) := by decide +kernel
theorem dL_law_483 : decode cL_law 483 = .ok (.invokevirtual 72, 3) := by decide +kernel
theorem dL_law_486 : decode cL_law 486 = .ok (.aload_n 2, 1) := by decide +kernel
theorem dL_law_487 : decode cL_law 487 = .ok (.aload_n 0, 1) := by decide +kernel
theorem dL_law_488 : decode cL_law 488 = .ok (.iload_n 3, 1) := by decide +kernel
theorem dL_law_489 : decode cL_law 489 = .ok (.iconst 1, 1) := by decide +kernel
theorem dL_law_490 : decode cL_law 490 = .ok (.iadd, 1) := by decide +kernel
theorem dL_law_491 : decode cL_law 491 = .ok (.iaload, 1) := by decide +kernel
theorem dL_law_492 : decode cL_law 492 = .ok (.aload_n 0, 1) := by decide +kernel
theorem dL_law_493 : decode cL_law 493 = .ok (.iload_n 3, 1) := by decide +kernel
theorem dL_law_494 : decode cL_law 494 = .ok (.iconst 2, 1) := by decide +kernel
theorem dL_law_495 : decode cL_law 495 = .ok (.iadd, 1) := by decide +kernel
theorem dL_law_496 : decode cL_law 496 = .ok (.iaload, 1) := by decide +kernel
theorem dL_law_497 : decode cL_law 497 = .ok (.invokevirtual 75, 3) := by decide +kernel
theorem dL_law_500 : decode cL_law 500 = .ok (.if_icmp .eq 430, 3) := by decide +kernel
theorem dL_law_503 : decode cL_law 503 = .ok (.iconst 0, 1) := by decide +kernel
theorem dL_law_504 : decode cL_law 504 = .ok (.ireturn, 1) := by decide +kernel
theorem dL_law_505 : decode cL_law 505 = .ok (.aload_n 1, 1) := by decide +kernel
theorem dL_law_506 : decode cL_law 506 = .ok (.aload_n 0, 1) := by decide +kernel
theorem dL_law_507 : decode cL_law 507 = .ok (.iload_n 3, 1) := by decide +kernel
theorem dL_law_508 : decode cL_law 508 = .ok (.iconst 1, 1) := by decide +kernel
theorem dL_law_509 : decode cL_law 509 = .ok (.iadd, 1) := by decide +kernel
theorem dL_law_510 : decode cL_law 510 = .ok (.iaload, 1) := by decide +kernel
theorem dL_law_511 : decode cL_law 511 = .ok (.aload_n 0, 1) := by decide +kernel
theorem dL_law_512 : decode cL_law 512 = .ok (.iload_n 3, 1) := by decide +kernel
theorem dL_law_513 : decode cL_law 513 = .ok (.iconst 2, 1) := by decide +kernel
theorem dL_law_514 : decode cL_law 514 = .ok (.iadd, 1) := by decide +kernel
theorem dL_law_515 : decode cL_law 515 = .ok (.iaload, 1) := by decide +kernel
theorem dL_law_516 : decode cL_law 516 = .ok (.invokevirtual 76, 3) := by decide +kernel
theorem dL_law_519 : decode cL_law 519 = .ok (.aload_n 2, 1) := by decide +kernel
theorem dL_law_520 : decode cL_law 520 = .ok (.aload_n 0, 1) := by decide +kernel
theorem dL_law_521 : decode cL_law 521 = .ok (.iload_n 3, 1) := by decide +kernel
theorem dL_law_522 : decode cL_law 522 = .ok (.iconst 1, 1) := by decide +kernel
theorem dL_law_523 : decode cL_law 523 = .ok (.iadd, 1) := by decide +kernel
theorem dL_law_524 : decode cL_law 524 = .ok (.iaload, 1) := by decide +kernel
theorem dL_law_525 : decode cL_law 525 = .ok (.aload_n 0, 1) := by decide +kernel
theorem dL_law_526 : decode cL_law 526 = .ok (.iload_n 3, 1) := by decide +kernel
theorem dL_law_527 : decode cL_law 527 = .ok (.iconst 2, 1) := by decide +kernel
theorem dL_law_528 : decode cL_law 528 = .ok (.iadd, 1) := by decide +kernel
theorem dL_law_529 : decode cL_law 529 = .ok (.iaload, 1) := by decide +kernel
theorem dL_law_530 : decode cL_law 530 = .ok (.invokevirtual 79, 3) := by decide +kernel
theorem dL_law_533 : decode cL_law 533 = .ok (.if_icmp .eq 397, 3) := by decide +kernel
theorem dL_law_536 : decode cL_law 536 = .ok (.iconst 0, 1) := by decide +kernel
theorem dL_law_537 : decode cL_law 537 = .ok (.ireturn, 1) := by decide +kernel
theorem dL_law_538 : decode cL_law 538 = .ok (.aload_n 1, 1) := by decide +kernel
theorem dL_law_539 : decode cL_law 539 = .ok (.aload_n 0, 1) := by decide +kernel
theorem dL_law_540 : decode cL_law 540 = .ok (.iload_n 3, 1) := by decide +kernel
theorem dL_law_541 : decode cL_law 541 = .ok (.iconst 1, 1) := by decide +kernel
theorem dL_law_542 : decode cL_law 542 = .ok (.iadd, 1) := by decide +kernel
theorem dL_law_543 : decode cL_law 543 = .ok (.iaload, 1) := by decide +kernel
theorem dL_law_544 : decode cL_law 544 = .ok (.aload_n 0, 1) := by decide +kernel
theorem dL_law_545 : decode cL_law 545 = .ok (.iload_n 3, 1) := by decide +kernel
theorem dL_law_546 : decode cL_law 546 = .ok (.iconst 2, 1) := by decide +kernel
theorem dL_law_547 : decode cL_law 547 = .ok (.iadd, 1) := by decide +kernel
theorem dL_law_548 : decode cL_law 548 = .ok (.iaload, 1) := by decide +kernel
theorem dL_law_549 : decode cL_law 549 = .ok (.invokevirtual 80, 3) := by decide +kernel
theorem dL_law_552 : decode cL_law 552 = .ok (.aload_n 2, 1) := by decide +kernel
theorem dL_law_553 : decode cL_law 553 = .ok (.aload_n 0, 1) := by decide +kernel
theorem dL_law_554 : decode cL_law 554 = .ok (.iload_n 3, 1) := by decide +kernel
theorem dL_law_555 : decode cL_law 555 = .ok (.iconst 1, 1) := by decide +kernel
theorem dL_law_556 : decode cL_law 556 = .ok (.iadd, 1) := by decide +kernel
theorem dL_law_557 : decode cL_law 557 = .ok (.iaload, 1) := by decide +kernel
theorem dL_law_558 : decode cL_law 558 = .ok (.aload_n 0, 1) := by decide +kernel
theorem dL_law_559 : decode cL_law 559 = .ok (.iload_n 3, 1) := by decide +kernel
theorem dL_law_560 : decode cL_law 560 = .ok (.iconst 2, 1) := by decide +kernel
theorem dL_law_561 : decode cL_law 561 = .ok (.iadd, 1) := by decide +kernel
theorem dL_law_562 : decode cL_law 562 = .ok (.iaload, 1) := by decide +kernel
theorem dL_law_563 : decode cL_law 563 = .ok (.invokevirtual 83, 3) := by decide +kernel
theorem dL_law_566 : decode cL_law 566 = .ok (.if_icmp .eq 364, 3) := by decide +kernel
theorem dL_law_569 : decode cL_law 569 = .ok (.iconst 0, 1) := by decide +kernel
theorem dL_law_570 : decode cL_law 570 = .ok (.ireturn, 1) := by decide +kernel
theorem dL_law_571 : decode cL_law 571 = .ok (.aload_n 1, 1) := by decide +kernel
theorem dL_law_572 : decode cL_law 572 = .ok (.aload_n 0, 1) := by decide +kernel
theorem dL_law_573 : decode cL_law 573 = .ok (.iload_n 3, 1) := by decide +kernel
theorem dL_law_574 : decode cL_law 574 = .ok (.iconst 1, 1) := by decide +kernel
theorem dL_law_575 : decode cL_law 575 = .ok (.iadd, 1) := by decide +kernel
theorem dL_law_576 : decode cL_law 576 = .ok (.iaload, 1) := by decide +kernel
theorem dL_law_577 : decode cL_law 577 = .ok (.invokevirtual 84, 3) := by decide +kernel
theorem dL_law_580 : decode cL_law 580 = .ok (.aload_n 2, 1) := by decide +kernel
theorem dL_law_581 : decode cL_law 581 = .ok (.aload_n 0, 1) := by decide +kernel
theorem dL_law_582 : decode cL_law 582 = .ok (.iload_n 3, 1) := by decide +kernel
theorem dL_law_583 : decode cL_law 583 = .ok (.iconst 1, 1) := by decide +kernel
theorem dL_law_584 : decode cL_law 584 = .ok (.iadd, 1) := by decide +kernel
theorem dL_law_585 : decode cL_law 585 = .ok (.iaload, 1) := by decide +kernel
theorem dL_law_586 : decode cL_law 586 = .ok (.invokevirtual 87, 3) := by decide +kernel
theorem dL_law_589 : decode cL_law 589 = .ok (.if_icmp .eq 341, 3) := by decide +kernel
theorem dL_law_592 : decode cL_law 592 = .ok (.iconst 0, 1) := by decide +kernel
theorem dL_law_593 : decode cL_law 593 = .ok (.ireturn, 1) := by decide +kernel
theorem dL_law_594 : decode cL_law 594 = .ok (.aload_n 1, 1) := by decide +kernel
theorem dL_law_595 : decode cL_law 595 = .ok (.aload_n 0, 1) := by decide +kernel
theorem dL_law_596 : decode cL_law 596 = .ok (.iload_n 3, 1) := by decide +kernel
theorem dL_law_597 : decode cL_law 597 = .ok (.iconst 1, 1) := by decide +kernel
theorem dL_law_598 : decode cL_law 598 = .ok (.iadd, 1) := by decide +kernel
theorem dL_law_599 : decode cL_law 599 = .ok (.iaload, 1) := by decide +kernel
theorem dL_law_600 : decode cL_law 600 = .ok (.invokevirtual 88, 3) := by decide +kernel
theorem dL_law_603 : decode cL_law 603 = .ok (.aload_n 2, 1) := by decide +kernel
theorem dL_law_604 : decode cL_law 604 = .ok (.aload_n 0, 1) := by decide +kernel
theorem dL_law_605 : decode cL_law 605 = .ok (.iload_n 3, 1) := by decide +kernel
theorem dL_law_606 : decode cL_law 606 = .ok (.iconst 1, 1) := by decide +kernel
theorem dL_law_607 : decode cL_law 607 = .ok (.iadd, 1) := by decide +kernel
theorem dL_law_608 : decode cL_law 608 = .ok (.iaload, 1) := by decide +kernel
theorem dL_law_609 : decode cL_law 609 = .ok (.invokevirtual 91, 3) := by decide +kernel
theorem dL_law_612 : decode cL_law 612 = .ok (.if_icmp .eq 318, 3) := by decide +kernel
theorem dL_law_615 : decode cL_law 615 = .ok (.iconst 0, 1) := by decide +kernel
theorem dL_law_616 : decode cL_law 616 = .ok (.ireturn, 1) := by decide +kernel
theorem dL_law_617 : decode cL_law 617 = .ok (.aload_n 1, 1) := by decide +kernel
theorem dL_law_618 : decode cL_law 618 = .ok (.invokevirtual 92, 3) := by decide +kernel
theorem dL_law_621 : decode cL_law 621 = .ok (.aload_n 2, 1) := by decide +kernel
theorem dL_law_622 : decode cL_law 622 = .ok (.invokevirtual 95, 3) := by decide +kernel
theorem dL_law_625 : decode cL_law 625 = .ok (.if_icmp .eq 305, 3) := by decide +kernel
theorem dL_law_628 : decode cL_law 628 = .ok (.iconst 0, 1) := by decide +kernel
theorem dL_law_629 : decode cL_law 629 = .ok (.ireturn, 1) := by decide +kernel
theorem dL_law_630 : decode cL_law 630 = .ok (.aload_n 1, 1) := by decide +kernel
theorem dL_law_631 : decode cL_law 631 = .ok (.invokevirtual 96, 3) := by decide +kernel
theorem dL_law_634 : decode cL_law 634 = .ok (.aload_n 2, 1) := by decide +kernel
theorem dL_law_635 : decode cL_law 635 = .ok (.invokevirtual 99, 3) := by decide +kernel
theorem dL_law_638 : decode cL_law 638 = .ok (.if_icmp .eq 292, 3) := by decide +kernel
theorem dL_law_641 : decode cL_law 641 = .ok (.iconst 0, 1) := by decide +kernel
theorem dL_law_642 : decode cL_law 642 = .ok (.ireturn, 1) := by decide +kernel
theorem dL_law_643 : decode cL_law 643 = .ok (.aload_n 1, 1) := by decide +kernel
theorem dL_law_644 : decode cL_law 644 = .ok (.invokevirtual 100, 3) := by decide +kernel
theorem dL_law_647 : decode cL_law 647 = .ok (.aload_n 2, 1) := by decide +kernel
theorem dL_law_648 : decode cL_law 648 = .ok (.invokevirtual 103, 3) := by decide +kernel
theorem dL_law_651 : decode cL_law 651 = .ok (.if_icmp .eq 279, 3) := by decide +kernel
theorem dL_law_654 : decode cL_law 654 = .ok (.iconst 0, 1) := by decide +kernel
theorem dL_law_655 : decode cL_law 655 = .ok (.ireturn, 1) := by decide +kernel
theorem dL_law_656 : decode cL_law 656 = .ok (.aload_n 1, 1) := by decide +kernel
theorem dL_law_657 : decode cL_law 657 = .ok (.aload_n 0, 1) := by decide +kernel
theorem dL_law_658 : decode cL_law 658 = .ok (.iload_n 3, 1) := by decide +kernel
theorem dL_law_659 : decode cL_law 659 = .ok (.iconst 1, 1) := by decide +kernel
theorem dL_law_660 : decode cL_law 660 = .ok (.iadd, 1) := by decide +kernel
theorem dL_law_661 : decode cL_law 661 = .ok (.iaload, 1) := by decide +kernel
theorem dL_law_662 : decode cL_law 662 = .ok (.invokevirtual 104, 3) := by decide +kernel
theorem dL_law_665 : decode cL_law 665 = .ok (.aload_n 2, 1) := by decide +kernel
theorem dL_law_666 : decode cL_law 666 = .ok (.aload_n 0, 1) := by decide +kernel
theorem dL_law_667 : decode cL_law 667 = .ok (.iload_n 3, 1) := by decide +kernel
theorem dL_law_668 : decode cL_law 668 = .ok (.iconst 1, 1) := by decide +kernel
theorem dL_law_669 : decode cL_law 669 = .ok (.iadd, 1) := by decide +kernel
theorem dL_law_670 : decode cL_law 670 = .ok (.iaload, 1) := by decide +kernel
theorem dL_law_671 : decode cL_law 671 = .ok (.invokevirtual 107, 3) := by decide +kernel
theorem dL_law_674 : decode cL_law 674 = .ok (.if_icmp .eq 256, 3) := by decide +kernel
theorem dL_law_677 : decode cL_law 677 = .ok (.iconst 0, 1) := by decide +kernel
theorem dL_law_678 : decode cL_law 678 = .ok (.ireturn, 1) := by decide +kernel
theorem dL_law_679 : decode cL_law 679 = .ok (.aload_n 1, 1) := by decide +kernel
theorem dL_law_680 : decode cL_law 680 = .ok (.invokevirtual 108, 3) := by decide +kernel
theorem dL_law_683 : decode cL_law 683 = .ok (.aload_n 2, 1) := by decide +kernel
theorem dL_law_684 : decode cL_law 684 = .ok (.invokevirtual 111, 3) := by decide +kernel
theorem dL_law_687 : decode cL_law 687 = .ok (.if_icmp .eq 243, 3) := by decide +kernel
theorem dL_law_690 : decode cL_law 690 = .ok (.iconst 0, 1) := by decide +kernel
theorem dL_law_691 : decode cL_law 691 = .ok (.ireturn, 1) := by decide +kernel
theorem dL_law_692 : decode cL_law 692 = .ok (.aload_n 1, 1) := by decide +kernel
theorem dL_law_693 : decode cL_law 693 = .ok (.aload_n 0, 1) := by decide +kernel
theorem dL_law_694 : decode cL_law 694 = .ok (.iload_n 3, 1) := by decide +kernel
theorem dL_law_695 : decode cL_law 695 = .ok (.iconst 1, 1) := by decide +kernel
theorem dL_law_696 : decode cL_law 696 = .ok (.iadd, 1) := by decide +kernel
theorem dL_law_697 : decode cL_law 697 = .ok (.iaload, 1) := by decide +kernel
theorem dL_law_698 : decode cL_law 698 = .ok (.aload_n 0, 1) := by decide +kernel
theorem dL_law_699 : decode cL_law 699 = .ok (.iload_n 3, 1) := by decide +kernel
theorem dL_law_700 : decode cL_law 700 = .ok (.iconst 2, 1) := by decide +kernel
theorem dL_law_701 : decode cL_law 701 = .ok (.iadd, 1) := by decide +kernel
theorem dL_law_702 : decode cL_law 702 = .ok (.iaload, 1) := by decide +kernel
theorem dL_law_703 : decode cL_law 703 = .ok (.aload_n 0, 1) := by decide +kernel
theorem dL_law_704 : decode cL_law 704 = .ok (.iload_n 3, 1) := by decide +kernel
theorem dL_law_705 : decode cL_law 705 = .ok (.iconst 3, 1) := by decide +kernel
theorem dL_law_706 : decode cL_law 706 = .ok (.iadd, 1) := by decide +kernel
theorem dL_law_707 : decode cL_law 707 = .ok (.iaload, 1) := by decide +kernel
theorem dL_law_708 : decode cL_law 708 = .ok (.invokevirtual 112, 3) := by decide +kernel
theorem dL_law_711 : decode cL_law 711 = .ok (.aload_n 2, 1) := by decide +kernel
theorem dL_law_712 : decode cL_law 712 = .ok (.aload_n 0, 1) := by decide +kernel
theorem dL_law_713 : decode cL_law 713 = .ok (.iload_n 3, 1) := by decide +kernel
theorem dL_law_714 : decode cL_law 714 = .ok (.iconst 1, 1) := by decide +kernel
theorem dL_law_715 : decode cL_law 715 = .ok (.iadd, 1) := by decide +kernel
theorem dL_law_716 : decode cL_law 716 = .ok (.iaload, 1) := by decide +kernel
theorem dL_law_717 : decode cL_law 717 = .ok (.aload_n 0, 1) := by decide +kernel
theorem dL_law_718 : decode cL_law 718 = .ok (.iload_n 3, 1) := by decide +kernel
theorem dL_law_719 : decode cL_law 719 = .ok (.iconst 2, 1) := by decide +kernel
theorem dL_law_720 : decode cL_law 720 = .ok (.iadd, 1) := by decide +kernel
theorem dL_law_721 : decode cL_law 721 = .ok (.iaload, 1) := by decide +kernel
theorem dL_law_722 : decode cL_law 722 = .ok (.aload_n 0, 1) := by decide +kernel
theorem dL_law_723 : decode cL_law 723 = .ok (.iload_n 3, 1) := by decide +kernel
theorem dL_law_724 : decode cL_law 724 = .ok (.iconst 3, 1) := by decide +kernel
theorem dL_law_725 : decode cL_law 725 = .ok (.iadd, 1) := by decide +kernel
theorem dL_law_726 : decode cL_law 726 = .ok (.iaload, 1) := by decide +kernel
theorem dL_law_727 : decode cL_law 727 = .ok (.invokevirtual 116, 3) := by decide +kernel
theorem dL_law_730 : decode cL_law 730 = .ok (.if_icmp .eq 200, 3) := by decide +kernel
theorem dL_law_733 : decode cL_law 733 = .ok (.iconst 0, 1) := by decide +kernel
theorem dL_law_734 : decode cL_law 734 = .ok (.ireturn, 1) := by decide +kernel
theorem dL_law_735 : decode cL_law 735 = .ok (.aload_n 1, 1) := by decide +kernel
theorem dL_law_736 : decode cL_law 736 = .ok (.invokevirtual 117, 3) := by decide +kernel
theorem dL_law_739 : decode cL_law 739 = .ok (.aload_n 2, 1) := by decide +kernel
theorem dL_law_740 : decode cL_law 740 = .ok (.invokevirtual 120, 3) := by decide +kernel
theorem dL_law_743 : decode cL_law 743 = .ok (.if_icmp .eq 187, 3) := by decide +kernel
theorem dL_law_746 : decode cL_law 746 = .ok (.iconst 0, 1) := by decide +kernel
theorem dL_law_747 : decode cL_law 747 = .ok (.ireturn, 1) := by decide +kernel
theorem dL_law_748 : decode cL_law 748 = .ok (.aload_n 1, 1) := by decide +kernel
theorem dL_law_749 : decode cL_law 749 = .ok (.invokevirtual 121, 3) := by decide +kernel
theorem dL_law_752 : decode cL_law 752 = .ok (.aload_n 2, 1) := by decide +kernel
theorem dL_law_753 : decode cL_law 753 = .ok (.invokevirtual 124, 3) := by decide +kernel
theorem dL_law_756 : decode cL_law 756 = .ok (.if_icmp .eq 174, 3) := by decide +kernel
theorem dL_law_759 : decode cL_law 759 = .ok (.iconst 0, 1) := by decide +kernel
theorem dL_law_760 : decode cL_law 760 = .ok (.ireturn, 1) := by decide +kernel
theorem dL_law_761 : decode cL_law 761 = .ok (.aload_n 1, 1) := by decide +kernel
theorem dL_law_762 : decode cL_law 762 = .ok (.aload_n 0, 1) := by decide +kernel
theorem dL_law_763 : decode cL_law 763 = .ok (.iload_n 3, 1) := by decide +kernel
theorem dL_law_764 : decode cL_law 764 = .ok (.iconst 1, 1) := by decide +kernel
theorem dL_law_765 : decode cL_law 765 = .ok (.iadd, 1) := by decide +kernel
theorem dL_law_766 : decode cL_law 766 = .ok (.iaload, 1) := by decide +kernel
theorem dL_law_767 : decode cL_law 767 = .ok (.aload_n 0, 1) := by decide +kernel
theorem dL_law_768 : decode cL_law 768 = .ok (.iload_n 3, 1) := by decide +kernel
theorem dL_law_769 : decode cL_law 769 = .ok (.iconst 2, 1) := by decide +kernel
theorem dL_law_770 : decode cL_law 770 = .ok (.iadd, 1) := by decide +kernel
theorem dL_law_771 : decode cL_law 771 = .ok (.iaload, 1) := by decide +kernel
theorem dL_law_772 : decode cL_law 772 = .ok (.aload_n 0, 1) := by decide +kernel
theorem dL_law_773 : decode cL_law 773 = .ok (.iload_n 3, 1) := by decide +kernel
theorem dL_law_774 : decode cL_law 774 = .ok (.iconst 3, 1) := by decide +kernel
theorem dL_law_775 : decode cL_law 775 = .ok (.iadd, 1) := by decide +kernel
theorem dL_law_776 : decode cL_law 776 = .ok (.iaload, 1) := by decide +kernel
theorem dL_law_777 : decode cL_law 777 = .ok (.aload_n 0, 1) := by decide +kernel
theorem dL_law_778 : decode cL_law 778 = .ok (.iload_n 3, 1) := by decide +kernel
theorem dL_law_779 : decode cL_law 779 = .ok (.iconst 4, 1) := by decide +kernel
theorem dL_law_780 : decode cL_law 780 = .ok (.iadd, 1) := by decide +kernel
theorem dL_law_781 : decode cL_law 781 = .ok (.iaload, 1) := by decide +kernel
theorem dL_law_782 : decode cL_law 782 = .ok (.invokevirtual 125, 3) := by decide +kernel
theorem dL_law_785 : decode cL_law 785 = .ok (.aload_n 2, 1) := by decide +kernel
theorem dL_law_786 : decode cL_law 786 = .ok (.aload_n 0, 1) := by decide +kernel
theorem dL_law_787 : decode cL_law 787 = .ok (.iload_n 3, 1) := by decide +kernel
theorem dL_law_788 : decode cL_law 788 = .ok (.iconst 1, 1) := by decide +kernel
theorem dL_law_789 : decode cL_law 789 = .ok (.iadd, 1) := by decide +kernel
theorem dL_law_790 : decode cL_law 790 = .ok (.iaload, 1) := by decide +kernel
theorem dL_law_791 : decode cL_law 791 = .ok (.aload_n 0, 1) := by decide +kernel
theorem dL_law_792 : decode cL_law 792 = .ok (.iload_n 3, 1) := by decide +kernel
theorem dL_law_793 : decode cL_law 793 = .ok (.iconst 2, 1) := by decide +kernel
theorem dL_law_794 : decode cL_law 794 = .ok (.iadd, 1) := by decide +kernel
theorem dL_law_795 : decode cL_law 795 = .ok (.iaload, 1) := by decide +kernel
theorem dL_law_796 : decode cL_law 796 = .ok (.aload_n 0, 1) := by decide +kernel
theorem dL_law_797 : decode cL_law 797 = .ok (.iload_n 3, 1) := by decide +kernel
theorem dL_law_798 : decode cL_law 798 = .ok (.iconst 3, 1) := by decide +kernel
theorem dL_law_799 : decode cL_law 799 = .ok (.iadd, 1) := by decide +kernel
theorem dL_law_800 : decode cL_law 800 = .ok (.iaload, 1) := by decide +kernel
theorem dL_law_801 : decode cL_law 801 = .ok (.aload_n 0, 1) := by decide +kernel
theorem dL_law_802 : decode cL_law 802 = .ok (.iload_n 3, 1) := by decide +kernel
theorem dL_law_803 : decode cL_law 803 = .ok (.iconst 4, 1) := by decide +kernel
theorem dL_law_804 : decode cL_law 804 = .ok (.iadd, 1) := by decide +kernel
theorem dL_law_805 : decode cL_law 805 = .ok (.iaload, 1) := by decide +kernel
theorem dL_law_806 : decode cL_law 806 = .ok (.invokevirtual 129, 3) := by decide +kernel
theorem dL_law_809 : decode cL_law 809 = .ok (.if_icmp .eq 121, 3) := by decide +kernel
theorem dL_law_812 : decode cL_law 812 = .ok (.iconst 0, 1) := by decide +kernel
theorem dL_law_813 : decode cL_law 813 = .ok (.ireturn, 1) := by decide +kernel
theorem dL_law_814 : decode cL_law 814 = .ok (.aload_n 1, 1) := by decide +kernel
theorem dL_law_815 : decode cL_law 815 = .ok (.aload_n 0, 1) := by decide +kernel
theorem dL_law_816 : decode cL_law 816 = .ok (.iload_n 3, 1) := by decide +kernel
theorem dL_law_817 : decode cL_law 817 = .ok (.iconst 1, 1) := by decide +kernel
theorem dL_law_818 : decode cL_law 818 = .ok (.iadd, 1) := by decide +kernel
theorem dL_law_819 : decode cL_law 819 = .ok (.iaload, 1) := by decide +kernel
theorem dL_law_820 : decode cL_law 820 = .ok (.aload_n 0, 1) := by decide +kernel
theorem dL_law_821 : decode cL_law 821 = .ok (.iload_n 3, 1) := by decide +kernel
theorem dL_law_822 : decode cL_law 822 = .ok (.iconst 2, 1) := by decide +kernel
theorem dL_law_823 : decode cL_law 823 = .ok (.iadd, 1) := by decide +kernel
theorem dL_law_824 : decode cL_law 824 = .ok (.iaload, 1) := by decide +kernel
theorem dL_law_825 : decode cL_law 825 = .ok (.invokevirtual 130, 3) := by decide +kernel
theorem dL_law_828 : decode cL_law 828 = .ok (.aload_n 2, 1) := by decide +kernel
theorem dL_law_829 : decode cL_law 829 = .ok (.aload_n 0, 1) := by decide +kernel
theorem dL_law_830 : decode cL_law 830 = .ok (.iload_n 3, 1) := by decide +kernel
theorem dL_law_831 : decode cL_law 831 = .ok (.iconst 1, 1) := by decide +kernel
theorem dL_law_832 : decode cL_law 832 = .ok (.iadd, 1) := by decide +kernel
theorem dL_law_833 : decode cL_law 833 = .ok (.iaload, 1) := by decide +kernel
theorem dL_law_834 : decode cL_law 834 = .ok (.aload_n 0, 1) := by decide +kernel
theorem dL_law_835 : decode cL_law 835 = .ok (.iload_n 3, 1) := by decide +kernel
theorem dL_law_836 : decode cL_law 836 = .ok (.iconst 2, 1) := by decide +kernel
theorem dL_law_837 : decode cL_law 837 = .ok (.iadd, 1) := by decide +kernel
theorem dL_law_838 : decode cL_law 838 = .ok (.iaload, 1) := by decide +kernel
theorem dL_law_839 : decode cL_law 839 = .ok (.invokevirtual 133, 3) := by decide +kernel
theorem dL_law_842 : decode cL_law 842 = .ok (.if_icmp .eq 88, 3) := by decide +kernel
theorem dL_law_845 : decode cL_law 845 = .ok (.iconst 0, 1) := by decide +kernel
theorem dL_law_846 : decode cL_law 846 = .ok (.ireturn, 1) := by decide +kernel
theorem dL_law_847 : decode cL_law 847 = .ok (.aload_n 1, 1) := by decide +kernel
theorem dL_law_848 : decode cL_law 848 = .ok (.aload_n 0, 1) := by decide +kernel
theorem dL_law_849 : decode cL_law 849 = .ok (.iload_n 3, 1) := by decide +kernel
theorem dL_law_850 : decode cL_law 850 = .ok (.iconst 1, 1) := by decide +kernel
theorem dL_law_851 : decode cL_law 851 = .ok (.iadd, 1) := by decide +kernel
theorem dL_law_852 : decode cL_law 852 = .ok (.iaload, 1) := by decide +kernel
theorem dL_law_853 : decode cL_law 853 = .ok (.invokevirtual 134, 3) := by decide +kernel
theorem dL_law_856 : decode cL_law 856 = .ok (.aload_n 2, 1) := by decide +kernel
theorem dL_law_857 : decode cL_law 857 = .ok (.aload_n 0, 1) := by decide +kernel
theorem dL_law_858 : decode cL_law 858 = .ok (.iload_n 3, 1) := by decide +kernel
theorem dL_law_859 : decode cL_law 859 = .ok (.iconst 1, 1) := by decide +kernel
theorem dL_law_860 : decode cL_law 860 = .ok (.iadd, 1) := by decide +kernel
theorem dL_law_861 : decode cL_law 861 = .ok (.iaload, 1) := by decide +kernel
theorem dL_law_862 : decode cL_law 862 = .ok (.invokevirtual 137, 3) := by decide +kernel
theorem dL_law_865 : decode cL_law 865 = .ok (.if_icmp .eq 65, 3) := by decide +kernel
theorem dL_law_868 : decode cL_law 868 = .ok (.iconst 0, 1) := by decide +kernel
theorem dL_law_869 : decode cL_law 869 = .ok (.ireturn, 1) := by decide +kernel
theorem dL_law_870 : decode cL_law 870 = .ok (.aload_n 1, 1) := by decide +kernel
theorem dL_law_871 : decode cL_law 871 = .ok (.aload_n 0, 1) := by decide +kernel
theorem dL_law_872 : decode cL_law 872 = .ok (.iload_n 3, 1) := by decide +kernel
theorem dL_law_873 : decode cL_law 873 = .ok (.iconst 1, 1) := by decide +kernel
theorem dL_law_874 : decode cL_law 874 = .ok (.iadd, 1) := by decide +kernel
theorem dL_law_875 : decode cL_law 875 = .ok (.iaload, 1) := by decide +kernel
theorem dL_law_876 : decode cL_law 876 = .ok (.invokevirtual 138, 3) := by decide +kernel
theorem dL_law_879 : decode cL_law 879 = .ok (.aload_n 2, 1) := by decide +kernel
theorem dL_law_880 : decode cL_law 880 = .ok (.aload_n 0, 1) := by decide +kernel
theorem dL_law_881 : decode cL_law 881 = .ok (.iload_n 3, 1) := by decide +kernel
theorem dL_law_882 : decode cL_law 882 = .ok (.iconst 1, 1) := by decide +kernel
theorem dL_law_883 : decode cL_law 883 = .ok (.iadd, 1) := by decide +kernel
theorem dL_law_884 : decode cL_law 884 = .ok (.iaload, 1) := by decide +kernel
theorem dL_law_885 : decode cL_law 885 = .ok (.invokevirtual 141, 3) := by decide +kernel
theorem dL_law_888 : decode cL_law 888 = .ok (.if_icmp .eq 42, 3) := by decide +kernel
theorem dL_law_891 : decode cL_law 891 = .ok (.iconst 0, 1) := by decide +kernel
theorem dL_law_892 : decode cL_law 892 = .ok (.ireturn, 1) := by decide +kernel
theorem dL_law_893 : decode cL_law 893 = .ok (.aload_n 1, 1) := by decide +kernel
theorem dL_law_894 : decode cL_law 894 = .ok (.aload_n 0, 1) := by decide +kernel
theorem dL_law_895 : decode cL_law 895 = .ok (.iload_n 3, 1) := by decide +kernel
theorem dL_law_896 : decode cL_law 896 = .ok (.iconst 1, 1) := by decide +kernel
theorem dL_law_897 : decode cL_law 897 = .ok (.iadd, 1) := by decide +kernel
theorem dL_law_898 : decode cL_law 898 = .ok (.iaload, 1) := by decide +kernel
theorem dL_law_899 : decode cL_law 899 = .ok (.invokevirtual 142, 3) := by decide +kernel
theorem dL_law_902 : decode cL_law 902 = .ok (.aload_n 2, 1) := by decide +kernel
theorem dL_law_903 : decode cL_law 903 = .ok (.aload_n 0, 1) := by decide +kernel
theorem dL_law_904 : decode cL_law 904 = .ok (.iload_n 3, 1) := by decide +kernel
theorem dL_law_905 : decode cL_law 905 = .ok (.iconst 1, 1) := by decide +kernel
theorem dL_law_906 : decode cL_law 906 = .ok (.iadd, 1) := by decide +kernel
theorem dL_law_907 : decode cL_law 907 = .ok (.iaload, 1) := by decide +kernel
theorem dL_law_908 : decode cL_law 908 = .ok (.invokevirtual 145, 3) := by decide +kernel
theorem dL_law_911 : decode cL_law 911 = .ok (.if_icmp .eq 19, 3) := by decide +kernel
theorem dL_law_914 : decode cL_law 914 = .ok (.iconst 0, 1) := by decide +kernel
theorem dL_law_915 : decode cL_law 915 = .ok (.ireturn, 1) := by decide +kernel
theorem dL_law_916 : decode cL_law 916 = .ok (.aload_n 1, 1) := by decide +kernel
theorem dL_law_917 : decode cL_law 917 = .ok (.invokevirtual 146, 3) := by decide +kernel
theorem dL_law_920 : decode cL_law 920 = .ok (.aload_n 2, 1) := by decide +kernel
theorem dL_law_921 : decode cL_law 921 = .ok (.invokevirtual 150, 3) := by decide +kernel
theorem dL_law_924 : decode cL_law 924 = .ok (.lcmp, 1) := by decide +kernel
theorem dL_law_925 : decode cL_law 925 = .ok (.ifCond .eq 5, 3) := by decide +kernel
theorem dL_law_928 : decode cL_law 928 = .ok (.iconst 0, 1) := by decide +kernel
theorem dL_law_929 : decode cL_law 929 = .ok (.ireturn, 1) := by decide +kernel
theorem dL_law_930 : decode cL_law 930 = .ok (.iinc 3 5, 3) := by decide +kernel
theorem dL_law_933 : decode cL_law 933 = .ok (.goto (-915), 3) := by decide +kernel
theorem dL_law_936 : decode cL_law 936 = .ok (.iconst 1, 1) := by decide +kernel
theorem dL_law_937 : decode cL_law 937 = .ok (.ireturn, 1) := by decide +kernel
theorem dJ11_isValidCodePoint_9a6ad_0 : decode cJ11_isValidCodePoint_9a6ad 0 = .ok (.iload_n 0, 1) := by decide +kernel
theorem dJ11_isValidCodePoint_9a6ad_1 : decode cJ11_isValidCodePoint_9a6ad 1 = .ok (.bipush 16, 2) := by decide +kernel
theorem dJ11_isValidCodePoint_9a6ad_3 : decode cJ11_isValidCodePoint_9a6ad 3 = .ok (.iushr, 1) := by decide +kernel
theorem dJ11_isValidCodePoint_9a6ad_4 : decode cJ11_isValidCodePoint_9a6ad 4 = .ok (.istore_n 1, 1) := by decide +kernel
theorem dJ11_isValidCodePoint_9a6ad_5 : decode cJ11_isValidCodePoint_9a6ad 5 = .ok (.iload_n 1, 1) := by decide +kernel
theorem dJ11_isValidCodePoint_9a6ad_6 : decode cJ11_isValidCodePoint_9a6ad 6 = .ok (.bipush 17, 2) := by decide +kernel
theorem dJ11_isValidCodePoint_9a6ad_8 : decode cJ11_isValidCodePoint_9a6ad 8 = .ok (.if_icmp .ge 7, 3) := by decide +kernel
theorem dJ11_isValidCodePoint_9a6ad_11 : decode cJ11_isValidCodePoint_9a6ad 11 = .ok (.iconst 1, 1) := by decide +kernel
theorem dJ11_isValidCodePoint_9a6ad_12 : decode cJ11_isValidCodePoint_9a6ad 12 = .ok (.goto 4, 3) := by decide +kernel
theorem dJ11_isValidCodePoint_9a6ad_15 : decode cJ11_isValidCodePoint_9a6ad 15 = .ok (.iconst 0, 1) := by decide +kernel
theorem dJ11_isValidCodePoint_9a6ad_16 : decode cJ11_isValidCodePoint_9a6ad 16 = .ok (.ireturn, 1) := by decide +kernel
theorem dJ11_highSurrogate_5068e_0 : decode cJ11_highSurrogate_5068e 0 = .ok (.iload_n 0, 1) := by decide +kernel
theorem dJ11_highSurrogate_5068e_1 : decode cJ11_highSurrogate_5068e 1 = .ok (.bipush 10, 2) := by decide +kernel
theorem dJ11_highSurrogate_5068e_3 : decode cJ11_highSurrogate_5068e 3 = .ok (.iushr, 1) := by decide +kernel
theorem dJ11_highSurrogate_5068e_4 : decode cJ11_highSurrogate_5068e 4 = .ok (.ldc 110, 2) := by decide +kernel
theorem dJ11_highSurrogate_5068e_6 : decode cJ11_highSurrogate_5068e 6 = .ok (.iadd, 1) := by decide +kernel
theorem dJ11_highSurrogate_5068e_7 : decode cJ11_highSurrogate_5068e 7 = .ok (.i2c, 1) := by decide +kernel
theorem dJ11_highSurrogate_5068e_8 : decode cJ11_highSurrogate_5068e 8 = .ok (.ireturn, 1) := by decide +kernel
theorem dJ11_lowSurrogate_5068e_0 : decode cJ11_lowSurrogate_5068e 0 = .ok (.iload_n 0, 1) := by decide +kernel
theorem dJ11_lowSurrogate_5068e_1 : decode cJ11_lowSurrogate_5068e 1 = .ok (.sipush 1023, 3) := by decide +kernel
theorem dJ11_lowSurrogate_5068e_4 : decode cJ11_lowSurrogate_5068e 4 = .ok (.iand, 1) := by decide +kernel
theorem dJ11_lowSurrogate_5068e_5 : decode cJ11_lowSurrogate_5068e 5 = .ok (.ldc 76, 2) := by decide +kernel
theorem dJ11_lowSurrogate_5068e_7 : decode cJ11_lowSurrogate_5068e 7 = .ok (.iadd, 1) := by decide +kernel
theorem dJ11_lowSurrogate_5068e_8 : decode cJ11_lowSurrogate_5068e 8 = .ok (.i2c, 1) := by decide +kernel
theorem dJ11_lowSurrogate_5068e_9 : decode cJ11_lowSurrogate_5068e 9 = .ok (.ireturn, 1) := by decide +kernel
theorem dJ6_bitCount_0f7a4_0 : decode cJ6_bitCount_0f7a4 0 = .ok (.iload_n 0, 1) := by decide +kernel
theorem dJ6_bitCount_0f7a4_1 : decode cJ6_bitCount_0f7a4 1 = .ok (.iload_n 0, 1) := by decide +kernel
theorem dJ6_bitCount_0f7a4_2 : decode cJ6_bitCount_0f7a4 2 = .ok (.iconst 1, 1) := by decide +kernel
theorem dJ6_bitCount_0f7a4_3 : decode cJ6_bitCount_0f7a4 3 = .ok (.iushr, 1) := by decide +kernel
theorem dJ6_bitCount_0f7a4_4 : decode cJ6_bitCount_0f7a4 4 = .ok (.ldc_w 265, 3) := by decide +kernel
theorem dJ6_bitCount_0f7a4_7 : decode cJ6_bitCount_0f7a4 7 = .ok (.iand, 1) := by decide +kernel
theorem dJ6_bitCount_0f7a4_8 : decode cJ6_bitCount_0f7a4 8 = .ok (.isub, 1) := by decide +kernel
theorem dJ6_bitCount_0f7a4_9 : decode cJ6_bitCount_0f7a4 9 = .ok (.istore_n 0, 1) := by decide +kernel
theorem dJ6_bitCount_0f7a4_10 : decode cJ6_bitCount_0f7a4 10 = .ok (.iload_n 0, 1) := by decide +kernel
theorem dJ6_bitCount_0f7a4_11 : decode cJ6_bitCount_0f7a4 11 = .ok (.ldc_w 266, 3) := by decide +kernel
theorem dJ6_bitCount_0f7a4_14 : decode cJ6_bitCount_0f7a4 14 = .ok (.iand, 1) := by decide +kernel
theorem dJ6_bitCount_0f7a4_15 : decode cJ6_bitCount_0f7a4 15 = .ok (.iload_n 0, 1) := by decide +kernel
theorem dJ6_bitCount_0f7a4_16 : decode cJ6_bitCount_0f7a4 16 = .ok (.iconst 2, 1) := by decide +kernel
theorem dJ6_bitCount_0f7a4_17 : decode cJ6_bitCount_0f7a4 17 = .ok (.iushr, 1) := by decide +kernel
theorem dJ6_bitCount_0f7a4_18 : decode cJ6_bitCount_0f7a4 18 = .ok (.ldc_w 266, 3) := by decide +kernel
theorem dJ6_bitCount_0f7a4_21 : decode cJ6_bitCount_0f7a4 21 = .ok (.iand, 1) := by decide +kernel
theorem dJ6_bitCount_0f7a4_22 : decode cJ6_bitCount_0f7a4 22 = .ok (.iadd, 1) := by decide +kernel
theorem dJ6_bitCount_0f7a4_23 : decode cJ6_bitCount_0f7a4 23 = .ok (.istore_n 0, 1) := by decide +kernel
theorem dJ6_bitCount_0f7a4_24 : decode cJ6_bitCount_0f7a4 24 = .ok (.iload_n 0, 1) := by decide +kernel
theorem dJ6_bitCount_0f7a4_25 : decode cJ6_bitCount_0f7a4 25 = .ok (.iload_n 0, 1) := by decide +kernel
theorem dJ6_bitCount_0f7a4_26 : decode cJ6_bitCount_0f7a4 26 = .ok (.iconst 4, 1) := by decide +kernel
theorem dJ6_bitCount_0f7a4_27 : decode cJ6_bitCount_0f7a4 27 = .ok (.iushr, 1) := by decide +kernel
theorem dJ6_bitCount_0f7a4_28 : decode cJ6_bitCount_0f7a4 28 = .ok (.iadd, 1) := by decide +kernel
theorem dJ6_bitCount_0f7a4_29 : decode cJ6_bitCount_0f7a4 29 = .ok (.ldc_w 267, 3) := by decide +kernel
theorem dJ6_bitCount_0f7a4_32 : decode cJ6_bitCount_0f7a4 32 = .ok (.iand, 1) := by decide +kernel
theorem dJ6_bitCount_0f7a4_33 : decode cJ6_bitCount_0f7a4 33 = .ok (.istore_n 0, 1) := by decide +kernel
theorem dJ6_bitCount_0f7a4_34 : decode cJ6_bitCount_0f7a4 34 = .ok (.iload_n 0, 1) := by decide +kernel
theorem dJ6_bitCount_0f7a4_35 : decode cJ6_bitCount_0f7a4 35 = .ok (.iload_n 0, 1) := by decide +kernel
theorem dJ6_bitCount_0f7a4_36 : decode cJ6_bitCount_0f7a4 36 = .ok (.bipush 8, 2) := by decide +kernel
theorem dJ6_bitCount_0f7a4_38 : decode cJ6_bitCount_0f7a4 38 = .ok (.iushr, 1) := by decide +kernel
theorem dJ6_bitCount_0f7a4_39 : decode cJ6_bitCount_0f7a4 39 = .ok (.iadd, 1) := by decide +kernel
theorem dJ6_bitCount_0f7a4_40 : decode cJ6_bitCount_0f7a4 40 = .ok (.istore_n 0, 1) := by decide +kernel
theorem dJ6_bitCount_0f7a4_41 : decode cJ6_bitCount_0f7a4 41 = .ok (.iload_n 0, 1) := by decide +kernel
theorem dJ6_bitCount_0f7a4_42 : decode cJ6_bitCount_0f7a4 42 = .ok (.iload_n 0, 1) := by decide +kernel
theorem dJ6_bitCount_0f7a4_43 : decode cJ6_bitCount_0f7a4 43 = .ok (.bipush 16, 2) := by decide +kernel
theorem dJ6_bitCount_0f7a4_45 : decode cJ6_bitCount_0f7a4 45 = .ok (.iushr, 1) := by decide +kernel
theorem dJ6_bitCount_0f7a4_46 : decode cJ6_bitCount_0f7a4 46 = .ok (.iadd, 1) := by decide +kernel
theorem dJ6_bitCount_0f7a4_47 : decode cJ6_bitCount_0f7a4 47 = .ok (.istore_n 0, 1) := by decide +kernel
theorem dJ6_bitCount_0f7a4_48 : decode cJ6_bitCount_0f7a4 48 = .ok (.iload_n 0, 1) := by decide +kernel
theorem dJ6_bitCount_0f7a4_49 : decode cJ6_bitCount_0f7a4 49 = .ok (.bipush 63, 2) := by decide +kernel
theorem dJ6_bitCount_0f7a4_51 : decode cJ6_bitCount_0f7a4 51 = .ok (.iand, 1) := by decide +kernel
theorem dJ6_bitCount_0f7a4_52 : decode cJ6_bitCount_0f7a4 52 = .ok (.ireturn, 1) := by decide +kernel
theorem dJ9_floorMod_7cf53_0 : decode cJ9_floorMod_7cf53 0 = .ok (.iload_n 0, 1) := by decide +kernel
theorem dJ9_floorMod_7cf53_1 : decode cJ9_floorMod_7cf53 1 = .ok (.iload_n 1, 1) := by decide +kernel
theorem dJ9_floorMod_7cf53_2 : decode cJ9_floorMod_7cf53 2 = .ok (.irem, 1) := by decide +kernel
theorem dJ9_floorMod_7cf53_3 : decode cJ9_floorMod_7cf53 3 = .ok (.istore_n 2, 1) := by decide +kernel
theorem dJ9_floorMod_7cf53_4 : decode cJ9_floorMod_7cf53 4 = .ok (.iload_n 0, 1) := by decide +kernel
theorem dJ9_floorMod_7cf53_5 : decode cJ9_floorMod_7cf53 5 = .ok (.iload_n 1, 1) := by decide +kernel
theorem dJ9_floorMod_7cf53_6 : decode cJ9_floorMod_7cf53 6 = .ok (.ixor, 1) := by decide +kernel
theorem dJ9_floorMod_7cf53_7 : decode cJ9_floorMod_7cf53 7 = .ok (.ifCond .ge 11, 3) := by decide +kernel
theorem dJ9_floorMod_7cf53_10 : decode cJ9_floorMod_7cf53 10 = .ok (.iload_n 2, 1) := by decide +kernel
theorem dJ9_floorMod_7cf53_11 : decode cJ9_floorMod_7cf53 11 = .ok (.ifCond .eq 7, 3) := by decide +kernel
theorem dJ9_floorMod_7cf53_14 : decode cJ9_floorMod_7cf53 14 = .ok (.iload_n 2, 1) := by decide +kernel
theorem dJ9_floorMod_7cf53_15 : decode cJ9_floorMod_7cf53 15 = .ok (.iload_n 1, 1) := by decide +kernel
theorem dJ9_floorMod_7cf53_16 : decode cJ9_floorMod_7cf53 16 = .ok (.iadd, 1) := by decide +kernel
theorem dJ9_floorMod_7cf53_17 : decode cJ9_floorMod_7cf53 17 = .ok (.ireturn, 1) := by decide +kernel
theorem dJ9_floorMod_7cf53_18 : decode cJ9_floorMod_7cf53 18 = .ok (.iload_n 2, 1) := by decide +kernel
theorem dJ9_floorMod_7cf53_19 : decode cJ9_floorMod_7cf53 19 = .ok (.ireturn, 1) := by decide +kernel
theorem dJ9_max_7cf53_0 : decode cJ9_max_7cf53 0 = .ok (.iload_n 0, 1) := by decide +kernel
theorem dJ9_max_7cf53_1 : decode cJ9_max_7cf53 1 = .ok (.iload_n 1, 1) := by decide +kernel
theorem dJ9_max_7cf53_2 : decode cJ9_max_7cf53 2 = .ok (.if_icmp .lt 7, 3) := by decide +kernel
theorem dJ9_max_7cf53_5 : decode cJ9_max_7cf53 5 = .ok (.iload_n 0, 1) := by decide +kernel
theorem dJ9_max_7cf53_6 : decode cJ9_max_7cf53 6 = .ok (.goto 4, 3) := by decide +kernel
theorem dJ9_max_7cf53_9 : decode cJ9_max_7cf53 9 = .ok (.iload_n 1, 1) := by decide +kernel
theorem dJ9_max_7cf53_10 : decode cJ9_max_7cf53 10 = .ok (.ireturn, 1) := by decide +kernel
theorem dJ9_min_7cf53_0 : decode cJ9_min_7cf53 0 = .ok (.iload_n 0, 1) := by decide +kernel
theorem dJ9_min_7cf53_1 : decode cJ9_min_7cf53 1 = .ok (.iload_n 1, 1) := by decide +kernel
theorem dJ9_min_7cf53_2 : decode cJ9_min_7cf53 2 = .ok (.if_icmp .gt 7, 3) := by decide +kernel
theorem dJ9_min_7cf53_5 : decode cJ9_min_7cf53 5 = .ok (.iload_n 0, 1) := by decide +kernel
theorem dJ9_min_7cf53_6 : decode cJ9_min_7cf53 6 = .ok (.goto 4, 3) := by decide +kernel
theorem dJ9_min_7cf53_9 : decode cJ9_min_7cf53 9 = .ok (.iload_n 1, 1) := by decide +kernel
theorem dJ9_min_7cf53_10 : decode cJ9_min_7cf53 10 = .ok (.ireturn, 1) := by decide +kernel
theorem dJ0_length_8abf5_0 : decode cJ0_length_8abf5 0 = .ok (.aload_n 0, 1) := by decide +kernel
theorem dJ0_length_8abf5_1 : decode cJ0_length_8abf5 1 = .ok (.getfield 9, 3) := by decide +kernel
theorem dJ0_length_8abf5_4 : decode cJ0_length_8abf5 4 = .ok (.arraylength, 1) := by decide +kernel
theorem dJ0_length_8abf5_5 : decode cJ0_length_8abf5 5 = .ok (.aload_n 0, 1) := by decide +kernel
theorem dJ0_length_8abf5_6 : decode cJ0_length_8abf5 6 = .ok (.invokevirtual 335, 3) := by decide +kernel
theorem dJ0_length_8abf5_9 : decode cJ0_length_8abf5 9 = .ok (.ishr, 1) := by decide +kernel
theorem dJ0_length_8abf5_10 : decode cJ0_length_8abf5 10 = .ok (.ireturn, 1) := by decide +kernel
theorem dJ0_indexOf_0f7a4_0 : decode cJ0_indexOf_0f7a4 0 = .ok (.aload_n 0, 1) := by decide +kernel
theorem dJ0_indexOf_0f7a4_1 : decode cJ0_indexOf_0f7a4 1 = .ok (.iload_n 1, 1) := by decide +kernel
theorem dJ0_indexOf_0f7a4_2 : decode cJ0_indexOf_0f7a4 2 = .ok (.iconst 0, 1) := by decide +kernel
theorem dJ0_indexOf_0f7a4_3 : decode cJ0_indexOf_0f7a4 3 = .ok (.invokevirtual 633, 3) := by decide +kernel
theorem dJ0_indexOf_0f7a4_6 : decode cJ0_indexOf_0f7a4 6 = .ok (.ireturn, 1) := by decide +kernel
theorem dJ0_indexOf_7cf53_0 : decode cJ0_indexOf_7cf53 0 = .ok (.aload_n 0, 1) := by decide +kernel
theorem dJ0_indexOf_7cf53_1 : decode cJ0_indexOf_7cf53 1 = .ok (.invokevirtual 492, 3) := by decide +kernel
theorem dJ0_indexOf_7cf53_4 : decode cJ0_indexOf_7cf53 4 = .ok (.ifCond .eq 19, 3) := by decide +kernel
theorem dJ0_indexOf_7cf53_7 : decode cJ0_indexOf_7cf53 7 = .ok (.aload_n 0, 1) := by decide +kernel
theorem dJ0_indexOf_7cf53_8 : decode cJ0_indexOf_7cf53 8 = .ok (.getfield 9, 3) := by decide +kernel
theorem dJ0_indexOf_7cf53_11 : decode cJ0_indexOf_7cf53 11 = .ok (.iload_n 1, 1) := by decide +kernel
theorem dJ0_indexOf_7cf53_12 : decode cJ0_indexOf_7cf53 12 = .ok (.iload_n 2, 1) := by decide +kernel
theorem dJ0_indexOf_7cf53_13 : decode cJ0_indexOf_7cf53 13 = .ok (.aload_n 0, 1) := by decide +kernel
theorem dJ0_indexOf_7cf53_14 : decode cJ0_indexOf_7cf53 14 = .ok (.invokevirtual 505, 3) := by decide +kernel
theorem dJ0_indexOf_7cf53_17 : decode cJ0_indexOf_7cf53 17 = .ok (.invokestatic 637, 3) := by decide +kernel
theorem dJ0_indexOf_7cf53_20 : decode cJ0_indexOf_7cf53 20 = .ok (.goto 16, 3) := by decide +kernel
theorem dJ0_indexOf_7cf53_23 : decode cJ0_indexOf_7cf53 23 = .ok (.aload_n 0, 1) := by decide +kernel
theorem dJ0_indexOf_7cf53_24 : decode cJ0_indexOf_7cf53 24 = .ok (.getfield 9, 3) := by decide +kernel
theorem dJ0_indexOf_7cf53_27 : decode cJ0_indexOf_7cf53 27 = .ok (.iload_n 1, 1) := by decide +kernel
theorem dJ0_indexOf_7cf53_28 : decode cJ0_indexOf_7cf53 28 = .ok (.iload_n 2, 1) := by decide +kernel
theorem dJ0_indexOf_7cf53_29 : decode cJ0_indexOf_7cf53 29 = .ok (.aload_n 0, 1) := by decide +kernel
theorem dJ0_indexOf_7cf53_30 : decode cJ0_indexOf_7cf53 30 = .ok (.invokevirtual 505, 3) := by decide +kernel
theorem dJ0_indexOf_7cf53_33 : decode cJ0_indexOf_7cf53 33 = .ok (.invokestatic 640, 3) := by decide +kernel
theorem dJ0_indexOf_7cf53_36 : decode cJ0_indexOf_7cf53 36 = .ok (.ireturn, 1) := by decide +kernel
theorem dJ0_coder_7d493_0 : decode cJ0_coder_7d493 0 = .ok (.getstatic 38, 3) := by decide +kernel
theorem dJ0_coder_7d493_3 : decode cJ0_coder_7d493 3 = .ok (.ifCond .eq 10, 3) := by decide +kernel
theorem dJ0_coder_7d493_6 : decode cJ0_coder_7d493 6 = .ok (.aload_n 0, 1) := by decide +kernel
theorem dJ0_coder_7d493_7 : decode cJ0_coder_7d493 7 = .ok (.getfield 15, 3) := by decide +kernel
theorem dJ0_coder_7d493_10 : decode cJ0_coder_7d493 10 = .ok (.goto 4, 3) := by decide +kernel
theorem dJ0_coder_7d493_13 : decode cJ0_coder_7d493 13 = .ok (.iconst 1, 1) := by decide +kernel
theorem dJ0_coder_7d493_14 : decode cJ0_coder_7d493 14 = .ok (.ireturn, 1) := by decide +kernel
theorem dJ0_isLatin1_aae02_0 : decode cJ0_isLatin1_aae02 0 = .ok (.getstatic 38, 3) := by decide +kernel
theorem dJ0_isLatin1_aae02_3 : decode cJ0_isLatin1_aae02 3 = .ok (.ifCond .eq 14, 3) := by decide +kernel
theorem dJ0_isLatin1_aae02_6 : decode cJ0_isLatin1_aae02 6 = .ok (.aload_n 0, 1) := by decide +kernel
theorem dJ0_isLatin1_aae02_7 : decode cJ0_isLatin1_aae02 7 = .ok (.getfield 15, 3) := by decide +kernel
theorem dJ0_isLatin1_aae02_10 : decode cJ0_isLatin1_aae02 10 = .ok (.ifCond .ne 7, 3) := by decide +kernel
theorem dJ0_isLatin1_aae02_13 : decode cJ0_isLatin1_aae02 13 = .ok (.iconst 1, 1) := by decide +kernel
theorem dJ0_isLatin1_aae02_14 : decode cJ0_isLatin1_aae02 14 = .ok (.goto 4, 3) := by decide +kernel
theorem dJ0_isLatin1_aae02_17 : decode cJ0_isLatin1_aae02 17 = .ok (.iconst 0, 1) := by decide +kernel
theorem dJ0_isLatin1_aae02_18 : decode cJ0_isLatin1_aae02 18 = .ok (.ireturn, 1) := by decide +kernel
theorem dJ0_checkBoundsBeginEnd_23922_0 : decode cJ0_checkBoundsBeginEnd_23922 0 = .ok (.iload_n 0, 1) := by decide +kernel
theorem dJ0_checkBoundsBeginEnd_23922_1 : decode cJ0_checkBoundsBeginEnd_23922 1 = .ok (.iload_n 1, 1) := by decide +kernel
theorem dJ0_checkBoundsBeginEnd_23922_2 : decode cJ0_checkBoundsBeginEnd_23922 2 = .ok (.iload_n 2, 1) := by decide +kernel
theorem dJ0_checkBoundsBeginEnd_23922_3 : decode cJ0_checkBoundsBeginEnd_23922 3 = .ok (.getstatic 1053, 3) := by decide +kernel
theorem dJ0_checkBoundsBeginEnd_23922_6 : decode cJ0_checkBoundsBeginEnd_23922 6 = .ok (.invokestatic 1062, 3) := by decide +kernel
theorem dJ0_checkBoundsBeginEnd_23922_9 : decode cJ0_checkBoundsBeginEnd_23922 9 = .ok (.pop, 1) := by decide +kernel
theorem dJ0_checkBoundsBeginEnd_23922_10 : decode cJ0_checkBoundsBeginEnd_23922 10 = .ok (.return_, 1) := by decide +kernel
theorem dJ1_canEncode_9a6ad_0 : decode cJ1_canEncode_9a6ad 0 = .ok (.iload_n 0, 1) := by decide +kernel
theorem dJ1_canEncode_9a6ad_1 : decode cJ1_canEncode_9a6ad 1 = .ok (.ifCond .lt 14, 3) := by decide +kernel
theorem dJ1_canEncode_9a6ad_4 : decode cJ1_canEncode_9a6ad 4 = .ok (.iload_n 0, 1) := by decide +kernel
theorem dJ1_canEncode_9a6ad_5 : decode cJ1_canEncode_9a6ad 5 = .ok (.sipush 255, 3) := by decide +kernel
theorem dJ1_canEncode_9a6ad_8 : decode cJ1_canEncode_9a6ad 8 = .ok (.if_icmp .gt 7, 3) := by decide +kernel
theorem dJ1_canEncode_9a6ad_11 : decode cJ1_canEncode_9a6ad 11 = .ok (.iconst 1, 1) := by decide +kernel
theorem dJ1_canEncode_9a6ad_12 : decode cJ1_canEncode_9a6ad 12 = .ok (.goto 4, 3) := by decide +kernel
theorem dJ1_canEncode_9a6ad_15 : decode cJ1_canEncode_9a6ad 15 = .ok (.iconst 0, 1) := by decide +kernel
theorem dJ1_canEncode_9a6ad_16 : decode cJ1_canEncode_9a6ad 16 = .ok (.ireturn, 1) := by decide +kernel
theorem dJ1_indexOf_4cfef_0 : decode cJ1_indexOf_4cfef 0 = .ok (.iload_n 1, 1) := by decide +kernel
theorem dJ1_indexOf_4cfef_1 : decode cJ1_indexOf_4cfef 1 = .ok (.invokestatic 88, 3) := by decide +kernel
theorem dJ1_indexOf_4cfef_4 : decode cJ1_indexOf_4cfef 4 = .ok (.ifCond .ne 5, 3) := by decide +kernel
theorem dJ1_indexOf_4cfef_7 : decode cJ1_indexOf_4cfef 7 = .ok (.iconst (-1), 1) := by decide +kernel
theorem dJ1_indexOf_4cfef_8 : decode cJ1_indexOf_4cfef 8 = .ok (.ireturn, 1) := by decide +kernel
theorem dJ1_indexOf_4cfef_9 : decode cJ1_indexOf_4cfef 9 = .ok (.iload_n 2, 1) := by decide +kernel
theorem dJ1_indexOf_4cfef_10 : decode cJ1_indexOf_4cfef 10 = .ok (.iconst 0, 1) := by decide +kernel
theorem dJ1_indexOf_4cfef_11 : decode cJ1_indexOf_4cfef 11 = .ok (.invokestatic 92, 3) := by decide +kernel
theorem dJ1_indexOf_4cfef_14 : decode cJ1_indexOf_4cfef 14 = .ok (.istore_n 2, 1) := by decide +kernel
theorem dJ1_indexOf_4cfef_15 : decode cJ1_indexOf_4cfef 15 = .ok (.iload_n 3, 1) := by decide +kernel
theorem dJ1_indexOf_4cfef_16 : decode cJ1_indexOf_4cfef 16 = .ok (.aload_n 0, 1) := by decide +kernel
theorem dJ1_indexOf_4cfef_17 : decode cJ1_indexOf_4cfef 17 = .ok (.arraylength, 1) := by decide +kernel
theorem dJ1_indexOf_4cfef_18 : decode cJ1_indexOf_4cfef 18 = .ok (.invokestatic 38, 3) := by decide +kernel
theorem dJ1_indexOf_4cfef_21 : decode cJ1_indexOf_4cfef 21 = .ok (.istore_n 3, 1) := by decide +kernel
theorem dJ1_indexOf_4cfef_22 : decode cJ1_indexOf_4cfef 22 = .ok (.iload_n 2, 1) := by decide +kernel
theorem dJ1_indexOf_4cfef_23 : decode cJ1_indexOf_4cfef 23 = .ok (.iload_n 3, 1) := by decide +kernel
theorem dJ1_indexOf_4cfef_24 : decode cJ1_indexOf_4cfef 24 = .ok (.if_icmp .lt 5, 3) := by decide +kernel
theorem dJ1_indexOf_4cfef_27 : decode cJ1_indexOf_4cfef 27 = .ok (.iconst (-1), 1) := by decide +kernel
theorem dJ1_indexOf_4cfef_28 : decode cJ1_indexOf_4cfef 28 = .ok (.ireturn, 1) := by decide +kernel
theorem dJ1_indexOf_4cfef_29 : decode cJ1_indexOf_4cfef 29 = .ok (.aload_n 0, 1) := by decide +kernel
theorem dJ1_indexOf_4cfef_30 : decode cJ1_indexOf_4cfef 30 = .ok (.iload_n 1, 1) := by decide +kernel
theorem dJ1_indexOf_4cfef_31 : decode cJ1_indexOf_4cfef 31 = .ok (.iload_n 2, 1) := by decide +kernel
theorem dJ1_indexOf_4cfef_32 : decode cJ1_indexOf_4cfef 32 = .ok (.iload_n 3, 1) := by decide +kernel
theorem dJ1_indexOf_4cfef_33 : decode cJ1_indexOf_4cfef 33 = .ok (.invokestatic 95, 3) := by decide +kernel
theorem dJ1_indexOf_4cfef_36 : decode cJ1_indexOf_4cfef 36 = .ok (.ireturn, 1) := by decide +kernel
theorem dJ1_indexOfChar_4cfef_0 : decode cJ1_indexOfChar_4cfef 0 = .ok (.iload_n 1, 1) := by decide +kernel
theorem dJ1_indexOfChar_4cfef_1 : decode cJ1_indexOfChar_4cfef 1 = .ok (.i2b, 1) := by decide +kernel
theorem dJ1_indexOfChar_4cfef_2 : decode cJ1_indexOfChar_4cfef 2 = .ok (.istore 4, 2) := by decide +kernel
theorem dJ1_indexOfChar_4cfef_4 : decode cJ1_indexOfChar_4cfef 4 = .ok (.iload_n 2, 1) := by decide +kernel
theorem dJ1_indexOfChar_4cfef_5 : decode cJ1_indexOfChar_4cfef 5 = .ok (.istore 5, 2) := by decide +kernel
theorem dJ1_indexOfChar_4cfef_7 : decode cJ1_indexOfChar_4cfef 7 = .ok (.iload 5, 2) := by decide +kernel
theorem dJ1_indexOfChar_4cfef_9 : decode cJ1_indexOfChar_4cfef 9 = .ok (.iload_n 3, 1) := by decide +kernel
theorem dJ1_indexOfChar_4cfef_10 : decode cJ1_indexOfChar_4cfef 10 = .ok (.if_icmp .ge 21, 3) := by decide +kernel
theorem dJ1_indexOfChar_4cfef_13 : decode cJ1_indexOfChar_4cfef 13 = .ok (.aload_n 0, 1) := by decide +kernel
theorem dJ1_indexOfChar_4cfef_14 : decode cJ1_indexOfChar_4cfef 14 = .ok (.iload 5, 2) := by decide +kernel
theorem dJ1_indexOfChar_4cfef_16 : decode cJ1_indexOfChar_4cfef 16 = .ok (.baload, 1) := by decide +kernel
theorem dJ1_indexOfChar_4cfef_17 : decode cJ1_indexOfChar_4cfef 17 = .ok (.iload 4, 2) := by decide +kernel
theorem dJ1_indexOfChar_4cfef_19 : decode cJ1_indexOfChar_4cfef 19 = .ok (.if_icmp .ne 6, 3) := by decide +kernel
theorem dJ1_indexOfChar_4cfef_22 : decode cJ1_indexOfChar_4cfef 22 = .ok (.iload 5, 2) := by decide +kernel
theorem dJ1_indexOfChar_4cfef_24 : decode cJ1_indexOfChar_4cfef 24 = .ok (.ireturn, 1) := by decide +kernel
theorem dJ1_indexOfChar_4cfef_25 : decode cJ1_indexOfChar_4cfef 25 = .ok (.iinc 5 1, 3) := by decide +kernel
theorem dJ1_indexOfChar_4cfef_28 : decode cJ1_indexOfChar_4cfef 28 = .ok (.goto (-21), 3) := by decide +kernel
theorem dJ1_indexOfChar_4cfef_31 : decode cJ1_indexOfChar_4cfef 31 = .ok (.iconst (-1), 1) := by decide +kernel
theorem dJ1_indexOfChar_4cfef_32 : decode cJ1_indexOfChar_4cfef 32 = .ok (.ireturn, 1) := by decide +kernel
theorem dJ2_getChar_3b067_0 : decode cJ2_getChar_3b067 0 = .ok (.getstatic 44, 3) := by decide +kernel
theorem dJ2_getChar_3b067_3 : decode cJ2_getChar_3b067 3 = .ok (.ifCond .ne 25, 3) := by decide +kernel
theorem dJ2_getChar_3b067_6 : decode cJ2_getChar_3b067 6 = .ok (.iload_n 1, 1) := by decide +kernel
theorem dJ2_getChar_3b067_7 : decode cJ2_getChar_3b067 7 = .ok (.ifCond .lt 11, 3) := by decide +kernel
theorem dJ2_getChar_3b067_10 : decode cJ2_getChar_3b067 10 = .ok (.iload_n 1, 1) := by decide +kernel
theorem dJ2_getChar_3b067_11 : decode cJ2_getChar_3b067 11 = .ok (.aload_n 0, 1) := by decide +kernel
theorem dJ2_getChar_3b067_12 : decode cJ2_getChar_3b067 12 = .ok (.invokestatic 48, 3) := by decide +kernel
theorem dJ2_getChar_3b067_15 : decode cJ2_getChar_3b067 15 = .ok (.if_icmp .lt 13, 3) := by decide +kernel
theorem dJ2_getChar_3b067_18 : decode cJ2_getChar_3b067 18 = .ok (.new 52, 3) := by decide +kernel
theorem dJ2_getChar_3b067_21 : decode cJ2_getChar_3b067 21 = .ok (.dup, 1) := by decide +kernel
theorem dJ2_getChar_3b067_22 : decode cJ2_getChar_3b067 22 = .ok (.ldc 54, 2) := by decide +kernel
theorem dJ2_getChar_3b067_24 : decode cJ2_getChar_3b067 24 = .ok (.invokespecial 56, 3) := by decide +kernel
theorem dJ2_getChar_3b067_27 : decode cJ2_getChar_3b067 27 = .ok (.athrow, 1) := by decide +kernel
theorem dJ2_getChar_3b067_28 : decode cJ2_getChar_3b067 28 = .ok (.iload_n 1, 1) := by decide +kernel
theorem dJ2_getChar_3b067_29 : decode cJ2_getChar_3b067 29 = .ok (.iconst 1, 1) := by decide +kernel
theorem dJ2_getChar_3b067_30 : decode cJ2_getChar_3b067 30 = .ok (.ishl, 1) := by decide +kernel
theorem dJ2_getChar_3b067_31 : decode cJ2_getChar_3b067 31 = .ok (.istore_n 1, 1) := by decide +kernel
theorem dJ2_getChar_3b067_32 : decode cJ2_getChar_3b067 32 = .ok (.aload_n 0, 1) := by decide +kernel
theorem dJ2_getChar_3b067_33 : decode cJ2_getChar_3b067 33 = .ok (.iload_n 1, 1) := by decide +kernel
theorem dJ2_getChar_3b067_34 : decode cJ2_getChar_3b067 34 = .ok (.iinc 1 1, 3) := by decide +kernel
theorem dJ2_getChar_3b067_37 : decode cJ2_getChar_3b067 37 = .ok (.baload, 1) := by decide +kernel
theorem dJ2_getChar_3b067_38 : decode cJ2_getChar_3b067 38 = .ok (.sipush 255, 3) := by decide +kernel
theorem dJ2_getChar_3b067_41 : decode cJ2_getChar_3b067 41 = .ok (.iand, 1) := by decide +kernel
theorem dJ2_getChar_3b067_42 : decode cJ2_getChar_3b067 42 = .ok (.getstatic 59, 3) := by decide +kernel
theorem dJ2_getChar_3b067_45 : decode cJ2_getChar_3b067 45 = .ok (.ishl, 1) := by decide +kernel
theorem dJ2_getChar_3b067_46 : decode cJ2_getChar_3b067 46 = .ok (.aload_n 0, 1) := by decide +kernel
theorem dJ2_getChar_3b067_47 : decode cJ2_getChar_3b067 47 = .ok (.iload_n 1, 1) := by decide +kernel
theorem dJ2_getChar_3b067_48 : decode cJ2_getChar_3b067 48 = .ok (.baload, 1) := by decide +kernel
theorem dJ2_getChar_3b067_49 : decode cJ2_getChar_3b067 49 = .ok (.sipush 255, 3) := by decide +kernel
theorem dJ2_getChar_3b067_52 : decode cJ2_getChar_3b067 52 = .ok (.iand, 1) := by decide +kernel
theorem dJ2_getChar_3b067_53 : decode cJ2_getChar_3b067 53 = .ok (.getstatic 63, 3) := by decide +kernel
theorem dJ2_getChar_3b067_56 : decode cJ2_getChar_3b067 56 = .ok (.ishl, 1) := by decide +kernel
theorem dJ2_getChar_3b067_57 : decode cJ2_getChar_3b067 57 = .ok (.ior, 1) := by decide +kernel
theorem dJ2_getChar_3b067_58 : decode cJ2_getChar_3b067 58 = .ok (.i2c, 1) := by decide +kernel
theorem dJ2_getChar_3b067_59 : decode cJ2_getChar_3b067 59 = .ok (.ireturn, 1) := by decide +kernel
theorem dJ2_length_9d52b_0 : decode cJ2_length_9d52b 0 = .ok (.aload_n 0, 1) := by decide +kernel
theorem dJ2_length_9d52b_1 : decode cJ2_length_9d52b 1 = .ok (.arraylength, 1) := by decide +kernel
theorem dJ2_length_9d52b_2 : decode cJ2_length_9d52b 2 = .ok (.iconst 1, 1) := by decide +kernel
theorem dJ2_length_9d52b_3 : decode cJ2_length_9d52b 3 = .ok (.ishr, 1) := by decide +kernel
theorem dJ2_length_9d52b_4 : decode cJ2_length_9d52b 4 = .ok (.ireturn, 1) := by decide +kernel
theorem dJ2_indexOf_4cfef_0 : decode cJ2_indexOf_4cfef 0 = .ok (.iload_n 2, 1) := by decide +kernel
theorem dJ2_indexOf_4cfef_1 : decode cJ2_indexOf_4cfef 1 = .ok (.iconst 0, 1) := by decide +kernel
theorem dJ2_indexOf_4cfef_2 : decode cJ2_indexOf_4cfef 2 = .ok (.invokestatic 224, 3) := by decide +kernel
theorem dJ2_indexOf_4cfef_5 : decode cJ2_indexOf_4cfef 5 = .ok (.istore_n 2, 1) := by decide +kernel
theorem dJ2_indexOf_4cfef_6 : decode cJ2_indexOf_4cfef 6 = .ok (.iload_n 3, 1) := by decide +kernel
theorem dJ2_indexOf_4cfef_7 : decode cJ2_indexOf_4cfef 7 = .ok (.aload_n 0, 1) := by decide +kernel
theorem dJ2_indexOf_4cfef_8 : decode cJ2_indexOf_4cfef 8 = .ok (.arraylength, 1) := by decide +kernel
theorem dJ2_indexOf_4cfef_9 : decode cJ2_indexOf_4cfef 9 = .ok (.iconst 1, 1) := by decide +kernel
theorem dJ2_indexOf_4cfef_10 : decode cJ2_indexOf_4cfef 10 = .ok (.ishr, 1) := by decide +kernel
theorem dJ2_indexOf_4cfef_11 : decode cJ2_indexOf_4cfef 11 = .ok (.invokestatic 183, 3) := by decide +kernel
theorem dJ2_indexOf_4cfef_14 : decode cJ2_indexOf_4cfef 14 = .ok (.istore_n 3, 1) := by decide +kernel
theorem dJ2_indexOf_4cfef_15 : decode cJ2_indexOf_4cfef 15 = .ok (.iload_n 2, 1) := by decide +kernel
theorem dJ2_indexOf_4cfef_16 : decode cJ2_indexOf_4cfef 16 = .ok (.iload_n 3, 1) := by decide +kernel
theorem dJ2_indexOf_4cfef_17 : decode cJ2_indexOf_4cfef 17 = .ok (.if_icmp .lt 5, 3) := by decide +kernel
theorem dJ2_indexOf_4cfef_20 : decode cJ2_indexOf_4cfef 20 = .ok (.iconst (-1), 1) := by decide +kernel
theorem dJ2_indexOf_4cfef_21 : decode cJ2_indexOf_4cfef 21 = .ok (.ireturn, 1) := by decide +kernel
theorem dJ2_indexOf_4cfef_22 : decode cJ2_indexOf_4cfef 22 = .ok (.iload_n 1, 1) := by decide +kernel
theorem dJ2_indexOf_4cfef_23 : decode cJ2_indexOf_4cfef 23 = .ok (.ldc 227, 2) := by decide +kernel
theorem dJ2_indexOf_4cfef_25 : decode cJ2_indexOf_4cfef 25 = .ok (.if_icmp .ge 11, 3) := by decide +kernel
theorem dJ2_indexOf_4cfef_28 : decode cJ2_indexOf_4cfef 28 = .ok (.aload_n 0, 1) := by decide +kernel
theorem dJ2_indexOf_4cfef_29 : decode cJ2_indexOf_4cfef 29 = .ok (.iload_n 1, 1) := by decide +kernel
theorem dJ2_indexOf_4cfef_30 : decode cJ2_indexOf_4cfef 30 = .ok (.iload_n 2, 1) := by decide +kernel
theorem dJ2_indexOf_4cfef_31 : decode cJ2_indexOf_4cfef 31 = .ok (.iload_n 3, 1) := by decide +kernel
theorem dJ2_indexOf_4cfef_32 : decode cJ2_indexOf_4cfef 32 = .ok (.invokestatic 228, 3) := by decide +kernel
theorem dJ2_indexOf_4cfef_35 : decode cJ2_indexOf_4cfef 35 = .ok (.ireturn, 1) := by decide +kernel
theorem dJ2_indexOf_4cfef_36 : decode cJ2_indexOf_4cfef 36 = .ok (.aload_n 0, 1) := by decide +kernel
theorem dJ2_indexOf_4cfef_37 : decode cJ2_indexOf_4cfef 37 = .ok (.iload_n 1, 1) := by decide +kernel
theorem dJ2_indexOf_4cfef_38 : decode cJ2_indexOf_4cfef 38 = .ok (.iload_n 2, 1) := by decide +kernel
theorem dJ2_indexOf_4cfef_39 : decode cJ2_indexOf_4cfef 39 = .ok (.iload_n 3, 1) := by decide +kernel
theorem dJ2_indexOf_4cfef_40 : decode cJ2_indexOf_4cfef 40 = .ok (.invokestatic 232, 3) := by decide +kernel
theorem dJ2_indexOf_4cfef_43 : decode cJ2_indexOf_4cfef 43 = .ok (.ireturn, 1) := by decide +kernel
theorem dJ2_indexOfChar_4cfef_0 : decode cJ2_indexOfChar_4cfef 0 = .ok (.iload_n 2, 1) := by decide +kernel
theorem dJ2_indexOfChar_4cfef_1 : decode cJ2_indexOfChar_4cfef 1 = .ok (.iload_n 3, 1) := by decide +kernel
theorem dJ2_indexOfChar_4cfef_2 : decode cJ2_indexOfChar_4cfef 2 = .ok (.aload_n 0, 1) := by decide +kernel
theorem dJ2_indexOfChar_4cfef_3 : decode cJ2_indexOfChar_4cfef 3 = .ok (.invokestatic 96, 3) := by decide +kernel
theorem dJ2_indexOfChar_4cfef_6 : decode cJ2_indexOfChar_4cfef 6 = .ok (.aload_n 0, 1) := by decide +kernel
theorem dJ2_indexOfChar_4cfef_7 : decode cJ2_indexOfChar_4cfef 7 = .ok (.iload_n 1, 1) := by decide +kernel
theorem dJ2_indexOfChar_4cfef_8 : decode cJ2_indexOfChar_4cfef 8 = .ok (.iload_n 2, 1) := by decide +kernel
theorem dJ2_indexOfChar_4cfef_9 : decode cJ2_indexOfChar_4cfef 9 = .ok (.iload_n 3, 1) := by decide +kernel
theorem dJ2_indexOfChar_4cfef_10 : decode cJ2_indexOfChar_4cfef 10 = .ok (.invokestatic 244, 3) := by decide +kernel
theorem dJ2_indexOfChar_4cfef_13 : decode cJ2_indexOfChar_4cfef 13 = .ok (.ireturn, 1) := by decide +kernel
theorem dJ2_indexOfCharUnsafe_4cfef_0 : decode cJ2_indexOfCharUnsafe_4cfef 0 = .ok (.iload_n 2, 1) := by decide +kernel
theorem dJ2_indexOfCharUnsafe_4cfef_1 : decode cJ2_indexOfCharUnsafe_4cfef 1 = .ok (.istore 4, 2) := by decide +kernel
theorem dJ2_indexOfCharUnsafe_4cfef_3 : decode cJ2_indexOfCharUnsafe_4cfef 3 = .ok (.iload 4, 2) := by decide +kernel
theorem dJ2_indexOfCharUnsafe_4cfef_5 : decode cJ2_indexOfCharUnsafe_4cfef 5 = .ok (.iload_n 3, 1) := by decide +kernel
theorem dJ2_indexOfCharUnsafe_4cfef_6 : decode cJ2_indexOfCharUnsafe_4cfef 6 = .ok (.if_icmp .ge 22, 3) := by decide +kernel
theorem dJ2_indexOfCharUnsafe_4cfef_9 : decode cJ2_indexOfCharUnsafe_4cfef 9 = .ok (.aload_n 0, 1) := by decide +kernel
theorem dJ2_indexOfCharUnsafe_4cfef_10 : decode cJ2_indexOfCharUnsafe_4cfef 10 = .ok (.iload 4, 2) := by decide +kernel
theorem dJ2_indexOfCharUnsafe_4cfef_12 : decode cJ2_indexOfCharUnsafe_4cfef 12 = .ok (.invokestatic 71, 3) := by decide +kernel
theorem dJ2_indexOfCharUnsafe_4cfef_15 : decode cJ2_indexOfCharUnsafe_4cfef 15 = .ok (.iload_n 1, 1) := by decide +kernel
theorem dJ2_indexOfCharUnsafe_4cfef_16 : decode cJ2_indexOfCharUnsafe_4cfef 16 = .ok (.if_icmp .ne 6, 3) := by decide +kernel
theorem dJ2_indexOfCharUnsafe_4cfef_19 : decode cJ2_indexOfCharUnsafe_4cfef 19 = .ok (.iload 4, 2) := by decide +kernel
theorem dJ2_indexOfCharUnsafe_4cfef_21 : decode cJ2_indexOfCharUnsafe_4cfef 21 = .ok (.ireturn, 1) := by decide +kernel
theorem dJ2_indexOfCharUnsafe_4cfef_22 : decode cJ2_indexOfCharUnsafe_4cfef 22 = .ok (.iinc 4 1, 3) := by decide +kernel
theorem dJ2_indexOfCharUnsafe_4cfef_25 : decode cJ2_indexOfCharUnsafe_4cfef 25 = .ok (.goto (-22), 3) := by decide +kernel
theorem dJ2_indexOfCharUnsafe_4cfef_28 : decode cJ2_indexOfCharUnsafe_4cfef 28 = .ok (.iconst (-1), 1) := by decide +kernel
theorem dJ2_indexOfCharUnsafe_4cfef_29 : decode cJ2_indexOfCharUnsafe_4cfef 29 = .ok (.ireturn, 1) := by decide +kernel
theorem dJ2_indexOfSupplementary_4cfef_0 : decode cJ2_indexOfSupplementary_4cfef 0 = .ok (.iload_n 1, 1) := by decide +kernel
theorem dJ2_indexOfSupplementary_4cfef_1 : decode cJ2_indexOfSupplementary_4cfef 1 = .ok (.invokestatic 164, 3) := by decide +kernel
theorem dJ2_indexOfSupplementary_4cfef_4 : decode cJ2_indexOfSupplementary_4cfef 4 = .ok (.ifCond .eq 65, 3) := by decide +kernel
theorem dJ2_indexOfSupplementary_4cfef_7 : decode cJ2_indexOfSupplementary_4cfef 7 = .ok (.iload_n 1, 1) := by decide +kernel
theorem dJ2_indexOfSupplementary_4cfef_8 : decode cJ2_indexOfSupplementary_4cfef 8 = .ok (.invokestatic 157, 3) := by decide +kernel
theorem dJ2_indexOfSupplementary_4cfef_11 : decode cJ2_indexOfSupplementary_4cfef 11 = .ok (.istore 4, 2) := by decide +kernel
theorem dJ2_indexOfSupplementary_4cfef_13 : decode cJ2_indexOfSupplementary_4cfef 13 = .ok (.iload_n 1, 1) := by decide +kernel
theorem dJ2_indexOfSupplementary_4cfef_14 : decode cJ2_indexOfSupplementary_4cfef 14 = .ok (.invokestatic 161, 3) := by decide +kernel
theorem dJ2_indexOfSupplementary_4cfef_17 : decode cJ2_indexOfSupplementary_4cfef 17 = .ok (.istore 5, 2) := by decide +kernel
theorem dJ2_indexOfSupplementary_4cfef_19 : decode cJ2_indexOfSupplementary_4cfef 19 = .ok (.iload_n 2, 1) := by decide +kernel
theorem dJ2_indexOfSupplementary_4cfef_20 : decode cJ2_indexOfSupplementary_4cfef 20 = .ok (.iload_n 3, 1) := by decide +kernel
theorem dJ2_indexOfSupplementary_4cfef_21 : decode cJ2_indexOfSupplementary_4cfef 21 = .ok (.aload_n 0, 1) := by decide +kernel
theorem dJ2_indexOfSupplementary_4cfef_22 : decode cJ2_indexOfSupplementary_4cfef 22 = .ok (.invokestatic 96, 3) := by decide +kernel
theorem dJ2_indexOfSupplementary_4cfef_25 : decode cJ2_indexOfSupplementary_4cfef 25 = .ok (.iload_n 2, 1) := by decide +kernel
theorem dJ2_indexOfSupplementary_4cfef_26 : decode cJ2_indexOfSupplementary_4cfef 26 = .ok (.istore 6, 2) := by decide +kernel
theorem dJ2_indexOfSupplementary_4cfef_28 : decode cJ2_indexOfSupplementary_4cfef 28 = .ok (.iload 6, 2) := by decide +kernel
theorem dJ2_indexOfSupplementary_4cfef_30 : decode cJ2_indexOfSupplementary_4cfef 30 = .ok (.iload_n 3, 1) := by decide +kernel
theorem dJ2_indexOfSupplementary_4cfef_31 : decode cJ2_indexOfSupplementary_4cfef 31 = .ok (.iconst 1, 1) := by decide +kernel
theorem dJ2_indexOfSupplementary_4cfef_32 : decode cJ2_indexOfSupplementary_4cfef 32 = .ok (.isub, 1) := by decide +kernel
theorem dJ2_indexOfSupplementary_4cfef_33 : decode cJ2_indexOfSupplementary_4cfef 33 = .ok (.if_icmp .ge 36, 3) := by decide +kernel
theorem dJ2_indexOfSupplementary_4cfef_36 : decode cJ2_indexOfSupplementary_4cfef 36 = .ok (.aload_n 0, 1) := by decide +kernel
theorem dJ2_indexOfSupplementary_4cfef_37 : decode cJ2_indexOfSupplementary_4cfef 37 = .ok (.iload 6, 2) := by decide +kernel
theorem dJ2_indexOfSupplementary_4cfef_39 : decode cJ2_indexOfSupplementary_4cfef 39 = .ok (.invokestatic 71, 3) := by decide +kernel
theorem dJ2_indexOfSupplementary_4cfef_42 : decode cJ2_indexOfSupplementary_4cfef 42 = .ok (.iload 4, 2) := by decide +kernel
theorem dJ2_indexOfSupplementary_4cfef_44 : decode cJ2_indexOfSupplementary_4cfef 44 = .ok (.if_icmp .ne 19, 3) := by decide +kernel
theorem dJ2_indexOfSupplementary_4cfef_47 : decode cJ2_indexOfSupplementary_4cfef 47 = .ok (.aload_n 0, 1) := by decide +kernel
theorem dJ2_indexOfSupplementary_4cfef_48 : decode cJ2_indexOfSupplementary_4cfef 48 = .ok (.iload 6, 2) := by decide +kernel
theorem dJ2_indexOfSupplementary_4cfef_50 : decode cJ2_indexOfSupplementary_4cfef 50 = .ok (.iconst 1, 1) := by decide +kernel
theorem dJ2_indexOfSupplementary_4cfef_51 : decode cJ2_indexOfSupplementary_4cfef 51 = .ok (.iadd, 1) := by decide +kernel
theorem dJ2_indexOfSupplementary_4cfef_52 : decode cJ2_indexOfSupplementary_4cfef 52 = .ok (.invokestatic 71, 3) := by decide +kernel
theorem dJ2_indexOfSupplementary_4cfef_55 : decode cJ2_indexOfSupplementary_4cfef 55 = .ok (.iload 5, 2) := by decide +kernel
theorem dJ2_indexOfSupplementary_4cfef_57 : decode cJ2_indexOfSupplementary_4cfef 57 = .ok (.if_icmp .ne 6, 3) := by decide +kernel
theorem dJ2_indexOfSupplementary_4cfef_60 : decode cJ2_indexOfSupplementary_4cfef 60 = .ok (.iload 6, 2) := by decide +kernel
theorem dJ2_indexOfSupplementary_4cfef_62 : decode cJ2_indexOfSupplementary_4cfef 62 = .ok (.ireturn, 1) := by decide +kernel
theorem dJ2_indexOfSupplementary_4cfef_63 : decode cJ2_indexOfSupplementary_4cfef 63 = .ok (.iinc 6 1, 3) := by decide +kernel
theorem dJ2_indexOfSupplementary_4cfef_66 : decode cJ2_indexOfSupplementary_4cfef 66 = .ok (.goto (-38), 3) := by decide +kernel
theorem dJ2_indexOfSupplementary_4cfef_69 : decode cJ2_indexOfSupplementary_4cfef 69 = .ok (.iconst (-1), 1) := by decide +kernel
theorem dJ2_indexOfSupplementary_4cfef_70 : decode cJ2_indexOfSupplementary_4cfef 70 = .ok (.ireturn, 1) := by decide +kernel
theorem dJ2_checkBoundsBeginEnd_d044e_0 : decode cJ2_checkBoundsBeginEnd_d044e 0 = .ok (.iload_n 0, 1) := by decide +kernel
theorem dJ2_checkBoundsBeginEnd_d044e_1 : decode cJ2_checkBoundsBeginEnd_d044e 1 = .ok (.iload_n 1, 1) := by decide +kernel
theorem dJ2_checkBoundsBeginEnd_d044e_2 : decode cJ2_checkBoundsBeginEnd_d044e 2 = .ok (.aload_n 2, 1) := by decide +kernel
theorem dJ2_checkBoundsBeginEnd_d044e_3 : decode cJ2_checkBoundsBeginEnd_d044e 3 = .ok (.invokestatic 48, 3) := by decide +kernel
theorem dJ2_checkBoundsBeginEnd_d044e_6 : decode cJ2_checkBoundsBeginEnd_d044e 6 = .ok (.invokestatic 241, 3) := by decide +kernel
theorem dJ2_checkBoundsBeginEnd_d044e_9 : decode cJ2_checkBoundsBeginEnd_d044e 9 = .ok (.return_, 1) := by decide +kernel
theorem dJ3_checkFromToIndex_8c36e_0 : decode cJ3_checkFromToIndex_8c36e 0 = .ok (.iload_n 0, 1) := by decide +kernel
theorem dJ3_checkFromToIndex_8c36e_1 : decode cJ3_checkFromToIndex_8c36e 1 = .ok (.ifCond .lt 13, 3) := by decide +kernel
theorem dJ3_checkFromToIndex_8c36e_4 : decode cJ3_checkFromToIndex_8c36e 4 = .ok (.iload_n 0, 1) := by decide +kernel
theorem dJ3_checkFromToIndex_8c36e_5 : decode cJ3_checkFromToIndex_8c36e 5 = .ok (.iload_n 1, 1) := by decide +kernel
theorem dJ3_checkFromToIndex_8c36e_6 : decode cJ3_checkFromToIndex_8c36e 6 = .ok (.if_icmp .gt 8, 3) := by decide +kernel
theorem dJ3_checkFromToIndex_8c36e_9 : decode cJ3_checkFromToIndex_8c36e 9 = .ok (.iload_n 1, 1) := by decide +kernel
theorem dJ3_checkFromToIndex_8c36e_10 : decode cJ3_checkFromToIndex_8c36e 10 = .ok (.iload_n 2, 1) := by decide +kernel
theorem dJ3_checkFromToIndex_8c36e_11 : decode cJ3_checkFromToIndex_8c36e 11 = .ok (.if_icmp .le 11, 3) := by decide +kernel
theorem dJ3_checkFromToIndex_8c36e_14 : decode cJ3_checkFromToIndex_8c36e 14 = .ok (.aload_n 3, 1) := by decide +kernel
theorem dJ3_checkFromToIndex_8c36e_15 : decode cJ3_checkFromToIndex_8c36e 15 = .ok (.iload_n 0, 1) := by decide +kernel
theorem dJ3_checkFromToIndex_8c36e_16 : decode cJ3_checkFromToIndex_8c36e 16 = .ok (.iload_n 1, 1) := by decide +kernel
theorem dJ3_checkFromToIndex_8c36e_17 : decode cJ3_checkFromToIndex_8c36e 17 = .ok (.iload_n 2, 1) := by decide +kernel
theorem dJ3_checkFromToIndex_8c36e_18 : decode cJ3_checkFromToIndex_8c36e 18 = .ok (.invokestatic 99, 3) := by decide +kernel
theorem dJ3_checkFromToIndex_8c36e_21 : decode cJ3_checkFromToIndex_8c36e 21 = .ok (.athrow, 1) := by decide +kernel
theorem dJ3_checkFromToIndex_8c36e_22 : decode cJ3_checkFromToIndex_8c36e 22 = .ok (.iload_n 0, 1) := by decide +kernel
theorem dJ3_checkFromToIndex_8c36e_23 : decode cJ3_checkFromToIndex_8c36e 23 = .ok (.ireturn, 1) := by decide +kernel
end
section
/-- the good words: they go along with every call -/
def lw_gd : List Cond := lw_tbl.filter goodWord
theorem gd_t {w : Cond} {i : Nat} (h : tables_1[i]? = some w) (hg : goodWord w = true) : w ∈ lw_gd := List.mem_filter.mpr ⟨List.mem_append_right _ (List.mem_of_getElem? h), hg⟩
theorem gd_p {w : Cond} {i : Nat} (h : (k2_sels lw_privs)[i]? = some w) (hg : goodWord w = true) : w ∈ lw_gd := List.mem_filter.mpr ⟨List.mem_append_left _ (List.mem_of_getElem? h), hg⟩
theorem gd_u {w : Cond} {i : Nat} (h : tables_1[i]? = some w) : w ∈ lw_tbl := List.mem_append_right _ (List.mem_of_getElem? h)
theorem wv_X5_setAsAtFirst : Cond.selects yX5_setAsAtFirst.cls yX5_setAsAtFirst yX5_setAsAtFirst ∈ lw_gd := gd_p (i := 0) (by decide +kernel) rfl
theorem wv_X6_startAnew : Cond.selects yX6_startAnew.cls yX6_startAnew yX6_startAnew ∈ lw_gd := gd_p (i := 1) (by decide +kernel) rfl
theorem wv_X6_forgetPast : Cond.selects yX6_forgetPast.cls yX6_forgetPast yX6_forgetPast ∈ lw_gd := gd_p (i := 2) (by decide +kernel) rfl
theorem wv_X4_letterAt : Cond.selects yX4_letterAt.cls yX4_letterAt yX4_letterAt ∈ lw_gd := gd_p (i := 3) (by decide +kernel) rfl
theorem wv_X4_isDigit : Cond.selects yX4_isDigit.cls yX4_isDigit yX4_isDigit ∈ lw_gd := gd_p (i := 4) (by decide +kernel) rfl
theorem wv_X4_readNumber : Cond.selects yX4_readNumber.cls yX4_readNumber yX4_readNumber ∈ lw_gd := gd_p (i := 5) (by decide +kernel) rfl
theorem wv_X5_readItem : Cond.selects yX5_readItem.cls yX5_readItem yX5_readItem ∈ lw_gd := gd_p (i := 6) (by decide +kernel) rfl
theorem wv_X5_take : Cond.selects yX5_take.cls yX5_take yX5_take ∈ lw_gd := gd_p (i := 7) (by decide +kernel) rfl
theorem wv_X6_isPart : Cond.selects yX6_isPart.cls yX6_isPart yX6_isPart ∈ lw_gd := gd_p (i := 8) (by decide +kernel) rfl
theorem wv_X6_giftOf : Cond.selects yX6_giftOf.cls yX6_giftOf yX6_giftOf ∈ lw_gd := gd_p (i := 9) (by decide +kernel) rfl
theorem wv_X6_isOrder : Cond.selects yX6_isOrder.cls yX6_isOrder yX6_isOrder ∈ lw_gd := gd_p (i := 10) (by decide +kernel) rfl
theorem wv_X6_remember : Cond.selects yX6_remember.cls yX6_remember yX6_remember ∈ lw_gd := gd_p (i := 11) (by decide +kernel) rfl
theorem wv_X3_placeAt : Cond.selects yX3_placeAt.cls yX3_placeAt yX3_placeAt ∈ lw_gd := gd_p (i := 12) (by decide +kernel) rfl
theorem wv_X6_isLate : Cond.selects yX6_isLate.cls yX6_isLate yX6_isLate ∈ lw_gd := gd_p (i := 13) (by decide +kernel) rfl
theorem wv_X0_shorten : Cond.selects yX0_shorten.cls yX0_shorten yX0_shorten ∈ lw_gd := gd_p (i := 14) (by decide +kernel) rfl
theorem wv_X6_bestTurn : Cond.selects yX6_bestTurn.cls yX6_bestTurn yX6_bestTurn ∈ lw_gd := gd_p (i := 15) (by decide +kernel) rfl
theorem wv_X2_gotIn : Cond.selects yX2_gotIn.cls yX2_gotIn yX2_gotIn ∈ lw_gd := gd_p (i := 16) (by decide +kernel) rfl
theorem wv_X2_compare : Cond.selects yX2_compare.cls yX2_compare yX2_compare ∈ lw_gd := gd_p (i := 17) (by decide +kernel) rfl
theorem wv_X2_goToNextRow : Cond.selects yX2_goToNextRow.cls yX2_goToNextRow yX2_goToNextRow ∈ lw_gd := gd_p (i := 18) (by decide +kernel) rfl
theorem wv_X6_coinsOf : Cond.selects yX6_coinsOf.cls yX6_coinsOf yX6_coinsOf ∈ lw_gd := gd_p (i := 19) (by decide +kernel) rfl
theorem wv_X6_canBeKept : Cond.selects yX6_canBeKept.cls yX6_canBeKept yX6_canBeKept ∈ lw_gd := gd_p (i := 20) (by decide +kernel) rfl
theorem wv_X6_besomsDueBy : Cond.selects yX6_besomsDueBy.cls yX6_besomsDueBy yX6_besomsDueBy ∈ lw_gd := gd_p (i := 21) (by decide +kernel) rfl
theorem wv_X6_goesAhead : Cond.selects yX6_goesAhead.cls yX6_goesAhead yX6_goesAhead ∈ lw_gd := gd_p (i := 22) (by decide +kernel) rfl
theorem wv_X6_lackingTwigs : Cond.selects yX6_lackingTwigs.cls yX6_lackingTwigs yX6_lackingTwigs ∈ lw_gd := gd_p (i := 23) (by decide +kernel) rfl
theorem wv_X6_besomsToBind : Cond.selects yX6_besomsToBind.cls yX6_besomsToBind yX6_besomsToBind ∈ lw_gd := gd_p (i := 24) (by decide +kernel) rfl
theorem wv_X6_giftsOf : Cond.selects yX6_giftsOf.cls yX6_giftsOf yX6_giftsOf ∈ lw_gd := gd_p (i := 25) (by decide +kernel) rfl
theorem wv_X6_sweepingsBy : Cond.selects yX6_sweepingsBy.cls yX6_sweepingsBy yX6_sweepingsBy ∈ lw_gd := gd_p (i := 26) (by decide +kernel) rfl
theorem wv_X6_allSeenIsSoBy : Cond.selects yX6_allSeenIsSoBy.cls yX6_allSeenIsSoBy yX6_allSeenIsSoBy ∈ lw_gd := gd_p (i := 27) (by decide +kernel) rfl
theorem wv_X6_seenFits : Cond.selects yX6_seenFits.cls yX6_seenFits yX6_seenFits ∈ lw_gd := gd_p (i := 28) (by decide +kernel) rfl
theorem wv_X6_rateAsPart : Cond.selects yX6_rateAsPart.cls yX6_rateAsPart yX6_rateAsPart ∈ lw_gd := gd_p (i := 29) (by decide +kernel) rfl
theorem wv_X6_rateAsBirch : Cond.selects yX6_rateAsBirch.cls yX6_rateAsBirch yX6_rateAsBirch ∈ lw_gd := gd_p (i := 30) (by decide +kernel) rfl
theorem wv_X6_rateAsHeather : Cond.selects yX6_rateAsHeather.cls yX6_rateAsHeather yX6_rateAsHeather ∈ lw_gd := gd_p (i := 31) (by decide +kernel) rfl
theorem wv_X6_rateAsStake : Cond.selects yX6_rateAsStake.cls yX6_rateAsStake yX6_rateAsStake ∈ lw_gd := gd_p (i := 32) (by decide +kernel) rfl
theorem wv_X6_rateAsKnot : Cond.selects yX6_rateAsKnot.cls yX6_rateAsKnot yX6_rateAsKnot ∈ lw_gd := gd_p (i := 33) (by decide +kernel) rfl
theorem wv_X6_rateAsBramble : Cond.selects yX6_rateAsBramble.cls yX6_rateAsBramble yX6_rateAsBramble ∈ lw_gd := gd_p (i := 34) (by decide +kernel) rfl
theorem wv_X7_begins : Cond.selects yX7_begins.cls yX7_begins yX7_begins ∈ lw_gd := gd_p (i := 35) (by decide +kernel) rfl
theorem wv_X7_settles : Cond.selects yX7_settles.cls yX7_settles yX7_settles ∈ lw_gd := gd_p (i := 36) (by decide +kernel) rfl
theorem wv_X7_advances : Cond.selects yX7_advances.cls yX7_advances yX7_advances ∈ lw_gd := gd_p (i := 37) (by decide +kernel) rfl
theorem wv_X7_letterAt : Cond.selects yX7_letterAt.cls yX7_letterAt yX7_letterAt ∈ lw_gd := gd_p (i := 38) (by decide +kernel) rfl
theorem wv_X7_isWell : Cond.selects yX7_isWell.cls yX7_isWell yX7_isWell ∈ lw_gd := gd_p (i := 39) (by decide +kernel) rfl
theorem wv_X7_mayBegin : Cond.selects yX7_mayBegin.cls yX7_mayBegin yX7_mayBegin ∈ lw_gd := gd_p (i := 40) (by decide +kernel) rfl
theorem wv_X7_takes : Cond.selects yX7_takes.cls yX7_takes yX7_takes ∈ lw_gd := gd_p (i := 41) (by decide +kernel) rfl
theorem wv_X7_readsItem : Cond.selects yX7_readsItem.cls yX7_readsItem yX7_readsItem ∈ lw_gd := gd_p (i := 42) (by decide +kernel) rfl
theorem wv_X7_number : Cond.selects yX7_number.cls yX7_number yX7_number ∈ lw_gd := gd_p (i := 43) (by decide +kernel) rfl
theorem wv_X7_isPart : Cond.selects yX7_isPart.cls yX7_isPart yX7_isPart ∈ lw_gd := gd_p (i := 44) (by decide +kernel) rfl
theorem wv_X7_gives : Cond.selects yX7_gives.cls yX7_gives yX7_gives ∈ lw_gd := gd_p (i := 45) (by decide +kernel) rfl
theorem wv_X7_givesAt : Cond.selects yX7_givesAt.cls yX7_givesAt yX7_givesAt ∈ lw_gd := gd_p (i := 46) (by decide +kernel) rfl
theorem wv_X7_isOrder : Cond.selects yX7_isOrder.cls yX7_isOrder yX7_isOrder ∈ lw_gd := gd_p (i := 47) (by decide +kernel) rfl
theorem wv_X7_isSent : Cond.selects yX7_isSent.cls yX7_isSent yX7_isSent ∈ lw_gd := gd_p (i := 48) (by decide +kernel) rfl
theorem wv_X7_notes : Cond.selects yX7_notes.cls yX7_notes yX7_notes ∈ lw_gd := gd_p (i := 49) (by decide +kernel) rfl
theorem wv_X7_fells : Cond.selects yX7_fells.cls yX7_fells yX7_fells ∈ lw_gd := gd_p (i := 50) (by decide +kernel) rfl
theorem wv_X7_grows : Cond.selects yX7_grows.cls yX7_grows yX7_grows ∈ lw_gd := gd_p (i := 51) (by decide +kernel) rfl
theorem wv_X7_days : Cond.selects yX7_days.cls yX7_days yX7_days ∈ lw_gd := gd_p (i := 52) (by decide +kernel) rfl
theorem wv_X7_twigsBy : Cond.selects yX7_twigsBy.cls yX7_twigsBy yX7_twigsBy ∈ lw_gd := gd_p (i := 53) (by decide +kernel) rfl
theorem wv_X7_asNow : Cond.selects yX7_asNow.cls yX7_asNow yX7_asNow ∈ lw_gd := gd_p (i := 54) (by decide +kernel) rfl
theorem wv_X7_coinsOf : Cond.selects yX7_coinsOf.cls yX7_coinsOf yX7_coinsOf ∈ lw_gd := gd_p (i := 55) (by decide +kernel) rfl
theorem wv_X7_canBeKept : Cond.selects yX7_canBeKept.cls yX7_canBeKept yX7_canBeKept ∈ lw_gd := gd_p (i := 56) (by decide +kernel) rfl
theorem wv_X7_besomsBy : Cond.selects yX7_besomsBy.cls yX7_besomsBy yX7_besomsBy ∈ lw_gd := gd_p (i := 57) (by decide +kernel) rfl
theorem wv_X7_lacks : Cond.selects yX7_lacks.cls yX7_lacks yX7_lacks ∈ lw_gd := gd_p (i := 58) (by decide +kernel) rfl
theorem wv_X7_wanted : Cond.selects yX7_wanted.cls yX7_wanted yX7_wanted ∈ lw_gd := gd_p (i := 59) (by decide +kernel) rfl
theorem wv_X7_lastsBy : Cond.selects yX7_lastsBy.cls yX7_lastsBy yX7_lastsBy ∈ lw_gd := gd_p (i := 60) (by decide +kernel) rfl
theorem wv_X7_goes : Cond.selects yX7_goes.cls yX7_goes yX7_goes ∈ lw_gd := gd_p (i := 61) (by decide +kernel) rfl
theorem wn_L : Cond.initialized RL ∈ lw_gd := gd_t (i := 0) (by decide +kernel) rfl
theorem wn_X6 : Cond.initialized RX6 ∈ lw_gd := gd_t (i := 1) (by decide +kernel) rfl
theorem wn_X4 : Cond.initialized RX4 ∈ lw_gd := gd_t (i := 2) (by decide +kernel) rfl
theorem wn_X5 : Cond.initialized RX5 ∈ lw_gd := gd_t (i := 3) (by decide +kernel) rfl
theorem wn_X1 : Cond.initialized RX1 ∈ lw_gd := gd_t (i := 4) (by decide +kernel) rfl
theorem wn_X0 : Cond.initialized RX0 ∈ lw_gd := gd_t (i := 5) (by decide +kernel) rfl
theorem wn_X3 : Cond.initialized RX3 ∈ lw_gd := gd_t (i := 6) (by decide +kernel) rfl
theorem wn_J9 : Cond.initialized RJ9 ∈ lw_gd := gd_t (i := 7) (by decide +kernel) rfl
theorem wn_X2 : Cond.initialized RX2 ∈ lw_gd := gd_t (i := 8) (by decide +kernel) rfl
theorem wn_X7 : Cond.initialized RX7 ∈ lw_gd := gd_t (i := 9) (by decide +kernel) rfl
theorem wn_J0 : Cond.initialized RJ0 ∈ lw_gd := gd_t (i := 10) (by decide +kernel) rfl
theorem wn_J1 : Cond.initialized RJ1 ∈ lw_gd := gd_t (i := 11) (by decide +kernel) rfl
theorem wn_J2 : Cond.initialized RJ2 ∈ lw_gd := gd_t (i := 12) (by decide +kernel) rfl
theorem wn_J3 : Cond.initialized RJ3 ∈ lw_gd := gd_t (i := 13) (by decide +kernel) rfl
theorem wn_J11 : Cond.initialized RJ11 ∈ lw_gd := gd_t (i := 14) (by decide +kernel) rfl
theorem wn_J6 : Cond.initialized RJ6 ∈ lw_gd := gd_t (i := 15) (by decide +kernel) rfl
theorem wcl_L_7 : Cond.classLink RL 7 "BesomYard" ∈ lw_gd := gd_t (i := 16) (by decide +kernel) rfl
theorem win_X6 : Cond.instantiable RX6 16 ∈ lw_gd := gd_t (i := 17) (by decide +kernel) rfl
theorem wl_L_9 : Cond.methodLink RL 9 yX6_init ∈ lw_gd := gd_t (i := 18) (by decide +kernel) rfl
theorem wi_X6_init : Cond.instanceMethod yX6_init ∈ lw_gd := gd_t (i := 19) (by decide +kernel) rfl
theorem wc_X6_init : Cond.code yX6_init cX6_init 1 none ∈ lw_gd := gd_t (i := 20) (by decide +kernel) rfl
theorem wl_X6_1 : Cond.methodLink RX6 1 ⟨"java/lang/Object", "<init>", "()V"⟩ ∈ lw_gd := gd_t (i := 21) (by decide +kernel) rfl
theorem wcl_X6_7 : Cond.classLink RX6 7 "BesomYard$Text" ∈ lw_gd := gd_t (i := 24) (by decide +kernel) rfl
theorem win_X4 : Cond.instantiable RX4 6 ∈ lw_gd := gd_t (i := 25) (by decide +kernel) rfl
theorem wmn_X6_9 : Cond.methodLinkNest RX6 9 yX4_init "BesomYard" ∈ lw_tbl := gd_u (i := 26) (by decide +kernel)
theorem wi_X4_init : Cond.instanceMethod yX4_init ∈ lw_gd := gd_t (i := 27) (by decide +kernel) rfl
theorem wc_X4_init : Cond.code yX4_init cX4_init 1 none ∈ lw_gd := gd_t (i := 28) (by decide +kernel) rfl
theorem wl_X4_1 : Cond.methodLink RX4 1 ⟨"java/lang/Object", "<init>", "()V"⟩ ∈ lw_gd := gd_t (i := 29) (by decide +kernel) rfl
theorem wf_X4_9 : Cond.fieldLink RX4 9 "BesomYard$Text" "letters" "[C" ∈ lw_gd := gd_t (i := 30) (by decide +kernel) rfl
theorem wf_X4_13 : Cond.fieldLink RX4 13 "BesomYard$Text" "many" "I" ∈ lw_gd := gd_t (i := 31) (by decide +kernel) rfl
theorem wf_X4_20 : Cond.fieldLink RX4 20 "BesomYard$Text" "start" "I" ∈ lw_gd := gd_t (i := 32) (by decide +kernel) rfl
theorem wf_X4_17 : Cond.fieldLink RX4 17 "BesomYard$Text" "behind" "I" ∈ lw_gd := gd_t (i := 33) (by decide +kernel) rfl
theorem wf_X4_30 : Cond.fieldLink RX4 30 "BesomYard$Text" "token" "I" ∈ lw_gd := gd_t (i := 34) (by decide +kernel) rfl
theorem wf_X4_23 : Cond.fieldLink RX4 23 "BesomYard$Text" "number" "I" ∈ lw_gd := gd_t (i := 35) (by decide +kernel) rfl
theorem war_char : Cond.arrayClass Jvm.ClassFile.FieldType.char ∈ lw_gd := gd_t (i := 49) (by decide +kernel) rfl
theorem wcl_X6_16 : Cond.classLink RX6 16 "BesomYard$Told" ∈ lw_gd := gd_t (i := 50) (by decide +kernel) rfl
theorem win_X5 : Cond.instantiable RX5 2 ∈ lw_gd := gd_t (i := 51) (by decide +kernel) rfl
theorem wl_X6_18 : Cond.methodLink RX6 18 yX5_init ∈ lw_gd := gd_t (i := 52) (by decide +kernel) rfl
theorem wi_X5_init : Cond.instanceMethod yX5_init ∈ lw_gd := gd_t (i := 53) (by decide +kernel) rfl
theorem wc_X5_init : Cond.code yX5_init cX5_init 1 none ∈ lw_gd := gd_t (i := 54) (by decide +kernel) rfl
theorem wl_X5_1 : Cond.methodLink RX5 1 ⟨"java/lang/Object", "<init>", "()V"⟩ ∈ lw_gd := gd_t (i := 55) (by decide +kernel) rfl
theorem wl_X5_16 : Cond.methodLink RX5 16 yX5_setAsAtFirst ∈ lw_gd := gd_t (i := 56) (by decide +kernel) rfl
theorem wi_X5_setAsAtFirst : Cond.instanceMethod yX5_setAsAtFirst ∈ lw_gd := gd_t (i := 58) (by decide +kernel) rfl
theorem wc_X5_setAsAtFirst : Cond.code yX5_setAsAtFirst cX5_setAsAtFirst 3 none ∈ lw_gd := gd_t (i := 59) (by decide +kernel) rfl
theorem wf_X5_73 : Cond.fieldLink RX5 73 "BesomYard$Told" "AT_FIRST" "[I" ∈ lw_gd := gd_t (i := 60) (by decide +kernel) rfl
theorem wls_61 : Cond.laysStatic RX5 "AT_FIRST" "[I" ∈ lw_gd := gd_t (i := 61) (by decide +kernel) rfl
theorem wf_X5_9 : Cond.fieldLink RX5 9 "BesomYard$Told" "many" "[I" ∈ lw_gd := gd_t (i := 62) (by decide +kernel) rfl
theorem wf_X5_13 : Cond.fieldLink RX5 13 "BesomYard$Told" "values" "[I" ∈ lw_gd := gd_t (i := 63) (by decide +kernel) rfl
theorem war_int : Cond.arrayClass Jvm.ClassFile.FieldType.int ∈ lw_gd := gd_t (i := 69) (by decide +kernel) rfl
theorem wcl_X6_26 : Cond.classLink RX6 26 "BesomYard$Moment" ∈ lw_gd := gd_t (i := 70) (by decide +kernel) rfl
theorem win_X1 : Cond.instantiable RX1 8 ∈ lw_gd := gd_t (i := 71) (by decide +kernel) rfl
theorem wmn_X6_28 : Cond.methodLinkNest RX6 28 yX1_init "BesomYard" ∈ lw_tbl := gd_u (i := 72) (by decide +kernel)
theorem wi_X1_init : Cond.instanceMethod yX1_init ∈ lw_gd := gd_t (i := 73) (by decide +kernel) rfl
theorem wc_X1_init : Cond.code yX1_init cX1_init 1 none ∈ lw_gd := gd_t (i := 74) (by decide +kernel) rfl
theorem wl_X1_1 : Cond.methodLink RX1 1 ⟨"java/lang/Object", "<init>", "()V"⟩ ∈ lw_gd := gd_t (i := 75) (by decide +kernel) rfl
theorem wcl_X1_15 : Cond.classLink RX1 15 "BesomYard$Besom" ∈ lw_gd := gd_t (i := 76) (by decide +kernel) rfl
theorem win_X0 : Cond.instantiable RX0 2 ∈ lw_gd := gd_t (i := 77) (by decide +kernel) rfl
theorem wmn_X1_17 : Cond.methodLinkNest RX1 17 yX0_init "BesomYard" ∈ lw_tbl := gd_u (i := 78) (by decide +kernel)
theorem wi_X0_init : Cond.instanceMethod yX0_init ∈ lw_gd := gd_t (i := 79) (by decide +kernel) rfl
theorem wc_X0_init : Cond.code yX0_init cX0_init 1 none ∈ lw_gd := gd_t (i := 80) (by decide +kernel) rfl
theorem wl_X0_1 : Cond.methodLink RX0 1 ⟨"java/lang/Object", "<init>", "()V"⟩ ∈ lw_gd := gd_t (i := 81) (by decide +kernel) rfl
theorem wf_X0_9 : Cond.fieldLink RX0 9 "BesomYard$Besom" "lengths" "[I" ∈ lw_gd := gd_t (i := 82) (by decide +kernel) rfl
theorem wf_X0_13 : Cond.fieldLink RX0 13 "BesomYard$Besom" "front" "I" ∈ lw_gd := gd_t (i := 83) (by decide +kernel) rfl
theorem wfn_X6_140 : Cond.fieldLinkNest RX6 140 "BesomYard$Besom" "front" "I" "BesomYard" ∈ lw_tbl := gd_u (i := 84) (by decide +kernel)
theorem wf_X1_9 : Cond.fieldLink RX1 9 "BesomYard$Moment" "ages" "[I" ∈ lw_gd := gd_t (i := 90) (by decide +kernel) rfl
theorem wf_X1_18 : Cond.fieldLink RX1 18 "BesomYard$Moment" "door" "LBesomYard$Besom;" ∈ lw_gd := gd_t (i := 91) (by decide +kernel) rfl
theorem wfn_X6_115 : Cond.fieldLinkNest RX6 115 "BesomYard$Moment" "door" "LBesomYard$Besom;" "BesomYard" ∈ lw_tbl := gd_u (i := 92) (by decide +kernel)
theorem wf_X1_43 : Cond.fieldLink RX1 43 "BesomYard$Moment" "stack" "I" ∈ lw_gd := gd_t (i := 93) (by decide +kernel) rfl
theorem wfn_X6_128 : Cond.fieldLinkNest RX6 128 "BesomYard$Moment" "stack" "I" "BesomYard" ∈ lw_tbl := gd_u (i := 94) (by decide +kernel)
theorem wf_X1_46 : Cond.fieldLink RX1 46 "BesomYard$Moment" "bound" "I" ∈ lw_gd := gd_t (i := 95) (by decide +kernel) rfl
theorem wfn_X6_131 : Cond.fieldLinkNest RX6 131 "BesomYard$Moment" "bound" "I" "BesomYard" ∈ lw_tbl := gd_u (i := 96) (by decide +kernel)
theorem wf_X1_49 : Cond.fieldLink RX1 49 "BesomYard$Moment" "day" "I" ∈ lw_gd := gd_t (i := 97) (by decide +kernel) rfl
theorem wfn_X6_121 : Cond.fieldLinkNest RX6 121 "BesomYard$Moment" "day" "I" "BesomYard" ∈ lw_tbl := gd_u (i := 98) (by decide +kernel)
theorem wf_X1_52 : Cond.fieldLink RX1 52 "BesomYard$Moment" "earned" "I" ∈ lw_gd := gd_t (i := 99) (by decide +kernel) rfl
theorem wfn_X6_134 : Cond.fieldLinkNest RX6 134 "BesomYard$Moment" "earned" "I" "BesomYard" ∈ lw_tbl := gd_u (i := 100) (by decide +kernel)
theorem wf_X1_22 : Cond.fieldLink RX1 22 "BesomYard$Moment" "sent" "I" ∈ lw_gd := gd_t (i := 101) (by decide +kernel) rfl
theorem wfn_X6_137 : Cond.fieldLinkNest RX6 137 "BesomYard$Moment" "sent" "I" "BesomYard" ∈ lw_tbl := gd_u (i := 102) (by decide +kernel)
theorem wf_X1_55 : Cond.fieldLink RX1 55 "BesomYard$Moment" "year" "I" ∈ lw_gd := gd_t (i := 103) (by decide +kernel) rfl
theorem wfn_X6_125 : Cond.fieldLinkNest RX6 125 "BesomYard$Moment" "year" "I" "BesomYard" ∈ lw_tbl := gd_u (i := 104) (by decide +kernel)
theorem wcl_X6_33 : Cond.classLink RX6 33 "BesomYard$Shelf" ∈ lw_gd := gd_t (i := 122) (by decide +kernel) rfl
theorem win_X3 : Cond.instantiable RX3 1 ∈ lw_gd := gd_t (i := 123) (by decide +kernel) rfl
theorem wl_X6_35 : Cond.methodLink RX6 35 yX3_init ∈ lw_gd := gd_t (i := 124) (by decide +kernel) rfl
theorem wi_X3_init : Cond.instanceMethod yX3_init ∈ lw_gd := gd_t (i := 125) (by decide +kernel) rfl
theorem wc_X3_init : Cond.code yX3_init cX3_init 3 none ∈ lw_gd := gd_t (i := 126) (by decide +kernel) rfl
theorem wl_X3_1 : Cond.methodLink RX3 1 ⟨"java/lang/Object", "<init>", "()V"⟩ ∈ lw_gd := gd_t (i := 127) (by decide +kernel) rfl
theorem wl_X3_7 : Cond.methodLink RX3 7 yJ9_max_7cf53 ∈ lw_gd := gd_t (i := 128) (by decide +kernel) rfl
theorem wt_J9_max_7cf53 : Cond.static yJ9_max_7cf53 ∈ lw_gd := gd_t (i := 129) (by decide +kernel) rfl
theorem wc_J9_max_7cf53 : Cond.code yJ9_max_7cf53 cJ9_max_7cf53 2 (some .int) ∈ lw_gd := gd_t (i := 130) (by decide +kernel) rfl
theorem wcl_X3_13 : Cond.classLink RX3 13 "BesomYard$Moment" ∈ lw_gd := gd_t (i := 131) (by decide +kernel) rfl
theorem wao_132 : Cond.arrayOver (Jvm.ClassFile.FieldType.object "BesomYard$Moment") ∈ lw_tbl := gd_u (i := 132) (by decide +kernel)
theorem wmn_X3_21 : Cond.methodLinkNest RX3 21 yX1_init "BesomYard" ∈ lw_tbl := gd_u (i := 133) (by decide +kernel)
theorem wf_X3_15 : Cond.fieldLink RX3 15 "BesomYard$Shelf" "places" "[LBesomYard$Moment;" ∈ lw_gd := gd_t (i := 134) (by decide +kernel) rfl
theorem wcl_X6_59 : Cond.classLink RX6 59 "BesomYard$Besom" ∈ lw_gd := gd_t (i := 138) (by decide +kernel) rfl
theorem wmn_X6_61 : Cond.methodLinkNest RX6 61 yX0_init "BesomYard" ∈ lw_tbl := gd_u (i := 139) (by decide +kernel)
theorem wcl_X6_66 : Cond.classLink RX6 66 "BesomYard$Planner" ∈ lw_gd := gd_t (i := 140) (by decide +kernel) rfl
theorem win_X2 : Cond.instantiable RX2 4 ∈ lw_gd := gd_t (i := 141) (by decide +kernel) rfl
theorem wmn_X6_68 : Cond.methodLinkNest RX6 68 yX2_init "BesomYard" ∈ lw_tbl := gd_u (i := 142) (by decide +kernel)
theorem wi_X2_init : Cond.instanceMethod yX2_init ∈ lw_gd := gd_t (i := 143) (by decide +kernel) rfl
theorem wc_X2_init : Cond.code yX2_init cX2_init 1 none ∈ lw_gd := gd_t (i := 144) (by decide +kernel) rfl
theorem wl_X2_3 : Cond.methodLink RX2 3 ⟨"java/lang/Object", "<init>", "()V"⟩ ∈ lw_gd := gd_t (i := 145) (by decide +kernel) rfl
theorem wf_X2_21 : Cond.fieldLink RX2 21 "BesomYard$Planner" "most" "I" ∈ lw_gd := gd_t (i := 146) (by decide +kernel) rfl
theorem wf_X2_11 : Cond.fieldLink RX2 11 "BesomYard$Planner" "row" "[I" ∈ lw_gd := gd_t (i := 147) (by decide +kernel) rfl
theorem wf_X2_15 : Cond.fieldLink RX2 15 "BesomYard$Planner" "best" "[I" ∈ lw_gd := gd_t (i := 148) (by decide +kernel) rfl
theorem wf_X2_18 : Cond.fieldLink RX2 18 "BesomYard$Planner" "got" "[I" ∈ lw_gd := gd_t (i := 149) (by decide +kernel) rfl
theorem war_boolean : Cond.arrayClass Jvm.ClassFile.FieldType.boolean ∈ lw_gd := gd_t (i := 159) (by decide +kernel) rfl
theorem wl_X6_73 : Cond.methodLink RX6 73 yX6_startAnew ∈ lw_gd := gd_t (i := 160) (by decide +kernel) rfl
theorem wi_X6_startAnew : Cond.instanceMethod yX6_startAnew ∈ lw_gd := gd_t (i := 162) (by decide +kernel) rfl
theorem wc_X6_startAnew : Cond.code yX6_startAnew cX6_startAnew 2 none ∈ lw_gd := gd_t (i := 163) (by decide +kernel) rfl
theorem wl_X6_283 : Cond.methodLink RX6 283 yX1_begin ∈ lw_gd := gd_t (i := 164) (by decide +kernel) rfl
theorem wi_X1_begin : Cond.instanceMethod yX1_begin ∈ lw_gd := gd_t (i := 165) (by decide +kernel) rfl
theorem wv_X1_begin : Cond.selects yX1_begin.cls yX1_begin yX1_begin ∈ lw_gd := gd_t (i := 166) (by decide +kernel) rfl
theorem wc_X1_begin : Cond.code yX1_begin cX1_begin 3 none ∈ lw_gd := gd_t (i := 167) (by decide +kernel) rfl
theorem wl_X1_32 : Cond.methodLink RX1 32 yX5_value ∈ lw_gd := gd_t (i := 168) (by decide +kernel) rfl
theorem wi_X5_value : Cond.instanceMethod yX5_value ∈ lw_gd := gd_t (i := 169) (by decide +kernel) rfl
theorem wv_X5_value : Cond.selects yX5_value.cls yX5_value yX5_value ∈ lw_gd := gd_t (i := 170) (by decide +kernel) rfl
theorem wc_X5_value : Cond.code yX5_value cX5_value 3 (some .int) ∈ lw_gd := gd_t (i := 171) (by decide +kernel) rfl
theorem wl_X5_23 : Cond.methodLink RX5 23 yX5_isPlace ∈ lw_gd := gd_t (i := 172) (by decide +kernel) rfl
theorem wt_X5_isPlace : Cond.static yX5_isPlace ∈ lw_gd := gd_t (i := 173) (by decide +kernel) rfl
theorem wc_X5_isPlace : Cond.code yX5_isPlace cX5_isPlace 2 (some .boolean) ∈ lw_gd := gd_t (i := 174) (by decide +kernel) rfl
theorem wl_X1_35 : Cond.methodLink RX1 35 yX5_lengthAtFirst ∈ lw_gd := gd_t (i := 175) (by decide +kernel) rfl
theorem wi_X5_lengthAtFirst : Cond.instanceMethod yX5_lengthAtFirst ∈ lw_gd := gd_t (i := 176) (by decide +kernel) rfl
theorem wv_X5_lengthAtFirst : Cond.selects yX5_lengthAtFirst.cls yX5_lengthAtFirst yX5_lengthAtFirst ∈ lw_gd := gd_t (i := 177) (by decide +kernel) rfl
theorem wc_X5_lengthAtFirst : Cond.code yX5_lengthAtFirst cX5_lengthAtFirst 1 (some .int) ∈ lw_gd := gd_t (i := 178) (by decide +kernel) rfl
theorem wl_X5_19 : Cond.methodLink RX5 19 yX5_value ∈ lw_gd := gd_t (i := 179) (by decide +kernel) rfl
theorem wl_X1_39 : Cond.methodLink RX1 39 yX0_renew ∈ lw_gd := gd_t (i := 180) (by decide +kernel) rfl
theorem wi_X0_renew : Cond.instanceMethod yX0_renew ∈ lw_gd := gd_t (i := 181) (by decide +kernel) rfl
theorem wv_X0_renew : Cond.selects yX0_renew.cls yX0_renew yX0_renew ∈ lw_gd := gd_t (i := 182) (by decide +kernel) rfl
theorem wc_X0_renew : Cond.code yX0_renew cX0_renew 3 none ∈ lw_gd := gd_t (i := 183) (by decide +kernel) rfl
theorem wl_X6_273 : Cond.methodLink RX6 273 yX6_forgetPast ∈ lw_gd := gd_t (i := 184) (by decide +kernel) rfl
theorem wi_X6_forgetPast : Cond.instanceMethod yX6_forgetPast ∈ lw_gd := gd_t (i := 186) (by decide +kernel) rfl
theorem wc_X6_forgetPast : Cond.code yX6_forgetPast cX6_forgetPast 1 none ∈ lw_gd := gd_t (i := 187) (by decide +kernel) rfl
theorem wf_X6_10 : Cond.fieldLink RX6 10 "BesomYard" "text" "LBesomYard$Text;" ∈ lw_gd := gd_t (i := 188) (by decide +kernel) rfl
theorem wf_X6_19 : Cond.fieldLink RX6 19 "BesomYard" "told" "LBesomYard$Told;" ∈ lw_gd := gd_t (i := 189) (by decide +kernel) rfl
theorem wf_X6_23 : Cond.fieldLink RX6 23 "BesomYard" "draft" "LBesomYard$Told;" ∈ lw_gd := gd_t (i := 190) (by decide +kernel) rfl
theorem wf_X6_29 : Cond.fieldLink RX6 29 "BesomYard" "here" "LBesomYard$Moment;" ∈ lw_gd := gd_t (i := 191) (by decide +kernel) rfl
theorem wf_X6_38 : Cond.fieldLink RX6 38 "BesomYard" "past" "LBesomYard$Shelf;" ∈ lw_gd := gd_t (i := 192) (by decide +kernel) rfl
theorem wf_X6_143 : Cond.fieldLink RX6 143 "BesomYard" "pastMany" "I" ∈ lw_gd := gd_t (i := 193) (by decide +kernel) rfl
theorem wf_X6_173 : Cond.fieldLink RX6 173 "BesomYard" "pastNext" "I" ∈ lw_gd := gd_t (i := 194) (by decide +kernel) rfl
theorem wf_X6_42 : Cond.fieldLink RX6 42 "BesomYard" "images" "LBesomYard$Shelf;" ∈ lw_gd := gd_t (i := 195) (by decide +kernel) rfl
theorem wf_X6_45 : Cond.fieldLink RX6 45 "BesomYard" "imageKept" "[Z" ∈ lw_gd := gd_t (i := 196) (by decide +kernel) rfl
theorem wf_X6_49 : Cond.fieldLink RX6 49 "BesomYard" "seenBehind" "[I" ∈ lw_gd := gd_t (i := 197) (by decide +kernel) rfl
theorem wf_X6_53 : Cond.fieldLink RX6 53 "BesomYard" "seenSide" "[I" ∈ lw_gd := gd_t (i := 198) (by decide +kernel) rfl
theorem wf_X6_56 : Cond.fieldLink RX6 56 "BesomYard" "seenLength" "[I" ∈ lw_gd := gd_t (i := 199) (by decide +kernel) rfl
theorem wf_X6_236 : Cond.fieldLink RX6 236 "BesomYard" "seenMany" "I" ∈ lw_gd := gd_t (i := 200) (by decide +kernel) rfl
theorem wf_X6_62 : Cond.fieldLink RX6 62 "BesomYard" "trial" "LBesomYard$Besom;" ∈ lw_gd := gd_t (i := 201) (by decide +kernel) rfl
theorem wf_X6_69 : Cond.fieldLink RX6 69 "BesomYard" "planner" "LBesomYard$Planner;" ∈ lw_gd := gd_t (i := 202) (by decide +kernel) rfl
theorem wf_X6_279 : Cond.fieldLink RX6 279 "BesomYard" "traced" "J" ∈ lw_gd := gd_t (i := 203) (by decide +kernel) rfl
theorem wl_L_13 : Cond.methodLink RL 13 yX6_type ∈ lw_gd := gd_t (i := 237) (by decide +kernel) rfl
theorem wi_X6_type : Cond.instanceMethod yX6_type ∈ lw_gd := gd_t (i := 238) (by decide +kernel) rfl
theorem wv_X6_type : Cond.selects yX6_type.cls yX6_type yX6_type ∈ lw_gd := gd_t (i := 239) (by decide +kernel) rfl
theorem wc_X6_type : Cond.code yX6_type cX6_type 2 (some .int) ∈ lw_gd := gd_t (i := 240) (by decide +kernel) rfl
theorem wl_X6_76 : Cond.methodLink RX6 76 yX4_add ∈ lw_gd := gd_t (i := 241) (by decide +kernel) rfl
theorem wi_X4_add : Cond.instanceMethod yX4_add ∈ lw_gd := gd_t (i := 242) (by decide +kernel) rfl
theorem wv_X4_add : Cond.selects yX4_add.cls yX4_add yX4_add ∈ lw_gd := gd_t (i := 243) (by decide +kernel) rfl
theorem wc_X4_add : Cond.code yX4_add cX4_add 2 (some .boolean) ∈ lw_gd := gd_t (i := 244) (by decide +kernel) rfl
theorem wl_X6_80 : Cond.methodLink RX6 80 yX4_size ∈ lw_gd := gd_t (i := 245) (by decide +kernel) rfl
theorem wi_X4_size : Cond.instanceMethod yX4_size ∈ lw_gd := gd_t (i := 246) (by decide +kernel) rfl
theorem wv_X4_size : Cond.selects yX4_size.cls yX4_size yX4_size ∈ lw_gd := gd_t (i := 247) (by decide +kernel) rfl
theorem wc_X4_size : Cond.code yX4_size cX4_size 1 (some .int) ∈ lw_gd := gd_t (i := 248) (by decide +kernel) rfl
theorem wl_L_18 : Cond.methodLink RL 18 yX6_clear ∈ lw_gd := gd_t (i := 249) (by decide +kernel) rfl
theorem wi_X6_clear : Cond.instanceMethod yX6_clear ∈ lw_gd := gd_t (i := 250) (by decide +kernel) rfl
theorem wv_X6_clear : Cond.selects yX6_clear.cls yX6_clear yX6_clear ∈ lw_gd := gd_t (i := 251) (by decide +kernel) rfl
theorem wc_X6_clear : Cond.code yX6_clear cX6_clear 2 (some .int) ∈ lw_gd := gd_t (i := 252) (by decide +kernel) rfl
theorem wl_X6_84 : Cond.methodLink RX6 84 yX4_empty ∈ lw_gd := gd_t (i := 253) (by decide +kernel) rfl
theorem wi_X4_empty : Cond.instanceMethod yX4_empty ∈ lw_gd := gd_t (i := 254) (by decide +kernel) rfl
theorem wv_X4_empty : Cond.selects yX4_empty.cls yX4_empty yX4_empty ∈ lw_gd := gd_t (i := 255) (by decide +kernel) rfl
theorem wc_X4_empty : Cond.code yX4_empty cX4_empty 1 none ∈ lw_gd := gd_t (i := 256) (by decide +kernel) rfl
theorem wl_L_23 : Cond.methodLink RL 23 yX6_yard ∈ lw_gd := gd_t (i := 257) (by decide +kernel) rfl
theorem wi_X6_yard : Cond.instanceMethod yX6_yard ∈ lw_gd := gd_t (i := 258) (by decide +kernel) rfl
theorem wv_X6_yard : Cond.selects yX6_yard.cls yX6_yard yX6_yard ∈ lw_gd := gd_t (i := 259) (by decide +kernel) rfl
theorem wc_X6_yard : Cond.code yX6_yard cX6_yard 3 (some .int) ∈ lw_gd := gd_t (i := 260) (by decide +kernel) rfl
theorem wl_X6_87 : Cond.methodLink RX6 87 yX5_readFrom ∈ lw_gd := gd_t (i := 261) (by decide +kernel) rfl
theorem wi_X5_readFrom : Cond.instanceMethod yX5_readFrom ∈ lw_gd := gd_t (i := 262) (by decide +kernel) rfl
theorem wv_X5_readFrom : Cond.selects yX5_readFrom.cls yX5_readFrom yX5_readFrom ∈ lw_gd := gd_t (i := 263) (by decide +kernel) rfl
theorem wc_X5_readFrom : Cond.code yX5_readFrom cX5_readFrom 4 (some .int) ∈ lw_gd := gd_t (i := 264) (by decide +kernel) rfl
theorem wl_X5_27 : Cond.methodLink RX5 27 yX4_rewind ∈ lw_gd := gd_t (i := 265) (by decide +kernel) rfl
theorem wi_X4_rewind : Cond.instanceMethod yX4_rewind ∈ lw_gd := gd_t (i := 266) (by decide +kernel) rfl
theorem wv_X4_rewind : Cond.selects yX4_rewind.cls yX4_rewind yX4_rewind ∈ lw_gd := gd_t (i := 267) (by decide +kernel) rfl
theorem wc_X4_rewind : Cond.code yX4_rewind cX4_rewind 1 none ∈ lw_gd := gd_t (i := 268) (by decide +kernel) rfl
theorem wl_X5_32 : Cond.methodLink RX5 32 yX4_goOn ∈ lw_gd := gd_t (i := 269) (by decide +kernel) rfl
theorem wi_X4_goOn : Cond.instanceMethod yX4_goOn ∈ lw_gd := gd_t (i := 270) (by decide +kernel) rfl
theorem wv_X4_goOn : Cond.selects yX4_goOn.cls yX4_goOn yX4_goOn ∈ lw_gd := gd_t (i := 271) (by decide +kernel) rfl
theorem wc_X4_goOn : Cond.code yX4_goOn cX4_goOn 1 (some .int) ∈ lw_gd := gd_t (i := 272) (by decide +kernel) rfl
theorem wl_X4_26 : Cond.methodLink RX4 26 yX4_letterAt ∈ lw_gd := gd_t (i := 273) (by decide +kernel) rfl
theorem wi_X4_letterAt : Cond.instanceMethod yX4_letterAt ∈ lw_gd := gd_t (i := 275) (by decide +kernel) rfl
theorem wc_X4_letterAt : Cond.code yX4_letterAt cX4_letterAt 2 (some .int) ∈ lw_gd := gd_t (i := 276) (by decide +kernel) rfl
theorem wl_X4_33 : Cond.methodLink RX4 33 yX4_isDigit ∈ lw_gd := gd_t (i := 277) (by decide +kernel) rfl
theorem wi_X4_isDigit : Cond.instanceMethod yX4_isDigit ∈ lw_gd := gd_t (i := 279) (by decide +kernel) rfl
theorem wc_X4_isDigit : Cond.code yX4_isDigit cX4_isDigit 3 (some .boolean) ∈ lw_gd := gd_t (i := 280) (by decide +kernel) rfl
theorem wl_X4_37 : Cond.methodLink RX4 37 yX4_readNumber ∈ lw_gd := gd_t (i := 281) (by decide +kernel) rfl
theorem wi_X4_readNumber : Cond.instanceMethod yX4_readNumber ∈ lw_gd := gd_t (i := 283) (by decide +kernel) rfl
theorem wc_X4_readNumber : Cond.code yX4_readNumber cX4_readNumber 2 none ∈ lw_gd := gd_t (i := 284) (by decide +kernel) rfl
theorem wl_X4_40 : Cond.methodLink RX4 40 yJ9_min_7cf53 ∈ lw_gd := gd_t (i := 285) (by decide +kernel) rfl
theorem wt_J9_min_7cf53 : Cond.static yJ9_min_7cf53 ∈ lw_gd := gd_t (i := 286) (by decide +kernel) rfl
theorem wc_J9_min_7cf53 : Cond.code yJ9_min_7cf53 cJ9_min_7cf53 2 (some .int) ∈ lw_gd := gd_t (i := 287) (by decide +kernel) rfl
theorem wl_X5_36 : Cond.methodLink RX5 36 yX5_readItem ∈ lw_gd := gd_t (i := 288) (by decide +kernel) rfl
theorem wi_X5_readItem : Cond.instanceMethod yX5_readItem ∈ lw_gd := gd_t (i := 290) (by decide +kernel) rfl
theorem wc_X5_readItem : Cond.code yX5_readItem cX5_readItem 6 (some .boolean) ∈ lw_gd := gd_t (i := 291) (by decide +kernel) rfl
theorem wsr_292 : Cond.stringRef RX5 43 "wortpl" ∈ lw_tbl := gd_u (i := 292) (by decide +kernel)
theorem wl_X5_45 : Cond.methodLink RX5 45 yJ0_indexOf_0f7a4 ∈ lw_gd := gd_t (i := 293) (by decide +kernel) rfl
theorem wi_J0_indexOf_0f7a4 : Cond.instanceMethod yJ0_indexOf_0f7a4 ∈ lw_gd := gd_t (i := 294) (by decide +kernel) rfl
theorem wv_J0_indexOf_0f7a4 : Cond.selects yJ0_indexOf_0f7a4.cls yJ0_indexOf_0f7a4 yJ0_indexOf_0f7a4 ∈ lw_gd := gd_t (i := 295) (by decide +kernel) rfl
theorem wc_J0_indexOf_0f7a4 : Cond.code yJ0_indexOf_0f7a4 cJ0_indexOf_0f7a4 2 (some .int) ∈ lw_gd := gd_t (i := 296) (by decide +kernel) rfl
theorem wl_J0_633 : Cond.methodLink RJ0 633 yJ0_indexOf_7cf53 ∈ lw_gd := gd_t (i := 297) (by decide +kernel) rfl
theorem wi_J0_indexOf_7cf53 : Cond.instanceMethod yJ0_indexOf_7cf53 ∈ lw_gd := gd_t (i := 298) (by decide +kernel) rfl
theorem wv_J0_indexOf_7cf53 : Cond.selects yJ0_indexOf_7cf53.cls yJ0_indexOf_7cf53 yJ0_indexOf_7cf53 ∈ lw_gd := gd_t (i := 299) (by decide +kernel) rfl
theorem wc_J0_indexOf_7cf53 : Cond.code yJ0_indexOf_7cf53 cJ0_indexOf_7cf53 3 (some .int) ∈ lw_gd := gd_t (i := 300) (by decide +kernel) rfl
theorem wl_J0_492 : Cond.methodLink RJ0 492 yJ0_isLatin1_aae02 ∈ lw_gd := gd_t (i := 301) (by decide +kernel) rfl
theorem wi_J0_isLatin1_aae02 : Cond.instanceMethod yJ0_isLatin1_aae02 ∈ lw_gd := gd_t (i := 302) (by decide +kernel) rfl
theorem wv_J0_isLatin1_aae02 : Cond.selects yJ0_isLatin1_aae02.cls yJ0_isLatin1_aae02 yJ0_isLatin1_aae02 ∈ lw_gd := gd_t (i := 303) (by decide +kernel) rfl
theorem wc_J0_isLatin1_aae02 : Cond.code yJ0_isLatin1_aae02 cJ0_isLatin1_aae02 1 (some .boolean) ∈ lw_gd := gd_t (i := 304) (by decide +kernel) rfl
theorem wf_J0_38 : Cond.fieldLink RJ0 38 "java/lang/String" "COMPACT_STRINGS" "Z" ∈ lw_gd := gd_t (i := 305) (by decide +kernel) rfl
theorem wls_306 : Cond.laysStatic RJ0 "COMPACT_STRINGS" "Z" ∈ lw_gd := gd_t (i := 306) (by decide +kernel) rfl
theorem wl_J0_505 : Cond.methodLink RJ0 505 yJ0_length_8abf5 ∈ lw_gd := gd_t (i := 307) (by decide +kernel) rfl
theorem wi_J0_length_8abf5 : Cond.instanceMethod yJ0_length_8abf5 ∈ lw_gd := gd_t (i := 308) (by decide +kernel) rfl
theorem wv_J0_length_8abf5 : Cond.selects yJ0_length_8abf5.cls yJ0_length_8abf5 yJ0_length_8abf5 ∈ lw_gd := gd_t (i := 309) (by decide +kernel) rfl
theorem wc_J0_length_8abf5 : Cond.code yJ0_length_8abf5 cJ0_length_8abf5 1 (some .int) ∈ lw_gd := gd_t (i := 310) (by decide +kernel) rfl
theorem wl_J0_335 : Cond.methodLink RJ0 335 yJ0_coder_7d493 ∈ lw_gd := gd_t (i := 311) (by decide +kernel) rfl
theorem wi_J0_coder_7d493 : Cond.instanceMethod yJ0_coder_7d493 ∈ lw_gd := gd_t (i := 312) (by decide +kernel) rfl
theorem wv_J0_coder_7d493 : Cond.selects yJ0_coder_7d493.cls yJ0_coder_7d493 yJ0_coder_7d493 ∈ lw_gd := gd_t (i := 313) (by decide +kernel) rfl
theorem wc_J0_coder_7d493 : Cond.code yJ0_coder_7d493 cJ0_coder_7d493 1 (some .byte) ∈ lw_gd := gd_t (i := 314) (by decide +kernel) rfl
theorem wl_J0_637 : Cond.methodLink RJ0 637 yJ1_indexOf_4cfef ∈ lw_gd := gd_t (i := 315) (by decide +kernel) rfl
theorem wt_J1_indexOf_4cfef : Cond.static yJ1_indexOf_4cfef ∈ lw_gd := gd_t (i := 316) (by decide +kernel) rfl
theorem wc_J1_indexOf_4cfef : Cond.code yJ1_indexOf_4cfef cJ1_indexOf_4cfef 4 (some .int) ∈ lw_gd := gd_t (i := 317) (by decide +kernel) rfl
theorem wl_J1_88 : Cond.methodLink RJ1 88 yJ1_canEncode_9a6ad ∈ lw_gd := gd_t (i := 318) (by decide +kernel) rfl
theorem wt_J1_canEncode_9a6ad : Cond.static yJ1_canEncode_9a6ad ∈ lw_gd := gd_t (i := 319) (by decide +kernel) rfl
theorem wc_J1_canEncode_9a6ad : Cond.code yJ1_canEncode_9a6ad cJ1_canEncode_9a6ad 1 (some .boolean) ∈ lw_gd := gd_t (i := 320) (by decide +kernel) rfl
theorem wl_J1_92 : Cond.methodLink RJ1 92 yJ9_max_7cf53 ∈ lw_gd := gd_t (i := 321) (by decide +kernel) rfl
theorem wl_J1_38 : Cond.methodLink RJ1 38 yJ9_min_7cf53 ∈ lw_gd := gd_t (i := 322) (by decide +kernel) rfl
theorem wl_J1_95 : Cond.methodLink RJ1 95 yJ1_indexOfChar_4cfef ∈ lw_gd := gd_t (i := 323) (by decide +kernel) rfl
theorem wt_J1_indexOfChar_4cfef : Cond.static yJ1_indexOfChar_4cfef ∈ lw_gd := gd_t (i := 324) (by decide +kernel) rfl
theorem wc_J1_indexOfChar_4cfef : Cond.code yJ1_indexOfChar_4cfef cJ1_indexOfChar_4cfef 6 (some .int) ∈ lw_gd := gd_t (i := 325) (by decide +kernel) rfl
theorem wl_J0_640 : Cond.methodLink RJ0 640 yJ2_indexOf_4cfef ∈ lw_gd := gd_t (i := 326) (by decide +kernel) rfl
theorem wt_J2_indexOf_4cfef : Cond.static yJ2_indexOf_4cfef ∈ lw_gd := gd_t (i := 327) (by decide +kernel) rfl
theorem wc_J2_indexOf_4cfef : Cond.code yJ2_indexOf_4cfef cJ2_indexOf_4cfef 4 (some .int) ∈ lw_gd := gd_t (i := 328) (by decide +kernel) rfl
theorem wl_J2_224 : Cond.methodLink RJ2 224 yJ9_max_7cf53 ∈ lw_gd := gd_t (i := 329) (by decide +kernel) rfl
theorem wl_J2_183 : Cond.methodLink RJ2 183 yJ9_min_7cf53 ∈ lw_gd := gd_t (i := 330) (by decide +kernel) rfl
theorem wk_J2_227 : Cond.constant RJ2 227 65536 ∈ lw_gd := gd_t (i := 331) (by decide +kernel) rfl
theorem wl_J2_228 : Cond.methodLink RJ2 228 yJ2_indexOfChar_4cfef ∈ lw_gd := gd_t (i := 332) (by decide +kernel) rfl
theorem wt_J2_indexOfChar_4cfef : Cond.static yJ2_indexOfChar_4cfef ∈ lw_gd := gd_t (i := 333) (by decide +kernel) rfl
theorem wc_J2_indexOfChar_4cfef : Cond.code yJ2_indexOfChar_4cfef cJ2_indexOfChar_4cfef 4 (some .int) ∈ lw_gd := gd_t (i := 334) (by decide +kernel) rfl
theorem wl_J2_96 : Cond.methodLink RJ2 96 yJ2_checkBoundsBeginEnd_d044e ∈ lw_gd := gd_t (i := 335) (by decide +kernel) rfl
theorem wt_J2_checkBoundsBeginEnd_d044e : Cond.static yJ2_checkBoundsBeginEnd_d044e ∈ lw_gd := gd_t (i := 336) (by decide +kernel) rfl
theorem wc_J2_checkBoundsBeginEnd_d044e : Cond.code yJ2_checkBoundsBeginEnd_d044e cJ2_checkBoundsBeginEnd_d044e 3 none ∈ lw_gd := gd_t (i := 337) (by decide +kernel) rfl
theorem wl_J2_48 : Cond.methodLink RJ2 48 yJ2_length_9d52b ∈ lw_gd := gd_t (i := 338) (by decide +kernel) rfl
theorem wt_J2_length_9d52b : Cond.static yJ2_length_9d52b ∈ lw_gd := gd_t (i := 339) (by decide +kernel) rfl
theorem wc_J2_length_9d52b : Cond.code yJ2_length_9d52b cJ2_length_9d52b 1 (some .int) ∈ lw_gd := gd_t (i := 340) (by decide +kernel) rfl
theorem wl_J2_241 : Cond.methodLink RJ2 241 yJ0_checkBoundsBeginEnd_23922 ∈ lw_gd := gd_t (i := 341) (by decide +kernel) rfl
theorem wt_J0_checkBoundsBeginEnd_23922 : Cond.static yJ0_checkBoundsBeginEnd_23922 ∈ lw_gd := gd_t (i := 342) (by decide +kernel) rfl
theorem wc_J0_checkBoundsBeginEnd_23922 : Cond.code yJ0_checkBoundsBeginEnd_23922 cJ0_checkBoundsBeginEnd_23922 3 none ∈ lw_gd := gd_t (i := 343) (by decide +kernel) rfl
theorem wf_J0_1053 : Cond.fieldLink RJ0 1053 "jdk/internal/util/Preconditions" "SIOOBE_FORMATTER" "Ljava/util/function/BiFunction;" ∈ lw_gd := gd_t (i := 344) (by decide +kernel) rfl
theorem wls_345 : Cond.laysStatic RJ3 "SIOOBE_FORMATTER" "Ljava/util/function/BiFunction;" ∈ lw_gd := gd_t (i := 345) (by decide +kernel) rfl
theorem wl_J0_1062 : Cond.methodLink RJ0 1062 yJ3_checkFromToIndex_8c36e ∈ lw_gd := gd_t (i := 346) (by decide +kernel) rfl
theorem wt_J3_checkFromToIndex_8c36e : Cond.static yJ3_checkFromToIndex_8c36e ∈ lw_gd := gd_t (i := 347) (by decide +kernel) rfl
theorem wc_J3_checkFromToIndex_8c36e : Cond.code yJ3_checkFromToIndex_8c36e cJ3_checkFromToIndex_8c36e 4 (some .int) ∈ lw_gd := gd_t (i := 348) (by decide +kernel) rfl
theorem wl_J2_244 : Cond.methodLink RJ2 244 yJ2_indexOfCharUnsafe_4cfef ∈ lw_gd := gd_t (i := 349) (by decide +kernel) rfl
theorem wt_J2_indexOfCharUnsafe_4cfef : Cond.static yJ2_indexOfCharUnsafe_4cfef ∈ lw_gd := gd_t (i := 350) (by decide +kernel) rfl
theorem wc_J2_indexOfCharUnsafe_4cfef : Cond.code yJ2_indexOfCharUnsafe_4cfef cJ2_indexOfCharUnsafe_4cfef 5 (some .int) ∈ lw_gd := gd_t (i := 351) (by decide +kernel) rfl
theorem wl_J2_71 : Cond.methodLink RJ2 71 yJ2_getChar_3b067 ∈ lw_gd := gd_t (i := 352) (by decide +kernel) rfl
theorem wt_J2_getChar_3b067 : Cond.static yJ2_getChar_3b067 ∈ lw_gd := gd_t (i := 353) (by decide +kernel) rfl
theorem wc_J2_getChar_3b067 : Cond.code yJ2_getChar_3b067 cJ2_getChar_3b067 2 (some .char) ∈ lw_gd := gd_t (i := 354) (by decide +kernel) rfl
theorem wf_J2_44 : Cond.fieldLink RJ2 44 "java/lang/StringUTF16" "$assertionsDisabled" "Z" ∈ lw_gd := gd_t (i := 355) (by decide +kernel) rfl
theorem wls_356 : Cond.laysStatic RJ2 "$assertionsDisabled" "Z" ∈ lw_gd := gd_t (i := 356) (by decide +kernel) rfl
theorem wf_J2_59 : Cond.fieldLink RJ2 59 "java/lang/StringUTF16" "HI_BYTE_SHIFT" "I" ∈ lw_gd := gd_t (i := 357) (by decide +kernel) rfl
theorem wls_358 : Cond.laysStatic RJ2 "HI_BYTE_SHIFT" "I" ∈ lw_gd := gd_t (i := 358) (by decide +kernel) rfl
theorem wf_J2_63 : Cond.fieldLink RJ2 63 "java/lang/StringUTF16" "LO_BYTE_SHIFT" "I" ∈ lw_gd := gd_t (i := 359) (by decide +kernel) rfl
theorem wls_360 : Cond.laysStatic RJ2 "LO_BYTE_SHIFT" "I" ∈ lw_gd := gd_t (i := 360) (by decide +kernel) rfl
theorem wl_J2_232 : Cond.methodLink RJ2 232 yJ2_indexOfSupplementary_4cfef ∈ lw_gd := gd_t (i := 361) (by decide +kernel) rfl
theorem wt_J2_indexOfSupplementary_4cfef : Cond.static yJ2_indexOfSupplementary_4cfef ∈ lw_gd := gd_t (i := 362) (by decide +kernel) rfl
theorem wc_J2_indexOfSupplementary_4cfef : Cond.code yJ2_indexOfSupplementary_4cfef cJ2_indexOfSupplementary_4cfef 7 (some .int) ∈ lw_gd := gd_t (i := 363) (by decide +kernel) rfl
theorem wl_J2_164 : Cond.methodLink RJ2 164 yJ11_isValidCodePoint_9a6ad ∈ lw_gd := gd_t (i := 364) (by decide +kernel) rfl
theorem wt_J11_isValidCodePoint_9a6ad : Cond.static yJ11_isValidCodePoint_9a6ad ∈ lw_gd := gd_t (i := 365) (by decide +kernel) rfl
theorem wc_J11_isValidCodePoint_9a6ad : Cond.code yJ11_isValidCodePoint_9a6ad cJ11_isValidCodePoint_9a6ad 2 (some .boolean) ∈ lw_gd := gd_t (i := 366) (by decide +kernel) rfl
theorem wl_J2_157 : Cond.methodLink RJ2 157 yJ11_highSurrogate_5068e ∈ lw_gd := gd_t (i := 367) (by decide +kernel) rfl
theorem wt_J11_highSurrogate_5068e : Cond.static yJ11_highSurrogate_5068e ∈ lw_gd := gd_t (i := 368) (by decide +kernel) rfl
theorem wc_J11_highSurrogate_5068e : Cond.code yJ11_highSurrogate_5068e cJ11_highSurrogate_5068e 1 (some .char) ∈ lw_gd := gd_t (i := 369) (by decide +kernel) rfl
theorem wk_J11_110 : Cond.constant RJ11 110 55232 ∈ lw_gd := gd_t (i := 370) (by decide +kernel) rfl
theorem wl_J2_161 : Cond.methodLink RJ2 161 yJ11_lowSurrogate_5068e ∈ lw_gd := gd_t (i := 371) (by decide +kernel) rfl
theorem wt_J11_lowSurrogate_5068e : Cond.static yJ11_lowSurrogate_5068e ∈ lw_gd := gd_t (i := 372) (by decide +kernel) rfl
theorem wc_J11_lowSurrogate_5068e : Cond.code yJ11_lowSurrogate_5068e cJ11_lowSurrogate_5068e 1 (some .char) ∈ lw_gd := gd_t (i := 373) (by decide +kernel) rfl
theorem wk_J11_76 : Cond.constant RJ11 76 56320 ∈ lw_gd := gd_t (i := 374) (by decide +kernel) rfl
theorem wf_X5_51 : Cond.fieldLink RX5 51 "BesomYard$Told" "ITEMS_MOST" "[I" ∈ lw_gd := gd_t (i := 375) (by decide +kernel) rfl
theorem wls_376 : Cond.laysStatic RX5 "ITEMS_MOST" "[I" ∈ lw_gd := gd_t (i := 376) (by decide +kernel) rfl
theorem wf_X5_54 : Cond.fieldLink RX5 54 "BesomYard$Told" "NUMBERS" "[I" ∈ lw_gd := gd_t (i := 377) (by decide +kernel) rfl
theorem wls_378 : Cond.laysStatic RX5 "NUMBERS" "[I" ∈ lw_gd := gd_t (i := 378) (by decide +kernel) rfl
theorem wf_X5_57 : Cond.fieldLink RX5 57 "BesomYard$Told" "FIRST_ROW" "[I" ∈ lw_gd := gd_t (i := 379) (by decide +kernel) rfl
theorem wls_380 : Cond.laysStatic RX5 "FIRST_ROW" "[I" ∈ lw_gd := gd_t (i := 380) (by decide +kernel) rfl
theorem wl_X5_60 : Cond.methodLink RX5 60 yX4_tokenNumber ∈ lw_gd := gd_t (i := 381) (by decide +kernel) rfl
theorem wi_X4_tokenNumber : Cond.instanceMethod yX4_tokenNumber ∈ lw_gd := gd_t (i := 382) (by decide +kernel) rfl
theorem wv_X4_tokenNumber : Cond.selects yX4_tokenNumber.cls yX4_tokenNumber yX4_tokenNumber ∈ lw_gd := gd_t (i := 383) (by decide +kernel) rfl
theorem wc_X4_tokenNumber : Cond.code yX4_tokenNumber cX4_tokenNumber 1 (some .int) ∈ lw_gd := gd_t (i := 384) (by decide +kernel) rfl
theorem wl_X5_63 : Cond.methodLink RX5 63 yX5_take ∈ lw_gd := gd_t (i := 385) (by decide +kernel) rfl
theorem wi_X5_take : Cond.instanceMethod yX5_take ∈ lw_gd := gd_t (i := 387) (by decide +kernel) rfl
theorem wc_X5_take : Cond.code yX5_take cX5_take 4 (some .boolean) ∈ lw_gd := gd_t (i := 388) (by decide +kernel) rfl
theorem wf_X5_67 : Cond.fieldLink RX5 67 "BesomYard$Told" "LEAST" "[I" ∈ lw_gd := gd_t (i := 389) (by decide +kernel) rfl
theorem wls_390 : Cond.laysStatic RX5 "LEAST" "[I" ∈ lw_gd := gd_t (i := 390) (by decide +kernel) rfl
theorem wf_X5_70 : Cond.fieldLink RX5 70 "BesomYard$Told" "MOST" "[I" ∈ lw_gd := gd_t (i := 391) (by decide +kernel) rfl
theorem wls_392 : Cond.laysStatic RX5 "MOST" "[I" ∈ lw_gd := gd_t (i := 392) (by decide +kernel) rfl
theorem wl_X5_40 : Cond.methodLink RX5 40 yX4_tokenStart ∈ lw_gd := gd_t (i := 393) (by decide +kernel) rfl
theorem wi_X4_tokenStart : Cond.instanceMethod yX4_tokenStart ∈ lw_gd := gd_t (i := 394) (by decide +kernel) rfl
theorem wv_X4_tokenStart : Cond.selects yX4_tokenStart.cls yX4_tokenStart yX4_tokenStart ∈ lw_gd := gd_t (i := 395) (by decide +kernel) rfl
theorem wc_X4_tokenStart : Cond.code yX4_tokenStart cX4_tokenStart 1 (some .int) ∈ lw_gd := gd_t (i := 396) (by decide +kernel) rfl
theorem war_byte : Cond.arrayClass Jvm.ClassFile.FieldType.byte ∈ lw_gd := gd_t (i := 397) (by decide +kernel) rfl
theorem wl_L_27 : Cond.methodLink RL 27 yX6_part ∈ lw_gd := gd_t (i := 398) (by decide +kernel) rfl
theorem wi_X6_part : Cond.instanceMethod yX6_part ∈ lw_gd := gd_t (i := 399) (by decide +kernel) rfl
theorem wv_X6_part : Cond.selects yX6_part.cls yX6_part yX6_part ∈ lw_gd := gd_t (i := 400) (by decide +kernel) rfl
theorem wc_X6_part : Cond.code yX6_part cX6_part 3 (some .int) ∈ lw_gd := gd_t (i := 401) (by decide +kernel) rfl
theorem wl_X6_91 : Cond.methodLink RX6 91 yX6_isPart ∈ lw_gd := gd_t (i := 402) (by decide +kernel) rfl
theorem wi_X6_isPart : Cond.instanceMethod yX6_isPart ∈ lw_gd := gd_t (i := 404) (by decide +kernel) rfl
theorem wc_X6_isPart : Cond.code yX6_isPart cX6_isPart 2 (some .boolean) ∈ lw_gd := gd_t (i := 405) (by decide +kernel) rfl
theorem wl_X6_219 : Cond.methodLink RX6 219 yX5_parts ∈ lw_gd := gd_t (i := 406) (by decide +kernel) rfl
theorem wi_X5_parts : Cond.instanceMethod yX5_parts ∈ lw_gd := gd_t (i := 407) (by decide +kernel) rfl
theorem wv_X5_parts : Cond.selects yX5_parts.cls yX5_parts yX5_parts ∈ lw_gd := gd_t (i := 408) (by decide +kernel) rfl
theorem wc_X5_parts : Cond.code yX5_parts cX5_parts 1 (some .int) ∈ lw_gd := gd_t (i := 409) (by decide +kernel) rfl
theorem wl_X6_95 : Cond.methodLink RX6 95 yX5_value ∈ lw_gd := gd_t (i := 410) (by decide +kernel) rfl
theorem wl_X6_99 : Cond.methodLink RX6 99 yX1_age ∈ lw_gd := gd_t (i := 411) (by decide +kernel) rfl
theorem wi_X1_age : Cond.instanceMethod yX1_age ∈ lw_gd := gd_t (i := 412) (by decide +kernel) rfl
theorem wv_X1_age : Cond.selects yX1_age.cls yX1_age yX1_age ∈ lw_gd := gd_t (i := 413) (by decide +kernel) rfl
theorem wc_X1_age : Cond.code yX1_age cX1_age 2 (some .int) ∈ lw_gd := gd_t (i := 414) (by decide +kernel) rfl
theorem wl_X6_103 : Cond.methodLink RX6 103 yX6_giftOf ∈ lw_gd := gd_t (i := 415) (by decide +kernel) rfl
theorem wi_X6_giftOf : Cond.instanceMethod yX6_giftOf ∈ lw_gd := gd_t (i := 417) (by decide +kernel) rfl
theorem wc_X6_giftOf : Cond.code yX6_giftOf cX6_giftOf 2 (some .int) ∈ lw_gd := gd_t (i := 418) (by decide +kernel) rfl
theorem wl_X6_180 : Cond.methodLink RX6 180 yX5_ripe ∈ lw_gd := gd_t (i := 419) (by decide +kernel) rfl
theorem wi_X5_ripe : Cond.instanceMethod yX5_ripe ∈ lw_gd := gd_t (i := 420) (by decide +kernel) rfl
theorem wv_X5_ripe : Cond.selects yX5_ripe.cls yX5_ripe yX5_ripe ∈ lw_gd := gd_t (i := 421) (by decide +kernel) rfl
theorem wc_X5_ripe : Cond.code yX5_ripe cX5_ripe 1 (some .int) ∈ lw_gd := gd_t (i := 422) (by decide +kernel) rfl
theorem wl_X6_183 : Cond.methodLink RX6 183 yX6_gift ∈ lw_gd := gd_t (i := 423) (by decide +kernel) rfl
theorem wt_X6_gift : Cond.static yX6_gift ∈ lw_gd := gd_t (i := 424) (by decide +kernel) rfl
theorem wc_X6_gift : Cond.code yX6_gift cX6_gift 4 (some .int) ∈ lw_gd := gd_t (i := 425) (by decide +kernel) rfl
theorem wl_L_32 : Cond.methodLink RL 32 yX6_order ∈ lw_gd := gd_t (i := 426) (by decide +kernel) rfl
theorem wi_X6_order : Cond.instanceMethod yX6_order ∈ lw_gd := gd_t (i := 427) (by decide +kernel) rfl
theorem wv_X6_order : Cond.selects yX6_order.cls yX6_order yX6_order ∈ lw_gd := gd_t (i := 428) (by decide +kernel) rfl
theorem wc_X6_order : Cond.code yX6_order cX6_order 3 (some .int) ∈ lw_gd := gd_t (i := 429) (by decide +kernel) rfl
theorem wl_X6_106 : Cond.methodLink RX6 106 yX6_isOrder ∈ lw_gd := gd_t (i := 430) (by decide +kernel) rfl
theorem wi_X6_isOrder : Cond.instanceMethod yX6_isOrder ∈ lw_gd := gd_t (i := 432) (by decide +kernel) rfl
theorem wc_X6_isOrder : Cond.code yX6_isOrder cX6_isOrder 2 (some .boolean) ∈ lw_gd := gd_t (i := 433) (by decide +kernel) rfl
theorem wl_X6_203 : Cond.methodLink RX6 203 yX5_orders ∈ lw_gd := gd_t (i := 434) (by decide +kernel) rfl
theorem wi_X5_orders : Cond.instanceMethod yX5_orders ∈ lw_gd := gd_t (i := 435) (by decide +kernel) rfl
theorem wv_X5_orders : Cond.selects yX5_orders.cls yX5_orders yX5_orders ∈ lw_gd := gd_t (i := 436) (by decide +kernel) rfl
theorem wc_X5_orders : Cond.code yX5_orders cX5_orders 1 (some .int) ∈ lw_gd := gd_t (i := 437) (by decide +kernel) rfl
theorem wl_X6_109 : Cond.methodLink RX6 109 yX1_wasSent ∈ lw_gd := gd_t (i := 438) (by decide +kernel) rfl
theorem wi_X1_wasSent : Cond.instanceMethod yX1_wasSent ∈ lw_gd := gd_t (i := 439) (by decide +kernel) rfl
theorem wv_X1_wasSent : Cond.selects yX1_wasSent.cls yX1_wasSent yX1_wasSent ∈ lw_gd := gd_t (i := 440) (by decide +kernel) rfl
theorem wc_X1_wasSent : Cond.code yX1_wasSent cX1_wasSent 2 (some .boolean) ∈ lw_gd := gd_t (i := 441) (by decide +kernel) rfl
theorem wl_L_36 : Cond.methodLink RL 36 yX6_side ∈ lw_gd := gd_t (i := 442) (by decide +kernel) rfl
theorem wi_X6_side : Cond.instanceMethod yX6_side ∈ lw_gd := gd_t (i := 443) (by decide +kernel) rfl
theorem wv_X6_side : Cond.selects yX6_side.cls yX6_side yX6_side ∈ lw_gd := gd_t (i := 444) (by decide +kernel) rfl
theorem wc_X6_side : Cond.code yX6_side cX6_side 2 (some .int) ∈ lw_gd := gd_t (i := 445) (by decide +kernel) rfl
theorem wl_X6_112 : Cond.methodLink RX6 112 yX6_isSide ∈ lw_gd := gd_t (i := 446) (by decide +kernel) rfl
theorem wt_X6_isSide : Cond.static yX6_isSide ∈ lw_gd := gd_t (i := 447) (by decide +kernel) rfl
theorem wc_X6_isSide : Cond.code yX6_isSide cX6_isSide 1 (some .boolean) ∈ lw_gd := gd_t (i := 448) (by decide +kernel) rfl
theorem wl_X6_118 : Cond.methodLink RX6 118 yX0_lengthOf ∈ lw_gd := gd_t (i := 449) (by decide +kernel) rfl
theorem wi_X0_lengthOf : Cond.instanceMethod yX0_lengthOf ∈ lw_gd := gd_t (i := 450) (by decide +kernel) rfl
theorem wv_X0_lengthOf : Cond.selects yX0_lengthOf.cls yX0_lengthOf yX0_lengthOf ∈ lw_gd := gd_t (i := 451) (by decide +kernel) rfl
theorem wc_X0_lengthOf : Cond.code yX0_lengthOf cX0_lengthOf 2 (some .int) ∈ lw_gd := gd_t (i := 452) (by decide +kernel) rfl
theorem wl_L_40 : Cond.methodLink RL 40 yX6_now ∈ lw_gd := gd_t (i := 453) (by decide +kernel) rfl
theorem wi_X6_now : Cond.instanceMethod yX6_now ∈ lw_gd := gd_t (i := 454) (by decide +kernel) rfl
theorem wv_X6_now : Cond.selects yX6_now.cls yX6_now yX6_now ∈ lw_gd := gd_t (i := 455) (by decide +kernel) rfl
theorem wc_X6_now : Cond.code yX6_now cX6_now 2 (some .int) ∈ lw_gd := gd_t (i := 456) (by decide +kernel) rfl
theorem wl_L_44 : Cond.methodLink RL 44 yX6_cuts ∈ lw_gd := gd_t (i := 457) (by decide +kernel) rfl
theorem wi_X6_cuts : Cond.instanceMethod yX6_cuts ∈ lw_gd := gd_t (i := 458) (by decide +kernel) rfl
theorem wv_X6_cuts : Cond.selects yX6_cuts.cls yX6_cuts yX6_cuts ∈ lw_gd := gd_t (i := 459) (by decide +kernel) rfl
theorem wc_X6_cuts : Cond.code yX6_cuts cX6_cuts 3 (some .int) ∈ lw_gd := gd_t (i := 460) (by decide +kernel) rfl
theorem wl_X6_146 : Cond.methodLink RX6 146 yX6_remember ∈ lw_gd := gd_t (i := 461) (by decide +kernel) rfl
theorem wi_X6_remember : Cond.instanceMethod yX6_remember ∈ lw_gd := gd_t (i := 463) (by decide +kernel) rfl
theorem wc_X6_remember : Cond.code yX6_remember cX6_remember 1 none ∈ lw_gd := gd_t (i := 464) (by decide +kernel) rfl
theorem wl_X6_270 : Cond.methodLink RX6 270 yX3_put ∈ lw_gd := gd_t (i := 465) (by decide +kernel) rfl
theorem wi_X3_put : Cond.instanceMethod yX3_put ∈ lw_gd := gd_t (i := 466) (by decide +kernel) rfl
theorem wv_X3_put : Cond.selects yX3_put.cls yX3_put yX3_put ∈ lw_gd := gd_t (i := 467) (by decide +kernel) rfl
theorem wc_X3_put : Cond.code yX3_put cX3_put 4 none ∈ lw_gd := gd_t (i := 468) (by decide +kernel) rfl
theorem wl_X3_22 : Cond.methodLink RX3 22 yX3_placeAt ∈ lw_gd := gd_t (i := 469) (by decide +kernel) rfl
theorem wi_X3_placeAt : Cond.instanceMethod yX3_placeAt ∈ lw_gd := gd_t (i := 471) (by decide +kernel) rfl
theorem wc_X3_placeAt : Cond.code yX3_placeAt cX3_placeAt 2 (some (.object "BesomYard$Moment")) ∈ lw_gd := gd_t (i := 472) (by decide +kernel) rfl
theorem wl_X3_26 : Cond.methodLink RX3 26 yX1_setAs ∈ lw_gd := gd_t (i := 473) (by decide +kernel) rfl
theorem wi_X1_setAs : Cond.instanceMethod yX1_setAs ∈ lw_gd := gd_t (i := 474) (by decide +kernel) rfl
theorem wv_X1_setAs : Cond.selects yX1_setAs.cls yX1_setAs yX1_setAs ∈ lw_gd := gd_t (i := 475) (by decide +kernel) rfl
theorem wc_X1_setAs : Cond.code yX1_setAs cX1_setAs 3 none ∈ lw_gd := gd_t (i := 476) (by decide +kernel) rfl
theorem wl_X1_58 : Cond.methodLink RX1 58 yX1_age ∈ lw_gd := gd_t (i := 477) (by decide +kernel) rfl
theorem wl_X1_62 : Cond.methodLink RX1 62 yX0_setAs ∈ lw_gd := gd_t (i := 478) (by decide +kernel) rfl
theorem wi_X0_setAs : Cond.instanceMethod yX0_setAs ∈ lw_gd := gd_t (i := 479) (by decide +kernel) rfl
theorem wv_X0_setAs : Cond.selects yX0_setAs.cls yX0_setAs yX0_setAs ∈ lw_gd := gd_t (i := 480) (by decide +kernel) rfl
theorem wc_X0_setAs : Cond.code yX0_setAs cX0_setAs 3 none ∈ lw_gd := gd_t (i := 481) (by decide +kernel) rfl
theorem wl_X0_17 : Cond.methodLink RX0 17 yX0_lengthOf ∈ lw_gd := gd_t (i := 482) (by decide +kernel) rfl
theorem wl_X6_287 : Cond.methodLink RX6 287 yJ9_min_7cf53 ∈ lw_gd := gd_t (i := 483) (by decide +kernel) rfl
theorem wl_X6_149 : Cond.methodLink RX6 149 yX1_beCut ∈ lw_gd := gd_t (i := 484) (by decide +kernel) rfl
theorem wi_X1_beCut : Cond.instanceMethod yX1_beCut ∈ lw_gd := gd_t (i := 485) (by decide +kernel) rfl
theorem wv_X1_beCut : Cond.selects yX1_beCut.cls yX1_beCut yX1_beCut ∈ lw_gd := gd_t (i := 486) (by decide +kernel) rfl
theorem wc_X1_beCut : Cond.code yX1_beCut cX1_beCut 2 none ∈ lw_gd := gd_t (i := 487) (by decide +kernel) rfl
theorem wl_L_48 : Cond.methodLink RL 48 yX6_year ∈ lw_gd := gd_t (i := 488) (by decide +kernel) rfl
theorem wi_X6_year : Cond.instanceMethod yX6_year ∈ lw_gd := gd_t (i := 489) (by decide +kernel) rfl
theorem wv_X6_year : Cond.selects yX6_year.cls yX6_year yX6_year ∈ lw_gd := gd_t (i := 490) (by decide +kernel) rfl
theorem wc_X6_year : Cond.code yX6_year cX6_year 1 (some .int) ∈ lw_gd := gd_t (i := 491) (by decide +kernel) rfl
theorem wl_X6_152 : Cond.methodLink RX6 152 yX1_growOlder ∈ lw_gd := gd_t (i := 492) (by decide +kernel) rfl
theorem wi_X1_growOlder : Cond.instanceMethod yX1_growOlder ∈ lw_gd := gd_t (i := 493) (by decide +kernel) rfl
theorem wv_X1_growOlder : Cond.selects yX1_growOlder.cls yX1_growOlder yX1_growOlder ∈ lw_gd := gd_t (i := 494) (by decide +kernel) rfl
theorem wc_X1_growOlder : Cond.code yX1_growOlder cX1_growOlder 2 none ∈ lw_gd := gd_t (i := 495) (by decide +kernel) rfl
theorem wl_X1_26 : Cond.methodLink RX1 26 yJ9_min_7cf53 ∈ lw_gd := gd_t (i := 496) (by decide +kernel) rfl
theorem wl_L_52 : Cond.methodLink RL 52 yX6_binds ∈ lw_gd := gd_t (i := 497) (by decide +kernel) rfl
theorem wi_X6_binds : Cond.instanceMethod yX6_binds ∈ lw_gd := gd_t (i := 498) (by decide +kernel) rfl
theorem wv_X6_binds : Cond.selects yX6_binds.cls yX6_binds yX6_binds ∈ lw_gd := gd_t (i := 499) (by decide +kernel) rfl
theorem wc_X6_binds : Cond.code yX6_binds cX6_binds 4 (some .int) ∈ lw_gd := gd_t (i := 500) (by decide +kernel) rfl
theorem wl_X6_155 : Cond.methodLink RX6 155 yX5_twigs ∈ lw_gd := gd_t (i := 501) (by decide +kernel) rfl
theorem wi_X5_twigs : Cond.instanceMethod yX5_twigs ∈ lw_gd := gd_t (i := 502) (by decide +kernel) rfl
theorem wv_X5_twigs : Cond.selects yX5_twigs.cls yX5_twigs yX5_twigs ∈ lw_gd := gd_t (i := 503) (by decide +kernel) rfl
theorem wc_X5_twigs : Cond.code yX5_twigs cX5_twigs 1 (some .int) ∈ lw_gd := gd_t (i := 504) (by decide +kernel) rfl
theorem wl_X6_158 : Cond.methodLink RX6 158 yX5_pace ∈ lw_gd := gd_t (i := 505) (by decide +kernel) rfl
theorem wi_X5_pace : Cond.instanceMethod yX5_pace ∈ lw_gd := gd_t (i := 506) (by decide +kernel) rfl
theorem wv_X5_pace : Cond.selects yX5_pace.cls yX5_pace yX5_pace ∈ lw_gd := gd_t (i := 507) (by decide +kernel) rfl
theorem wc_X5_pace : Cond.code yX5_pace cX5_pace 1 (some .int) ∈ lw_gd := gd_t (i := 508) (by decide +kernel) rfl
theorem wl_X6_161 : Cond.methodLink RX6 161 yX6_cutUpwards ∈ lw_gd := gd_t (i := 509) (by decide +kernel) rfl
theorem wt_X6_cutUpwards : Cond.static yX6_cutUpwards ∈ lw_gd := gd_t (i := 510) (by decide +kernel) rfl
theorem wc_X6_cutUpwards : Cond.code yX6_cutUpwards cX6_cutUpwards 2 (some .int) ∈ lw_gd := gd_t (i := 511) (by decide +kernel) rfl
theorem wl_L_56 : Cond.methodLink RL 56 yX6_sends ∈ lw_gd := gd_t (i := 512) (by decide +kernel) rfl
theorem wi_X6_sends : Cond.instanceMethod yX6_sends ∈ lw_gd := gd_t (i := 513) (by decide +kernel) rfl
theorem wv_X6_sends : Cond.selects yX6_sends.cls yX6_sends yX6_sends ∈ lw_gd := gd_t (i := 514) (by decide +kernel) rfl
theorem wc_X6_sends : Cond.code yX6_sends cX6_sends 3 (some .int) ∈ lw_gd := gd_t (i := 515) (by decide +kernel) rfl
theorem wl_X6_164 : Cond.methodLink RX6 164 yX6_isLate ∈ lw_gd := gd_t (i := 516) (by decide +kernel) rfl
theorem wi_X6_isLate : Cond.instanceMethod yX6_isLate ∈ lw_gd := gd_t (i := 518) (by decide +kernel) rfl
theorem wc_X6_isLate : Cond.code yX6_isLate cX6_isLate 2 (some .boolean) ∈ lw_gd := gd_t (i := 519) (by decide +kernel) rfl
theorem wl_L_60 : Cond.methodLink RL 60 yX6_sweeps ∈ lw_gd := gd_t (i := 520) (by decide +kernel) rfl
theorem wi_X6_sweeps : Cond.instanceMethod yX6_sweeps ∈ lw_gd := gd_t (i := 521) (by decide +kernel) rfl
theorem wv_X6_sweeps : Cond.selects yX6_sweeps.cls yX6_sweeps yX6_sweeps ∈ lw_gd := gd_t (i := 522) (by decide +kernel) rfl
theorem wc_X6_sweeps : Cond.code yX6_sweeps cX6_sweeps 1 (some .int) ∈ lw_gd := gd_t (i := 523) (by decide +kernel) rfl
theorem wl_X6_167 : Cond.methodLink RX6 167 yX0_sweep ∈ lw_gd := gd_t (i := 524) (by decide +kernel) rfl
theorem wi_X0_sweep : Cond.instanceMethod yX0_sweep ∈ lw_gd := gd_t (i := 525) (by decide +kernel) rfl
theorem wv_X0_sweep : Cond.selects yX0_sweep.cls yX0_sweep yX0_sweep ∈ lw_gd := gd_t (i := 526) (by decide +kernel) rfl
theorem wc_X0_sweep : Cond.code yX0_sweep cX0_sweep 1 none ∈ lw_gd := gd_t (i := 527) (by decide +kernel) rfl
theorem wl_X0_21 : Cond.methodLink RX0 21 yX0_shorten ∈ lw_gd := gd_t (i := 528) (by decide +kernel) rfl
theorem wi_X0_shorten : Cond.instanceMethod yX0_shorten ∈ lw_gd := gd_t (i := 530) (by decide +kernel) rfl
theorem wc_X0_shorten : Cond.code yX0_shorten cX0_shorten 4 none ∈ lw_gd := gd_t (i := 531) (by decide +kernel) rfl
theorem wl_X0_25 : Cond.methodLink RX0 25 yJ9_floorMod_7cf53 ∈ lw_gd := gd_t (i := 532) (by decide +kernel) rfl
theorem wt_J9_floorMod_7cf53 : Cond.static yJ9_floorMod_7cf53 ∈ lw_gd := gd_t (i := 533) (by decide +kernel) rfl
theorem wc_J9_floorMod_7cf53 : Cond.code yJ9_floorMod_7cf53 cJ9_floorMod_7cf53 3 (some .int) ∈ lw_gd := gd_t (i := 534) (by decide +kernel) rfl
theorem wl_X0_31 : Cond.methodLink RX0 31 yJ9_max_7cf53 ∈ lw_gd := gd_t (i := 535) (by decide +kernel) rfl
theorem wl_L_64 : Cond.methodLink RL 64 yX6_spins ∈ lw_gd := gd_t (i := 536) (by decide +kernel) rfl
theorem wi_X6_spins : Cond.instanceMethod yX6_spins ∈ lw_gd := gd_t (i := 537) (by decide +kernel) rfl
theorem wv_X6_spins : Cond.selects yX6_spins.cls yX6_spins yX6_spins ∈ lw_gd := gd_t (i := 538) (by decide +kernel) rfl
theorem wc_X6_spins : Cond.code yX6_spins cX6_spins 2 (some .int) ∈ lw_gd := gd_t (i := 539) (by decide +kernel) rfl
theorem wl_X6_170 : Cond.methodLink RX6 170 yX0_turnBy ∈ lw_gd := gd_t (i := 540) (by decide +kernel) rfl
theorem wi_X0_turnBy : Cond.instanceMethod yX0_turnBy ∈ lw_gd := gd_t (i := 541) (by decide +kernel) rfl
theorem wv_X0_turnBy : Cond.selects yX0_turnBy.cls yX0_turnBy yX0_turnBy ∈ lw_gd := gd_t (i := 542) (by decide +kernel) rfl
theorem wc_X0_turnBy : Cond.code yX0_turnBy cX0_turnBy 2 none ∈ lw_gd := gd_t (i := 543) (by decide +kernel) rfl
theorem wl_L_68 : Cond.methodLink RL 68 yX6_undo ∈ lw_gd := gd_t (i := 544) (by decide +kernel) rfl
theorem wi_X6_undo : Cond.instanceMethod yX6_undo ∈ lw_gd := gd_t (i := 545) (by decide +kernel) rfl
theorem wv_X6_undo : Cond.selects yX6_undo.cls yX6_undo yX6_undo ∈ lw_gd := gd_t (i := 546) (by decide +kernel) rfl
theorem wc_X6_undo : Cond.code yX6_undo cX6_undo 1 (some .int) ∈ lw_gd := gd_t (i := 547) (by decide +kernel) rfl
theorem wl_X6_176 : Cond.methodLink RX6 176 yX3_take ∈ lw_gd := gd_t (i := 548) (by decide +kernel) rfl
theorem wi_X3_take : Cond.instanceMethod yX3_take ∈ lw_gd := gd_t (i := 549) (by decide +kernel) rfl
theorem wv_X3_take : Cond.selects yX3_take.cls yX3_take yX3_take ∈ lw_gd := gd_t (i := 550) (by decide +kernel) rfl
theorem wc_X3_take : Cond.code yX3_take cX3_take 4 none ∈ lw_gd := gd_t (i := 551) (by decide +kernel) rfl
theorem wl_L_72 : Cond.methodLink RL 72 yX6_inYears ∈ lw_gd := gd_t (i := 552) (by decide +kernel) rfl
theorem wi_X6_inYears : Cond.instanceMethod yX6_inYears ∈ lw_gd := gd_t (i := 553) (by decide +kernel) rfl
theorem wv_X6_inYears : Cond.selects yX6_inYears.cls yX6_inYears yX6_inYears ∈ lw_gd := gd_t (i := 554) (by decide +kernel) rfl
theorem wc_X6_inYears : Cond.code yX6_inYears cX6_inYears 3 (some .int) ∈ lw_gd := gd_t (i := 555) (by decide +kernel) rfl
theorem wl_L_76 : Cond.methodLink RL 76 yX6_turn ∈ lw_gd := gd_t (i := 556) (by decide +kernel) rfl
theorem wi_X6_turn : Cond.instanceMethod yX6_turn ∈ lw_gd := gd_t (i := 557) (by decide +kernel) rfl
theorem wv_X6_turn : Cond.selects yX6_turn.cls yX6_turn yX6_turn ∈ lw_gd := gd_t (i := 558) (by decide +kernel) rfl
theorem wc_X6_turn : Cond.code yX6_turn cX6_turn 4 (some .int) ∈ lw_gd := gd_t (i := 559) (by decide +kernel) rfl
theorem wl_X6_187 : Cond.methodLink RX6 187 yX6_bestTurn ∈ lw_gd := gd_t (i := 560) (by decide +kernel) rfl
theorem wi_X6_bestTurn : Cond.instanceMethod yX6_bestTurn ∈ lw_gd := gd_t (i := 562) (by decide +kernel) rfl
theorem wc_X6_bestTurn : Cond.code yX6_bestTurn cX6_bestTurn 5 (some .int) ∈ lw_gd := gd_t (i := 563) (by decide +kernel) rfl
theorem wl_X6_190 : Cond.methodLink RX6 190 yX6_inLeastTerms ∈ lw_gd := gd_t (i := 564) (by decide +kernel) rfl
theorem wt_X6_inLeastTerms : Cond.static yX6_inLeastTerms ∈ lw_gd := gd_t (i := 565) (by decide +kernel) rfl
theorem wc_X6_inLeastTerms : Cond.code yX6_inLeastTerms cX6_inLeastTerms 5 (some .int) ∈ lw_gd := gd_t (i := 566) (by decide +kernel) rfl
theorem wl_X6_322 : Cond.methodLink RX6 322 yX6_commonDivisor ∈ lw_gd := gd_t (i := 567) (by decide +kernel) rfl
theorem wt_X6_commonDivisor : Cond.static yX6_commonDivisor ∈ lw_gd := gd_t (i := 568) (by decide +kernel) rfl
theorem wc_X6_commonDivisor : Cond.code yX6_commonDivisor cX6_commonDivisor 6 (some .int) ∈ lw_gd := gd_t (i := 569) (by decide +kernel) rfl
theorem wl_L_80 : Cond.methodLink RL 80 yX6_plan ∈ lw_gd := gd_t (i := 570) (by decide +kernel) rfl
theorem wi_X6_plan : Cond.instanceMethod yX6_plan ∈ lw_gd := gd_t (i := 571) (by decide +kernel) rfl
theorem wv_X6_plan : Cond.selects yX6_plan.cls yX6_plan yX6_plan ∈ lw_gd := gd_t (i := 572) (by decide +kernel) rfl
theorem wc_X6_plan : Cond.code yX6_plan cX6_plan 3 (some .int) ∈ lw_gd := gd_t (i := 573) (by decide +kernel) rfl
theorem wl_X6_193 : Cond.methodLink RX6 193 yX2_find ∈ lw_gd := gd_t (i := 574) (by decide +kernel) rfl
theorem wi_X2_find : Cond.instanceMethod yX2_find ∈ lw_gd := gd_t (i := 575) (by decide +kernel) rfl
theorem wv_X2_find : Cond.selects yX2_find.cls yX2_find yX2_find ∈ lw_gd := gd_t (i := 576) (by decide +kernel) rfl
theorem wc_X2_find : Cond.code yX2_find cX2_find 8 none ∈ lw_gd := gd_t (i := 577) (by decide +kernel) rfl
theorem wl_X2_25 : Cond.methodLink RX2 25 yJ9_min_7cf53 ∈ lw_gd := gd_t (i := 578) (by decide +kernel) rfl
theorem wl_X2_31 : Cond.methodLink RX2 31 yJ9_max_7cf53 ∈ lw_gd := gd_t (i := 579) (by decide +kernel) rfl
theorem wl_X2_34 : Cond.methodLink RX2 34 yX2_gotIn ∈ lw_gd := gd_t (i := 580) (by decide +kernel) rfl
theorem wi_X2_gotIn : Cond.instanceMethod yX2_gotIn ∈ lw_gd := gd_t (i := 582) (by decide +kernel) rfl
theorem wc_X2_gotIn : Cond.code yX2_gotIn cX2_gotIn 7 (some .int) ∈ lw_gd := gd_t (i := 583) (by decide +kernel) rfl
theorem wl_X2_51 : Cond.methodLink RX2 51 yX1_age ∈ lw_gd := gd_t (i := 584) (by decide +kernel) rfl
theorem wl_X2_57 : Cond.methodLink RX2 57 yX5_value ∈ lw_gd := gd_t (i := 585) (by decide +kernel) rfl
theorem wl_X2_60 : Cond.methodLink RX2 60 yX5_ripe ∈ lw_gd := gd_t (i := 586) (by decide +kernel) rfl
theorem wmn_X2_63 : Cond.methodLinkNest RX2 63 yX6_gift "BesomYard" ∈ lw_tbl := gd_u (i := 587) (by decide +kernel)
theorem wl_X2_38 : Cond.methodLink RX2 38 yX2_compare ∈ lw_gd := gd_t (i := 588) (by decide +kernel) rfl
theorem wi_X2_compare : Cond.instanceMethod yX2_compare ∈ lw_gd := gd_t (i := 590) (by decide +kernel) rfl
theorem wc_X2_compare : Cond.code yX2_compare cX2_compare 3 none ∈ lw_gd := gd_t (i := 591) (by decide +kernel) rfl
theorem wl_X2_42 : Cond.methodLink RX2 42 yX5_parts ∈ lw_gd := gd_t (i := 592) (by decide +kernel) rfl
theorem wl_X2_48 : Cond.methodLink RX2 48 yX2_goToNextRow ∈ lw_gd := gd_t (i := 593) (by decide +kernel) rfl
theorem wi_X2_goToNextRow : Cond.instanceMethod yX2_goToNextRow ∈ lw_gd := gd_t (i := 595) (by decide +kernel) rfl
theorem wc_X2_goToNextRow : Cond.code yX2_goToNextRow cX2_goToNextRow 4 (some .int) ∈ lw_gd := gd_t (i := 596) (by decide +kernel) rfl
theorem wl_X6_197 : Cond.methodLink RX6 197 yX2_mostTwigs ∈ lw_gd := gd_t (i := 597) (by decide +kernel) rfl
theorem wi_X2_mostTwigs : Cond.instanceMethod yX2_mostTwigs ∈ lw_gd := gd_t (i := 598) (by decide +kernel) rfl
theorem wv_X2_mostTwigs : Cond.selects yX2_mostTwigs.cls yX2_mostTwigs yX2_mostTwigs ∈ lw_gd := gd_t (i := 599) (by decide +kernel) rfl
theorem wc_X2_mostTwigs : Cond.code yX2_mostTwigs cX2_mostTwigs 1 (some .int) ∈ lw_gd := gd_t (i := 600) (by decide +kernel) rfl
theorem wl_X6_200 : Cond.methodLink RX6 200 yX2_chosenIn ∈ lw_gd := gd_t (i := 601) (by decide +kernel) rfl
theorem wi_X2_chosenIn : Cond.instanceMethod yX2_chosenIn ∈ lw_gd := gd_t (i := 602) (by decide +kernel) rfl
theorem wv_X2_chosenIn : Cond.selects yX2_chosenIn.cls yX2_chosenIn yX2_chosenIn ∈ lw_gd := gd_t (i := 603) (by decide +kernel) rfl
theorem wc_X2_chosenIn : Cond.code yX2_chosenIn cX2_chosenIn 2 (some .int) ∈ lw_gd := gd_t (i := 604) (by decide +kernel) rfl
theorem wl_L_84 : Cond.methodLink RL 84 yX6_kept ∈ lw_gd := gd_t (i := 605) (by decide +kernel) rfl
theorem wi_X6_kept : Cond.instanceMethod yX6_kept ∈ lw_gd := gd_t (i := 606) (by decide +kernel) rfl
theorem wv_X6_kept : Cond.selects yX6_kept.cls yX6_kept yX6_kept ∈ lw_gd := gd_t (i := 607) (by decide +kernel) rfl
theorem wc_X6_kept : Cond.code yX6_kept cX6_kept 7 (some .int) ∈ lw_gd := gd_t (i := 608) (by decide +kernel) rfl
theorem wl_X6_206 : Cond.methodLink RX6 206 yX6_coinsOf ∈ lw_gd := gd_t (i := 609) (by decide +kernel) rfl
theorem wi_X6_coinsOf : Cond.instanceMethod yX6_coinsOf ∈ lw_gd := gd_t (i := 611) (by decide +kernel) rfl
theorem wc_X6_coinsOf : Cond.code yX6_coinsOf cX6_coinsOf 4 (some .int) ∈ lw_gd := gd_t (i := 612) (by decide +kernel) rfl
theorem wl_X6_209 : Cond.methodLink RX6 209 yX6_canBeKept ∈ lw_gd := gd_t (i := 613) (by decide +kernel) rfl
theorem wi_X6_canBeKept : Cond.instanceMethod yX6_canBeKept ∈ lw_gd := gd_t (i := 615) (by decide +kernel) rfl
theorem wc_X6_canBeKept : Cond.code yX6_canBeKept cX6_canBeKept 6 (some .boolean) ∈ lw_gd := gd_t (i := 616) (by decide +kernel) rfl
theorem wl_X6_292 : Cond.methodLink RX6 292 yX6_cutDownwards ∈ lw_gd := gd_t (i := 617) (by decide +kernel) rfl
theorem wt_X6_cutDownwards : Cond.static yX6_cutDownwards ∈ lw_gd := gd_t (i := 618) (by decide +kernel) rfl
theorem wc_X6_cutDownwards : Cond.code yX6_cutDownwards cX6_cutDownwards 2 (some .int) ∈ lw_gd := gd_t (i := 619) (by decide +kernel) rfl
theorem wl_X6_295 : Cond.methodLink RX6 295 yJ9_max_7cf53 ∈ lw_gd := gd_t (i := 620) (by decide +kernel) rfl
theorem wl_X6_298 : Cond.methodLink RX6 298 yX6_besomsDueBy ∈ lw_gd := gd_t (i := 621) (by decide +kernel) rfl
theorem wi_X6_besomsDueBy : Cond.instanceMethod yX6_besomsDueBy ∈ lw_gd := gd_t (i := 623) (by decide +kernel) rfl
theorem wc_X6_besomsDueBy : Cond.code yX6_besomsDueBy cX6_besomsDueBy 5 (some .int) ∈ lw_gd := gd_t (i := 624) (by decide +kernel) rfl
theorem wl_L_88 : Cond.methodLink RL 88 yX6_next ∈ lw_gd := gd_t (i := 625) (by decide +kernel) rfl
theorem wi_X6_next : Cond.instanceMethod yX6_next ∈ lw_gd := gd_t (i := 626) (by decide +kernel) rfl
theorem wv_X6_next : Cond.selects yX6_next.cls yX6_next yX6_next ∈ lw_gd := gd_t (i := 627) (by decide +kernel) rfl
theorem wc_X6_next : Cond.code yX6_next cX6_next 4 (some .int) ∈ lw_gd := gd_t (i := 628) (by decide +kernel) rfl
theorem wl_X6_212 : Cond.methodLink RX6 212 yX6_goesAhead ∈ lw_gd := gd_t (i := 629) (by decide +kernel) rfl
theorem wi_X6_goesAhead : Cond.instanceMethod yX6_goesAhead ∈ lw_gd := gd_t (i := 631) (by decide +kernel) rfl
theorem wc_X6_goesAhead : Cond.code yX6_goesAhead cX6_goesAhead 4 (some .boolean) ∈ lw_gd := gd_t (i := 632) (by decide +kernel) rfl
theorem wl_L_92 : Cond.methodLink RL 92 yX6_lack ∈ lw_gd := gd_t (i := 633) (by decide +kernel) rfl
theorem wi_X6_lack : Cond.instanceMethod yX6_lack ∈ lw_gd := gd_t (i := 634) (by decide +kernel) rfl
theorem wv_X6_lack : Cond.selects yX6_lack.cls yX6_lack yX6_lack ∈ lw_gd := gd_t (i := 635) (by decide +kernel) rfl
theorem wc_X6_lack : Cond.code yX6_lack cX6_lack 1 (some .int) ∈ lw_gd := gd_t (i := 636) (by decide +kernel) rfl
theorem wl_X6_216 : Cond.methodLink RX6 216 yX6_lackingTwigs ∈ lw_gd := gd_t (i := 637) (by decide +kernel) rfl
theorem wi_X6_lackingTwigs : Cond.instanceMethod yX6_lackingTwigs ∈ lw_gd := gd_t (i := 639) (by decide +kernel) rfl
theorem wc_X6_lackingTwigs : Cond.code yX6_lackingTwigs cX6_lackingTwigs 1 (some .int) ∈ lw_gd := gd_t (i := 640) (by decide +kernel) rfl
theorem wl_X6_230 : Cond.methodLink RX6 230 yX6_besomsToBind ∈ lw_gd := gd_t (i := 641) (by decide +kernel) rfl
theorem wi_X6_besomsToBind : Cond.instanceMethod yX6_besomsToBind ∈ lw_gd := gd_t (i := 643) (by decide +kernel) rfl
theorem wc_X6_besomsToBind : Cond.code yX6_besomsToBind cX6_besomsToBind 3 (some .int) ∈ lw_gd := gd_t (i := 644) (by decide +kernel) rfl
theorem wl_L_96 : Cond.methodLink RL 96 yX6_cutFor ∈ lw_gd := gd_t (i := 645) (by decide +kernel) rfl
theorem wi_X6_cutFor : Cond.instanceMethod yX6_cutFor ∈ lw_gd := gd_t (i := 646) (by decide +kernel) rfl
theorem wv_X6_cutFor : Cond.selects yX6_cutFor.cls yX6_cutFor yX6_cutFor ∈ lw_gd := gd_t (i := 647) (by decide +kernel) rfl
theorem wc_X6_cutFor : Cond.code yX6_cutFor cX6_cutFor 7 (some .int) ∈ lw_gd := gd_t (i := 648) (by decide +kernel) rfl
theorem wl_X6_222 : Cond.methodLink RX6 222 yJ6_bitCount_0f7a4 ∈ lw_gd := gd_t (i := 649) (by decide +kernel) rfl
theorem wt_J6_bitCount_0f7a4 : Cond.static yJ6_bitCount_0f7a4 ∈ lw_gd := gd_t (i := 650) (by decide +kernel) rfl
theorem wc_J6_bitCount_0f7a4 : Cond.code yJ6_bitCount_0f7a4 cJ6_bitCount_0f7a4 1 (some .int) ∈ lw_gd := gd_t (i := 651) (by decide +kernel) rfl
theorem wk_J6_265 : Cond.constant RJ6 265 1431655765 ∈ lw_gd := gd_t (i := 652) (by decide +kernel) rfl
theorem wk_J6_266 : Cond.constant RJ6 266 858993459 ∈ lw_gd := gd_t (i := 653) (by decide +kernel) rfl
theorem wk_J6_267 : Cond.constant RJ6 267 252645135 ∈ lw_gd := gd_t (i := 654) (by decide +kernel) rfl
theorem wl_X6_227 : Cond.methodLink RX6 227 yX6_giftsOf ∈ lw_gd := gd_t (i := 655) (by decide +kernel) rfl
theorem wi_X6_giftsOf : Cond.instanceMethod yX6_giftsOf ∈ lw_gd := gd_t (i := 657) (by decide +kernel) rfl
theorem wc_X6_giftsOf : Cond.code yX6_giftsOf cX6_giftsOf 4 (some .int) ∈ lw_gd := gd_t (i := 658) (by decide +kernel) rfl
theorem wl_L_100 : Cond.methodLink RL 100 yX6_allBy ∈ lw_gd := gd_t (i := 659) (by decide +kernel) rfl
theorem wi_X6_allBy : Cond.instanceMethod yX6_allBy ∈ lw_gd := gd_t (i := 660) (by decide +kernel) rfl
theorem wv_X6_allBy : Cond.selects yX6_allBy.cls yX6_allBy yX6_allBy ∈ lw_gd := gd_t (i := 661) (by decide +kernel) rfl
theorem wc_X6_allBy : Cond.code yX6_allBy cX6_allBy 1 (some .int) ∈ lw_gd := gd_t (i := 662) (by decide +kernel) rfl
theorem wl_L_104 : Cond.methodLink RL 104 yX6_lasts ∈ lw_gd := gd_t (i := 663) (by decide +kernel) rfl
theorem wi_X6_lasts : Cond.instanceMethod yX6_lasts ∈ lw_gd := gd_t (i := 664) (by decide +kernel) rfl
theorem wv_X6_lasts : Cond.selects yX6_lasts.cls yX6_lasts yX6_lasts ∈ lw_gd := gd_t (i := 665) (by decide +kernel) rfl
theorem wc_X6_lasts : Cond.code yX6_lasts cX6_lasts 2 (some .int) ∈ lw_gd := gd_t (i := 666) (by decide +kernel) rfl
theorem wl_X6_233 : Cond.methodLink RX6 233 yX6_sweepingsBy ∈ lw_gd := gd_t (i := 667) (by decide +kernel) rfl
theorem wi_X6_sweepingsBy : Cond.instanceMethod yX6_sweepingsBy ∈ lw_gd := gd_t (i := 669) (by decide +kernel) rfl
theorem wc_X6_sweepingsBy : Cond.code yX6_sweepingsBy cX6_sweepingsBy 3 (some .int) ∈ lw_gd := gd_t (i := 670) (by decide +kernel) rfl
theorem wl_X6_301 : Cond.methodLink RX6 301 yX0_setAs ∈ lw_gd := gd_t (i := 671) (by decide +kernel) rfl
theorem wl_X6_305 : Cond.methodLink RX6 305 yX0_isWornOut ∈ lw_gd := gd_t (i := 672) (by decide +kernel) rfl
theorem wi_X0_isWornOut : Cond.instanceMethod yX0_isWornOut ∈ lw_gd := gd_t (i := 673) (by decide +kernel) rfl
theorem wv_X0_isWornOut : Cond.selects yX0_isWornOut.cls yX0_isWornOut yX0_isWornOut ∈ lw_gd := gd_t (i := 674) (by decide +kernel) rfl
theorem wc_X0_isWornOut : Cond.code yX0_isWornOut cX0_isWornOut 2 (some .boolean) ∈ lw_gd := gd_t (i := 675) (by decide +kernel) rfl
theorem wl_L_108 : Cond.methodLink RL 108 yX6_latest ∈ lw_gd := gd_t (i := 676) (by decide +kernel) rfl
theorem wi_X6_latest : Cond.instanceMethod yX6_latest ∈ lw_gd := gd_t (i := 677) (by decide +kernel) rfl
theorem wv_X6_latest : Cond.selects yX6_latest.cls yX6_latest yX6_latest ∈ lw_gd := gd_t (i := 678) (by decide +kernel) rfl
theorem wc_X6_latest : Cond.code yX6_latest cX6_latest 5 (some .int) ∈ lw_gd := gd_t (i := 679) (by decide +kernel) rfl
theorem wl_L_112 : Cond.methodLink RL 112 yX6_saw ∈ lw_gd := gd_t (i := 680) (by decide +kernel) rfl
theorem wi_X6_saw : Cond.instanceMethod yX6_saw ∈ lw_gd := gd_t (i := 681) (by decide +kernel) rfl
theorem wv_X6_saw : Cond.selects yX6_saw.cls yX6_saw yX6_saw ∈ lw_gd := gd_t (i := 682) (by decide +kernel) rfl
theorem wc_X6_saw : Cond.code yX6_saw cX6_saw 4 (some .int) ∈ lw_gd := gd_t (i := 683) (by decide +kernel) rfl
theorem wl_L_117 : Cond.methodLink RL 117 yX6_forget ∈ lw_gd := gd_t (i := 684) (by decide +kernel) rfl
theorem wi_X6_forget : Cond.instanceMethod yX6_forget ∈ lw_gd := gd_t (i := 685) (by decide +kernel) rfl
theorem wv_X6_forget : Cond.selects yX6_forget.cls yX6_forget yX6_forget ∈ lw_gd := gd_t (i := 686) (by decide +kernel) rfl
theorem wc_X6_forget : Cond.code yX6_forget cX6_forget 2 (some .int) ∈ lw_gd := gd_t (i := 687) (by decide +kernel) rfl
theorem wl_L_121 : Cond.methodLink RL 121 yX6_which ∈ lw_gd := gd_t (i := 688) (by decide +kernel) rfl
theorem wi_X6_which : Cond.instanceMethod yX6_which ∈ lw_gd := gd_t (i := 689) (by decide +kernel) rfl
theorem wv_X6_which : Cond.selects yX6_which.cls yX6_which yX6_which ∈ lw_gd := gd_t (i := 690) (by decide +kernel) rfl
theorem wc_X6_which : Cond.code yX6_which cX6_which 3 (some .int) ∈ lw_gd := gd_t (i := 691) (by decide +kernel) rfl
theorem wl_X6_239 : Cond.methodLink RX6 239 yX6_allSeenIsSoBy ∈ lw_gd := gd_t (i := 692) (by decide +kernel) rfl
theorem wi_X6_allSeenIsSoBy : Cond.instanceMethod yX6_allSeenIsSoBy ∈ lw_gd := gd_t (i := 694) (by decide +kernel) rfl
theorem wc_X6_allSeenIsSoBy : Cond.code yX6_allSeenIsSoBy cX6_allSeenIsSoBy 3 (some .boolean) ∈ lw_gd := gd_t (i := 695) (by decide +kernel) rfl
theorem wl_X6_309 : Cond.methodLink RX6 309 yX6_seenFits ∈ lw_gd := gd_t (i := 696) (by decide +kernel) rfl
theorem wi_X6_seenFits : Cond.instanceMethod yX6_seenFits ∈ lw_gd := gd_t (i := 698) (by decide +kernel) rfl
theorem wc_X6_seenFits : Cond.code yX6_seenFits cX6_seenFits 3 (some .boolean) ∈ lw_gd := gd_t (i := 699) (by decide +kernel) rfl
theorem wl_L_125 : Cond.methodLink RL 125 yX6_odds ∈ lw_gd := gd_t (i := 700) (by decide +kernel) rfl
theorem wi_X6_odds : Cond.instanceMethod yX6_odds ∈ lw_gd := gd_t (i := 701) (by decide +kernel) rfl
theorem wv_X6_odds : Cond.selects yX6_odds.cls yX6_odds yX6_odds ∈ lw_gd := gd_t (i := 702) (by decide +kernel) rfl
theorem wc_X6_odds : Cond.code yX6_odds cX6_odds 7 (some .int) ∈ lw_gd := gd_t (i := 703) (by decide +kernel) rfl
theorem wl_X6_242 : Cond.methodLink RX6 242 yX6_waysToChoose ∈ lw_gd := gd_t (i := 704) (by decide +kernel) rfl
theorem wt_X6_waysToChoose : Cond.static yX6_waysToChoose ∈ lw_gd := gd_t (i := 705) (by decide +kernel) rfl
theorem wc_X6_waysToChoose : Cond.code yX6_waysToChoose cX6_waysToChoose 4 (some .int) ∈ lw_gd := gd_t (i := 706) (by decide +kernel) rfl
theorem wl_X6_245 : Cond.methodLink RX6 245 yX6_power ∈ lw_gd := gd_t (i := 707) (by decide +kernel) rfl
theorem wt_X6_power : Cond.static yX6_power ∈ lw_gd := gd_t (i := 708) (by decide +kernel) rfl
theorem wc_X6_power : Cond.code yX6_power cX6_power 4 (some .int) ∈ lw_gd := gd_t (i := 709) (by decide +kernel) rfl
theorem wl_L_130 : Cond.methodLink RL 130 yX6_rate ∈ lw_gd := gd_t (i := 710) (by decide +kernel) rfl
theorem wi_X6_rate : Cond.instanceMethod yX6_rate ∈ lw_gd := gd_t (i := 711) (by decide +kernel) rfl
theorem wv_X6_rate : Cond.selects yX6_rate.cls yX6_rate yX6_rate ∈ lw_gd := gd_t (i := 712) (by decide +kernel) rfl
theorem wc_X6_rate : Cond.code yX6_rate cX6_rate 3 (some .int) ∈ lw_gd := gd_t (i := 713) (by decide +kernel) rfl
theorem wk_X6_248 : Cond.constant RX6 248 (-1000000) ∈ lw_gd := gd_t (i := 714) (by decide +kernel) rfl
theorem wl_X6_249 : Cond.methodLink RX6 249 yX6_rateAsPart ∈ lw_gd := gd_t (i := 715) (by decide +kernel) rfl
theorem wi_X6_rateAsPart : Cond.instanceMethod yX6_rateAsPart ∈ lw_gd := gd_t (i := 717) (by decide +kernel) rfl
theorem wc_X6_rateAsPart : Cond.code yX6_rateAsPart cX6_rateAsPart 2 (some .int) ∈ lw_gd := gd_t (i := 718) (by decide +kernel) rfl
theorem wl_X6_252 : Cond.methodLink RX6 252 yX6_rateAsBirch ∈ lw_gd := gd_t (i := 719) (by decide +kernel) rfl
theorem wi_X6_rateAsBirch : Cond.instanceMethod yX6_rateAsBirch ∈ lw_gd := gd_t (i := 721) (by decide +kernel) rfl
theorem wc_X6_rateAsBirch : Cond.code yX6_rateAsBirch cX6_rateAsBirch 2 (some .int) ∈ lw_gd := gd_t (i := 722) (by decide +kernel) rfl
theorem wq_X6_312 : Cond.constantLong RX6 312 10 ∈ lw_gd := gd_t (i := 723) (by decide +kernel) rfl
theorem wl_X6_255 : Cond.methodLink RX6 255 yX6_rateAsHeather ∈ lw_gd := gd_t (i := 724) (by decide +kernel) rfl
theorem wi_X6_rateAsHeather : Cond.instanceMethod yX6_rateAsHeather ∈ lw_gd := gd_t (i := 726) (by decide +kernel) rfl
theorem wc_X6_rateAsHeather : Cond.code yX6_rateAsHeather cX6_rateAsHeather 2 (some .int) ∈ lw_gd := gd_t (i := 727) (by decide +kernel) rfl
theorem wq_X6_314 : Cond.constantLong RX6 314 100 ∈ lw_gd := gd_t (i := 728) (by decide +kernel) rfl
theorem wl_X6_258 : Cond.methodLink RX6 258 yX6_rateAsStake ∈ lw_gd := gd_t (i := 729) (by decide +kernel) rfl
theorem wi_X6_rateAsStake : Cond.instanceMethod yX6_rateAsStake ∈ lw_gd := gd_t (i := 731) (by decide +kernel) rfl
theorem wc_X6_rateAsStake : Cond.code yX6_rateAsStake cX6_rateAsStake 2 (some .int) ∈ lw_gd := gd_t (i := 732) (by decide +kernel) rfl
theorem wq_X6_316 : Cond.constantLong RX6 316 1000 ∈ lw_gd := gd_t (i := 733) (by decide +kernel) rfl
theorem wl_X6_261 : Cond.methodLink RX6 261 yX6_rateAsKnot ∈ lw_gd := gd_t (i := 734) (by decide +kernel) rfl
theorem wi_X6_rateAsKnot : Cond.instanceMethod yX6_rateAsKnot ∈ lw_gd := gd_t (i := 736) (by decide +kernel) rfl
theorem wc_X6_rateAsKnot : Cond.code yX6_rateAsKnot cX6_rateAsKnot 2 (some .int) ∈ lw_gd := gd_t (i := 737) (by decide +kernel) rfl
theorem wq_X6_318 : Cond.constantLong RX6 318 10000 ∈ lw_gd := gd_t (i := 738) (by decide +kernel) rfl
theorem wl_X6_264 : Cond.methodLink RX6 264 yX6_rateAsBramble ∈ lw_gd := gd_t (i := 739) (by decide +kernel) rfl
theorem wi_X6_rateAsBramble : Cond.instanceMethod yX6_rateAsBramble ∈ lw_gd := gd_t (i := 741) (by decide +kernel) rfl
theorem wc_X6_rateAsBramble : Cond.code yX6_rateAsBramble cX6_rateAsBramble 2 (some .int) ∈ lw_gd := gd_t (i := 742) (by decide +kernel) rfl
theorem wq_X6_320 : Cond.constantLong RX6 320 100000 ∈ lw_gd := gd_t (i := 743) (by decide +kernel) rfl
theorem wl_L_134 : Cond.methodLink RL 134 yX6_keep ∈ lw_gd := gd_t (i := 744) (by decide +kernel) rfl
theorem wi_X6_keep : Cond.instanceMethod yX6_keep ∈ lw_gd := gd_t (i := 745) (by decide +kernel) rfl
theorem wv_X6_keep : Cond.selects yX6_keep.cls yX6_keep yX6_keep ∈ lw_gd := gd_t (i := 746) (by decide +kernel) rfl
theorem wc_X6_keep : Cond.code yX6_keep cX6_keep 2 (some .int) ∈ lw_gd := gd_t (i := 747) (by decide +kernel) rfl
theorem wl_X6_267 : Cond.methodLink RX6 267 yX6_isImage ∈ lw_gd := gd_t (i := 748) (by decide +kernel) rfl
theorem wt_X6_isImage : Cond.static yX6_isImage ∈ lw_gd := gd_t (i := 749) (by decide +kernel) rfl
theorem wc_X6_isImage : Cond.code yX6_isImage cX6_isImage 1 (some .boolean) ∈ lw_gd := gd_t (i := 750) (by decide +kernel) rfl
theorem wl_L_138 : Cond.methodLink RL 138 yX6_back ∈ lw_gd := gd_t (i := 751) (by decide +kernel) rfl
theorem wi_X6_back : Cond.instanceMethod yX6_back ∈ lw_gd := gd_t (i := 752) (by decide +kernel) rfl
theorem wv_X6_back : Cond.selects yX6_back.cls yX6_back yX6_back ∈ lw_gd := gd_t (i := 753) (by decide +kernel) rfl
theorem wc_X6_back : Cond.code yX6_back cX6_back 2 (some .int) ∈ lw_gd := gd_t (i := 754) (by decide +kernel) rfl
theorem wl_L_142 : Cond.methodLink RL 142 yX6_count ∈ lw_gd := gd_t (i := 755) (by decide +kernel) rfl
theorem wi_X6_count : Cond.instanceMethod yX6_count ∈ lw_gd := gd_t (i := 756) (by decide +kernel) rfl
theorem wv_X6_count : Cond.selects yX6_count.cls yX6_count yX6_count ∈ lw_gd := gd_t (i := 757) (by decide +kernel) rfl
theorem wc_X6_count : Cond.code yX6_count cX6_count 2 (some .int) ∈ lw_gd := gd_t (i := 758) (by decide +kernel) rfl
theorem wl_X6_276 : Cond.methodLink RX6 276 yX5_lengthAtFirst ∈ lw_gd := gd_t (i := 759) (by decide +kernel) rfl
theorem wl_L_146 : Cond.methodLink RL 146 yX6_trace ∈ lw_gd := gd_t (i := 760) (by decide +kernel) rfl
theorem wi_X6_trace : Cond.instanceMethod yX6_trace ∈ lw_gd := gd_t (i := 761) (by decide +kernel) rfl
theorem wv_X6_trace : Cond.selects yX6_trace.cls yX6_trace yX6_trace ∈ lw_gd := gd_t (i := 762) (by decide +kernel) rfl
theorem wc_X6_trace : Cond.code yX6_trace cX6_trace 1 (some .long) ∈ lw_gd := gd_t (i := 763) (by decide +kernel) rfl
theorem wcl_L_10 : Cond.classLink RL 10 "BesomYardModel" ∈ lw_gd := gd_t (i := 764) (by decide +kernel) rfl
theorem win_X7 : Cond.instantiable RX7 28 ∈ lw_gd := gd_t (i := 765) (by decide +kernel) rfl
theorem wl_L_12 : Cond.methodLink RL 12 yX7_init ∈ lw_gd := gd_t (i := 766) (by decide +kernel) rfl
theorem wi_X7_init : Cond.instanceMethod yX7_init ∈ lw_gd := gd_t (i := 767) (by decide +kernel) rfl
theorem wc_X7_init : Cond.code yX7_init cX7_init 1 none ∈ lw_gd := gd_t (i := 768) (by decide +kernel) rfl
theorem wl_X7_1 : Cond.methodLink RX7 1 ⟨"java/lang/Object", "<init>", "()V"⟩ ∈ lw_gd := gd_t (i := 769) (by decide +kernel) rfl
theorem wl_X7_62 : Cond.methodLink RX7 62 yX7_begins ∈ lw_gd := gd_t (i := 770) (by decide +kernel) rfl
theorem wi_X7_begins : Cond.instanceMethod yX7_begins ∈ lw_gd := gd_t (i := 772) (by decide +kernel) rfl
theorem wc_X7_begins : Cond.code yX7_begins cX7_begins 1 none ∈ lw_gd := gd_t (i := 773) (by decide +kernel) rfl
theorem wl_X7_65 : Cond.methodLink RX7 65 yX7_settles ∈ lw_gd := gd_t (i := 774) (by decide +kernel) rfl
theorem wi_X7_settles : Cond.instanceMethod yX7_settles ∈ lw_gd := gd_t (i := 776) (by decide +kernel) rfl
theorem wc_X7_settles : Cond.code yX7_settles cX7_settles 2 none ∈ lw_gd := gd_t (i := 777) (by decide +kernel) rfl
theorem wf_X7_68 : Cond.fieldLink RX7 68 "BesomYardModel" "thrown" "I" ∈ lw_gd := gd_t (i := 778) (by decide +kernel) rfl
theorem wf_X7_214 : Cond.fieldLink RX7 214 "BesomYardModel" "trace" "J" ∈ lw_gd := gd_t (i := 779) (by decide +kernel) rfl
theorem wf_X7_7 : Cond.fieldLink RX7 7 "BesomYardModel" "text" "[I" ∈ lw_gd := gd_t (i := 780) (by decide +kernel) rfl
theorem wf_X7_76 : Cond.fieldLink RX7 76 "BesomYardModel" "typed" "I" ∈ lw_gd := gd_t (i := 781) (by decide +kernel) rfl
theorem wf_X7_79 : Cond.fieldLink RX7 79 "BesomYardModel" "next" "I" ∈ lw_gd := gd_t (i := 782) (by decide +kernel) rfl
theorem wf_X7_89 : Cond.fieldLink RX7 89 "BesomYardModel" "token" "I" ∈ lw_gd := gd_t (i := 783) (by decide +kernel) rfl
theorem wf_X7_86 : Cond.fieldLink RX7 86 "BesomYardModel" "place" "I" ∈ lw_gd := gd_t (i := 784) (by decide +kernel) rfl
theorem wf_X7_92 : Cond.fieldLink RX7 92 "BesomYardModel" "value" "I" ∈ lw_gd := gd_t (i := 785) (by decide +kernel) rfl
theorem wf_X7_99 : Cond.fieldLink RX7 99 "BesomYardModel" "fault" "I" ∈ lw_gd := gd_t (i := 786) (by decide +kernel) rfl
theorem wf_X7_13 : Cond.fieldLink RX7 13 "BesomYardModel" "many" "[I" ∈ lw_gd := gd_t (i := 787) (by decide +kernel) rfl
theorem wf_X7_113 : Cond.fieldLink RX7 113 "BesomYardModel" "told" "I" ∈ lw_gd := gd_t (i := 788) (by decide +kernel) rfl
theorem wf_X7_16 : Cond.fieldLink RX7 16 "BesomYardModel" "size" "[I" ∈ lw_gd := gd_t (i := 789) (by decide +kernel) rfl
theorem wf_X7_19 : Cond.fieldLink RX7 19 "BesomYardModel" "age" "[I" ∈ lw_gd := gd_t (i := 790) (by decide +kernel) rfl
theorem wf_X7_22 : Cond.fieldLink RX7 22 "BesomYardModel" "dayOf" "[I" ∈ lw_gd := gd_t (i := 791) (by decide +kernel) rfl
theorem wf_X7_25 : Cond.fieldLink RX7 25 "BesomYardModel" "besoms" "[I" ∈ lw_gd := gd_t (i := 792) (by decide +kernel) rfl
theorem wf_X7_28 : Cond.fieldLink RX7 28 "BesomYardModel" "coins" "[I" ∈ lw_gd := gd_t (i := 793) (by decide +kernel) rfl
theorem wf_X7_31 : Cond.fieldLink RX7 31 "BesomYardModel" "s" "[I" ∈ lw_gd := gd_t (i := 794) (by decide +kernel) rfl
theorem wf_X7_34 : Cond.fieldLink RX7 34 "BesomYardModel" "w" "[I" ∈ lw_gd := gd_t (i := 795) (by decide +kernel) rfl
theorem wf_X7_37 : Cond.fieldLink RX7 37 "BesomYardModel" "kept" "[I" ∈ lw_gd := gd_t (i := 796) (by decide +kernel) rfl
theorem wf_X7_40 : Cond.fieldLink RX7 40 "BesomYardModel" "isKept" "[Z" ∈ lw_gd := gd_t (i := 797) (by decide +kernel) rfl
theorem wf_X7_44 : Cond.fieldLink RX7 44 "BesomYardModel" "undos" "[I" ∈ lw_gd := gd_t (i := 798) (by decide +kernel) rfl
theorem wf_X7_133 : Cond.fieldLink RX7 133 "BesomYardModel" "undoMany" "I" ∈ lw_gd := gd_t (i := 799) (by decide +kernel) rfl
theorem wf_X7_47 : Cond.fieldLink RX7 47 "BesomYardModel" "sawBehind" "[I" ∈ lw_gd := gd_t (i := 800) (by decide +kernel) rfl
theorem wf_X7_50 : Cond.fieldLink RX7 50 "BesomYardModel" "sawSide" "[I" ∈ lw_gd := gd_t (i := 801) (by decide +kernel) rfl
theorem wf_X7_53 : Cond.fieldLink RX7 53 "BesomYardModel" "sawLong" "[I" ∈ lw_gd := gd_t (i := 802) (by decide +kernel) rfl
theorem wf_X7_130 : Cond.fieldLink RX7 130 "BesomYardModel" "sawMany" "I" ∈ lw_gd := gd_t (i := 803) (by decide +kernel) rfl
theorem wf_X7_56 : Cond.fieldLink RX7 56 "BesomYardModel" "row" "[I" ∈ lw_gd := gd_t (i := 804) (by decide +kernel) rfl
theorem wf_X7_59 : Cond.fieldLink RX7 59 "BesomYardModel" "best" "[I" ∈ lw_gd := gd_t (i := 805) (by decide +kernel) rfl
theorem wl_L_17 : Cond.methodLink RL 17 yX7_type ∈ lw_gd := gd_t (i := 863) (by decide +kernel) rfl
theorem wi_X7_type : Cond.instanceMethod yX7_type ∈ lw_gd := gd_t (i := 864) (by decide +kernel) rfl
theorem wv_X7_type : Cond.selects yX7_type.cls yX7_type yX7_type ∈ lw_gd := gd_t (i := 865) (by decide +kernel) rfl
theorem wc_X7_type : Cond.code yX7_type cX7_type 2 (some .int) ∈ lw_gd := gd_t (i := 866) (by decide +kernel) rfl
theorem wl_X7_72 : Cond.methodLink RX7 72 yX7_in ∈ lw_gd := gd_t (i := 867) (by decide +kernel) rfl
theorem wt_X7_in : Cond.static yX7_in ∈ lw_gd := gd_t (i := 868) (by decide +kernel) rfl
theorem wc_X7_in : Cond.code yX7_in cX7_in 3 (some .boolean) ∈ lw_gd := gd_t (i := 869) (by decide +kernel) rfl
theorem wl_L_22 : Cond.methodLink RL 22 yX7_clear ∈ lw_gd := gd_t (i := 870) (by decide +kernel) rfl
theorem wi_X7_clear : Cond.instanceMethod yX7_clear ∈ lw_gd := gd_t (i := 871) (by decide +kernel) rfl
theorem wv_X7_clear : Cond.selects yX7_clear.cls yX7_clear yX7_clear ∈ lw_gd := gd_t (i := 872) (by decide +kernel) rfl
theorem wc_X7_clear : Cond.code yX7_clear cX7_clear 2 (some .int) ∈ lw_gd := gd_t (i := 873) (by decide +kernel) rfl
theorem wl_L_26 : Cond.methodLink RL 26 yX7_yard ∈ lw_gd := gd_t (i := 874) (by decide +kernel) rfl
theorem wi_X7_yard : Cond.instanceMethod yX7_yard ∈ lw_gd := gd_t (i := 875) (by decide +kernel) rfl
theorem wv_X7_yard : Cond.selects yX7_yard.cls yX7_yard yX7_yard ∈ lw_gd := gd_t (i := 876) (by decide +kernel) rfl
theorem wc_X7_yard : Cond.code yX7_yard cX7_yard 3 (some .int) ∈ lw_gd := gd_t (i := 877) (by decide +kernel) rfl
theorem wl_X7_106 : Cond.methodLink RX7 106 yX7_advances ∈ lw_gd := gd_t (i := 878) (by decide +kernel) rfl
theorem wi_X7_advances : Cond.instanceMethod yX7_advances ∈ lw_gd := gd_t (i := 880) (by decide +kernel) rfl
theorem wc_X7_advances : Cond.code yX7_advances cX7_advances 2 none ∈ lw_gd := gd_t (i := 881) (by decide +kernel) rfl
theorem wl_X7_82 : Cond.methodLink RX7 82 yX7_letterAt ∈ lw_gd := gd_t (i := 882) (by decide +kernel) rfl
theorem wi_X7_letterAt : Cond.instanceMethod yX7_letterAt ∈ lw_gd := gd_t (i := 884) (by decide +kernel) rfl
theorem wc_X7_letterAt : Cond.code yX7_letterAt cX7_letterAt 2 (some .int) ∈ lw_gd := gd_t (i := 885) (by decide +kernel) rfl
theorem wl_X7_95 : Cond.methodLink RX7 95 yX7_isLetter ∈ lw_gd := gd_t (i := 886) (by decide +kernel) rfl
theorem wt_X7_isLetter : Cond.static yX7_isLetter ∈ lw_gd := gd_t (i := 887) (by decide +kernel) rfl
theorem wc_X7_isLetter : Cond.code yX7_isLetter cX7_isLetter 1 (some .boolean) ∈ lw_gd := gd_t (i := 888) (by decide +kernel) rfl
theorem wl_X7_102 : Cond.methodLink RX7 102 yX7_isWell ∈ lw_gd := gd_t (i := 889) (by decide +kernel) rfl
theorem wi_X7_isWell : Cond.instanceMethod yX7_isWell ∈ lw_gd := gd_t (i := 891) (by decide +kernel) rfl
theorem wc_X7_isWell : Cond.code yX7_isWell cX7_isWell 1 (some .boolean) ∈ lw_gd := gd_t (i := 892) (by decide +kernel) rfl
theorem wl_X7_123 : Cond.methodLink RX7 123 yX7_mayBegin ∈ lw_gd := gd_t (i := 893) (by decide +kernel) rfl
theorem wi_X7_mayBegin : Cond.instanceMethod yX7_mayBegin ∈ lw_gd := gd_t (i := 895) (by decide +kernel) rfl
theorem wc_X7_mayBegin : Cond.code yX7_mayBegin cX7_mayBegin 1 (some .boolean) ∈ lw_gd := gd_t (i := 896) (by decide +kernel) rfl
theorem wl_X7_116 : Cond.methodLink RX7 116 yX7_fixed ∈ lw_gd := gd_t (i := 897) (by decide +kernel) rfl
theorem wt_X7_fixed : Cond.static yX7_fixed ∈ lw_gd := gd_t (i := 898) (by decide +kernel) rfl
theorem wc_X7_fixed : Cond.code yX7_fixed cX7_fixed 1 (some .int) ∈ lw_gd := gd_t (i := 899) (by decide +kernel) rfl
theorem wl_X7_109 : Cond.methodLink RX7 109 yX7_takes ∈ lw_gd := gd_t (i := 900) (by decide +kernel) rfl
theorem wi_X7_takes : Cond.instanceMethod yX7_takes ∈ lw_gd := gd_t (i := 902) (by decide +kernel) rfl
theorem wc_X7_takes : Cond.code yX7_takes cX7_takes 3 (some .int) ∈ lw_gd := gd_t (i := 903) (by decide +kernel) rfl
theorem wl_X7_126 : Cond.methodLink RX7 126 yX7_readsItem ∈ lw_gd := gd_t (i := 904) (by decide +kernel) rfl
theorem wi_X7_readsItem : Cond.instanceMethod yX7_readsItem ∈ lw_gd := gd_t (i := 906) (by decide +kernel) rfl
theorem wc_X7_readsItem : Cond.code yX7_readsItem cX7_readsItem 3 none ∈ lw_gd := gd_t (i := 907) (by decide +kernel) rfl
theorem wl_X7_119 : Cond.methodLink RX7 119 yX7_number ∈ lw_gd := gd_t (i := 908) (by decide +kernel) rfl
theorem wi_X7_number : Cond.instanceMethod yX7_number ∈ lw_gd := gd_t (i := 910) (by decide +kernel) rfl
theorem wc_X7_number : Cond.code yX7_number cX7_number 3 (some .int) ∈ lw_gd := gd_t (i := 911) (by decide +kernel) rfl
theorem wl_L_31 : Cond.methodLink RL 31 yX7_part ∈ lw_gd := gd_t (i := 912) (by decide +kernel) rfl
theorem wi_X7_part : Cond.instanceMethod yX7_part ∈ lw_gd := gd_t (i := 913) (by decide +kernel) rfl
theorem wv_X7_part : Cond.selects yX7_part.cls yX7_part yX7_part ∈ lw_gd := gd_t (i := 914) (by decide +kernel) rfl
theorem wc_X7_part : Cond.code yX7_part cX7_part 3 (some .int) ∈ lw_gd := gd_t (i := 915) (by decide +kernel) rfl
theorem wl_X7_139 : Cond.methodLink RX7 139 yX7_isPart ∈ lw_gd := gd_t (i := 916) (by decide +kernel) rfl
theorem wi_X7_isPart : Cond.instanceMethod yX7_isPart ∈ lw_gd := gd_t (i := 918) (by decide +kernel) rfl
theorem wc_X7_isPart : Cond.code yX7_isPart cX7_isPart 2 (some .boolean) ∈ lw_gd := gd_t (i := 919) (by decide +kernel) rfl
theorem wl_X7_142 : Cond.methodLink RX7 142 yX7_gives ∈ lw_gd := gd_t (i := 920) (by decide +kernel) rfl
theorem wi_X7_gives : Cond.instanceMethod yX7_gives ∈ lw_gd := gd_t (i := 922) (by decide +kernel) rfl
theorem wc_X7_gives : Cond.code yX7_gives cX7_gives 3 (some .int) ∈ lw_gd := gd_t (i := 923) (by decide +kernel) rfl
theorem wl_X7_136 : Cond.methodLink RX7 136 yX7_givesAt ∈ lw_gd := gd_t (i := 924) (by decide +kernel) rfl
theorem wi_X7_givesAt : Cond.instanceMethod yX7_givesAt ∈ lw_gd := gd_t (i := 926) (by decide +kernel) rfl
theorem wc_X7_givesAt : Cond.code yX7_givesAt cX7_givesAt 4 (some .int) ∈ lw_gd := gd_t (i := 927) (by decide +kernel) rfl
theorem wl_L_35 : Cond.methodLink RL 35 yX7_order ∈ lw_gd := gd_t (i := 928) (by decide +kernel) rfl
theorem wi_X7_order : Cond.instanceMethod yX7_order ∈ lw_gd := gd_t (i := 929) (by decide +kernel) rfl
theorem wv_X7_order : Cond.selects yX7_order.cls yX7_order yX7_order ∈ lw_gd := gd_t (i := 930) (by decide +kernel) rfl
theorem wc_X7_order : Cond.code yX7_order cX7_order 3 (some .int) ∈ lw_gd := gd_t (i := 931) (by decide +kernel) rfl
theorem wl_X7_146 : Cond.methodLink RX7 146 yX7_isOrder ∈ lw_gd := gd_t (i := 932) (by decide +kernel) rfl
theorem wi_X7_isOrder : Cond.instanceMethod yX7_isOrder ∈ lw_gd := gd_t (i := 934) (by decide +kernel) rfl
theorem wc_X7_isOrder : Cond.code yX7_isOrder cX7_isOrder 2 (some .boolean) ∈ lw_gd := gd_t (i := 935) (by decide +kernel) rfl
theorem wl_X7_149 : Cond.methodLink RX7 149 yX7_isSent ∈ lw_gd := gd_t (i := 936) (by decide +kernel) rfl
theorem wi_X7_isSent : Cond.instanceMethod yX7_isSent ∈ lw_gd := gd_t (i := 938) (by decide +kernel) rfl
theorem wc_X7_isSent : Cond.code yX7_isSent cX7_isSent 2 (some .boolean) ∈ lw_gd := gd_t (i := 939) (by decide +kernel) rfl
theorem wl_L_39 : Cond.methodLink RL 39 yX7_side ∈ lw_gd := gd_t (i := 940) (by decide +kernel) rfl
theorem wi_X7_side : Cond.instanceMethod yX7_side ∈ lw_gd := gd_t (i := 941) (by decide +kernel) rfl
theorem wv_X7_side : Cond.selects yX7_side.cls yX7_side yX7_side ∈ lw_gd := gd_t (i := 942) (by decide +kernel) rfl
theorem wc_X7_side : Cond.code yX7_side cX7_side 2 (some .int) ∈ lw_gd := gd_t (i := 943) (by decide +kernel) rfl
theorem wl_L_43 : Cond.methodLink RL 43 yX7_now ∈ lw_gd := gd_t (i := 944) (by decide +kernel) rfl
theorem wi_X7_now : Cond.instanceMethod yX7_now ∈ lw_gd := gd_t (i := 945) (by decide +kernel) rfl
theorem wv_X7_now : Cond.selects yX7_now.cls yX7_now yX7_now ∈ lw_gd := gd_t (i := 946) (by decide +kernel) rfl
theorem wc_X7_now : Cond.code yX7_now cX7_now 2 (some .int) ∈ lw_gd := gd_t (i := 947) (by decide +kernel) rfl
theorem wl_L_47 : Cond.methodLink RL 47 yX7_cuts ∈ lw_gd := gd_t (i := 948) (by decide +kernel) rfl
theorem wi_X7_cuts : Cond.instanceMethod yX7_cuts ∈ lw_gd := gd_t (i := 949) (by decide +kernel) rfl
theorem wv_X7_cuts : Cond.selects yX7_cuts.cls yX7_cuts yX7_cuts ∈ lw_gd := gd_t (i := 950) (by decide +kernel) rfl
theorem wc_X7_cuts : Cond.code yX7_cuts cX7_cuts 2 (some .int) ∈ lw_gd := gd_t (i := 951) (by decide +kernel) rfl
theorem wl_X7_152 : Cond.methodLink RX7 152 yX7_notes ∈ lw_gd := gd_t (i := 952) (by decide +kernel) rfl
theorem wi_X7_notes : Cond.instanceMethod yX7_notes ∈ lw_gd := gd_t (i := 954) (by decide +kernel) rfl
theorem wc_X7_notes : Cond.code yX7_notes cX7_notes 2 none ∈ lw_gd := gd_t (i := 955) (by decide +kernel) rfl
theorem wl_X7_155 : Cond.methodLink RX7 155 yX7_fells ∈ lw_gd := gd_t (i := 956) (by decide +kernel) rfl
theorem wi_X7_fells : Cond.instanceMethod yX7_fells ∈ lw_gd := gd_t (i := 958) (by decide +kernel) rfl
theorem wc_X7_fells : Cond.code yX7_fells cX7_fells 4 (some .int) ∈ lw_gd := gd_t (i := 959) (by decide +kernel) rfl
theorem wl_L_51 : Cond.methodLink RL 51 yX7_year ∈ lw_gd := gd_t (i := 960) (by decide +kernel) rfl
theorem wi_X7_year : Cond.instanceMethod yX7_year ∈ lw_gd := gd_t (i := 961) (by decide +kernel) rfl
theorem wv_X7_year : Cond.selects yX7_year.cls yX7_year yX7_year ∈ lw_gd := gd_t (i := 962) (by decide +kernel) rfl
theorem wc_X7_year : Cond.code yX7_year cX7_year 1 (some .int) ∈ lw_gd := gd_t (i := 963) (by decide +kernel) rfl
theorem wl_X7_158 : Cond.methodLink RX7 158 yX7_grows ∈ lw_gd := gd_t (i := 964) (by decide +kernel) rfl
theorem wi_X7_grows : Cond.instanceMethod yX7_grows ∈ lw_gd := gd_t (i := 966) (by decide +kernel) rfl
theorem wc_X7_grows : Cond.code yX7_grows cX7_grows 3 none ∈ lw_gd := gd_t (i := 967) (by decide +kernel) rfl
theorem wl_L_55 : Cond.methodLink RL 55 yX7_binds ∈ lw_gd := gd_t (i := 968) (by decide +kernel) rfl
theorem wi_X7_binds : Cond.instanceMethod yX7_binds ∈ lw_gd := gd_t (i := 969) (by decide +kernel) rfl
theorem wv_X7_binds : Cond.selects yX7_binds.cls yX7_binds yX7_binds ∈ lw_gd := gd_t (i := 970) (by decide +kernel) rfl
theorem wc_X7_binds : Cond.code yX7_binds cX7_binds 2 (some .int) ∈ lw_gd := gd_t (i := 971) (by decide +kernel) rfl
theorem wl_X7_162 : Cond.methodLink RX7 162 yX7_days ∈ lw_gd := gd_t (i := 972) (by decide +kernel) rfl
theorem wi_X7_days : Cond.instanceMethod yX7_days ∈ lw_gd := gd_t (i := 974) (by decide +kernel) rfl
theorem wc_X7_days : Cond.code yX7_days cX7_days 2 (some .int) ∈ lw_gd := gd_t (i := 975) (by decide +kernel) rfl
theorem wl_L_59 : Cond.methodLink RL 59 yX7_sends ∈ lw_gd := gd_t (i := 976) (by decide +kernel) rfl
theorem wi_X7_sends : Cond.instanceMethod yX7_sends ∈ lw_gd := gd_t (i := 977) (by decide +kernel) rfl
theorem wv_X7_sends : Cond.selects yX7_sends.cls yX7_sends yX7_sends ∈ lw_gd := gd_t (i := 978) (by decide +kernel) rfl
theorem wc_X7_sends : Cond.code yX7_sends cX7_sends 2 (some .int) ∈ lw_gd := gd_t (i := 979) (by decide +kernel) rfl
theorem wl_L_63 : Cond.methodLink RL 63 yX7_sweeps ∈ lw_gd := gd_t (i := 980) (by decide +kernel) rfl
theorem wi_X7_sweeps : Cond.instanceMethod yX7_sweeps ∈ lw_gd := gd_t (i := 981) (by decide +kernel) rfl
theorem wv_X7_sweeps : Cond.selects yX7_sweeps.cls yX7_sweeps yX7_sweeps ∈ lw_gd := gd_t (i := 982) (by decide +kernel) rfl
theorem wc_X7_sweeps : Cond.code yX7_sweeps cX7_sweeps 1 (some .int) ∈ lw_gd := gd_t (i := 983) (by decide +kernel) rfl
theorem wl_X7_169 : Cond.methodLink RX7 169 yX7_sweep ∈ lw_gd := gd_t (i := 984) (by decide +kernel) rfl
theorem wt_X7_sweep : Cond.static yX7_sweep ∈ lw_gd := gd_t (i := 985) (by decide +kernel) rfl
theorem wc_X7_sweep : Cond.code yX7_sweep cX7_sweep 1 none ∈ lw_gd := gd_t (i := 986) (by decide +kernel) rfl
theorem wl_X7_165 : Cond.methodLink RX7 165 yX7_shortens ∈ lw_gd := gd_t (i := 987) (by decide +kernel) rfl
theorem wt_X7_shortens : Cond.static yX7_shortens ∈ lw_gd := gd_t (i := 988) (by decide +kernel) rfl
theorem wc_X7_shortens : Cond.code yX7_shortens cX7_shortens 4 none ∈ lw_gd := gd_t (i := 989) (by decide +kernel) rfl
theorem wl_L_67 : Cond.methodLink RL 67 yX7_spins ∈ lw_gd := gd_t (i := 990) (by decide +kernel) rfl
theorem wi_X7_spins : Cond.instanceMethod yX7_spins ∈ lw_gd := gd_t (i := 991) (by decide +kernel) rfl
theorem wv_X7_spins : Cond.selects yX7_spins.cls yX7_spins yX7_spins ∈ lw_gd := gd_t (i := 992) (by decide +kernel) rfl
theorem wc_X7_spins : Cond.code yX7_spins cX7_spins 2 (some .int) ∈ lw_gd := gd_t (i := 993) (by decide +kernel) rfl
theorem wl_L_71 : Cond.methodLink RL 71 yX7_undo ∈ lw_gd := gd_t (i := 994) (by decide +kernel) rfl
theorem wi_X7_undo : Cond.instanceMethod yX7_undo ∈ lw_gd := gd_t (i := 995) (by decide +kernel) rfl
theorem wv_X7_undo : Cond.selects yX7_undo.cls yX7_undo yX7_undo ∈ lw_gd := gd_t (i := 996) (by decide +kernel) rfl
theorem wc_X7_undo : Cond.code yX7_undo cX7_undo 2 (some .int) ∈ lw_gd := gd_t (i := 997) (by decide +kernel) rfl
theorem wl_L_75 : Cond.methodLink RL 75 yX7_inYears ∈ lw_gd := gd_t (i := 998) (by decide +kernel) rfl
theorem wi_X7_inYears : Cond.instanceMethod yX7_inYears ∈ lw_gd := gd_t (i := 999) (by decide +kernel) rfl
theorem wv_X7_inYears : Cond.selects yX7_inYears.cls yX7_inYears yX7_inYears ∈ lw_gd := gd_t (i := 1000) (by decide +kernel) rfl
theorem wc_X7_inYears : Cond.code yX7_inYears cX7_inYears 4 (some .int) ∈ lw_gd := gd_t (i := 1001) (by decide +kernel) rfl
theorem wl_L_79 : Cond.methodLink RL 79 yX7_turn ∈ lw_gd := gd_t (i := 1002) (by decide +kernel) rfl
theorem wi_X7_turn : Cond.instanceMethod yX7_turn ∈ lw_gd := gd_t (i := 1003) (by decide +kernel) rfl
theorem wv_X7_turn : Cond.selects yX7_turn.cls yX7_turn yX7_turn ∈ lw_gd := gd_t (i := 1004) (by decide +kernel) rfl
theorem wc_X7_turn : Cond.code yX7_turn cX7_turn 5 (some .int) ∈ lw_gd := gd_t (i := 1005) (by decide +kernel) rfl
theorem wl_X7_172 : Cond.methodLink RX7 172 yX7_gcd ∈ lw_gd := gd_t (i := 1006) (by decide +kernel) rfl
theorem wt_X7_gcd : Cond.static yX7_gcd ∈ lw_gd := gd_t (i := 1007) (by decide +kernel) rfl
theorem wc_X7_gcd : Cond.code yX7_gcd cX7_gcd 5 (some .int) ∈ lw_gd := gd_t (i := 1008) (by decide +kernel) rfl
theorem wl_L_83 : Cond.methodLink RL 83 yX7_plan ∈ lw_gd := gd_t (i := 1009) (by decide +kernel) rfl
theorem wi_X7_plan : Cond.instanceMethod yX7_plan ∈ lw_gd := gd_t (i := 1010) (by decide +kernel) rfl
theorem wv_X7_plan : Cond.selects yX7_plan.cls yX7_plan yX7_plan ∈ lw_gd := gd_t (i := 1011) (by decide +kernel) rfl
theorem wc_X7_plan : Cond.code yX7_plan cX7_plan 9 (some .int) ∈ lw_gd := gd_t (i := 1012) (by decide +kernel) rfl
theorem wl_X7_178 : Cond.methodLink RX7 178 yX7_twigsBy ∈ lw_gd := gd_t (i := 1013) (by decide +kernel) rfl
theorem wi_X7_twigsBy : Cond.instanceMethod yX7_twigsBy ∈ lw_gd := gd_t (i := 1015) (by decide +kernel) rfl
theorem wc_X7_twigsBy : Cond.code yX7_twigsBy cX7_twigsBy 4 (some .int) ∈ lw_gd := gd_t (i := 1016) (by decide +kernel) rfl
theorem wl_X7_175 : Cond.methodLink RX7 175 yX7_asNow ∈ lw_gd := gd_t (i := 1017) (by decide +kernel) rfl
theorem wi_X7_asNow : Cond.instanceMethod yX7_asNow ∈ lw_gd := gd_t (i := 1019) (by decide +kernel) rfl
theorem wc_X7_asNow : Cond.code yX7_asNow cX7_asNow 2 none ∈ lw_gd := gd_t (i := 1020) (by decide +kernel) rfl
theorem wl_L_87 : Cond.methodLink RL 87 yX7_kept ∈ lw_gd := gd_t (i := 1021) (by decide +kernel) rfl
theorem wi_X7_kept : Cond.instanceMethod yX7_kept ∈ lw_gd := gd_t (i := 1022) (by decide +kernel) rfl
theorem wv_X7_kept : Cond.selects yX7_kept.cls yX7_kept yX7_kept ∈ lw_gd := gd_t (i := 1023) (by decide +kernel) rfl
theorem wc_X7_kept : Cond.code yX7_kept cX7_kept 4 (some .int) ∈ lw_gd := gd_t (i := 1024) (by decide +kernel) rfl
theorem wl_X7_184 : Cond.methodLink RX7 184 yX7_coinsOf ∈ lw_gd := gd_t (i := 1025) (by decide +kernel) rfl
theorem wi_X7_coinsOf : Cond.instanceMethod yX7_coinsOf ∈ lw_gd := gd_t (i := 1027) (by decide +kernel) rfl
theorem wc_X7_coinsOf : Cond.code yX7_coinsOf cX7_coinsOf 4 (some .int) ∈ lw_gd := gd_t (i := 1028) (by decide +kernel) rfl
theorem wl_X7_187 : Cond.methodLink RX7 187 yX7_canBeKept ∈ lw_gd := gd_t (i := 1029) (by decide +kernel) rfl
theorem wi_X7_canBeKept : Cond.instanceMethod yX7_canBeKept ∈ lw_gd := gd_t (i := 1031) (by decide +kernel) rfl
theorem wc_X7_canBeKept : Cond.code yX7_canBeKept cX7_canBeKept 6 (some .boolean) ∈ lw_gd := gd_t (i := 1032) (by decide +kernel) rfl
theorem wl_X7_181 : Cond.methodLink RX7 181 yX7_besomsBy ∈ lw_gd := gd_t (i := 1033) (by decide +kernel) rfl
theorem wi_X7_besomsBy : Cond.instanceMethod yX7_besomsBy ∈ lw_gd := gd_t (i := 1035) (by decide +kernel) rfl
theorem wc_X7_besomsBy : Cond.code yX7_besomsBy cX7_besomsBy 5 (some .int) ∈ lw_gd := gd_t (i := 1036) (by decide +kernel) rfl
theorem wl_L_91 : Cond.methodLink RL 91 yX7_next ∈ lw_gd := gd_t (i := 1037) (by decide +kernel) rfl
theorem wi_X7_next : Cond.instanceMethod yX7_next ∈ lw_gd := gd_t (i := 1038) (by decide +kernel) rfl
theorem wv_X7_next : Cond.selects yX7_next.cls yX7_next yX7_next ∈ lw_gd := gd_t (i := 1039) (by decide +kernel) rfl
theorem wc_X7_next : Cond.code yX7_next cX7_next 5 (some .int) ∈ lw_gd := gd_t (i := 1040) (by decide +kernel) rfl
theorem wl_L_95 : Cond.methodLink RL 95 yX7_lack ∈ lw_gd := gd_t (i := 1041) (by decide +kernel) rfl
theorem wi_X7_lack : Cond.instanceMethod yX7_lack ∈ lw_gd := gd_t (i := 1042) (by decide +kernel) rfl
theorem wv_X7_lack : Cond.selects yX7_lack.cls yX7_lack yX7_lack ∈ lw_gd := gd_t (i := 1043) (by decide +kernel) rfl
theorem wc_X7_lack : Cond.code yX7_lack cX7_lack 1 (some .int) ∈ lw_gd := gd_t (i := 1044) (by decide +kernel) rfl
theorem wl_X7_194 : Cond.methodLink RX7 194 yX7_lacks ∈ lw_gd := gd_t (i := 1045) (by decide +kernel) rfl
theorem wi_X7_lacks : Cond.instanceMethod yX7_lacks ∈ lw_gd := gd_t (i := 1047) (by decide +kernel) rfl
theorem wc_X7_lacks : Cond.code yX7_lacks cX7_lacks 2 (some .int) ∈ lw_gd := gd_t (i := 1048) (by decide +kernel) rfl
theorem wl_X7_190 : Cond.methodLink RX7 190 yX7_wanted ∈ lw_gd := gd_t (i := 1049) (by decide +kernel) rfl
theorem wi_X7_wanted : Cond.instanceMethod yX7_wanted ∈ lw_gd := gd_t (i := 1051) (by decide +kernel) rfl
theorem wc_X7_wanted : Cond.code yX7_wanted cX7_wanted 2 (some .int) ∈ lw_gd := gd_t (i := 1052) (by decide +kernel) rfl
theorem wl_L_99 : Cond.methodLink RL 99 yX7_cutFor ∈ lw_gd := gd_t (i := 1053) (by decide +kernel) rfl
theorem wi_X7_cutFor : Cond.instanceMethod yX7_cutFor ∈ lw_gd := gd_t (i := 1054) (by decide +kernel) rfl
theorem wv_X7_cutFor : Cond.selects yX7_cutFor.cls yX7_cutFor yX7_cutFor ∈ lw_gd := gd_t (i := 1055) (by decide +kernel) rfl
theorem wc_X7_cutFor : Cond.code yX7_cutFor cX7_cutFor 5 (some .int) ∈ lw_gd := gd_t (i := 1056) (by decide +kernel) rfl
theorem wl_X7_197 : Cond.methodLink RX7 197 yX7_ones ∈ lw_gd := gd_t (i := 1057) (by decide +kernel) rfl
theorem wt_X7_ones : Cond.static yX7_ones ∈ lw_gd := gd_t (i := 1058) (by decide +kernel) rfl
theorem wc_X7_ones : Cond.code yX7_ones cX7_ones 3 (some .int) ∈ lw_gd := gd_t (i := 1059) (by decide +kernel) rfl
theorem wl_L_103 : Cond.methodLink RL 103 yX7_allBy ∈ lw_gd := gd_t (i := 1060) (by decide +kernel) rfl
theorem wi_X7_allBy : Cond.instanceMethod yX7_allBy ∈ lw_gd := gd_t (i := 1061) (by decide +kernel) rfl
theorem wv_X7_allBy : Cond.selects yX7_allBy.cls yX7_allBy yX7_allBy ∈ lw_gd := gd_t (i := 1062) (by decide +kernel) rfl
theorem wc_X7_allBy : Cond.code yX7_allBy cX7_allBy 1 (some .int) ∈ lw_gd := gd_t (i := 1063) (by decide +kernel) rfl
theorem wl_L_107 : Cond.methodLink RL 107 yX7_lasts ∈ lw_gd := gd_t (i := 1064) (by decide +kernel) rfl
theorem wi_X7_lasts : Cond.instanceMethod yX7_lasts ∈ lw_gd := gd_t (i := 1065) (by decide +kernel) rfl
theorem wv_X7_lasts : Cond.selects yX7_lasts.cls yX7_lasts yX7_lasts ∈ lw_gd := gd_t (i := 1066) (by decide +kernel) rfl
theorem wc_X7_lasts : Cond.code yX7_lasts cX7_lasts 2 (some .int) ∈ lw_gd := gd_t (i := 1067) (by decide +kernel) rfl
theorem wl_X7_207 : Cond.methodLink RX7 207 yX7_lastsBy ∈ lw_gd := gd_t (i := 1068) (by decide +kernel) rfl
theorem wi_X7_lastsBy : Cond.instanceMethod yX7_lastsBy ∈ lw_gd := gd_t (i := 1070) (by decide +kernel) rfl
theorem wc_X7_lastsBy : Cond.code yX7_lastsBy cX7_lastsBy 3 (some .int) ∈ lw_gd := gd_t (i := 1071) (by decide +kernel) rfl
theorem wl_X7_200 : Cond.methodLink RX7 200 yX7_isWornOut ∈ lw_gd := gd_t (i := 1072) (by decide +kernel) rfl
theorem wt_X7_isWornOut : Cond.static yX7_isWornOut ∈ lw_gd := gd_t (i := 1073) (by decide +kernel) rfl
theorem wc_X7_isWornOut : Cond.code yX7_isWornOut cX7_isWornOut 3 (some .boolean) ∈ lw_gd := gd_t (i := 1074) (by decide +kernel) rfl
theorem wl_X7_204 : Cond.methodLink RX7 204 yX7_goes ∈ lw_gd := gd_t (i := 1075) (by decide +kernel) rfl
theorem wi_X7_goes : Cond.instanceMethod yX7_goes ∈ lw_gd := gd_t (i := 1077) (by decide +kernel) rfl
theorem wc_X7_goes : Cond.code yX7_goes cX7_goes 2 none ∈ lw_gd := gd_t (i := 1078) (by decide +kernel) rfl
theorem wl_L_111 : Cond.methodLink RL 111 yX7_latest ∈ lw_gd := gd_t (i := 1079) (by decide +kernel) rfl
theorem wi_X7_latest : Cond.instanceMethod yX7_latest ∈ lw_gd := gd_t (i := 1080) (by decide +kernel) rfl
theorem wv_X7_latest : Cond.selects yX7_latest.cls yX7_latest yX7_latest ∈ lw_gd := gd_t (i := 1081) (by decide +kernel) rfl
theorem wc_X7_latest : Cond.code yX7_latest cX7_latest 3 (some .int) ∈ lw_gd := gd_t (i := 1082) (by decide +kernel) rfl
theorem wl_L_116 : Cond.methodLink RL 116 yX7_saw ∈ lw_gd := gd_t (i := 1083) (by decide +kernel) rfl
theorem wi_X7_saw : Cond.instanceMethod yX7_saw ∈ lw_gd := gd_t (i := 1084) (by decide +kernel) rfl
theorem wv_X7_saw : Cond.selects yX7_saw.cls yX7_saw yX7_saw ∈ lw_gd := gd_t (i := 1085) (by decide +kernel) rfl
theorem wc_X7_saw : Cond.code yX7_saw cX7_saw 4 (some .int) ∈ lw_gd := gd_t (i := 1086) (by decide +kernel) rfl
theorem wl_L_120 : Cond.methodLink RL 120 yX7_forget ∈ lw_gd := gd_t (i := 1087) (by decide +kernel) rfl
theorem wi_X7_forget : Cond.instanceMethod yX7_forget ∈ lw_gd := gd_t (i := 1088) (by decide +kernel) rfl
theorem wv_X7_forget : Cond.selects yX7_forget.cls yX7_forget yX7_forget ∈ lw_gd := gd_t (i := 1089) (by decide +kernel) rfl
theorem wc_X7_forget : Cond.code yX7_forget cX7_forget 2 (some .int) ∈ lw_gd := gd_t (i := 1090) (by decide +kernel) rfl
theorem wl_L_124 : Cond.methodLink RL 124 yX7_which ∈ lw_gd := gd_t (i := 1091) (by decide +kernel) rfl
theorem wi_X7_which : Cond.instanceMethod yX7_which ∈ lw_gd := gd_t (i := 1092) (by decide +kernel) rfl
theorem wv_X7_which : Cond.selects yX7_which.cls yX7_which yX7_which ∈ lw_gd := gd_t (i := 1093) (by decide +kernel) rfl
theorem wc_X7_which : Cond.code yX7_which cX7_which 6 (some .int) ∈ lw_gd := gd_t (i := 1094) (by decide +kernel) rfl
theorem wl_L_129 : Cond.methodLink RL 129 yX7_odds ∈ lw_gd := gd_t (i := 1095) (by decide +kernel) rfl
theorem wi_X7_odds : Cond.instanceMethod yX7_odds ∈ lw_gd := gd_t (i := 1096) (by decide +kernel) rfl
theorem wv_X7_odds : Cond.selects yX7_odds.cls yX7_odds yX7_odds ∈ lw_gd := gd_t (i := 1097) (by decide +kernel) rfl
theorem wc_X7_odds : Cond.code yX7_odds cX7_odds 8 (some .int) ∈ lw_gd := gd_t (i := 1098) (by decide +kernel) rfl
theorem wl_X7_210 : Cond.methodLink RX7 210 yX7_power ∈ lw_gd := gd_t (i := 1099) (by decide +kernel) rfl
theorem wt_X7_power : Cond.static yX7_power ∈ lw_gd := gd_t (i := 1100) (by decide +kernel) rfl
theorem wc_X7_power : Cond.code yX7_power cX7_power 4 (some .int) ∈ lw_gd := gd_t (i := 1101) (by decide +kernel) rfl
theorem wl_L_133 : Cond.methodLink RL 133 yX7_rate ∈ lw_gd := gd_t (i := 1102) (by decide +kernel) rfl
theorem wi_X7_rate : Cond.instanceMethod yX7_rate ∈ lw_gd := gd_t (i := 1103) (by decide +kernel) rfl
theorem wv_X7_rate : Cond.selects yX7_rate.cls yX7_rate yX7_rate ∈ lw_gd := gd_t (i := 1104) (by decide +kernel) rfl
theorem wc_X7_rate : Cond.code yX7_rate cX7_rate 5 (some .int) ∈ lw_gd := gd_t (i := 1105) (by decide +kernel) rfl
theorem wk_X7_213 : Cond.constant RX7 213 (-1000000) ∈ lw_gd := gd_t (i := 1106) (by decide +kernel) rfl
theorem wq_X7_218 : Cond.constantLong RX7 218 11 ∈ lw_gd := gd_t (i := 1107) (by decide +kernel) rfl
theorem wq_X7_220 : Cond.constantLong RX7 220 101 ∈ lw_gd := gd_t (i := 1108) (by decide +kernel) rfl
theorem wq_X7_222 : Cond.constantLong RX7 222 1011 ∈ lw_gd := gd_t (i := 1109) (by decide +kernel) rfl
theorem wq_X7_224 : Cond.constantLong RX7 224 10101 ∈ lw_gd := gd_t (i := 1110) (by decide +kernel) rfl
theorem wq_X7_226 : Cond.constantLong RX7 226 100001 ∈ lw_gd := gd_t (i := 1111) (by decide +kernel) rfl
theorem wl_L_137 : Cond.methodLink RL 137 yX7_keep ∈ lw_gd := gd_t (i := 1112) (by decide +kernel) rfl
theorem wi_X7_keep : Cond.instanceMethod yX7_keep ∈ lw_gd := gd_t (i := 1113) (by decide +kernel) rfl
theorem wv_X7_keep : Cond.selects yX7_keep.cls yX7_keep yX7_keep ∈ lw_gd := gd_t (i := 1114) (by decide +kernel) rfl
theorem wc_X7_keep : Cond.code yX7_keep cX7_keep 3 (some .int) ∈ lw_gd := gd_t (i := 1115) (by decide +kernel) rfl
theorem wl_L_141 : Cond.methodLink RL 141 yX7_back ∈ lw_gd := gd_t (i := 1116) (by decide +kernel) rfl
theorem wi_X7_back : Cond.instanceMethod yX7_back ∈ lw_gd := gd_t (i := 1117) (by decide +kernel) rfl
theorem wv_X7_back : Cond.selects yX7_back.cls yX7_back yX7_back ∈ lw_gd := gd_t (i := 1118) (by decide +kernel) rfl
theorem wc_X7_back : Cond.code yX7_back cX7_back 3 (some .int) ∈ lw_gd := gd_t (i := 1119) (by decide +kernel) rfl
theorem wl_L_145 : Cond.methodLink RL 145 yX7_count ∈ lw_gd := gd_t (i := 1120) (by decide +kernel) rfl
theorem wi_X7_count : Cond.instanceMethod yX7_count ∈ lw_gd := gd_t (i := 1121) (by decide +kernel) rfl
theorem wv_X7_count : Cond.selects yX7_count.cls yX7_count yX7_count ∈ lw_gd := gd_t (i := 1122) (by decide +kernel) rfl
theorem wc_X7_count : Cond.code yX7_count cX7_count 2 (some .int) ∈ lw_gd := gd_t (i := 1123) (by decide +kernel) rfl
theorem wl_L_150 : Cond.methodLink RL 150 yX7_trace ∈ lw_gd := gd_t (i := 1124) (by decide +kernel) rfl
theorem wi_X7_trace : Cond.instanceMethod yX7_trace ∈ lw_gd := gd_t (i := 1125) (by decide +kernel) rfl
theorem wv_X7_trace : Cond.selects yX7_trace.cls yX7_trace yX7_trace ∈ lw_gd := gd_t (i := 1126) (by decide +kernel) rfl
theorem wc_X7_trace : Cond.code yX7_trace cX7_trace 1 (some .long) ∈ lw_gd := gd_t (i := 1127) (by decide +kernel) rfl
theorem wf_J0_15 : Cond.fieldLink RJ0 15 "java/lang/String" "coder" "B" ∈ lw_gd := gd_t (i := 1128) (by decide +kernel) rfl
theorem wf_J0_9 : Cond.fieldLink RJ0 9 "java/lang/String" "value" "[B" ∈ lw_gd := gd_t (i := 1129) (by decide +kernel) rfl
theorem inX0 : ∀ w ∈ u_ws RX0 TX0 2, w ∈ lw_gd := by decide +kernel
theorem inX1 : ∀ w ∈ u_ws RX1 TX1 8, w ∈ lw_gd := by decide +kernel
theorem inX2 : ∀ w ∈ u_ws RX2 TX2 4, w ∈ lw_gd := by decide +kernel
theorem inX3 : ∀ w ∈ u_ws RX3 TX3 1, w ∈ lw_gd := by decide +kernel
theorem inX4 : ∀ w ∈ u_ws RX4 TX4 6, w ∈ lw_gd := by decide +kernel
theorem inX5 : ∀ w ∈ u_ws RX5 TX5 2, w ∈ lw_gd := by decide +kernel
theorem inX6 : ∀ w ∈ u_ws RX6 TX6 16, w ∈ lw_gd := by decide +kernel
theorem inX7 : ∀ w ∈ u_ws RX7 TX7 28, w ∈ lw_gd := by decide +kernel
theorem gd_good {w : Cond} (h : w ∈ lw_gd) : (w.onTables && w.keeps) = true ∨ ∃ ty, w = .arrayClass ty := good_of_word (List.mem_filter.mp h).2
theorem gd_V {own C : String} {idx n : Nat} {y : MethodName} {b : ByteArray} {r : Option FieldType} (h1 : Cond.methodLink own idx y ∈ lw_gd) (h2 : Cond.instanceMethod y ∈ lw_gd) (h3 : Cond.selects C y y ∈ lw_gd) (h4 : Cond.initialized C ∈ lw_gd) (h5 : Cond.code y b n r ∈ lw_gd) : GoodIn lw_gd (wsV own idx C y (Cond.code y b n r :: lw_gd)) := by
  intro w hw
  have hm : w ∈ lw_gd := by
    rcases List.mem_append.mp hw with h | h
    · simp only [List.mem_cons, List.not_mem_nil, or_false] at h
      rcases h with rfl | rfl | rfl | rfl <;> assumption
    · rcases List.mem_cons.mp h with rfl | h
      · exact h5
      · exact h
  exact ⟨hm, gd_good hm⟩
theorem gd_S {own : String} {idx n : Nat} {y : MethodName} {b : ByteArray} {r : Option FieldType} (h1 : Cond.methodLink own idx y ∈ lw_gd) (h2 : Cond.static y ∈ lw_gd) (h4 : Cond.initialized y.cls ∈ lw_gd) (h5 : Cond.code y b n r ∈ lw_gd) : GoodIn lw_gd (va_wsS own idx y (Cond.code y b n r :: lw_gd)) := by
  intro w hw
  have hm : w ∈ lw_gd := by
    rcases List.mem_append.mp hw with h | h
    · simp only [List.mem_cons, List.not_mem_nil, or_false] at h
      rcases h with rfl | rfl | rfl <;> assumption
    · rcases List.mem_cons.mp h with rfl | h
      · exact h5
      · exact h
  exact ⟨hm, gd_good hm⟩
theorem gd_I {n : Nat} {y : MethodName} {b : ByteArray} {r : Option FieldType} (h5 : Cond.code y b n r ∈ lw_gd) : GoodIn lw_gd (Cond.code y b n r :: lw_gd) := by
  intro w hw
  have hm : w ∈ lw_gd := by
    rcases List.mem_cons.mp hw with rfl | h
    · exact h5
    · exact h
  exact ⟨hm, gd_good hm⟩
theorem hd_X6_init : yX6_init.cls ≠ "java/lang/invoke/MethodHandle" ∧ yX6_init.cls ≠ "java/lang/invoke/VarHandle" ∧ (parseMethodDescriptor yX6_init.desc).map (fun d => d.parameters.length) = some 0 := by decide +kernel
theorem hd_X4_init : yX4_init.cls ≠ "java/lang/invoke/MethodHandle" ∧ yX4_init.cls ≠ "java/lang/invoke/VarHandle" ∧ (parseMethodDescriptor yX4_init.desc).map (fun d => d.parameters.length) = some 0 := by decide +kernel
theorem hd_X5_init : yX5_init.cls ≠ "java/lang/invoke/MethodHandle" ∧ yX5_init.cls ≠ "java/lang/invoke/VarHandle" ∧ (parseMethodDescriptor yX5_init.desc).map (fun d => d.parameters.length) = some 0 := by decide +kernel
theorem hd_X5_setAsAtFirst : yX5_setAsAtFirst.cls ≠ "java/lang/invoke/MethodHandle" ∧ yX5_setAsAtFirst.cls ≠ "java/lang/invoke/VarHandle" ∧ (parseMethodDescriptor yX5_setAsAtFirst.desc).map (fun d => d.parameters.length) = some 0 := by decide +kernel
theorem hd_X1_init : yX1_init.cls ≠ "java/lang/invoke/MethodHandle" ∧ yX1_init.cls ≠ "java/lang/invoke/VarHandle" ∧ (parseMethodDescriptor yX1_init.desc).map (fun d => d.parameters.length) = some 0 := by decide +kernel
theorem hd_X0_init : yX0_init.cls ≠ "java/lang/invoke/MethodHandle" ∧ yX0_init.cls ≠ "java/lang/invoke/VarHandle" ∧ (parseMethodDescriptor yX0_init.desc).map (fun d => d.parameters.length) = some 0 := by decide +kernel
theorem hd_X3_init : yX3_init.cls ≠ "java/lang/invoke/MethodHandle" ∧ yX3_init.cls ≠ "java/lang/invoke/VarHandle" ∧ (parseMethodDescriptor yX3_init.desc).map (fun d => d.parameters.length) = some 1 := by decide +kernel
theorem hd_X2_init : yX2_init.cls ≠ "java/lang/invoke/MethodHandle" ∧ yX2_init.cls ≠ "java/lang/invoke/VarHandle" ∧ (parseMethodDescriptor yX2_init.desc).map (fun d => d.parameters.length) = some 0 := by decide +kernel
theorem hd_X6_startAnew : yX6_startAnew.cls ≠ "java/lang/invoke/MethodHandle" ∧ yX6_startAnew.cls ≠ "java/lang/invoke/VarHandle" ∧ (parseMethodDescriptor yX6_startAnew.desc).map (fun d => d.parameters.length) = some 0 := by decide +kernel
theorem hd_X1_begin : yX1_begin.cls ≠ "java/lang/invoke/MethodHandle" ∧ yX1_begin.cls ≠ "java/lang/invoke/VarHandle" ∧ (parseMethodDescriptor yX1_begin.desc).map (fun d => d.parameters.length) = some 1 := by decide +kernel
theorem hd_X5_value : yX5_value.cls ≠ "java/lang/invoke/MethodHandle" ∧ yX5_value.cls ≠ "java/lang/invoke/VarHandle" ∧ (parseMethodDescriptor yX5_value.desc).map (fun d => d.parameters.length) = some 2 := by decide +kernel
theorem hd_X5_isPlace : yX5_isPlace.cls ≠ "java/lang/invoke/MethodHandle" ∧ yX5_isPlace.cls ≠ "java/lang/invoke/VarHandle" ∧ (parseMethodDescriptor yX5_isPlace.desc).map (fun d => d.parameters.length) = some 2 := by decide +kernel
theorem hd_X5_lengthAtFirst : yX5_lengthAtFirst.cls ≠ "java/lang/invoke/MethodHandle" ∧ yX5_lengthAtFirst.cls ≠ "java/lang/invoke/VarHandle" ∧ (parseMethodDescriptor yX5_lengthAtFirst.desc).map (fun d => d.parameters.length) = some 0 := by decide +kernel
theorem hd_X0_renew : yX0_renew.cls ≠ "java/lang/invoke/MethodHandle" ∧ yX0_renew.cls ≠ "java/lang/invoke/VarHandle" ∧ (parseMethodDescriptor yX0_renew.desc).map (fun d => d.parameters.length) = some 1 := by decide +kernel
theorem hd_X6_forgetPast : yX6_forgetPast.cls ≠ "java/lang/invoke/MethodHandle" ∧ yX6_forgetPast.cls ≠ "java/lang/invoke/VarHandle" ∧ (parseMethodDescriptor yX6_forgetPast.desc).map (fun d => d.parameters.length) = some 0 := by decide +kernel
theorem hd_X6_type : yX6_type.cls ≠ "java/lang/invoke/MethodHandle" ∧ yX6_type.cls ≠ "java/lang/invoke/VarHandle" ∧ (parseMethodDescriptor yX6_type.desc).map (fun d => d.parameters.length) = some 1 := by decide +kernel
theorem hd_X4_add : yX4_add.cls ≠ "java/lang/invoke/MethodHandle" ∧ yX4_add.cls ≠ "java/lang/invoke/VarHandle" ∧ (parseMethodDescriptor yX4_add.desc).map (fun d => d.parameters.length) = some 1 := by decide +kernel
theorem hd_X4_size : yX4_size.cls ≠ "java/lang/invoke/MethodHandle" ∧ yX4_size.cls ≠ "java/lang/invoke/VarHandle" ∧ (parseMethodDescriptor yX4_size.desc).map (fun d => d.parameters.length) = some 0 := by decide +kernel
theorem hd_X6_clear : yX6_clear.cls ≠ "java/lang/invoke/MethodHandle" ∧ yX6_clear.cls ≠ "java/lang/invoke/VarHandle" ∧ (parseMethodDescriptor yX6_clear.desc).map (fun d => d.parameters.length) = some 0 := by decide +kernel
theorem hd_X4_empty : yX4_empty.cls ≠ "java/lang/invoke/MethodHandle" ∧ yX4_empty.cls ≠ "java/lang/invoke/VarHandle" ∧ (parseMethodDescriptor yX4_empty.desc).map (fun d => d.parameters.length) = some 0 := by decide +kernel
theorem hd_X6_yard : yX6_yard.cls ≠ "java/lang/invoke/MethodHandle" ∧ yX6_yard.cls ≠ "java/lang/invoke/VarHandle" ∧ (parseMethodDescriptor yX6_yard.desc).map (fun d => d.parameters.length) = some 0 := by decide +kernel
theorem hd_X5_readFrom : yX5_readFrom.cls ≠ "java/lang/invoke/MethodHandle" ∧ yX5_readFrom.cls ≠ "java/lang/invoke/VarHandle" ∧ (parseMethodDescriptor yX5_readFrom.desc).map (fun d => d.parameters.length) = some 1 := by decide +kernel
theorem hd_X4_rewind : yX4_rewind.cls ≠ "java/lang/invoke/MethodHandle" ∧ yX4_rewind.cls ≠ "java/lang/invoke/VarHandle" ∧ (parseMethodDescriptor yX4_rewind.desc).map (fun d => d.parameters.length) = some 0 := by decide +kernel
theorem hd_X4_goOn : yX4_goOn.cls ≠ "java/lang/invoke/MethodHandle" ∧ yX4_goOn.cls ≠ "java/lang/invoke/VarHandle" ∧ (parseMethodDescriptor yX4_goOn.desc).map (fun d => d.parameters.length) = some 0 := by decide +kernel
theorem hd_X4_letterAt : yX4_letterAt.cls ≠ "java/lang/invoke/MethodHandle" ∧ yX4_letterAt.cls ≠ "java/lang/invoke/VarHandle" ∧ (parseMethodDescriptor yX4_letterAt.desc).map (fun d => d.parameters.length) = some 1 := by decide +kernel
theorem hd_X4_isDigit : yX4_isDigit.cls ≠ "java/lang/invoke/MethodHandle" ∧ yX4_isDigit.cls ≠ "java/lang/invoke/VarHandle" ∧ (parseMethodDescriptor yX4_isDigit.desc).map (fun d => d.parameters.length) = some 1 := by decide +kernel
theorem hd_X4_readNumber : yX4_readNumber.cls ≠ "java/lang/invoke/MethodHandle" ∧ yX4_readNumber.cls ≠ "java/lang/invoke/VarHandle" ∧ (parseMethodDescriptor yX4_readNumber.desc).map (fun d => d.parameters.length) = some 0 := by decide +kernel
theorem hd_X5_readItem : yX5_readItem.cls ≠ "java/lang/invoke/MethodHandle" ∧ yX5_readItem.cls ≠ "java/lang/invoke/VarHandle" ∧ (parseMethodDescriptor yX5_readItem.desc).map (fun d => d.parameters.length) = some 2 := by decide +kernel
theorem hd_X4_tokenNumber : yX4_tokenNumber.cls ≠ "java/lang/invoke/MethodHandle" ∧ yX4_tokenNumber.cls ≠ "java/lang/invoke/VarHandle" ∧ (parseMethodDescriptor yX4_tokenNumber.desc).map (fun d => d.parameters.length) = some 0 := by decide +kernel
theorem hd_X5_take : yX5_take.cls ≠ "java/lang/invoke/MethodHandle" ∧ yX5_take.cls ≠ "java/lang/invoke/VarHandle" ∧ (parseMethodDescriptor yX5_take.desc).map (fun d => d.parameters.length) = some 3 := by decide +kernel
theorem hd_X4_tokenStart : yX4_tokenStart.cls ≠ "java/lang/invoke/MethodHandle" ∧ yX4_tokenStart.cls ≠ "java/lang/invoke/VarHandle" ∧ (parseMethodDescriptor yX4_tokenStart.desc).map (fun d => d.parameters.length) = some 0 := by decide +kernel
theorem hd_X6_part : yX6_part.cls ≠ "java/lang/invoke/MethodHandle" ∧ yX6_part.cls ≠ "java/lang/invoke/VarHandle" ∧ (parseMethodDescriptor yX6_part.desc).map (fun d => d.parameters.length) = some 2 := by decide +kernel
theorem hd_X6_isPart : yX6_isPart.cls ≠ "java/lang/invoke/MethodHandle" ∧ yX6_isPart.cls ≠ "java/lang/invoke/VarHandle" ∧ (parseMethodDescriptor yX6_isPart.desc).map (fun d => d.parameters.length) = some 1 := by decide +kernel
theorem hd_X5_parts : yX5_parts.cls ≠ "java/lang/invoke/MethodHandle" ∧ yX5_parts.cls ≠ "java/lang/invoke/VarHandle" ∧ (parseMethodDescriptor yX5_parts.desc).map (fun d => d.parameters.length) = some 0 := by decide +kernel
theorem hd_X1_age : yX1_age.cls ≠ "java/lang/invoke/MethodHandle" ∧ yX1_age.cls ≠ "java/lang/invoke/VarHandle" ∧ (parseMethodDescriptor yX1_age.desc).map (fun d => d.parameters.length) = some 1 := by decide +kernel
theorem hd_X6_giftOf : yX6_giftOf.cls ≠ "java/lang/invoke/MethodHandle" ∧ yX6_giftOf.cls ≠ "java/lang/invoke/VarHandle" ∧ (parseMethodDescriptor yX6_giftOf.desc).map (fun d => d.parameters.length) = some 1 := by decide +kernel
theorem hd_X5_ripe : yX5_ripe.cls ≠ "java/lang/invoke/MethodHandle" ∧ yX5_ripe.cls ≠ "java/lang/invoke/VarHandle" ∧ (parseMethodDescriptor yX5_ripe.desc).map (fun d => d.parameters.length) = some 0 := by decide +kernel
theorem hd_X6_gift : yX6_gift.cls ≠ "java/lang/invoke/MethodHandle" ∧ yX6_gift.cls ≠ "java/lang/invoke/VarHandle" ∧ (parseMethodDescriptor yX6_gift.desc).map (fun d => d.parameters.length) = some 3 := by decide +kernel
theorem hd_X6_order : yX6_order.cls ≠ "java/lang/invoke/MethodHandle" ∧ yX6_order.cls ≠ "java/lang/invoke/VarHandle" ∧ (parseMethodDescriptor yX6_order.desc).map (fun d => d.parameters.length) = some 2 := by decide +kernel
theorem hd_X6_isOrder : yX6_isOrder.cls ≠ "java/lang/invoke/MethodHandle" ∧ yX6_isOrder.cls ≠ "java/lang/invoke/VarHandle" ∧ (parseMethodDescriptor yX6_isOrder.desc).map (fun d => d.parameters.length) = some 1 := by decide +kernel
theorem hd_X5_orders : yX5_orders.cls ≠ "java/lang/invoke/MethodHandle" ∧ yX5_orders.cls ≠ "java/lang/invoke/VarHandle" ∧ (parseMethodDescriptor yX5_orders.desc).map (fun d => d.parameters.length) = some 0 := by decide +kernel
theorem hd_X1_wasSent : yX1_wasSent.cls ≠ "java/lang/invoke/MethodHandle" ∧ yX1_wasSent.cls ≠ "java/lang/invoke/VarHandle" ∧ (parseMethodDescriptor yX1_wasSent.desc).map (fun d => d.parameters.length) = some 1 := by decide +kernel
theorem hd_X6_side : yX6_side.cls ≠ "java/lang/invoke/MethodHandle" ∧ yX6_side.cls ≠ "java/lang/invoke/VarHandle" ∧ (parseMethodDescriptor yX6_side.desc).map (fun d => d.parameters.length) = some 1 := by decide +kernel
theorem hd_X6_isSide : yX6_isSide.cls ≠ "java/lang/invoke/MethodHandle" ∧ yX6_isSide.cls ≠ "java/lang/invoke/VarHandle" ∧ (parseMethodDescriptor yX6_isSide.desc).map (fun d => d.parameters.length) = some 1 := by decide +kernel
theorem hd_X0_lengthOf : yX0_lengthOf.cls ≠ "java/lang/invoke/MethodHandle" ∧ yX0_lengthOf.cls ≠ "java/lang/invoke/VarHandle" ∧ (parseMethodDescriptor yX0_lengthOf.desc).map (fun d => d.parameters.length) = some 1 := by decide +kernel
theorem hd_X6_now : yX6_now.cls ≠ "java/lang/invoke/MethodHandle" ∧ yX6_now.cls ≠ "java/lang/invoke/VarHandle" ∧ (parseMethodDescriptor yX6_now.desc).map (fun d => d.parameters.length) = some 1 := by decide +kernel
theorem hd_X6_cuts : yX6_cuts.cls ≠ "java/lang/invoke/MethodHandle" ∧ yX6_cuts.cls ≠ "java/lang/invoke/VarHandle" ∧ (parseMethodDescriptor yX6_cuts.desc).map (fun d => d.parameters.length) = some 1 := by decide +kernel
theorem hd_X6_remember : yX6_remember.cls ≠ "java/lang/invoke/MethodHandle" ∧ yX6_remember.cls ≠ "java/lang/invoke/VarHandle" ∧ (parseMethodDescriptor yX6_remember.desc).map (fun d => d.parameters.length) = some 0 := by decide +kernel
theorem hd_X3_put : yX3_put.cls ≠ "java/lang/invoke/MethodHandle" ∧ yX3_put.cls ≠ "java/lang/invoke/VarHandle" ∧ (parseMethodDescriptor yX3_put.desc).map (fun d => d.parameters.length) = some 2 := by decide +kernel
theorem hd_X3_placeAt : yX3_placeAt.cls ≠ "java/lang/invoke/MethodHandle" ∧ yX3_placeAt.cls ≠ "java/lang/invoke/VarHandle" ∧ (parseMethodDescriptor yX3_placeAt.desc).map (fun d => d.parameters.length) = some 1 := by decide +kernel
theorem hd_X1_setAs : yX1_setAs.cls ≠ "java/lang/invoke/MethodHandle" ∧ yX1_setAs.cls ≠ "java/lang/invoke/VarHandle" ∧ (parseMethodDescriptor yX1_setAs.desc).map (fun d => d.parameters.length) = some 1 := by decide +kernel
theorem hd_X0_setAs : yX0_setAs.cls ≠ "java/lang/invoke/MethodHandle" ∧ yX0_setAs.cls ≠ "java/lang/invoke/VarHandle" ∧ (parseMethodDescriptor yX0_setAs.desc).map (fun d => d.parameters.length) = some 1 := by decide +kernel
theorem hd_X1_beCut : yX1_beCut.cls ≠ "java/lang/invoke/MethodHandle" ∧ yX1_beCut.cls ≠ "java/lang/invoke/VarHandle" ∧ (parseMethodDescriptor yX1_beCut.desc).map (fun d => d.parameters.length) = some 1 := by decide +kernel
theorem hd_X6_year : yX6_year.cls ≠ "java/lang/invoke/MethodHandle" ∧ yX6_year.cls ≠ "java/lang/invoke/VarHandle" ∧ (parseMethodDescriptor yX6_year.desc).map (fun d => d.parameters.length) = some 0 := by decide +kernel
theorem hd_X1_growOlder : yX1_growOlder.cls ≠ "java/lang/invoke/MethodHandle" ∧ yX1_growOlder.cls ≠ "java/lang/invoke/VarHandle" ∧ (parseMethodDescriptor yX1_growOlder.desc).map (fun d => d.parameters.length) = some 0 := by decide +kernel
theorem hd_X6_binds : yX6_binds.cls ≠ "java/lang/invoke/MethodHandle" ∧ yX6_binds.cls ≠ "java/lang/invoke/VarHandle" ∧ (parseMethodDescriptor yX6_binds.desc).map (fun d => d.parameters.length) = some 1 := by decide +kernel
theorem hd_X5_twigs : yX5_twigs.cls ≠ "java/lang/invoke/MethodHandle" ∧ yX5_twigs.cls ≠ "java/lang/invoke/VarHandle" ∧ (parseMethodDescriptor yX5_twigs.desc).map (fun d => d.parameters.length) = some 0 := by decide +kernel
theorem hd_X5_pace : yX5_pace.cls ≠ "java/lang/invoke/MethodHandle" ∧ yX5_pace.cls ≠ "java/lang/invoke/VarHandle" ∧ (parseMethodDescriptor yX5_pace.desc).map (fun d => d.parameters.length) = some 0 := by decide +kernel
theorem hd_X6_cutUpwards : yX6_cutUpwards.cls ≠ "java/lang/invoke/MethodHandle" ∧ yX6_cutUpwards.cls ≠ "java/lang/invoke/VarHandle" ∧ (parseMethodDescriptor yX6_cutUpwards.desc).map (fun d => d.parameters.length) = some 2 := by decide +kernel
theorem hd_X6_sends : yX6_sends.cls ≠ "java/lang/invoke/MethodHandle" ∧ yX6_sends.cls ≠ "java/lang/invoke/VarHandle" ∧ (parseMethodDescriptor yX6_sends.desc).map (fun d => d.parameters.length) = some 1 := by decide +kernel
theorem hd_X6_isLate : yX6_isLate.cls ≠ "java/lang/invoke/MethodHandle" ∧ yX6_isLate.cls ≠ "java/lang/invoke/VarHandle" ∧ (parseMethodDescriptor yX6_isLate.desc).map (fun d => d.parameters.length) = some 1 := by decide +kernel
theorem hd_X6_sweeps : yX6_sweeps.cls ≠ "java/lang/invoke/MethodHandle" ∧ yX6_sweeps.cls ≠ "java/lang/invoke/VarHandle" ∧ (parseMethodDescriptor yX6_sweeps.desc).map (fun d => d.parameters.length) = some 0 := by decide +kernel
theorem hd_X0_sweep : yX0_sweep.cls ≠ "java/lang/invoke/MethodHandle" ∧ yX0_sweep.cls ≠ "java/lang/invoke/VarHandle" ∧ (parseMethodDescriptor yX0_sweep.desc).map (fun d => d.parameters.length) = some 0 := by decide +kernel
theorem hd_X0_shorten : yX0_shorten.cls ≠ "java/lang/invoke/MethodHandle" ∧ yX0_shorten.cls ≠ "java/lang/invoke/VarHandle" ∧ (parseMethodDescriptor yX0_shorten.desc).map (fun d => d.parameters.length) = some 2 := by decide +kernel
theorem hd_X6_spins : yX6_spins.cls ≠ "java/lang/invoke/MethodHandle" ∧ yX6_spins.cls ≠ "java/lang/invoke/VarHandle" ∧ (parseMethodDescriptor yX6_spins.desc).map (fun d => d.parameters.length) = some 1 := by decide +kernel
theorem hd_X0_turnBy : yX0_turnBy.cls ≠ "java/lang/invoke/MethodHandle" ∧ yX0_turnBy.cls ≠ "java/lang/invoke/VarHandle" ∧ (parseMethodDescriptor yX0_turnBy.desc).map (fun d => d.parameters.length) = some 1 := by decide +kernel
theorem hd_X6_undo : yX6_undo.cls ≠ "java/lang/invoke/MethodHandle" ∧ yX6_undo.cls ≠ "java/lang/invoke/VarHandle" ∧ (parseMethodDescriptor yX6_undo.desc).map (fun d => d.parameters.length) = some 0 := by decide +kernel
theorem hd_X3_take : yX3_take.cls ≠ "java/lang/invoke/MethodHandle" ∧ yX3_take.cls ≠ "java/lang/invoke/VarHandle" ∧ (parseMethodDescriptor yX3_take.desc).map (fun d => d.parameters.length) = some 2 := by decide +kernel
theorem hd_X6_inYears : yX6_inYears.cls ≠ "java/lang/invoke/MethodHandle" ∧ yX6_inYears.cls ≠ "java/lang/invoke/VarHandle" ∧ (parseMethodDescriptor yX6_inYears.desc).map (fun d => d.parameters.length) = some 2 := by decide +kernel
theorem hd_X6_turn : yX6_turn.cls ≠ "java/lang/invoke/MethodHandle" ∧ yX6_turn.cls ≠ "java/lang/invoke/VarHandle" ∧ (parseMethodDescriptor yX6_turn.desc).map (fun d => d.parameters.length) = some 2 := by decide +kernel
theorem hd_X6_bestTurn : yX6_bestTurn.cls ≠ "java/lang/invoke/MethodHandle" ∧ yX6_bestTurn.cls ≠ "java/lang/invoke/VarHandle" ∧ (parseMethodDescriptor yX6_bestTurn.desc).map (fun d => d.parameters.length) = some 0 := by decide +kernel
theorem hd_X6_inLeastTerms : yX6_inLeastTerms.cls ≠ "java/lang/invoke/MethodHandle" ∧ yX6_inLeastTerms.cls ≠ "java/lang/invoke/VarHandle" ∧ (parseMethodDescriptor yX6_inLeastTerms.desc).map (fun d => d.parameters.length) = some 3 := by decide +kernel
theorem hd_X6_commonDivisor : yX6_commonDivisor.cls ≠ "java/lang/invoke/MethodHandle" ∧ yX6_commonDivisor.cls ≠ "java/lang/invoke/VarHandle" ∧ (parseMethodDescriptor yX6_commonDivisor.desc).map (fun d => d.parameters.length) = some 2 := by decide +kernel
theorem hd_X6_plan : yX6_plan.cls ≠ "java/lang/invoke/MethodHandle" ∧ yX6_plan.cls ≠ "java/lang/invoke/VarHandle" ∧ (parseMethodDescriptor yX6_plan.desc).map (fun d => d.parameters.length) = some 2 := by decide +kernel
theorem hd_X2_find : yX2_find.cls ≠ "java/lang/invoke/MethodHandle" ∧ yX2_find.cls ≠ "java/lang/invoke/VarHandle" ∧ (parseMethodDescriptor yX2_find.desc).map (fun d => d.parameters.length) = some 3 := by decide +kernel
theorem hd_X2_gotIn : yX2_gotIn.cls ≠ "java/lang/invoke/MethodHandle" ∧ yX2_gotIn.cls ≠ "java/lang/invoke/VarHandle" ∧ (parseMethodDescriptor yX2_gotIn.desc).map (fun d => d.parameters.length) = some 3 := by decide +kernel
theorem hd_X2_compare : yX2_compare.cls ≠ "java/lang/invoke/MethodHandle" ∧ yX2_compare.cls ≠ "java/lang/invoke/VarHandle" ∧ (parseMethodDescriptor yX2_compare.desc).map (fun d => d.parameters.length) = some 1 := by decide +kernel
theorem hd_X2_goToNextRow : yX2_goToNextRow.cls ≠ "java/lang/invoke/MethodHandle" ∧ yX2_goToNextRow.cls ≠ "java/lang/invoke/VarHandle" ∧ (parseMethodDescriptor yX2_goToNextRow.desc).map (fun d => d.parameters.length) = some 2 := by decide +kernel
theorem hd_X2_mostTwigs : yX2_mostTwigs.cls ≠ "java/lang/invoke/MethodHandle" ∧ yX2_mostTwigs.cls ≠ "java/lang/invoke/VarHandle" ∧ (parseMethodDescriptor yX2_mostTwigs.desc).map (fun d => d.parameters.length) = some 0 := by decide +kernel
theorem hd_X2_chosenIn : yX2_chosenIn.cls ≠ "java/lang/invoke/MethodHandle" ∧ yX2_chosenIn.cls ≠ "java/lang/invoke/VarHandle" ∧ (parseMethodDescriptor yX2_chosenIn.desc).map (fun d => d.parameters.length) = some 1 := by decide +kernel
theorem hd_X6_kept : yX6_kept.cls ≠ "java/lang/invoke/MethodHandle" ∧ yX6_kept.cls ≠ "java/lang/invoke/VarHandle" ∧ (parseMethodDescriptor yX6_kept.desc).map (fun d => d.parameters.length) = some 1 := by decide +kernel
theorem hd_X6_coinsOf : yX6_coinsOf.cls ≠ "java/lang/invoke/MethodHandle" ∧ yX6_coinsOf.cls ≠ "java/lang/invoke/VarHandle" ∧ (parseMethodDescriptor yX6_coinsOf.desc).map (fun d => d.parameters.length) = some 1 := by decide +kernel
theorem hd_X6_canBeKept : yX6_canBeKept.cls ≠ "java/lang/invoke/MethodHandle" ∧ yX6_canBeKept.cls ≠ "java/lang/invoke/VarHandle" ∧ (parseMethodDescriptor yX6_canBeKept.desc).map (fun d => d.parameters.length) = some 1 := by decide +kernel
theorem hd_X6_cutDownwards : yX6_cutDownwards.cls ≠ "java/lang/invoke/MethodHandle" ∧ yX6_cutDownwards.cls ≠ "java/lang/invoke/VarHandle" ∧ (parseMethodDescriptor yX6_cutDownwards.desc).map (fun d => d.parameters.length) = some 2 := by decide +kernel
theorem hd_X6_besomsDueBy : yX6_besomsDueBy.cls ≠ "java/lang/invoke/MethodHandle" ∧ yX6_besomsDueBy.cls ≠ "java/lang/invoke/VarHandle" ∧ (parseMethodDescriptor yX6_besomsDueBy.desc).map (fun d => d.parameters.length) = some 2 := by decide +kernel
theorem hd_X6_next : yX6_next.cls ≠ "java/lang/invoke/MethodHandle" ∧ yX6_next.cls ≠ "java/lang/invoke/VarHandle" ∧ (parseMethodDescriptor yX6_next.desc).map (fun d => d.parameters.length) = some 1 := by decide +kernel
theorem hd_X6_goesAhead : yX6_goesAhead.cls ≠ "java/lang/invoke/MethodHandle" ∧ yX6_goesAhead.cls ≠ "java/lang/invoke/VarHandle" ∧ (parseMethodDescriptor yX6_goesAhead.desc).map (fun d => d.parameters.length) = some 3 := by decide +kernel
theorem hd_X6_lack : yX6_lack.cls ≠ "java/lang/invoke/MethodHandle" ∧ yX6_lack.cls ≠ "java/lang/invoke/VarHandle" ∧ (parseMethodDescriptor yX6_lack.desc).map (fun d => d.parameters.length) = some 0 := by decide +kernel
theorem hd_X6_lackingTwigs : yX6_lackingTwigs.cls ≠ "java/lang/invoke/MethodHandle" ∧ yX6_lackingTwigs.cls ≠ "java/lang/invoke/VarHandle" ∧ (parseMethodDescriptor yX6_lackingTwigs.desc).map (fun d => d.parameters.length) = some 0 := by decide +kernel
theorem hd_X6_besomsToBind : yX6_besomsToBind.cls ≠ "java/lang/invoke/MethodHandle" ∧ yX6_besomsToBind.cls ≠ "java/lang/invoke/VarHandle" ∧ (parseMethodDescriptor yX6_besomsToBind.desc).map (fun d => d.parameters.length) = some 0 := by decide +kernel
theorem hd_X6_cutFor : yX6_cutFor.cls ≠ "java/lang/invoke/MethodHandle" ∧ yX6_cutFor.cls ≠ "java/lang/invoke/VarHandle" ∧ (parseMethodDescriptor yX6_cutFor.desc).map (fun d => d.parameters.length) = some 0 := by decide +kernel
theorem hd_X6_giftsOf : yX6_giftsOf.cls ≠ "java/lang/invoke/MethodHandle" ∧ yX6_giftsOf.cls ≠ "java/lang/invoke/VarHandle" ∧ (parseMethodDescriptor yX6_giftsOf.desc).map (fun d => d.parameters.length) = some 1 := by decide +kernel
theorem hd_X6_allBy : yX6_allBy.cls ≠ "java/lang/invoke/MethodHandle" ∧ yX6_allBy.cls ≠ "java/lang/invoke/VarHandle" ∧ (parseMethodDescriptor yX6_allBy.desc).map (fun d => d.parameters.length) = some 0 := by decide +kernel
theorem hd_X6_lasts : yX6_lasts.cls ≠ "java/lang/invoke/MethodHandle" ∧ yX6_lasts.cls ≠ "java/lang/invoke/VarHandle" ∧ (parseMethodDescriptor yX6_lasts.desc).map (fun d => d.parameters.length) = some 1 := by decide +kernel
theorem hd_X6_sweepingsBy : yX6_sweepingsBy.cls ≠ "java/lang/invoke/MethodHandle" ∧ yX6_sweepingsBy.cls ≠ "java/lang/invoke/VarHandle" ∧ (parseMethodDescriptor yX6_sweepingsBy.desc).map (fun d => d.parameters.length) = some 1 := by decide +kernel
theorem hd_X0_isWornOut : yX0_isWornOut.cls ≠ "java/lang/invoke/MethodHandle" ∧ yX0_isWornOut.cls ≠ "java/lang/invoke/VarHandle" ∧ (parseMethodDescriptor yX0_isWornOut.desc).map (fun d => d.parameters.length) = some 0 := by decide +kernel
theorem hd_X6_latest : yX6_latest.cls ≠ "java/lang/invoke/MethodHandle" ∧ yX6_latest.cls ≠ "java/lang/invoke/VarHandle" ∧ (parseMethodDescriptor yX6_latest.desc).map (fun d => d.parameters.length) = some 0 := by decide +kernel
theorem hd_X6_saw : yX6_saw.cls ≠ "java/lang/invoke/MethodHandle" ∧ yX6_saw.cls ≠ "java/lang/invoke/VarHandle" ∧ (parseMethodDescriptor yX6_saw.desc).map (fun d => d.parameters.length) = some 3 := by decide +kernel
theorem hd_X6_forget : yX6_forget.cls ≠ "java/lang/invoke/MethodHandle" ∧ yX6_forget.cls ≠ "java/lang/invoke/VarHandle" ∧ (parseMethodDescriptor yX6_forget.desc).map (fun d => d.parameters.length) = some 0 := by decide +kernel
theorem hd_X6_which : yX6_which.cls ≠ "java/lang/invoke/MethodHandle" ∧ yX6_which.cls ≠ "java/lang/invoke/VarHandle" ∧ (parseMethodDescriptor yX6_which.desc).map (fun d => d.parameters.length) = some 0 := by decide +kernel
theorem hd_X6_allSeenIsSoBy : yX6_allSeenIsSoBy.cls ≠ "java/lang/invoke/MethodHandle" ∧ yX6_allSeenIsSoBy.cls ≠ "java/lang/invoke/VarHandle" ∧ (parseMethodDescriptor yX6_allSeenIsSoBy.desc).map (fun d => d.parameters.length) = some 1 := by decide +kernel
theorem hd_X6_seenFits : yX6_seenFits.cls ≠ "java/lang/invoke/MethodHandle" ∧ yX6_seenFits.cls ≠ "java/lang/invoke/VarHandle" ∧ (parseMethodDescriptor yX6_seenFits.desc).map (fun d => d.parameters.length) = some 1 := by decide +kernel
theorem hd_X6_odds : yX6_odds.cls ≠ "java/lang/invoke/MethodHandle" ∧ yX6_odds.cls ≠ "java/lang/invoke/VarHandle" ∧ (parseMethodDescriptor yX6_odds.desc).map (fun d => d.parameters.length) = some 4 := by decide +kernel
theorem hd_X6_waysToChoose : yX6_waysToChoose.cls ≠ "java/lang/invoke/MethodHandle" ∧ yX6_waysToChoose.cls ≠ "java/lang/invoke/VarHandle" ∧ (parseMethodDescriptor yX6_waysToChoose.desc).map (fun d => d.parameters.length) = some 2 := by decide +kernel
theorem hd_X6_power : yX6_power.cls ≠ "java/lang/invoke/MethodHandle" ∧ yX6_power.cls ≠ "java/lang/invoke/VarHandle" ∧ (parseMethodDescriptor yX6_power.desc).map (fun d => d.parameters.length) = some 2 := by decide +kernel
theorem hd_X6_rate : yX6_rate.cls ≠ "java/lang/invoke/MethodHandle" ∧ yX6_rate.cls ≠ "java/lang/invoke/VarHandle" ∧ (parseMethodDescriptor yX6_rate.desc).map (fun d => d.parameters.length) = some 2 := by decide +kernel
theorem hd_X6_rateAsPart : yX6_rateAsPart.cls ≠ "java/lang/invoke/MethodHandle" ∧ yX6_rateAsPart.cls ≠ "java/lang/invoke/VarHandle" ∧ (parseMethodDescriptor yX6_rateAsPart.desc).map (fun d => d.parameters.length) = some 1 := by decide +kernel
theorem hd_X6_rateAsBirch : yX6_rateAsBirch.cls ≠ "java/lang/invoke/MethodHandle" ∧ yX6_rateAsBirch.cls ≠ "java/lang/invoke/VarHandle" ∧ (parseMethodDescriptor yX6_rateAsBirch.desc).map (fun d => d.parameters.length) = some 1 := by decide +kernel
theorem hd_X6_rateAsHeather : yX6_rateAsHeather.cls ≠ "java/lang/invoke/MethodHandle" ∧ yX6_rateAsHeather.cls ≠ "java/lang/invoke/VarHandle" ∧ (parseMethodDescriptor yX6_rateAsHeather.desc).map (fun d => d.parameters.length) = some 1 := by decide +kernel
theorem hd_X6_rateAsStake : yX6_rateAsStake.cls ≠ "java/lang/invoke/MethodHandle" ∧ yX6_rateAsStake.cls ≠ "java/lang/invoke/VarHandle" ∧ (parseMethodDescriptor yX6_rateAsStake.desc).map (fun d => d.parameters.length) = some 1 := by decide +kernel
theorem hd_X6_rateAsKnot : yX6_rateAsKnot.cls ≠ "java/lang/invoke/MethodHandle" ∧ yX6_rateAsKnot.cls ≠ "java/lang/invoke/VarHandle" ∧ (parseMethodDescriptor yX6_rateAsKnot.desc).map (fun d => d.parameters.length) = some 1 := by decide +kernel
theorem hd_X6_rateAsBramble : yX6_rateAsBramble.cls ≠ "java/lang/invoke/MethodHandle" ∧ yX6_rateAsBramble.cls ≠ "java/lang/invoke/VarHandle" ∧ (parseMethodDescriptor yX6_rateAsBramble.desc).map (fun d => d.parameters.length) = some 1 := by decide +kernel
theorem hd_X6_keep : yX6_keep.cls ≠ "java/lang/invoke/MethodHandle" ∧ yX6_keep.cls ≠ "java/lang/invoke/VarHandle" ∧ (parseMethodDescriptor yX6_keep.desc).map (fun d => d.parameters.length) = some 1 := by decide +kernel
theorem hd_X6_isImage : yX6_isImage.cls ≠ "java/lang/invoke/MethodHandle" ∧ yX6_isImage.cls ≠ "java/lang/invoke/VarHandle" ∧ (parseMethodDescriptor yX6_isImage.desc).map (fun d => d.parameters.length) = some 1 := by decide +kernel
theorem hd_X6_back : yX6_back.cls ≠ "java/lang/invoke/MethodHandle" ∧ yX6_back.cls ≠ "java/lang/invoke/VarHandle" ∧ (parseMethodDescriptor yX6_back.desc).map (fun d => d.parameters.length) = some 1 := by decide +kernel
theorem hd_X6_count : yX6_count.cls ≠ "java/lang/invoke/MethodHandle" ∧ yX6_count.cls ≠ "java/lang/invoke/VarHandle" ∧ (parseMethodDescriptor yX6_count.desc).map (fun d => d.parameters.length) = some 1 := by decide +kernel
theorem hd_X6_trace : yX6_trace.cls ≠ "java/lang/invoke/MethodHandle" ∧ yX6_trace.cls ≠ "java/lang/invoke/VarHandle" ∧ (parseMethodDescriptor yX6_trace.desc).map (fun d => d.parameters.length) = some 0 := by decide +kernel
theorem hd_X7_init : yX7_init.cls ≠ "java/lang/invoke/MethodHandle" ∧ yX7_init.cls ≠ "java/lang/invoke/VarHandle" ∧ (parseMethodDescriptor yX7_init.desc).map (fun d => d.parameters.length) = some 0 := by decide +kernel
theorem hd_X7_begins : yX7_begins.cls ≠ "java/lang/invoke/MethodHandle" ∧ yX7_begins.cls ≠ "java/lang/invoke/VarHandle" ∧ (parseMethodDescriptor yX7_begins.desc).map (fun d => d.parameters.length) = some 0 := by decide +kernel
theorem hd_X7_settles : yX7_settles.cls ≠ "java/lang/invoke/MethodHandle" ∧ yX7_settles.cls ≠ "java/lang/invoke/VarHandle" ∧ (parseMethodDescriptor yX7_settles.desc).map (fun d => d.parameters.length) = some 0 := by decide +kernel
theorem hd_X7_type : yX7_type.cls ≠ "java/lang/invoke/MethodHandle" ∧ yX7_type.cls ≠ "java/lang/invoke/VarHandle" ∧ (parseMethodDescriptor yX7_type.desc).map (fun d => d.parameters.length) = some 1 := by decide +kernel
theorem hd_X7_in : yX7_in.cls ≠ "java/lang/invoke/MethodHandle" ∧ yX7_in.cls ≠ "java/lang/invoke/VarHandle" ∧ (parseMethodDescriptor yX7_in.desc).map (fun d => d.parameters.length) = some 3 := by decide +kernel
theorem hd_X7_clear : yX7_clear.cls ≠ "java/lang/invoke/MethodHandle" ∧ yX7_clear.cls ≠ "java/lang/invoke/VarHandle" ∧ (parseMethodDescriptor yX7_clear.desc).map (fun d => d.parameters.length) = some 0 := by decide +kernel
theorem hd_X7_yard : yX7_yard.cls ≠ "java/lang/invoke/MethodHandle" ∧ yX7_yard.cls ≠ "java/lang/invoke/VarHandle" ∧ (parseMethodDescriptor yX7_yard.desc).map (fun d => d.parameters.length) = some 0 := by decide +kernel
theorem hd_X7_advances : yX7_advances.cls ≠ "java/lang/invoke/MethodHandle" ∧ yX7_advances.cls ≠ "java/lang/invoke/VarHandle" ∧ (parseMethodDescriptor yX7_advances.desc).map (fun d => d.parameters.length) = some 0 := by decide +kernel
theorem hd_X7_letterAt : yX7_letterAt.cls ≠ "java/lang/invoke/MethodHandle" ∧ yX7_letterAt.cls ≠ "java/lang/invoke/VarHandle" ∧ (parseMethodDescriptor yX7_letterAt.desc).map (fun d => d.parameters.length) = some 1 := by decide +kernel
theorem hd_X7_isLetter : yX7_isLetter.cls ≠ "java/lang/invoke/MethodHandle" ∧ yX7_isLetter.cls ≠ "java/lang/invoke/VarHandle" ∧ (parseMethodDescriptor yX7_isLetter.desc).map (fun d => d.parameters.length) = some 1 := by decide +kernel
theorem hd_X7_isWell : yX7_isWell.cls ≠ "java/lang/invoke/MethodHandle" ∧ yX7_isWell.cls ≠ "java/lang/invoke/VarHandle" ∧ (parseMethodDescriptor yX7_isWell.desc).map (fun d => d.parameters.length) = some 0 := by decide +kernel
theorem hd_X7_mayBegin : yX7_mayBegin.cls ≠ "java/lang/invoke/MethodHandle" ∧ yX7_mayBegin.cls ≠ "java/lang/invoke/VarHandle" ∧ (parseMethodDescriptor yX7_mayBegin.desc).map (fun d => d.parameters.length) = some 0 := by decide +kernel
theorem hd_X7_fixed : yX7_fixed.cls ≠ "java/lang/invoke/MethodHandle" ∧ yX7_fixed.cls ≠ "java/lang/invoke/VarHandle" ∧ (parseMethodDescriptor yX7_fixed.desc).map (fun d => d.parameters.length) = some 1 := by decide +kernel
theorem hd_X7_takes : yX7_takes.cls ≠ "java/lang/invoke/MethodHandle" ∧ yX7_takes.cls ≠ "java/lang/invoke/VarHandle" ∧ (parseMethodDescriptor yX7_takes.desc).map (fun d => d.parameters.length) = some 1 := by decide +kernel
theorem hd_X7_readsItem : yX7_readsItem.cls ≠ "java/lang/invoke/MethodHandle" ∧ yX7_readsItem.cls ≠ "java/lang/invoke/VarHandle" ∧ (parseMethodDescriptor yX7_readsItem.desc).map (fun d => d.parameters.length) = some 1 := by decide +kernel
theorem hd_X7_number : yX7_number.cls ≠ "java/lang/invoke/MethodHandle" ∧ yX7_number.cls ≠ "java/lang/invoke/VarHandle" ∧ (parseMethodDescriptor yX7_number.desc).map (fun d => d.parameters.length) = some 2 := by decide +kernel
theorem hd_X7_part : yX7_part.cls ≠ "java/lang/invoke/MethodHandle" ∧ yX7_part.cls ≠ "java/lang/invoke/VarHandle" ∧ (parseMethodDescriptor yX7_part.desc).map (fun d => d.parameters.length) = some 2 := by decide +kernel
theorem hd_X7_isPart : yX7_isPart.cls ≠ "java/lang/invoke/MethodHandle" ∧ yX7_isPart.cls ≠ "java/lang/invoke/VarHandle" ∧ (parseMethodDescriptor yX7_isPart.desc).map (fun d => d.parameters.length) = some 1 := by decide +kernel
theorem hd_X7_gives : yX7_gives.cls ≠ "java/lang/invoke/MethodHandle" ∧ yX7_gives.cls ≠ "java/lang/invoke/VarHandle" ∧ (parseMethodDescriptor yX7_gives.desc).map (fun d => d.parameters.length) = some 2 := by decide +kernel
theorem hd_X7_givesAt : yX7_givesAt.cls ≠ "java/lang/invoke/MethodHandle" ∧ yX7_givesAt.cls ≠ "java/lang/invoke/VarHandle" ∧ (parseMethodDescriptor yX7_givesAt.desc).map (fun d => d.parameters.length) = some 2 := by decide +kernel
theorem hd_X7_order : yX7_order.cls ≠ "java/lang/invoke/MethodHandle" ∧ yX7_order.cls ≠ "java/lang/invoke/VarHandle" ∧ (parseMethodDescriptor yX7_order.desc).map (fun d => d.parameters.length) = some 2 := by decide +kernel
theorem hd_X7_isOrder : yX7_isOrder.cls ≠ "java/lang/invoke/MethodHandle" ∧ yX7_isOrder.cls ≠ "java/lang/invoke/VarHandle" ∧ (parseMethodDescriptor yX7_isOrder.desc).map (fun d => d.parameters.length) = some 1 := by decide +kernel
theorem hd_X7_isSent : yX7_isSent.cls ≠ "java/lang/invoke/MethodHandle" ∧ yX7_isSent.cls ≠ "java/lang/invoke/VarHandle" ∧ (parseMethodDescriptor yX7_isSent.desc).map (fun d => d.parameters.length) = some 1 := by decide +kernel
theorem hd_X7_side : yX7_side.cls ≠ "java/lang/invoke/MethodHandle" ∧ yX7_side.cls ≠ "java/lang/invoke/VarHandle" ∧ (parseMethodDescriptor yX7_side.desc).map (fun d => d.parameters.length) = some 1 := by decide +kernel
theorem hd_X7_now : yX7_now.cls ≠ "java/lang/invoke/MethodHandle" ∧ yX7_now.cls ≠ "java/lang/invoke/VarHandle" ∧ (parseMethodDescriptor yX7_now.desc).map (fun d => d.parameters.length) = some 1 := by decide +kernel
theorem hd_X7_cuts : yX7_cuts.cls ≠ "java/lang/invoke/MethodHandle" ∧ yX7_cuts.cls ≠ "java/lang/invoke/VarHandle" ∧ (parseMethodDescriptor yX7_cuts.desc).map (fun d => d.parameters.length) = some 1 := by decide +kernel
theorem hd_X7_notes : yX7_notes.cls ≠ "java/lang/invoke/MethodHandle" ∧ yX7_notes.cls ≠ "java/lang/invoke/VarHandle" ∧ (parseMethodDescriptor yX7_notes.desc).map (fun d => d.parameters.length) = some 0 := by decide +kernel
theorem hd_X7_fells : yX7_fells.cls ≠ "java/lang/invoke/MethodHandle" ∧ yX7_fells.cls ≠ "java/lang/invoke/VarHandle" ∧ (parseMethodDescriptor yX7_fells.desc).map (fun d => d.parameters.length) = some 2 := by decide +kernel
theorem hd_X7_year : yX7_year.cls ≠ "java/lang/invoke/MethodHandle" ∧ yX7_year.cls ≠ "java/lang/invoke/VarHandle" ∧ (parseMethodDescriptor yX7_year.desc).map (fun d => d.parameters.length) = some 0 := by decide +kernel
theorem hd_X7_grows : yX7_grows.cls ≠ "java/lang/invoke/MethodHandle" ∧ yX7_grows.cls ≠ "java/lang/invoke/VarHandle" ∧ (parseMethodDescriptor yX7_grows.desc).map (fun d => d.parameters.length) = some 1 := by decide +kernel
theorem hd_X7_binds : yX7_binds.cls ≠ "java/lang/invoke/MethodHandle" ∧ yX7_binds.cls ≠ "java/lang/invoke/VarHandle" ∧ (parseMethodDescriptor yX7_binds.desc).map (fun d => d.parameters.length) = some 1 := by decide +kernel
theorem hd_X7_days : yX7_days.cls ≠ "java/lang/invoke/MethodHandle" ∧ yX7_days.cls ≠ "java/lang/invoke/VarHandle" ∧ (parseMethodDescriptor yX7_days.desc).map (fun d => d.parameters.length) = some 1 := by decide +kernel
theorem hd_X7_sends : yX7_sends.cls ≠ "java/lang/invoke/MethodHandle" ∧ yX7_sends.cls ≠ "java/lang/invoke/VarHandle" ∧ (parseMethodDescriptor yX7_sends.desc).map (fun d => d.parameters.length) = some 1 := by decide +kernel
theorem hd_X7_sweeps : yX7_sweeps.cls ≠ "java/lang/invoke/MethodHandle" ∧ yX7_sweeps.cls ≠ "java/lang/invoke/VarHandle" ∧ (parseMethodDescriptor yX7_sweeps.desc).map (fun d => d.parameters.length) = some 0 := by decide +kernel
theorem hd_X7_sweep : yX7_sweep.cls ≠ "java/lang/invoke/MethodHandle" ∧ yX7_sweep.cls ≠ "java/lang/invoke/VarHandle" ∧ (parseMethodDescriptor yX7_sweep.desc).map (fun d => d.parameters.length) = some 1 := by decide +kernel
theorem hd_X7_shortens : yX7_shortens.cls ≠ "java/lang/invoke/MethodHandle" ∧ yX7_shortens.cls ≠ "java/lang/invoke/VarHandle" ∧ (parseMethodDescriptor yX7_shortens.desc).map (fun d => d.parameters.length) = some 3 := by decide +kernel
theorem hd_X7_spins : yX7_spins.cls ≠ "java/lang/invoke/MethodHandle" ∧ yX7_spins.cls ≠ "java/lang/invoke/VarHandle" ∧ (parseMethodDescriptor yX7_spins.desc).map (fun d => d.parameters.length) = some 1 := by decide +kernel
theorem hd_X7_undo : yX7_undo.cls ≠ "java/lang/invoke/MethodHandle" ∧ yX7_undo.cls ≠ "java/lang/invoke/VarHandle" ∧ (parseMethodDescriptor yX7_undo.desc).map (fun d => d.parameters.length) = some 0 := by decide +kernel
theorem hd_X7_inYears : yX7_inYears.cls ≠ "java/lang/invoke/MethodHandle" ∧ yX7_inYears.cls ≠ "java/lang/invoke/VarHandle" ∧ (parseMethodDescriptor yX7_inYears.desc).map (fun d => d.parameters.length) = some 2 := by decide +kernel
theorem hd_X7_turn : yX7_turn.cls ≠ "java/lang/invoke/MethodHandle" ∧ yX7_turn.cls ≠ "java/lang/invoke/VarHandle" ∧ (parseMethodDescriptor yX7_turn.desc).map (fun d => d.parameters.length) = some 2 := by decide +kernel
theorem hd_X7_gcd : yX7_gcd.cls ≠ "java/lang/invoke/MethodHandle" ∧ yX7_gcd.cls ≠ "java/lang/invoke/VarHandle" ∧ (parseMethodDescriptor yX7_gcd.desc).map (fun d => d.parameters.length) = some 2 := by decide +kernel
theorem hd_X7_plan : yX7_plan.cls ≠ "java/lang/invoke/MethodHandle" ∧ yX7_plan.cls ≠ "java/lang/invoke/VarHandle" ∧ (parseMethodDescriptor yX7_plan.desc).map (fun d => d.parameters.length) = some 2 := by decide +kernel
theorem hd_X7_twigsBy : yX7_twigsBy.cls ≠ "java/lang/invoke/MethodHandle" ∧ yX7_twigsBy.cls ≠ "java/lang/invoke/VarHandle" ∧ (parseMethodDescriptor yX7_twigsBy.desc).map (fun d => d.parameters.length) = some 1 := by decide +kernel
theorem hd_X7_asNow : yX7_asNow.cls ≠ "java/lang/invoke/MethodHandle" ∧ yX7_asNow.cls ≠ "java/lang/invoke/VarHandle" ∧ (parseMethodDescriptor yX7_asNow.desc).map (fun d => d.parameters.length) = some 0 := by decide +kernel
theorem hd_X7_kept : yX7_kept.cls ≠ "java/lang/invoke/MethodHandle" ∧ yX7_kept.cls ≠ "java/lang/invoke/VarHandle" ∧ (parseMethodDescriptor yX7_kept.desc).map (fun d => d.parameters.length) = some 1 := by decide +kernel
theorem hd_X7_coinsOf : yX7_coinsOf.cls ≠ "java/lang/invoke/MethodHandle" ∧ yX7_coinsOf.cls ≠ "java/lang/invoke/VarHandle" ∧ (parseMethodDescriptor yX7_coinsOf.desc).map (fun d => d.parameters.length) = some 1 := by decide +kernel
theorem hd_X7_canBeKept : yX7_canBeKept.cls ≠ "java/lang/invoke/MethodHandle" ∧ yX7_canBeKept.cls ≠ "java/lang/invoke/VarHandle" ∧ (parseMethodDescriptor yX7_canBeKept.desc).map (fun d => d.parameters.length) = some 1 := by decide +kernel
theorem hd_X7_besomsBy : yX7_besomsBy.cls ≠ "java/lang/invoke/MethodHandle" ∧ yX7_besomsBy.cls ≠ "java/lang/invoke/VarHandle" ∧ (parseMethodDescriptor yX7_besomsBy.desc).map (fun d => d.parameters.length) = some 2 := by decide +kernel
theorem hd_X7_next : yX7_next.cls ≠ "java/lang/invoke/MethodHandle" ∧ yX7_next.cls ≠ "java/lang/invoke/VarHandle" ∧ (parseMethodDescriptor yX7_next.desc).map (fun d => d.parameters.length) = some 1 := by decide +kernel
theorem hd_X7_lack : yX7_lack.cls ≠ "java/lang/invoke/MethodHandle" ∧ yX7_lack.cls ≠ "java/lang/invoke/VarHandle" ∧ (parseMethodDescriptor yX7_lack.desc).map (fun d => d.parameters.length) = some 0 := by decide +kernel
theorem hd_X7_lacks : yX7_lacks.cls ≠ "java/lang/invoke/MethodHandle" ∧ yX7_lacks.cls ≠ "java/lang/invoke/VarHandle" ∧ (parseMethodDescriptor yX7_lacks.desc).map (fun d => d.parameters.length) = some 0 := by decide +kernel
theorem hd_X7_wanted : yX7_wanted.cls ≠ "java/lang/invoke/MethodHandle" ∧ yX7_wanted.cls ≠ "java/lang/invoke/VarHandle" ∧ (parseMethodDescriptor yX7_wanted.desc).map (fun d => d.parameters.length) = some 0 := by decide +kernel
theorem hd_X7_cutFor : yX7_cutFor.cls ≠ "java/lang/invoke/MethodHandle" ∧ yX7_cutFor.cls ≠ "java/lang/invoke/VarHandle" ∧ (parseMethodDescriptor yX7_cutFor.desc).map (fun d => d.parameters.length) = some 0 := by decide +kernel
theorem hd_X7_ones : yX7_ones.cls ≠ "java/lang/invoke/MethodHandle" ∧ yX7_ones.cls ≠ "java/lang/invoke/VarHandle" ∧ (parseMethodDescriptor yX7_ones.desc).map (fun d => d.parameters.length) = some 1 := by decide +kernel
theorem hd_X7_allBy : yX7_allBy.cls ≠ "java/lang/invoke/MethodHandle" ∧ yX7_allBy.cls ≠ "java/lang/invoke/VarHandle" ∧ (parseMethodDescriptor yX7_allBy.desc).map (fun d => d.parameters.length) = some 0 := by decide +kernel
theorem hd_X7_lasts : yX7_lasts.cls ≠ "java/lang/invoke/MethodHandle" ∧ yX7_lasts.cls ≠ "java/lang/invoke/VarHandle" ∧ (parseMethodDescriptor yX7_lasts.desc).map (fun d => d.parameters.length) = some 1 := by decide +kernel
theorem hd_X7_lastsBy : yX7_lastsBy.cls ≠ "java/lang/invoke/MethodHandle" ∧ yX7_lastsBy.cls ≠ "java/lang/invoke/VarHandle" ∧ (parseMethodDescriptor yX7_lastsBy.desc).map (fun d => d.parameters.length) = some 1 := by decide +kernel
theorem hd_X7_isWornOut : yX7_isWornOut.cls ≠ "java/lang/invoke/MethodHandle" ∧ yX7_isWornOut.cls ≠ "java/lang/invoke/VarHandle" ∧ (parseMethodDescriptor yX7_isWornOut.desc).map (fun d => d.parameters.length) = some 1 := by decide +kernel
theorem hd_X7_goes : yX7_goes.cls ≠ "java/lang/invoke/MethodHandle" ∧ yX7_goes.cls ≠ "java/lang/invoke/VarHandle" ∧ (parseMethodDescriptor yX7_goes.desc).map (fun d => d.parameters.length) = some 1 := by decide +kernel
theorem hd_X7_latest : yX7_latest.cls ≠ "java/lang/invoke/MethodHandle" ∧ yX7_latest.cls ≠ "java/lang/invoke/VarHandle" ∧ (parseMethodDescriptor yX7_latest.desc).map (fun d => d.parameters.length) = some 0 := by decide +kernel
theorem hd_X7_saw : yX7_saw.cls ≠ "java/lang/invoke/MethodHandle" ∧ yX7_saw.cls ≠ "java/lang/invoke/VarHandle" ∧ (parseMethodDescriptor yX7_saw.desc).map (fun d => d.parameters.length) = some 3 := by decide +kernel
theorem hd_X7_forget : yX7_forget.cls ≠ "java/lang/invoke/MethodHandle" ∧ yX7_forget.cls ≠ "java/lang/invoke/VarHandle" ∧ (parseMethodDescriptor yX7_forget.desc).map (fun d => d.parameters.length) = some 0 := by decide +kernel
theorem hd_X7_which : yX7_which.cls ≠ "java/lang/invoke/MethodHandle" ∧ yX7_which.cls ≠ "java/lang/invoke/VarHandle" ∧ (parseMethodDescriptor yX7_which.desc).map (fun d => d.parameters.length) = some 0 := by decide +kernel
theorem hd_X7_odds : yX7_odds.cls ≠ "java/lang/invoke/MethodHandle" ∧ yX7_odds.cls ≠ "java/lang/invoke/VarHandle" ∧ (parseMethodDescriptor yX7_odds.desc).map (fun d => d.parameters.length) = some 4 := by decide +kernel
theorem hd_X7_power : yX7_power.cls ≠ "java/lang/invoke/MethodHandle" ∧ yX7_power.cls ≠ "java/lang/invoke/VarHandle" ∧ (parseMethodDescriptor yX7_power.desc).map (fun d => d.parameters.length) = some 2 := by decide +kernel
theorem hd_X7_rate : yX7_rate.cls ≠ "java/lang/invoke/MethodHandle" ∧ yX7_rate.cls ≠ "java/lang/invoke/VarHandle" ∧ (parseMethodDescriptor yX7_rate.desc).map (fun d => d.parameters.length) = some 2 := by decide +kernel
theorem hd_X7_keep : yX7_keep.cls ≠ "java/lang/invoke/MethodHandle" ∧ yX7_keep.cls ≠ "java/lang/invoke/VarHandle" ∧ (parseMethodDescriptor yX7_keep.desc).map (fun d => d.parameters.length) = some 1 := by decide +kernel
theorem hd_X7_back : yX7_back.cls ≠ "java/lang/invoke/MethodHandle" ∧ yX7_back.cls ≠ "java/lang/invoke/VarHandle" ∧ (parseMethodDescriptor yX7_back.desc).map (fun d => d.parameters.length) = some 1 := by decide +kernel
theorem hd_X7_count : yX7_count.cls ≠ "java/lang/invoke/MethodHandle" ∧ yX7_count.cls ≠ "java/lang/invoke/VarHandle" ∧ (parseMethodDescriptor yX7_count.desc).map (fun d => d.parameters.length) = some 1 := by decide +kernel
theorem hd_X7_trace : yX7_trace.cls ≠ "java/lang/invoke/MethodHandle" ∧ yX7_trace.cls ≠ "java/lang/invoke/VarHandle" ∧ (parseMethodDescriptor yX7_trace.desc).map (fun d => d.parameters.length) = some 0 := by decide +kernel
end
